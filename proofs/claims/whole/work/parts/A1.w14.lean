theorem sf_add {f g : Int → Int} : ∀ (n : Nat) (a : Int), sf (fun i => f i + g i) a n = sf f a n + sf g a n
  | 0, a => rfl
  | n + 1, a => by rw [sf, sf, sf, sf_add n (a + 1)]; omega
theorem sf_swap {A : Int → Int → Int} {b : Int} {q : Nat} : ∀ (p : Nat) (a : Int), sf (fun n => sf (fun c => A n c) b q) a p = sf (fun c => sf (fun n => A n c) a p) b q
  | 0, a => by
    rw [sf]
    exact (sf_zero (f := fun c => sf (fun n => A n c) a 0) q b (fun i _ _ => rfl)).symm
  | p + 1, a => by
    rw [sf, sf_swap p (a + 1), ← sf_add]
    exact sf_congr q b (fun i _ _ => rfl)
theorem sf_single {f : Int → Int} {p : Int} : ∀ (n : Nat) (a : Int), a ≤ p → p < a + n → (∀ i, a ≤ i → i < a + n → i ≠ p → f i = 0) → sf f a n = f p
  | 0, a, h1, h2, _ => by omega
  | n + 1, a, h1, h2, h => by
    rw [sf]
    by_cases e : a = p
    · subst e
      rw [sf_zero n (a + 1) (fun i x y => h i (by omega) (by omega) (by omega))]
      omega
    · rw [h a (by omega) (by omega) e, sf_single n (a + 1) (by omega) (by omega) (fun i x y z => h i (by omega) (by omega) z)]
      omega
theorem sf_if {P : Prop} {_ : Decidable P} {f : Int → Int} (n : Nat) (a : Int) : (if P then sf f a n else 0) = sf (fun c => if P then f c else 0) a n := by
  by_cases h : P
  · rw [if_pos h]; exact sf_congr n a (fun i _ _ => (if_pos h).symm)
  · rw [if_neg h]; exact (sf_zero n a (fun i _ _ => if_neg h)).symm
section W14
variable {b0 : Int} {σ : Hp} {ξ ζ η T : Int → Int → Int} {i m s t L n l v fr st N w : Int}
theorem chs_all (hT : TB ξ) {h : Int → Int} (n0 : 0 ≤ n) (n1 : n < ξ 23 11) : chs ξ n h = sf (chf ξ n h) 0 (ξ 23 11).toNat := by
  unfold chs
  rw [show (ξ 23 11).toNat = (n + 1).toNat + (ξ 23 11 - (n + 1)).toNat by omega, sf_split, sf_zero (n + 1).toNat 0 (fun i p q => by
    have := hT.par (n := i) (by omega) (by omega)
    unfold chf
    rw [if_neg (by omega)]), Int.zero_add, show (0 : Int) + ((n + 1).toNat : Int) = n + 1 by omega]
def lev (ξ T : Int → Int → Int) (w : Int) (h : Int → Int) : Int := sf (fun n => if T 43 n = 1 ∧ ξ 33 n = w then h n else 0) 0 (ξ 23 11).toNat
theorem WT.wk (hT : TB ξ) (f0 : 0 ≤ fr) (h : WT ξ fr st T (ξ 23 11)) : ∀ (k : Nat) (n : Int), n = k → n < ξ 23 11 → T 43 n = 1 → fr ≤ n ∧ (n = fr ∨ ξ 33 fr < ξ 33 n) := by
  intro k
  induction k using Nat.strongRecOn with
  | ind k ih =>
    intro n hk n1 hb
    have p := hT.par (n := n) (by omega) (by omega)
    by_cases e : n = fr
    · exact ⟨by omega, Or.inl e⟩
    · have hp : fr < n ∧ T 43 (ξ 31 n) = 1 := by
        rcases (h n (by omega) n1).2.1.mp hb with h | h
        · exact absurd h e
        · exact h
      have h6 := hT.2.2.2.2.2.1 n (by omega) (by omega)
      have r := ih (ξ 31 n).toNat (by omega) (ξ 31 n) (by omega) (by omega) hp.2
      refine ⟨by omega, Or.inr ?_⟩
      rcases r.2 with r2 | r2
      · rw [r2] at h6; omega
      · omega
theorem lev_fr {h : Int → Int} (hT : TB ξ) (f0 : 0 ≤ fr) (f1 : fr < ξ 23 11) (hw : WT ξ fr st T (ξ 23 11)) : lev ξ T (ξ 33 fr) h = h fr := by
  unfold lev
  rw [sf_single (p := fr) _ 0 (by omega) (by omega) (fun i a b c => if_neg (fun q => by
    have := (hw.wk hT f0 i.toNat i (by omega) (by omega) q.1).2
    omega))]
  exact if_pos ⟨(hw fr f0 f1).2.1.mpr (Or.inl rfl), rfl⟩
theorem lev_step {h : Int → Int} (hT : TB ξ) (f0 : 0 ≤ fr) (f1 : fr < ξ 23 11) (hw : WT ξ fr st T (ξ 23 11)) (w0 : ξ 33 fr ≤ w) (hc : ∀ n, 0 ≤ n → n < ξ 23 11 → T 43 n = 1 → ξ 33 n = w → h n = chs ξ n h) : lev ξ T w h = lev ξ T (w + 1) h := by
  unfold lev
  have e1 : sf (fun n => if T 43 n = 1 ∧ ξ 33 n = w then h n else 0) 0 (ξ 23 11).toNat = sf (fun n => sf (fun c => if T 43 n = 1 ∧ ξ 33 n = w then chf ξ n h c else 0) 0 (ξ 23 11).toNat) 0 (ξ 23 11).toNat := by
    refine sf_congr _ _ (fun n a b => ?_)
    rw [← sf_if]
    by_cases q : T 43 n = 1 ∧ ξ 33 n = w
    · rw [if_pos q, if_pos q, hc n a (by omega) q.1 q.2, chs_all hT a (by omega)]
    · rw [if_neg q, if_neg q]
  rw [e1, sf_swap]
  refine sf_congr _ _ (fun c a b => ?_)
  have wf := hT.week (n := fr) f0 f1
  by_cases c0 : c = 0
  · subst c0
    have := hT.2.2.2.2.1
    rw [if_neg (by omega)]
    exact sf_zero _ _ (fun i x y => by
      split
      · unfold chf; rw [if_neg (by omega)]
      · rfl)
  · have p := hT.par (n := c) a (by omega)
    have p0 := p.2.2 (by omega)
    have h6 := hT.2.2.2.2.2.1 c (by omega) (by omega)
    rw [sf_single (p := ξ 31 c) _ 0 (by omega) (by omega) (fun i x y z => by
      split
      · unfold chf; rw [if_neg (fun q => z q.symm)]
      · rfl)]
    have c1 : c < ξ 23 11 := by omega
    by_cases q : T 43 (ξ 31 c) = 1 ∧ ξ 33 (ξ 31 c) = w
    · have := (hw.wk hT f0 (ξ 31 c).toNat (ξ 31 c) (by omega) (by omega) q.1).1
      have x1 : fr < c := by omega
      have x2 : ξ 33 c = w + 1 := by omega
      rw [if_pos q, if_pos ⟨(hw c a c1).2.1.mpr (Or.inr ⟨x1, q.1⟩), x2⟩]
      exact if_pos rfl
    · rw [if_neg q, if_neg]
      intro r
      apply q
      have x2 : ξ 33 (ξ 31 c) = w := by have := r.2; omega
      refine ⟨?_, x2⟩
      rcases (hw c a c1).2.1.mp r.1 with x | x
      · exfalso
        have := r.2
        rw [x] at this
        omega
      · exact x.2
theorem lev_go {h : Int → Int} (hT : TB ξ) (f0 : 0 ≤ fr) (f1 : fr < ξ 23 11) (hw : WT ξ fr st T (ξ 23 11)) (w0 : ξ 33 fr ≤ w) : ∀ k : Nat, (∀ n, 0 ≤ n → n < ξ 23 11 → T 43 n = 1 → w ≤ ξ 33 n → ξ 33 n < w + k → h n = chs ξ n h) → lev ξ T w h = lev ξ T (w + k) h
  | 0, _ => by rw [show w + ((0 : Nat) : Int) = w by omega]
  | k + 1, hc => by
    rw [lev_go hT f0 f1 hw w0 k (fun n a b c d e => hc n a b c d (by omega)), lev_step hT f0 f1 hw (by omega) (fun n a b c d => hc n a b c (by omega) (by omega)), show w + (k : Int) + 1 = w + ((k + 1 : Nat) : Int) by omega]
/-- a sum over the cases' ends -/
def lfs (ξ T : Int → Int → Int) (h : Int → Int) : Int := lev ξ T (ξ 23 8 - 1) h
theorem lfs_up {h : Int → Int} (hT : TB ξ) (f0 : 0 ≤ fr) (f1 : fr < ξ 23 11) (hw : WT ξ fr st T (ξ 23 11)) (hc : ∀ n, 0 ≤ n → n < ξ 23 11 → T 43 n = 1 → ξ 33 n < ξ 23 8 - 1 → h n = chs ξ n h) : lfs ξ T h = h fr := by
  have wf := hT.week (n := fr) f0 f1
  rw [← lev_fr (h := h) hT f0 f1 hw, lev_go hT f0 f1 hw (Int.le_refl _) (ξ 23 8 - 1 - ξ 33 fr).toNat (fun n a b c d e => hc n a b c (by omega)), show ξ 33 fr + ((ξ 23 8 - 1 - ξ 33 fr).toNat : Int) = ξ 23 8 - 1 by omega]
  rfl
theorem lfs_congr {h h' : Int → Int} (e : ∀ n, 0 ≤ n → n < ξ 23 11 → T 43 n = 1 → ξ 33 n = ξ 23 8 - 1 → h n = h' n) : lfs ξ T h = lfs ξ T h' := by
  unfold lfs lev
  refine sf_congr _ _ (fun n a b => ?_)
  by_cases q : T 43 n = 1 ∧ ξ 33 n = ξ 23 8 - 1
  · rw [if_pos q, if_pos q, e n a (by omega) q.1 q.2]
  · rw [if_neg q, if_neg q]
/-- at the last weeks' nodes there are no children -/
theorem chs_last {h : Int → Int} (hT : TB ξ) (n0 : 0 ≤ n) (n1 : n < ξ 23 11) (e : ξ 33 n = ξ 23 8 - 1) : chs ξ n h = 0 := by
  unfold chs
  refine sf_zero _ _ (fun i p q => ?_)
  have h6 := hT.2.2.2.2.2.1 i (by omega) (by omega)
  unfold chf
  rw [if_neg]
  intro x
  rw [x] at h6
  omega
theorem CT.leaf (hT : TB ξ) (f0 : 0 ≤ fr) (hc : CT ξ fr ζ) (n0 : fr ≤ n) (n1 : n < ξ 23 11) : (ξ 33 n = ξ 23 8 - 1 → ζ 48 n = 1) ∧ (¬ ξ 33 n = ξ 23 8 - 1 → ζ 48 n = chs ξ n (ζ 48)) := by
  have q := hc n n0 n1
  unfold lst at q
  constructor
  · intro e
    rw [if_pos e, chs_last hT (by omega) n1 e] at q
    omega
  · intro e
    rw [if_neg e] at q
    omega
/-- the cases' number -/
theorem cases_eq (hT : TB ξ) (f0 : 0 ≤ fr) (f1 : fr < ξ 23 11) (hw : WT ξ fr st T (ξ 23 11)) (hc : CT ξ fr ζ) : lfs ξ T (fun _ => 1) = ζ 48 fr := by
  rw [← lfs_up (h := ζ 48) hT f0 f1 hw (fun n a b c d => (hc.leaf hT f0 (hw.wk hT f0 n.toNat n (by omega) b c).1 b).2 (by omega))]
  exact lfs_congr (fun n a b c d => ((hc.leaf hT f0 (hw.wk hT f0 n.toNat n (by omega) b c).1 b).1 d).symm)
theorem WT.uniq (hT : TB ξ) (f0 : 0 ≤ fr) (h : WT ξ fr st T (ξ 23 11)) (h' : WT ξ fr st ζ (ξ 23 11)) : ∀ (k : Nat) (n : Int), n = k → n < ξ 23 11 → T 43 n = ζ 43 n ∧ (T 43 n = 1 → T 44 n = ζ 44 n ∧ T 45 n = ζ 45 n ∧ T 46 n = ζ 46 n) := by
  intro k
  induction k using Nat.strongRecOn with
  | ind k ih =>
    intro n hk n1
    have p := hT.par (n := n) (by omega) (by omega)
    have hn := h n (by omega) n1
    have hn' := h' n (by omega) n1
    unfold WTn at hn hn'
    have q1 := hn.1
    have r1 := hn'.1
    by_cases e : n = fr
    · have a := hn.2.1.mpr (Or.inl e)
      have b := hn'.2.1.mpr (Or.inl e)
      have c := hn.2.2.1 e
      have d := hn'.2.2.1 e
      rw [a, b, c.1, c.2.1, c.2.2, d.1, d.2.1, d.2.2]
      exact ⟨rfl, fun _ => ⟨rfl, rfl, rfl⟩⟩
    · by_cases e2 : fr < n
      · have r := ih (ξ 31 n).toNat (by omega) (ξ 31 n) (by omega) (by omega)
        have x : T 43 n = 1 ↔ ζ 43 n = 1 := by rw [hn.2.1, hn'.2.1, r.1]
        have s1 : T 43 n = ζ 43 n := by
          clear hn hn' ih r
          omega
        refine ⟨s1, fun hb => ?_⟩
        have hp : T 43 (ξ 31 n) = 1 := by
          rcases hn.2.1.mp hb with h | h
          · exact absurd h e
          · exact h.2
        obtain ⟨a1, a2, a3⟩ := hn.2.2.2 e2 hp
        obtain ⟨b1, b2, b3⟩ := hn'.2.2.2 e2 (by rw [← r.1]; exact hp)
        obtain ⟨c1, c2, c3⟩ := r.2 hp
        rw [c1] at a1 a2
        rw [c2] at a2
        rw [c3] at a3
        have e44 : T 44 n = ζ 44 n := by rw [a1, b1]
        rw [e44] at a3
        exact ⟨e44, by rw [a2, b2], by rw [a3, b3]⟩
      · have a : ¬ T 43 n = 1 := fun q => by
          rcases hn.2.1.mp q with x | x
          · exact e x
          · exact e2 x.1
        have b : ¬ ζ 43 n = 1 := fun q => by
          rcases hn'.2.1.mp q with x | x
          · exact e x
          · exact e2 x.1
        clear hn hn' ih
        exact ⟨by omega, fun q => absurd q a⟩
theorem lfs_T {h : Int → Int} (hT : TB ξ) (f0 : 0 ≤ fr) (hw : WT ξ fr st T (ξ 23 11)) (hw' : WT ξ fr st ζ (ξ 23 11)) : lfs ξ T h = lfs ξ ζ h := by
  unfold lfs lev
  refine sf_congr _ _ (fun n a b => ?_)
  rw [(hw.uniq hT f0 hw' n.toNat n (by omega) (by omega)).1]
def okN (ξ : Int → Int → Int) (n : Int) : Prop := 0 ≤ n ∧ n ≤ ξ 23 11 - 1
def A_cases (ξ : Int → Int → Int) (n r : Int) : Prop := (okN ξ n → (WH ξ → ∀ T, WT ξ n 0 T (ξ 23 11) → r = lfs ξ T (fun _ => 1)) ∧ (¬ WH ξ → r = -3)) ∧ (¬ okN ξ n → r = -1)
theorem Y8_cases (hB : LB ξ) (hT : TB ξ) (hK : MK ξ ζ) (hn : R3 n) : ∃ r ζ', F_X8_cases (b0 + 23) n (S b0 σ ζ) = some (r, S b0 σ ζ') ∧ A_cases ξ n r ∧ MK ξ ζ' ∧ Ch scrV ζ ζ' := by
  have n81 := hT.2.2.1
  have hz := ZZ_le hB
  by_cases ok : okN ξ n
  · have o1 := ok.1
    have o2 := ok.2
    by_cases hw : WH ξ
    · obtain ⟨ζ1, q1, q2, q3, q4, q5, q6⟩ := X8_walk (b0 := b0) (σ := σ) (st := 0) (fr := n) hB hT (by omega) (by omega) ok.1 (by omega) hK.1.1 hK.1.2.1 hK.1.2.2.1
      refine ⟨ζ1 48 n, ζ1, ?_, ⟨fun _ => ⟨fun _ T hT' => (cases_eq hT ok.1 (by omega) hT' q6).symm, fun h => absurd hw h⟩, fun h => absurd ok h⟩, MK_chM hK (q2.mono scrVM) q3 q4, q2⟩
      rw [F_X8_cases]
      refine evd (iS_23.trans (K_isNode hT hK.1.1 hn)) (ev_if (fun h => absurd ok h) (fun _ => ?_))
      refine evd (iS_23.trans (K_isWhole hB hT hK.1.1)) (ev_if (fun h => absurd hw h) (fun _ => ?_))
      refine evd (iS_23.trans q1) ?_
      refine ev rS_23_31 ?_
      exact ev (aS_48 (by omega) (by omega)) rfl
    · refine ⟨-3, ζ, ?_, ⟨fun _ => ⟨fun h => absurd h hw, fun _ => rfl⟩, fun h => absurd ok h⟩, hK, Ch.rf⟩
      rw [F_X8_cases]
      refine evd (iS_23.trans (K_isNode hT hK.1.1 hn)) (ev_if (fun h => absurd ok h) (fun _ => ?_))
      exact evd (iS_23.trans (K_isWhole hB hT hK.1.1)) (ev_if (fun h => rfl) (fun h => absurd h hw))
  · refine ⟨-1, ζ, ?_, ⟨fun h => absurd h ok, fun _ => rfl⟩, hK, Ch.rf⟩
    rw [F_X8_cases]
    exact evd (iS_23.trans (K_isNode hT hK.1.1 hn)) (ev_if (fun h => rfl) (fun h => absurd h ok))
end W14
