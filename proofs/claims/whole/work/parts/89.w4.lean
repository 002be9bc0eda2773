theorem cmpL_le {γ : Type} {a b : Int} {T E z : Option γ} (kT : a ≤ b → T = z) (kE : ¬ a ≤ b → E = z) : bLe (cmpL a b) 0 T E = z := by
  unfold cmpL
  by_cases h : a > b
  · rw [if_pos h]; exact ev_bLe (by omega) (by omega) (by omega) (by omega) (fun hc => absurd hc (by omega)) (fun _ => kE (by omega))
  · rw [if_neg h]
    by_cases e : a = b
    · rw [if_pos e]; exact ev_bLe (by omega) (by omega) (by omega) (by omega) (fun _ => kT (by omega)) (fun hc => absurd hc (by omega))
    · rw [if_neg e]; exact ev_bLe (by omega) (by omega) (by omega) (by omega) (fun _ => kT (by omega)) (fun hc => absurd hc (by omega))
section W4
variable {b0 : Int} {σ : Hp} {ξ ζ η : Int → Int → Int} {i m s t L n : Int}
theorem xu_self {d k : Int} : xu ξ d k (ξ d k) = ξ := by
  funext d' k'
  unfold xu
  split
  · rename_i h; rw [h.1, h.2]
  · rfl
/-- nothing else has changed -/
def Ch (P : Int → Int → Prop) (ξ ζ : Int → Int → Int) : Prop := ∀ d k, ¬ P d k → ζ d k = ξ d k
theorem Ch.trans {P : Int → Int → Prop} (h : Ch P ξ ζ) (h2 : Ch P ζ η) : Ch P ξ η := fun d k q => (h2 d k q).trans (h d k q)
theorem Ch.rf {P : Int → Int → Prop} : Ch P ξ ξ := fun _ _ _ => rfl
theorem Ch.mono {P Q : Int → Int → Prop} (h : Ch P ξ ζ) (hi : ∀ d k, P d k → Q d k) : Ch Q ξ ζ := fun d k q => h d k (fun p => q (hi d k p))
theorem Ch_xu {P : Int → Int → Prop} {d k v : Int} (hp : P d k) (h : Ch P ξ ζ) : Ch P ξ (xu ζ d k v) := fun d' k' q => by
  by_cases e : d' = d ∧ k' = k
  · obtain ⟨rfl, rfl⟩ := e; exact absurd hp q
  · exact (if_neg e).trans (h d' k' q)
theorem Ch_lts {P : Int → Int → Prop} {a b c : Int} (hp : ∀ k, P 36 k) (h : Ch P ξ ζ) : Ch P ξ (lts ζ a b c) := Ch_xu (hp _) (Ch_xu (hp _) (Ch_xu (hp _) h))
theorem Ch_unf {P : Int → Int → Prop} (hp : ∀ k, P 35 k) (h : Ch P ξ ζ) : Ch P ξ (unf ζ s) := fun d' k' q => by
  by_cases e : d' = 35
  · subst e; exact absurd (hp _) q
  · exact (unf_d e).trans (h d' k' q)
/-- scratch rows: spilled, measures, lets -/
def scr (d k : Int) : Prop := (d = 23 ∧ k = 18) ∨ d = 35 ∨ d = 36
def scrA (at' : Int) (d k : Int) : Prop := scr d k ∨ ((d = 39 ∨ d = 40) ∧ k = at')
theorem settle_in {k65 : Int → Int → Hp → Option (Int × Hp)} {a sc fst : Int} (hB : LB ξ) (hT : TB ξ) (hb : bx ξ s L) (n0 : 0 ≤ n) (n1 : n < ξ 23 11) : ∀ (m f : Nat) (v c : Int) (ζ : Int → Int → Int), m < f → n < c → c + m = ξ 23 11 → At ξ ζ s L → ∃ (f' : Nat) (u : Int), F_X8_settle_L93 k65 (b0 + 23) n a sc fst f v c (S b0 σ ζ) = F_X8_settle_L93 k65 (b0 + 23) n a sc fst (f' + 1) (v + sf (cof ξ n (fun c => ζ 39 (1000 * c + flS ξ c s L))) c m) (ξ 23 11) (S b0 σ (xu ζ 23 18 u)) := by
  intro m
  have n81 := hT.2.2.1
  have n9 := hT.2.1
  induction m with
  | zero =>
    intro f v c ζ hf hc he hA
    refine ⟨f - 1, ζ 23 18, ?_⟩
    rw [xu_self, show f - 1 + 1 = f by omega, show c = ξ 23 11 by omega]
    simp [sf]
  | succ m ih =>
    intro f v c ζ hf hc he hA
    obtain ⟨f, rfl⟩ : ∃ g, f = g + 1 := ⟨f - 1, by omega⟩
    have e11 : ζ 23 11 = ξ 23 11 := hA.1.2 11 (by omega)
    have e31 : ζ 31 = ξ 31 := hA.1.1 31 (by omega)
    have e32 : ζ 32 = ξ 32 := hA.1.1 32 (by omega)
    have h6 := hT.2.2.2.2.2.1 c (by omega) (by omega)
    have hfl := flS_bd (c := c) hB hT (by omega) (by omega) hb
    have hz := ZZ_le hB
    rw [sf]
    by_cases hp : ξ 31 c = n
    · have hA2 : At ξ (xu ζ 23 18 (spS ξ c s L)) s L := At_xu hA (by omega)
      obtain ⟨f', u, h⟩ := ih f (v + ξ 32 c * ζ 39 (1000 * c + flS ξ c s L)) (c + 1) _ (by omega) (by omega) (by omega) hA2
      refine ⟨f', u, ?_⟩
      rw [xu_xu] at h
      have ec : cof ξ n (fun c => ζ 39 (1000 * c + flS ξ c s L)) c = ξ 32 c * ζ 39 (1000 * c + flS ξ c s L) := if_pos hp
      rw [ec, ← Int.add_assoc]
      have eg : (fun c => xu ζ 23 18 (spS ξ c s L) 39 (1000 * c + flS ξ c s L)) = (fun c => ζ 39 (1000 * c + flS ξ c s L)) := funext fun c => xu_nd (by omega)
      have eg2 : sf (cof ξ n (fun c' => xu ζ 23 18 (spS ξ c s L) 39 (1000 * c' + flS ξ c' s L))) (c + 1) m = sf (cof ξ n (fun c => ζ 39 (1000 * c + flS ξ c s L))) (c + 1) m := sf_congr _ _ (fun i _ _ => by unfold cof; dsimp only; rw [xu_nd (by omega)])
      rw [eg2] at h
      refine Eq.trans ?_ h
      rw [F_X8_settle_L93]
      refine ev rS_23_11 ?_
      rw [e11]
      refine ev_bLt (by omega) (by omega) (by omega) (by omega) (fun hc => ?_) (fun hc => absurd hc (by omega))
      refine ev rS_23_12 ?_
      refine ev (aS_31 (by omega) (by omega)) ?_
      rw [e31, hp]
      refine ev_bEq (by omega) (by omega) (by omega) (by omega) (fun hc => ?_) (fun hc => absurd rfl hc)
      refine ev rS_23_13 ?_
      refine ev (aS_32 (by omega) (by omega)) ?_
      rw [e32]
      refine ev_g3 (by omega) (by omega) ?_
      refine ev rS_23_22 ?_
      refine evd (iS_23.trans (At_comes hB hT hA hb (by omega) (by omega))) ?_
      refine ev (aS_39 (by omega) (by omega)) ?_
      rw [xu_nd (by omega)]
      rfl
    · obtain ⟨f', u, h⟩ := ih f v (c + 1) ζ (by omega) (by omega) (by omega) hA
      refine ⟨f', u, ?_⟩
      have ec : cof ξ n (fun c => ζ 39 (1000 * c + flS ξ c s L)) c = 0 := if_neg hp
      rw [ec, Int.zero_add]
      refine Eq.trans ?_ h
      rw [F_X8_settle_L93]
      refine ev rS_23_11 ?_
      rw [e11]
      refine ev_bLt (by omega) (by omega) (by omega) (by omega) (fun hc => ?_) (fun hc => absurd hc (by omega))
      refine ev rS_23_12 ?_
      refine ev (aS_31 (by omega) (by omega)) ?_
      rw [e31]
      refine ev_bEq (by omega) (by omega) (by omega) (by omega) (fun hc => absurd hc hp) (fun hc => ?_)
      rfl
theorem settle_out {k : Nat} {a : Int} (hB : LB ξ) (hT : TB ξ) (hW : WH ξ) (n0 : 0 ≤ n) (n1 : n < ξ 23 11) (hk : lft ξ n = k + 1) (s0 : 0 ≤ s) (s1 : s < ZZ ξ) (ha : a = 1000 * n + s) : ∀ (m f : Nat) (L fst : Int) (ζ : Int → Int → Int), (4096 - L).toNat ≤ m → m < f → At ξ ζ s L → bx ξ s L → (∀ c, n < c → c < ξ 23 11 → ξ 31 c = n → ∀ L', bx ξ s L' → ζ 39 (1000 * c + flS ξ c s L') = VV ξ k c (flS ξ c s L')) → ((fst = 1 ∧ ∀ L', bx ξ s L' → L ≤ L') ∨ (fst = 0 ∧ IB (vL ξ (VV ξ k) k n s) (fun L' => bx ξ s L' ∧ L' < L) (ζ 39 a) (ζ 40 a))) → ∃ ζ', F_X8_settle_L65 (b0 + 23) n a (ξ 23 9 ^ (k + 1)) f fst 1 (S b0 σ ζ) = some (0, S b0 σ ζ') ∧ Ch (scrA a) ζ ζ' ∧ IB (vL ξ (VV ξ k) k n s) (bx ξ s) (ζ' 39 a) (ζ' 40 a) ∧ At ξ ζ' s (fsL ξ s) := by
  intro m
  have n81 := hT.2.2.1
  have hz := ZZ_le hB
  have wk := hT.week n0 n1
  have wk10 := hT.1
  have wn : ξ 33 n < ξ 23 8 - 1 := by unfold lft at hk; omega
  have k9 : k + 1 ≤ 10 := by have := lft_le hT n0 n1; omega
  have hbd : ∀ L', bx ξ s L' → 0 ≤ vL ξ (VV ξ k) k n s L' ∧ vL ξ (VV ξ k) k n s L' < 9000000000000000 := by
    intro L' hb
    have q := vL_bd (V := VV ξ k) hB hT hW n0 n1 hk hb (fun c c0 c1 hp => VV_bd hB hT hW k c _ (by omega) c1 (by have := lft_child hT (by omega) c1 hp; omega))
    have := BD_mono k9
    have := BD_10
    omega
  induction m with
  | zero =>
    intro f L fst ζ hm _ _ hb
    have := hb.1.2
    omega
  | succ m ih =>
    intro f L fst ζ hm hf hA hb hC hI
    obtain ⟨f, rfl⟩ : ∃ g, f = g + 1 := ⟨f - 1, by omega⟩
    have fin : ∀ ζ2, At ξ ζ2 s L → Ch (scrA a) ζ ζ2 → IB (vL ξ (VV ξ k) k n s) (fun L' => bx ξ s L' ∧ L' ≤ L) (ζ2 39 a) (ζ2 40 a) → ∃ ζ', F_X8_settle_B208 (F_X8_settle_L65 (b0 + 23) n a (ξ 23 9 ^ (k + 1)) f) (b0 + 23) n a (ξ 23 9 ^ (k + 1)) (S b0 σ ζ2) = some (0, S b0 σ ζ') ∧ Ch (scrA a) ζ ζ' ∧ IB (vL ξ (VV ξ k) k n s) (bx ξ s) (ζ' 39 a) (ζ' 40 a) ∧ At ξ ζ' s (fsL ξ s) := by
      intro ζ2 hA2 hch hI2
      have scL : ∀ L', Ch (scrA a) ζ (setL ζ2 L') := fun L' => Ch_lts (fun k => Or.inl (Or.inr (Or.inr rfl))) hch
      have sl : ∀ L' d k, d ≠ 36 → setL ζ2 L' d k = ζ2 d k := fun L' d k h => lts_d h
      rcases At_next (b0 := b0) (σ := σ) hB hA2 hb with ⟨hl, hq⟩ | ⟨hl, hq⟩
      · refine ⟨setL ζ2 (fsL ξ s), ?_, scL _, ?_, At_setL hA2⟩
        · rw [F_X8_settle_B208]
          refine evd (iS_23.trans hq) ?_
          obtain ⟨f, rfl⟩ : ∃ g, f = g + 1 := ⟨f - 1, by omega⟩
          rw [F_X8_settle_L65]
          exact ev_bEq (by omega) (by omega) (by omega) (by omega) (fun hc => rfl) (fun hc => absurd rfl hc)
        · rw [sl _ _ _ (by omega), sl _ _ _ (by omega)]
          refine ⟨hI2.1.1, hI2.2.1, fun L' hL => hI2.2.2 L' ⟨hL, isL_max hB hb hl L' hL⟩⟩
      · obtain ⟨hb3, hlt, hle⟩ := nxL_bx hB hb hl
        obtain ⟨ζ', e1, e2, e3, e4⟩ := ih f (nxL ξ s L) 0 (setL ζ2 (nxL ξ s L)) (by omega) (by omega) (At_setL hA2) hb3 (fun c c0 c1 hp L' hL => by
          have hfl := flS_bd (c := c) hB hT (by omega) (by omega) hL
          rw [scL _ 39 _ (by unfold scrA scr; omega)]
          exact hC c c0 c1 hp L' hL) (Or.inr ⟨rfl, by
          rw [sl _ _ _ (by omega), sl _ _ _ (by omega)]
          refine ⟨⟨hI2.1.1, by have := hI2.1.2; omega⟩, hI2.2.1, fun L' hL => hI2.2.2 L' ⟨hL.1, ?_⟩⟩
          by_cases q : L < L'
          · have := hle L' hL.1 q; have := hL.2; omega
          · omega⟩)
        refine ⟨ζ', ?_, (scL _).trans e2, e3, e4⟩
        rw [F_X8_settle_B208]
        exact evd (iS_23.trans hq) e1
    have e33 : ζ 33 = ξ 33 := hA.1.1 33 (by omega)
    have he := ernS_bd (w := ξ 33 n + 1) hB hT (by omega) (by omega) hb
    obtain ⟨f', u, hin⟩ := settle_in (b0 := b0) (σ := σ) (k65 := F_X8_settle_L65 (b0 + 23) n a (ξ 23 9 ^ (k + 1)) f) (a := a) (sc := ξ 23 9 ^ (k + 1)) (fst := fst) hB hT hb n0 n1 (ξ 23 11 - (n + 1)).toNat fu (ξ 23 9 ^ (k + 1) * ernS ξ (ξ 33 n + 1) s L) (n + 1) ζ (fuN (by omega)) (by omega) (by omega) hA
    have ev' : ξ 23 9 ^ (k + 1) * ernS ξ (ξ 33 n + 1) s L + sf (cof ξ n (fun c => ζ 39 (1000 * c + flS ξ c s L))) (n + 1) (ξ 23 11 - (n + 1)).toNat = vL ξ (VV ξ k) k n s L := by
      unfold vL csm
      rw [sf_congr (g := cof ξ n (fun c => VV ξ k c (flS ξ c s L))) _ _ (fun i p q => by
        unfold cof
        by_cases hp : ξ 31 i = n
        · rw [if_pos hp, if_pos hp]; dsimp only; rw [hC i (by omega) (by omega) hp L hb]
        · rw [if_neg hp, if_neg hp])]
    rw [ev'] at hin
    have hv := hbd L hb
    generalize hw : vL ξ (VV ξ k) k n s L = v at *
    have hA1 : At ξ (xu ζ 23 18 u) s L := At_xu hA (by omega)
    have hc1 : Ch (scrA a) ζ (xu ζ 23 18 u) := Ch_xu (Or.inl (Or.inl ⟨rfl, rfl⟩)) Ch.rf
    have q0 := (hA1.2 0 (by omega) (by omega)).2
    have q1 := (hA1.2 1 (by omega) (by omega)).2
    have q2 := (hA1.2 2 (by omega) (by omega)).2
    have eL := dg_eq hb.1.1 hb.1.2
    have hA2 : At ξ (xu (xu (xu ζ 23 18 u) 39 a v) 40 a L) s L := At_xu (At_xu hA1 (by omega)) (by omega)
    have hc2 : Ch (scrA a) ζ (xu (xu (xu ζ 23 18 u) 39 a v) 40 a L) := Ch_xu (Or.inr ⟨by omega, rfl⟩) (Ch_xu (Or.inr ⟨by omega, rfl⟩) hc1)
    have g39 : xu (xu (xu ζ 23 18 u) 39 a v) 40 a L 39 a = v := by rw [xu_nd (by omega), xu_s]
    have g40 : xu (xu (xu ζ 23 18 u) 39 a v) 40 a L 40 a = L := xu_s
    have b168 : ∀ z, F_X8_settle_B208 (F_X8_settle_L65 (b0 + 23) n a (ξ 23 9 ^ (k + 1)) f) (b0 + 23) n a (ξ 23 9 ^ (k + 1)) (S b0 σ (xu (xu (xu ζ 23 18 u) 39 a v) 40 a L)) = z → F_X8_settle_B168 (F_X8_settle_L65 (b0 + 23) n a (ξ 23 9 ^ (k + 1)) f) (b0 + 23) n a (ξ 23 9 ^ (k + 1)) v (S b0 σ (xu ζ 23 18 u)) = z := by
      intro z hz'
      rw [F_X8_settle_B168]
      refine ev rS_23_22 ?_
      refine ev (wS_39 (by omega) (by omega)) ?_
      refine ev rS_23_23 ?_
      refine ev rS_23_17 ?_
      refine ev (aS_36 (by omega) (by omega)) ?_
      refine ev rS_23_17 ?_
      refine ev (aS_36 (by omega) (by omega)) ?_
      refine ev rS_23_17 ?_
      refine ev (aS_36 (by omega) (by omega)) ?_
      rw [xu_nd (d := 39) (by omega), xu_nd (d := 39) (by omega), xu_nd (d := 39) (by omega), q0, q1, q2, show (dg L 0 * 16 + dg L 1) * 16 + dg L 2 = L by omega]
      exact ev (wS_40 (by omega) (by omega)) hz'
    have e23 : xu ζ 23 18 u 23 11 = ξ 23 11 := by rw [xu_ni (by omega)]; exact hA.1.2 11 (by omega)
    have e39 : xu ζ 23 18 u 39 a = ζ 39 a := xu_nd (by omega)
    have e40 : xu ζ 23 18 u 40 a = ζ 40 a := xu_nd (by omega)
    have goal : ∀ z, F_X8_settle_L93 (F_X8_settle_L65 (b0 + 23) n a (ξ 23 9 ^ (k + 1)) f) (b0 + 23) n a (ξ 23 9 ^ (k + 1)) fst (f' + 1) v (ξ 23 11) (S b0 σ (xu ζ 23 18 u)) = z → F_X8_settle_L65 (b0 + 23) n a (ξ 23 9 ^ (k + 1)) (f + 1) fst 1 (S b0 σ ζ) = z := by
      intro z hz'
      rw [F_X8_settle_L65]
      refine ev_bEq (by omega) (by omega) (by omega) (by omega) (fun hc => absurd hc (by omega)) (fun hc => ?_)
      refine ev rS_23_14 ?_
      refine ev (aS_33 (by omega) (by omega)) ?_
      rw [e33]
      refine evd (iS_23.trans (At_earns hB hA hb (by omega) (by omega))) ?_
      refine ev_g3 (by omega) (by omega) ?_
      exact evn (hin.trans hz')
    have top : ∀ z, (fst = 1 → F_X8_settle_B168 (F_X8_settle_L65 (b0 + 23) n a (ξ 23 9 ^ (k + 1)) f) (b0 + 23) n a (ξ 23 9 ^ (k + 1)) v (S b0 σ (xu ζ 23 18 u)) = z) → (fst = 0 → 0 ≤ ζ 39 a ∧ ζ 39 a < 9000000000000000) → (fst = 0 → v ≤ ζ 39 a → F_X8_settle_B208 (F_X8_settle_L65 (b0 + 23) n a (ξ 23 9 ^ (k + 1)) f) (b0 + 23) n a (ξ 23 9 ^ (k + 1)) (S b0 σ (xu ζ 23 18 u)) = z) → (fst = 0 → ¬ v ≤ ζ 39 a → F_X8_settle_B168 (F_X8_settle_L65 (b0 + 23) n a (ξ 23 9 ^ (k + 1)) f) (b0 + 23) n a (ξ 23 9 ^ (k + 1)) v (S b0 σ (xu ζ 23 18 u)) = z) → F_X8_settle_L65 (b0 + 23) n a (ξ 23 9 ^ (k + 1)) (f + 1) fst 1 (S b0 σ ζ) = z := by
      intro z t1 t0 t2 t3
      refine goal z ?_
      rw [F_X8_settle_L93]
      refine ev rS_23_11 ?_
      rw [e23]
      refine ev_bLt (by omega) (by omega) (by omega) (by omega) (fun hc => absurd hc (by omega)) (fun hc => ?_)
      refine ev_bEq (by omega) (by omega) (by omega) (by omega) (fun hc => ?_) (fun hc => t1 (by omega))
      have := t0 hc
      refine ev rS_23_22 ?_
      refine ev (aS_39 (by omega) (by omega)) ?_
      rw [e39]
      refine ev_g66 (by omega) (by omega) (by omega) (by omega) ?_
      exact cmpL_le (t2 hc) (t3 hc)
    have bet : IB (vL ξ (VV ξ k) k n s) (fun L' => bx ξ s L' ∧ L' ≤ L) v L → ∃ ζ', F_X8_settle_B168 (F_X8_settle_L65 (b0 + 23) n a (ξ 23 9 ^ (k + 1)) f) (b0 + 23) n a (ξ 23 9 ^ (k + 1)) v (S b0 σ (xu ζ 23 18 u)) = some (0, S b0 σ ζ') ∧ Ch (scrA a) ζ ζ' ∧ IB (vL ξ (VV ξ k) k n s) (bx ξ s) (ζ' 39 a) (ζ' 40 a) ∧ At ξ ζ' s (fsL ξ s) := by
      intro hq
      obtain ⟨ζ', r1, r2⟩ := fin _ hA2 hc2 (by rw [g39, g40]; exact hq)
      exact ⟨ζ', b168 _ r1, r2⟩
    rcases hI with ⟨h1, hmin⟩ | ⟨h1, hI⟩
    · obtain ⟨ζ', r1, r2⟩ := bet ⟨⟨hb, Int.le_refl _⟩, hw, fun L' hL => by
        have := hmin L' hL.1
        have e : L' = L := by have := hL.2; omega
        subst e
        exact ⟨by omega, fun q => absurd q (by omega)⟩⟩
      exact ⟨ζ', top _ (fun _ => r1) (fun h => absurd h (by omega)) (fun h => absurd h (by omega)) (fun h => absurd h (by omega)), r2⟩
    · have hr := hbd _ hI.1.1
      rw [hI.2.1] at hr
      by_cases c : v ≤ ζ 39 a
      · obtain ⟨ζ', r1, r2⟩ := fin _ hA1 hc1 (by
          rw [e39, e40]
          refine ⟨⟨hI.1.1, by have := hI.1.2; omega⟩, hI.2.1, fun L' hL => ?_⟩
          by_cases e : L' = L
          · subst e
            have := hI.1.2
            exact ⟨by omega, fun q => absurd q (by omega)⟩
          · exact hI.2.2 L' ⟨hL.1, by have := hL.2; omega⟩)
        exact ⟨ζ', top _ (fun h => absurd h (by omega)) (fun _ => hr) (fun _ _ => r1) (fun _ h => absurd c h), r2⟩
      · obtain ⟨ζ', r1, r2⟩ := bet ⟨⟨hb, Int.le_refl _⟩, hw, fun L' hL => by
          by_cases e : L' = L
          · subst e
            exact ⟨by omega, fun q => absurd q (by omega)⟩
          · have := hI.2.2 L' ⟨hL.1, by have := hL.2; omega⟩
            exact ⟨by omega, fun _ => by omega⟩⟩
        exact ⟨ζ', top _ (fun h => absurd h (by omega)) (fun _ => hr) (fun _ h => absurd h c) (fun _ _ => r1), r2⟩
end W4
