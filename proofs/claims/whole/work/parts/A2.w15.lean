section W15
variable {b0 : Int} {σ : Hp} {ξ ζ η T : Int → Int → Int} {i m s t L n l v fr st N w : Int}
def okNST (ξ : Int → Int → Int) (n s : Int) : Prop := okNS ξ n s
/-- a part of a sum over the cases' ends -/
def lfp (ξ T : Int → Int → Int) (h : Int → Int) (n : Int) : Int := if T 43 n = 1 ∧ ξ 33 n = ξ 23 8 - 1 then h n else 0
theorem lfs_def {h : Int → Int} : lfs ξ T h = sf (lfp ξ T h) 0 (ξ 23 11).toNat := rfl
theorem lfs_from {h : Int → Int} (hT : TB ξ) (f0 : 0 ≤ fr) (f1 : fr < ξ 23 11) (hw : WT ξ fr st T (ξ 23 11)) : lfs ξ T h = sf (lfp ξ T h) fr (ξ 23 11 - fr).toNat := by
  rw [lfs_def, show (ξ 23 11).toNat = fr.toNat + (ξ 23 11 - fr).toNat by omega, sf_split, sf_zero (f := lfp ξ T h) fr.toNat 0 (fun i p q => if_neg (fun x => by
    have := (hw.wk hT f0 i.toNat i (by omega) (by omega) x.1).1
    omega)), Int.zero_add, show (0 : Int) + (fr.toNat : Int) = fr by omega]
theorem lack_loop (hT : TB ξ) (h : Cf ξ ζ) (h43 : ∀ n, 0 ≤ n → n < ξ 23 11 → ζ 43 n = 0 ∨ ζ 43 n = 1) (h46 : ∀ n, 0 ≤ n → n < ξ 23 11 → ζ 43 n = 1 → ζ 46 n = 0 ∨ ζ 46 n = 1) : ∀ (m f : Nat) (a j : Int), m < f → 0 ≤ j → j + m = ξ 23 11 → F_X8_lack_L39 (b0 + 23) f a j (S b0 σ ζ) = some (a + sf (lfp ξ ζ (ζ 46)) j m, S b0 σ ζ) := by
  intro m
  have n81 := hT.2.2.1
  have w10 := hT.1
  have e11 : ζ 23 11 = ξ 23 11 := h.2 11 (by omega)
  have e8 : ζ 23 8 = ξ 23 8 := h.2 8 (by omega)
  have e33 : ζ 33 = ξ 33 := h.1 33 (by omega)
  induction m with
  | zero =>
    intro f a j hf j0 he
    obtain ⟨f, rfl⟩ : ∃ g, f = g + 1 := ⟨f - 1, by omega⟩
    rw [F_X8_lack_L39]
    refine ev rS_23_11 ?_
    rw [e11]
    exact ev_bLt (by omega) (by omega) (by omega) (by omega) (fun hc => absurd hc (by omega)) (fun hc => ev_end (by simp [sf]) rfl)
  | succ m ih =>
    intro f a j hf j0 he
    obtain ⟨f, rfl⟩ : ∃ g, f = g + 1 := ⟨f - 1, by omega⟩
    have wk := hT.week (n := j) (by omega) (by omega)
    have q := h43 j j0 (by omega)
    have r := h46 j j0 (by omega)
    have go : ∀ x, lfp ξ ζ (ζ 46) j = x → F_X8_lack_L39 (b0 + 23) f (a + x) (j + 1) (S b0 σ ζ) = some (a + sf (lfp ξ ζ (ζ 46)) j (m + 1), S b0 σ ζ) := by
      intro x hx
      rw [ih f (a + x) (j + 1) (by omega) (by omega) (by omega), sf, hx, Int.add_assoc]
    rw [F_X8_lack_L39]
    refine ev rS_23_11 ?_
    rw [e11]
    refine ev_bLt (by omega) (by omega) (by omega) (by omega) (fun hc => ?_) (fun hc => absurd hc (by omega))
    refine ev rS_23_26 ?_
    refine ev (aS_43 (by omega) (by omega)) ?_
    refine ev_bEq (by omega) (by omega) (by omega) (by omega) (fun hc1 => go 0 (if_neg (fun x => by have := x.1; omega))) (fun hc1 => ?_)
    refine ev rS_23_14 ?_
    refine ev (aS_33 (by omega) (by omega)) ?_
    refine ev rS_23_8 ?_
    rw [e33, e8]
    refine ev_bEq (by omega) (by omega) (by omega) (by omega) (fun hc2 => ?_) (fun hc2 => go 0 (if_neg (fun x => hc2 x.2)))
    have r1 := r (by omega)
    have x1 : ζ 43 j = 1 := by omega
    refine ev rS_23_29 ?_
    refine ev (aS_46 (by omega) (by omega)) ?_
    refine ev_bEq (by omega) (by omega) (by omega) (by omega) (fun hc3 => go 0 ((if_pos ⟨x1, hc2⟩).trans hc3)) (fun hc3 => go 1 ((if_pos ⟨x1, hc2⟩).trans (by omega)))
def A_lack (ξ : Int → Int → Int) (n s r : Int) : Prop := (okNS ξ n s → (WH ξ → ∀ T, WT ξ n s T (ξ 23 11) → r = lfs ξ T (T 46)) ∧ (¬ WH ξ → r = -3)) ∧ (¬ okNS ξ n s → r = -1)
theorem Y8_lack (hB : LB ξ) (hT : TB ξ) (hK : MK ξ ζ) (hn : R3 n) (hs : R3 s) : ∃ r ζ', F_X8_lack (b0 + 23) n s (S b0 σ ζ) = some (r, S b0 σ ζ') ∧ A_lack ξ n s r ∧ MK ξ ζ' ∧ Ch scrV ζ ζ' := by
  have n81 := hT.2.2.1
  by_cases ok : okNS ξ n s
  · have o1 := ok.1.1
    have o2 := ok.1.2
    have o3 := ok.2.1
    have o4 := ok.2.2
    by_cases hw : WH ξ
    · obtain ⟨ζ1, q1, q2, q3, q4, q5, q6⟩ := X8_walk (b0 := b0) (σ := σ) (st := s) (fr := n) hB hT o3 (by omega) o1 (by omega) hK.1.1 hK.1.2.1 hK.1.2.2.1
      have bd46 : ∀ j, 0 ≤ j → j < ξ 23 11 → ζ1 43 j = 1 → ζ1 46 j = 0 ∨ ζ1 46 j = 1 := fun j a b c => (q5.bd hB hT (Int.le_refl _) o3 (by omega) o1 j.toNat j (by omega) b c).2.2.2
      refine ⟨0 + sf (lfp ξ ζ1 (ζ1 46)) n (ξ 23 11 - n).toNat, ζ1, ?_, ⟨fun _ => ⟨fun _ T hT' => ?_, fun h => absurd hw h⟩, fun h => absurd ok h⟩, MK_chM hK (q2.mono scrVM) q3 q4, q2⟩
      · rw [F_X8_lack]
        refine evd (iS_23.trans (K_isNode hT hK.1.1 hn)) (ev_if (fun h => absurd ok.1 h) (fun _ => ?_))
        refine evd (iS_23.trans (K_isState hB hK.1.1 hs)) (ev_if (fun h => absurd ok.2 h) (fun _ => ?_))
        refine evd (iS_23.trans (K_isWhole hB hT hK.1.1)) (ev_if (fun h => absurd hw h) (fun _ => ?_))
        refine evd (iS_23.trans q1) ?_
        exact lack_loop hT (hK.1.1.trans (Cf_scrV q2)) (fun j a b => (q5 j a b).1) bd46 (ξ 23 11 - n).toNat fu 0 n (fuN (by omega)) o1 (by omega)
      · rw [lfs_congr (h' := ζ1 46) (fun m a b c d => ((hT'.uniq hT o1 q5 m.toNat m (by omega) b).2 c).2.2), lfs_T hT o1 hT' q5, lfs_from hT o1 (by omega) q5]
        omega
    · refine ⟨-3, ζ, ?_, ⟨fun _ => ⟨fun h => absurd h hw, fun _ => rfl⟩, fun h => absurd ok h⟩, hK, Ch.rf⟩
      rw [F_X8_lack]
      refine evd (iS_23.trans (K_isNode hT hK.1.1 hn)) (ev_if (fun h => absurd ok.1 h) (fun _ => ?_))
      refine evd (iS_23.trans (K_isState hB hK.1.1 hs)) (ev_if (fun h => absurd ok.2 h) (fun _ => ?_))
      exact evd (iS_23.trans (K_isWhole hB hT hK.1.1)) (ev_if (fun h => rfl) (fun h => absurd h hw))
  · refine ⟨-1, ζ, ?_, ⟨fun h => absurd h ok, fun _ => rfl⟩, hK, Ch.rf⟩
    rw [F_X8_lack]
    refine evd (iS_23.trans (K_isNode hT hK.1.1 hn)) (ev_if (fun h => rfl) (fun h1 => ?_))
    exact evd (iS_23.trans (K_isState hB hK.1.1 hs)) (ev_if (fun h => rfl) (fun h2 => absurd ⟨h1, h2⟩ ok))
/-- what the rule came to at an end -/
def tot (ξ T : Int → Int → Int) (n : Int) : Int := T 45 n + endv ξ (T 44 n)
/-- the least of the ends up to a node -/
def LE (ξ T : Int → Int → Int) (a n r : Int) : Prop := (∃ m, (a ≤ m ∧ m < n) ∧ (T 43 m = 1 ∧ ξ 33 m = ξ 23 8 - 1) ∧ r = tot ξ T m) ∧ ∀ m, a ≤ m → m < n → T 43 m = 1 ∧ ξ 33 m = ξ 23 8 - 1 → r ≤ tot ξ T m
def NoE (ξ T : Int → Int → Int) (a n : Int) : Prop := ∀ m, a ≤ m → m < n → ¬ (T 43 m = 1 ∧ ξ 33 m = ξ 23 8 - 1)
theorem LE.uniq {a n r r' : Int} (h : LE ξ T a n r) (h' : LE ξ T a n r') : r = r' := by
  obtain ⟨⟨m, m1, m2, m3⟩, h2⟩ := h
  obtain ⟨⟨k, k1, k2, k3⟩, g2⟩ := h'
  have := h2 k k1.1 k1.2 k2
  have := g2 m m1.1 m1.2 m2
  omega
theorem LE.skip {a r : Int} (h : LE ξ T a n r) (q : ¬ (T 43 n = 1 ∧ ξ 33 n = ξ 23 8 - 1)) : LE ξ T a (n + 1) r := by
  obtain ⟨⟨m, m1, m2, m3⟩, h2⟩ := h
  refine ⟨⟨m, ⟨m1.1, by omega⟩, m2, m3⟩, fun k a b c => ?_⟩
  by_cases e : k = n
  · subst e; exact absurd c q
  · exact h2 k a (by omega) c
theorem NoE.skip {a : Int} (h : NoE ξ T a n) (q : ¬ (T 43 n = 1 ∧ ξ 33 n = ξ 23 8 - 1)) : NoE ξ T a (n + 1) := fun k a b => by
  by_cases e : k = n
  · subst e; exact q
  · exact h k a (by omega)
theorem NoE.take {a : Int} (h : NoE ξ T a n) (ha : a ≤ n) (q : T 43 n = 1 ∧ ξ 33 n = ξ 23 8 - 1) : LE ξ T a (n + 1) (tot ξ T n) := by
  refine ⟨⟨n, ⟨ha, by omega⟩, q, rfl⟩, fun k x y c => ?_⟩
  by_cases e : k = n
  · subst e; exact Int.le_refl _
  · exact absurd c (h k x (by omega))
theorem LE.take {a r : Int} (h : LE ξ T a n r) (ha : a ≤ n) (q : T 43 n = 1 ∧ ξ 33 n = ξ 23 8 - 1) : (r < tot ξ T n → LE ξ T a (n + 1) r) ∧ (¬ r < tot ξ T n → LE ξ T a (n + 1) (tot ξ T n)) := by
  obtain ⟨⟨m, m1, m2, m3⟩, h2⟩ := h
  refine ⟨fun c => ⟨⟨m, ⟨m1.1, by omega⟩, m2, m3⟩, fun k x y z => ?_⟩, fun c => ⟨⟨n, ⟨ha, by omega⟩, q, rfl⟩, fun k x y z => ?_⟩⟩
  · by_cases e : k = n
    · subst e; omega
    · exact h2 k x (by omega) z
  · by_cases e : k = n
    · subst e; exact Int.le_refl _
    · have := h2 k x (by omega) z
      omega
/-- in a whole tree each walk comes to an end -/
theorem has_end (hT : TB ξ) (hW : WH ξ) (f0 : 0 ≤ fr) (f1 : fr < ξ 23 11) (hw : WT ξ fr st T (ξ 23 11)) : ¬ NoE ξ T fr (ξ 23 11) := by
  intro hno
  have key : ∀ (k : Nat) (n : Int), n + k = ξ 23 11 → fr ≤ n → n < ξ 23 11 → ¬ T 43 n = 1 := by
    intro k
    induction k using Nat.strongRecOn with
    | ind k ih =>
      intro n hk n0 n1 hb
      have w := hT.week (n := n) (by omega) n1
      have nl := hno n n0 n1
      have w1 : ξ 33 n < ξ 23 8 - 1 := by
        by_cases e : ξ 33 n = ξ 23 8 - 1
        · exact absurd ⟨hb, e⟩ nl
        · omega
      have s := hW.2 n (by omega) n1 w1
      have d := hT.2.1
      rw [wsm_from hT (by omega) n1, sf_zero _ _ (fun i a b => by
        unfold wof
        rw [if_neg]
        intro e
        have x := ((hw i (by omega) (by omega)).2.1).mpr (Or.inr ⟨by omega, by rw [e]; exact hb⟩)
        exact ih (ξ 23 11 - i).toNat (by omega) i (by omega) (by omega) (by omega) x)] at s
      omega
  exact key (ξ 23 11 - fr).toNat fr (by omega) (Int.le_refl _) f1 ((hw fr f0 f1).2.1.mpr (Or.inl rfl))
theorem worst_loop (hB : LB ξ) (hT : TB ξ) (f0 : 0 ≤ fr) (f1 : fr < ξ 23 11) (s0 : 0 ≤ st) (s1 : st < ZZ ξ) : ∀ (m f : Nat) (an wo j : Int) (ζ : Int → Int → Int), m < f → fr ≤ j → j + m = ξ 23 11 → Cf ξ ζ → MB ζ → TZ ζ → WT ξ fr st ζ (ξ 23 11) → ((an = 0 ∧ NoE ξ ζ fr j) ∨ (an = 1 ∧ LE ξ ζ fr j wo ∧ 0 ≤ wo ∧ wo < 1000000)) → ∃ r ζ', F_X8_worst_L41 (b0 + 23) f an wo j (S b0 σ ζ) = some (r, S b0 σ ζ') ∧ Ch scr ζ ζ' ∧ MB ζ' ∧ TZ ζ' ∧ (NoE ξ ζ fr (ξ 23 11) ∨ LE ξ ζ fr (ξ 23 11) r) := by
  intro m
  have n81 := hT.2.2.1
  have w10 := hT.1
  have hz := ZZ_le hB
  induction m with
  | zero =>
    intro f an wo j ζ hf j0 he h hM hZ hw hi
    obtain ⟨f, rfl⟩ : ∃ g, f = g + 1 := ⟨f - 1, by omega⟩
    have e : j = ξ 23 11 := by omega
    subst e
    refine ⟨wo, ζ, ?_, Ch.rf, hM, hZ, ?_⟩
    · rw [F_X8_worst_L41]
      refine ev rS_23_11 ?_
      rw [h.2 11 (by omega)]
      exact ev_bLt (by omega) (by omega) (by omega) (by omega) (fun hc => absurd hc (by omega)) (fun hc => rfl)
    · rcases hi with ⟨_, x⟩ | ⟨_, x, _⟩
      · exact Or.inl x
      · exact Or.inr x
  | succ m ih =>
    intro f an wo j ζ hf j0 he h hM hZ hw hi
    obtain ⟨f, rfl⟩ : ∃ g, f = g + 1 := ⟨f - 1, by omega⟩
    have wk := hT.week (n := j) (by omega) (by omega)
    have wf := hT.week (n := fr) f0 f1
    have b43 := (hw j (by omega) (by omega)).1
    have e11 : ζ 23 11 = ξ 23 11 := h.2 11 (by omega)
    have e8 : ζ 23 8 = ξ 23 8 := h.2 8 (by omega)
    have e33 : ζ 33 = ξ 33 := h.1 33 (by omega)
    have han : an = 0 ∨ an = 1 := by
      rcases hi with x | x
      · exact Or.inl x.1
      · exact Or.inr x.1
    have top : ∀ z, (¬ (ζ 43 j = 1 ∧ ξ 33 j = ξ 23 8 - 1) → F_X8_worst_L41 (b0 + 23) f an wo (j + 1) (S b0 σ ζ) = z) → (ζ 43 j = 1 → ξ 33 j = ξ 23 8 - 1 → 0 ≤ tot ξ ζ j ∧ tot ξ ζ j < 1000000 → (an = 0 → F_X8_worst_L41 (b0 + 23) f 1 (tot ξ ζ j) (j + 1) (S b0 σ (unf ζ (ζ 44 j))) = z) ∧ (an = 1 → wo < tot ξ ζ j → F_X8_worst_L41 (b0 + 23) f 1 wo (j + 1) (S b0 σ (unf ζ (ζ 44 j))) = z) ∧ (an = 1 → ¬ wo < tot ξ ζ j → F_X8_worst_L41 (b0 + 23) f 1 (tot ξ ζ j) (j + 1) (S b0 σ (unf ζ (ζ 44 j))) = z)) → F_X8_worst_L41 (b0 + 23) (f + 1) an wo j (S b0 σ ζ) = z := by
      intro z z1 z2
      rw [F_X8_worst_L41]
      refine ev rS_23_11 ?_
      rw [e11]
      refine ev_bLt (by omega) (by omega) (by omega) (by omega) (fun hc => ?_) (fun hc => absurd hc (by omega))
      refine ev rS_23_26 ?_
      refine ev (aS_43 (by omega) (by omega)) ?_
      refine ev_bEq (by omega) (by omega) (by omega) (by omega) (fun hc1 => z1 (fun x => by have := x.1; omega)) (fun hc1 => ?_)
      refine ev rS_23_14 ?_
      refine ev (aS_33 (by omega) (by omega)) ?_
      refine ev rS_23_8 ?_
      rw [e33, e8]
      refine ev_bLt (by omega) (by omega) (by omega) (by omega) (fun hc2 => z1 (fun x => by have := x.2; omega)) (fun hc2 => ?_)
      have x1 : ζ 43 j = 1 := by omega
      have x2 : ξ 33 j = ξ 23 8 - 1 := by omega
      obtain ⟨c0, ⟨c1, c2⟩, ⟨c3, c4⟩, c5⟩ := hw.bd hB hT (Int.le_refl _) s0 s1 f0 j.toNat j (by omega) (by omega) x1
      have eb := endv_bd (s := ζ 44 j) hB
      have tb : 0 ≤ tot ξ ζ j ∧ tot ξ ζ j < 1000000 := by unfold tot; omega
      obtain ⟨y1, y2, y3⟩ := z2 x1 x2 tb
      refine ev rS_23_28 ?_
      refine ev (aS_45 (by omega) (by omega)) ?_
      refine ev rS_23_27 ?_
      refine ev (aS_44 (by omega) (by omega)) ?_
      refine evd (iS_23.trans (X8_endOf (hB.cf h) hM c1 (by omega))) ?_
      rw [endv_cf h]
      rw [show ζ 45 j + endv ξ (ζ 44 j) = tot ξ ζ j from rfl]
      refine ev_g3 (by omega) (by omega) ?_
      refine ev_bEq (by omega) (by omega) (by omega) (by omega) (fun hc3 => y1 hc3) (fun hc3 => ?_)
      have a1 : an = 1 := by omega
      rcases hi with ⟨i1, _⟩ | ⟨_, _, i3⟩
      · omega
      · refine ev_g66 (by omega) (by omega) (by omega) (by omega) ?_
        exact cmpL_lt (fun q => y2 a1 q) (fun q => y3 a1 q)
    by_cases q : ζ 43 j = 1 ∧ ξ 33 j = ξ 23 8 - 1
    · obtain ⟨c0, ⟨c1, c2⟩, ⟨c3, c4⟩, c5⟩ := hw.bd hB hT (Int.le_refl _) s0 s1 f0 j.toNat j (by omega) (by omega) q.1
      have eb := endv_bd (s := ζ 44 j) hB
      have tb : 0 ≤ tot ξ ζ j ∧ tot ξ ζ j < 1000000 := by unfold tot; omega
      have ou : ∀ d k, d ≠ 35 → unf ζ (ζ 44 j) d k = ζ d k := fun d k h => unf_d h
      have hcu : Ch scr ζ (unf ζ (ζ 44 j)) := Ch_unf (fun _ => Or.inr (Or.inl rfl)) Ch.rf
      have hZu : TZ (unf ζ (ζ 44 j)) := fun l a b hz => by rw [ou _ _ (by omega)] at hz ⊢; exact hZ l a b hz
      have r43 : unf ζ (ζ 44 j) 43 = ζ 43 := funext fun k => ou _ k (by omega)
      have tu : tot ξ (unf ζ (ζ 44 j)) = tot ξ ζ := by funext k; unfold tot; rw [ou _ _ (by omega), ou _ _ (by omega)]
      have lu : ∀ a b r, LE ξ (unf ζ (ζ 44 j)) a b r ↔ LE ξ ζ a b r := fun a b r => by unfold LE; rw [r43, tu]
      have nu : ∀ a b, NoE ξ (unf ζ (ζ 44 j)) a b ↔ NoE ξ ζ a b := fun a b => by unfold NoE; rw [r43]
      have go : ∀ wo', LE ξ ζ fr (j + 1) wo' → 0 ≤ wo' ∧ wo' < 1000000 → ∃ r ζ', F_X8_worst_L41 (b0 + 23) f 1 wo' (j + 1) (S b0 σ (unf ζ (ζ 44 j))) = some (r, S b0 σ ζ') ∧ Ch scr ζ ζ' ∧ MB ζ' ∧ TZ ζ' ∧ (NoE ξ ζ fr (ξ 23 11) ∨ LE ξ ζ fr (ξ 23 11) r) := by
        intro wo' hl hb
        obtain ⟨r, ζ', t1, t2, t3, t4, t5⟩ := ih f 1 wo' (j + 1) (unf ζ (ζ 44 j)) (by omega) (by omega) (by omega) (h.trans Cf.unf) (hM.unf (hB.cf h)) hZu (hw.ext hT (Int.le_refl _) (fun d k a b _ => ou d k (by omega))) (Or.inr ⟨rfl, (lu _ _ _).mpr hl, hb⟩)
        rw [lu, nu] at t5
        exact ⟨r, ζ', t1, hcu.trans t2, t3, t4, t5⟩
      rcases hi with ⟨i1, i2⟩ | ⟨i1, i2, i3⟩
      · obtain ⟨r, ζ', t1, t2⟩ := go _ (i2.take j0 q) tb
        exact ⟨r, ζ', top _ (fun x => absurd q x) (fun _ _ _ => ⟨fun _ => t1, fun x => by omega, fun x => by omega⟩), t2⟩
      · by_cases c : wo < tot ξ ζ j
        · obtain ⟨r, ζ', t1, t2⟩ := go _ ((i2.take j0 q).1 c) i3
          exact ⟨r, ζ', top _ (fun x => absurd q x) (fun _ _ _ => ⟨fun x => by omega, fun _ _ => t1, fun _ x => absurd c x⟩), t2⟩
        · obtain ⟨r, ζ', t1, t2⟩ := go _ ((i2.take j0 q).2 c) tb
          exact ⟨r, ζ', top _ (fun x => absurd q x) (fun _ _ _ => ⟨fun x => by omega, fun _ x => absurd x c, fun _ _ => t1⟩), t2⟩
    · obtain ⟨r, ζ', t1, t2⟩ := ih f an wo (j + 1) ζ (by omega) (by omega) (by omega) h hM hZ hw (by
        rcases hi with ⟨i1, i2⟩ | ⟨i1, i2, i3⟩
        · exact Or.inl ⟨i1, i2.skip q⟩
        · exact Or.inr ⟨i1, i2.skip q, i3⟩)
      exact ⟨r, ζ', top _ (fun _ => t1) (fun x y => absurd ⟨x, y⟩ q), t2⟩
def A_worst (ξ : Int → Int → Int) (n s r : Int) : Prop := (okNS ξ n s ∧ WH ξ → ∀ T, WT ξ n s T (ξ 23 11) → LE ξ T n (ξ 23 11) r) ∧ (¬ (okNS ξ n s ∧ WH ξ) → r = -9000000000000000000)
theorem LE_T (hT : TB ξ) (f0 : 0 ≤ fr) {r : Int} (hw : WT ξ fr st T (ξ 23 11)) (hw' : WT ξ fr st ζ (ξ 23 11)) (h : LE ξ ζ fr (ξ 23 11) r) : LE ξ T fr (ξ 23 11) r := by
  have e : ∀ m, fr ≤ m → m < ξ 23 11 → T 43 m = ζ 43 m ∧ (T 43 m = 1 → tot ξ T m = tot ξ ζ m) := fun m a b => by
    have u := hw.uniq hT f0 hw' m.toNat m (by omega) b
    refine ⟨u.1, fun q => ?_⟩
    unfold tot
    rw [(u.2 q).1, (u.2 q).2.1]
  obtain ⟨⟨m, m1, m2, m3⟩, h2⟩ := h
  have em := e m m1.1 m1.2
  refine ⟨⟨m, m1, ⟨by rw [em.1]; exact m2.1, m2.2⟩, by rw [em.2 (by rw [em.1]; exact m2.1)]; exact m3⟩, fun k a b c => ?_⟩
  have ek := e k a b
  rw [ek.2 c.1]
  exact h2 k a b ⟨by rw [← ek.1]; exact c.1, c.2⟩
theorem Y8_worst (hB : LB ξ) (hT : TB ξ) (hK : MK ξ ζ) (hn : R3 n) (hs : R3 s) : ∃ r ζ', F_X8_worst (b0 + 23) n s (S b0 σ ζ) = some (r, S b0 σ ζ') ∧ A_worst ξ n s r ∧ MK ξ ζ' ∧ Ch scrV ζ ζ' := by
  have n81 := hT.2.2.1
  by_cases ok : okNS ξ n s ∧ WH ξ
  · have o1 := ok.1.1.1
    have o2 := ok.1.1.2
    have o3 := ok.1.2.1
    have o4 := ok.1.2.2
    obtain ⟨ζ1, q1, q2, q3, q4, q5, q6⟩ := X8_walk (b0 := b0) (σ := σ) (st := s) (fr := n) hB hT o3 (by omega) o1 (by omega) hK.1.1 hK.1.2.1 hK.1.2.2.1
    obtain ⟨r, ζ2, t1, t2, t3, t4, t5⟩ := worst_loop (b0 := b0) (σ := σ) hB hT o1 (by omega) o3 (by omega) (ξ 23 11 - n).toNat fu 0 0 n ζ1 (fuN (by omega)) (Int.le_refl _) (by omega) (hK.1.1.trans (Cf_scrV q2)) q3 q4 q5 (Or.inl ⟨rfl, fun m a b => by omega⟩)
    have c2 : Ch scrV ζ ζ2 := q2.trans (t2.mono (fun d k q => Or.inl q))
    refine ⟨r, ζ2, ?_, ⟨fun _ T hT' => ?_, fun h => absurd ok h⟩, MK_chM hK (c2.mono scrVM) t3 t4, c2⟩
    · rw [F_X8_worst]
      refine evd (iS_23.trans (K_isNode hT hK.1.1 hn)) (ev_if (fun h => absurd ok.1.1 h) (fun _ => ?_))
      refine evd (iS_23.trans (K_isState hB hK.1.1 hs)) (ev_if (fun h => absurd ok.1.2 h) (fun _ => ?_))
      refine evd (iS_23.trans (K_isWhole hB hT hK.1.1)) (ev_if (fun h => absurd ok.2 h) (fun _ => ?_))
      exact evd (iS_23.trans q1) t1
    · rcases t5 with t5 | t5
      · exact absurd t5 (has_end hT ok.2 o1 (by omega) q5)
      · exact LE_T hT o1 hT' q5 t5
  · refine ⟨_, ζ, ?_, ⟨fun h => absurd h ok, fun _ => rfl⟩, hK, Ch.rf⟩
    rw [F_X8_worst]
    refine evd (iS_23.trans (K_isNode hT hK.1.1 hn)) (ev_if (fun h => rfl) (fun h1 => ?_))
    refine evd (iS_23.trans (K_isState hB hK.1.1 hs)) (ev_if (fun h => rfl) (fun h2 => ?_))
    exact evd (iS_23.trans (K_isWhole hB hT hK.1.1)) (ev_if (fun h => rfl) (fun h3 => absurd ⟨⟨h1, h2⟩, h3⟩ ok))
end W15
