section N3
variable {b0 : Int} {σ τ : Hp} {ξ ζ η : Int → Int → Int} {a b c i k l m n v j w s L fr st : Int}
theorem go_clear {fa : Int} (h : KI b0 ξ σ) (hc : Ch scrC ξ ζ) : ∀ (m f : Nat) (j : Int) (σ : Hp), KI b0 ξ σ → m < f → 0 ≤ j → j + m = ξ 23 11 → (∀ n, 0 ≤ n → n < j → tab σ ξ 43 n = 0) → ∃ (f' : Nat) (σ' : Hp), F_X5_go_L7 (b0 + 16) fa st f j (S b0 σ ζ) = F_X5_go_L7 (b0 + 16) fa st (f' + 1) (ξ 23 11) (S b0 σ' ζ) ∧ KI b0 ξ σ' ∧ ∀ n, 0 ≤ n → n < ξ 23 11 → tab σ' ξ 43 n = 0 := by
  intro m
  have hm := h.1.made hc
  have n81 := h.1.2.1.2.2.1
  induction m with
  | zero =>
    intro f j σ hK hf j0 he hz
    refine ⟨f - 1, σ, ?_, hK, fun n a b => hz n a (by omega)⟩
    rw [show f - 1 + 1 = f by omega, show j = ξ 23 11 by omega]
  | succ m ih =>
    intro f j σ hK hf j0 he hz
    obtain ⟨f, rfl⟩ : ∃ g, f = g + 1 := ⟨f - 1, by omega⟩
    have on := hK.1.nd (n := j) j0 (by omega)
    have lj := hK.1.lv (n := j) j0 (by omega)
    obtain ⟨f', σ', r1, r2⟩ := ih f (j + 1) (wr σ (ξ 10 j) 11 0) (KI_wr hK on.1 (by omega)) (by omega) (by omega) (by omega) (fun n a b => by
      rw [tab_wr hK.1 lj (hK.1.lv a (by omega))]
      by_cases e : n = j
      · rw [if_pos ⟨e, rfl⟩]
      · rw [if_neg (fun x => e x.1)]
        exact hz n a (by omega))
    refine ⟨f', σ', ?_, r2⟩
    refine Eq.trans ?_ r1
    rw [F_X5_go_L7]
    refine ev rS_16_1 ?_
    refine ev rS_9_2 ?_
    rw [hm.1]
    refine ev_bLt (by omega) (by omega) (by omega) (by omega) (fun q => ?_) (fun q => by omega)
    refine ev rS_16_1 ?_
    refine ev rS_9_0 ?_
    refine ev (aS_10 (by omega) (by omega)) ?_
    rw [hm.2.2.2.1]
    exact ev (pz_o on (by omega)) rfl
/-- the walk, gone as far as a node -/
def CW (ξ : Int → Int → Int) (fr st : Int) (T : Int → Int → Int) (j : Int) : Prop := WT ξ fr st T j ∧ (∀ n, fr < n → n < j → T 43 (ξ 31 n) = 1 → T 99 n = T 99 (ξ 31 n) * ξ 32 n) ∧ (∀ n, j ≤ n → n < ξ 23 11 → T 43 n = if n = fr then 1 else 0) ∧ T 44 fr = st ∧ T 45 fr = 0 ∧ T 46 fr = 0 ∧ T 99 fr = 1
theorem go_loop (hc0 : Ch scrC ξ ζ) (h0 : KI b0 ξ σ) (f0 : 0 ≤ fr) (f1 : fr < ξ 23 11) (s0 : 0 ≤ st) (s1 : st < ZZ ξ) : ∀ (m f : Nat) (j : Int) (σ : Hp) (ζ : Int → Int → Int), KI b0 ξ σ → Ch scrC ξ ζ → m < f → 1 ≤ j → j + m = ξ 23 11 → CW ξ fr st (tab σ ξ) j → ∃ σ' ζ', F_X5_go_L64 (b0 + 16) f j (S b0 σ ζ) = some (0, S b0 σ' ζ') ∧ KI b0 ξ σ' ∧ Ch scrC ξ ζ' ∧ CW ξ fr st (tab σ' ξ) (ξ 23 11) := by
  intro m
  have hB := h0.1.1
  have hT := h0.1.2.1
  have n81 := hT.2.2.1
  induction m with
  | zero =>
    intro f j σ ζ hK hc hf j0 he hw
    obtain ⟨f, rfl⟩ : ∃ g, f = g + 1 := ⟨f - 1, by omega⟩
    have hm := hK.1.made hc
    have e : j = ξ 23 11 := by omega
    subst e
    refine ⟨σ, ζ, ?_, hK, hc, hw⟩
    rw [F_X5_go_L64]
    refine ev rS_16_1 ?_
    refine ev rS_9_2 ?_
    rw [hm.1]
    exact ev_bLt (by omega) (by omega) (by omega) (by omega) (fun q => by omega) (fun q => rfl)
  | succ m ih =>
    intro f j σ ζ hK hc hf j0 he hw
    obtain ⟨f, rfl⟩ : ∃ g, f = g + 1 := ⟨f - 1, by omega⟩
    have hm := hK.1.made hc
    have on := hK.1.nd (n := j) (by omega) (by omega)
    have lj := hK.1.lv (n := j) (by omega) (by omega)
    have par := hT.par (n := j) (by omega) (by omega)
    have p0 := par.2.2 (by omega)
    have op := hK.1.nd (n := ξ 31 j) p0 (by omega)
    have lp := hK.1.lv (n := ξ 31 j) p0 (by omega)
    have hNn := hK.1.2.2.2.2.2.2.2 j (by omega) (by omega)
    have h3 : gf σ (ξ 10 j) 3 = ξ 10 (ξ 31 j) := by rw [hNn.1, if_neg (by omega)]
    obtain ⟨w1, w2, w3, w4, w5, w6, w7⟩ := hw
    have b43 := (w1 (ξ 31 j) p0 (by omega)).1
    have t43 : tab σ ξ 43 (ξ 31 j) = gf σ (ξ 10 (ξ 31 j)) 11 := rfl
    have top : ∀ z, (tab σ ξ 43 (ξ 31 j) = 0 → F_X5_go_L64 (b0 + 16) f (j + 1) (S b0 σ ζ) = z) → (tab σ ξ 43 (ξ 31 j) = 1 → bd (iv 6 (S b0 σ ζ) (b0 + 16) (F_X5_stepTo (b0 + 16) (ξ 10 j) (ξ 10 (ξ 31 j)) (S b0 σ ζ))) (fun jv21 σ22 => F_X5_go_L64 (b0 + 16) f (j + 1) σ22) = z) → F_X5_go_L64 (b0 + 16) (f + 1) j (S b0 σ ζ) = z := by
      intro z z1 z2
      rw [F_X5_go_L64]
      refine ev rS_16_1 ?_
      refine ev rS_9_2 ?_
      rw [hm.1]
      refine ev_bLt (by omega) (by omega) (by omega) (by omega) (fun q => ?_) (fun q => by omega)
      refine ev rS_16_1 ?_
      refine ev rS_9_0 ?_
      refine ev (aS_10 (by omega) (by omega)) ?_
      rw [hm.2.2.2.1]
      refine ev (rd_o on) ?_
      rw [h3]
      have hp0 := lp.2
      show (if ξ 10 (ξ 31 j) < 0 then _ else _) = _
      rw [if_neg (by omega)]
      refine ev (rd_o on) ?_
      rw [h3]
      refine ev (rd_o op) ?_
      rw [← t43]
      refine ev_bEq (by omega) (by omega) (by omega) (by omega) (fun q => z1 q) (fun q => ?_)
      refine ev (rd_o on) ?_
      rw [h3]
      exact z2 (by omega)
    by_cases e : tab σ ξ 43 (ξ 31 j) = 1
    · obtain ⟨g0, g1, _, g3⟩ := w1.bd hB hT (by omega) s0 s1 f0 (ξ 31 j).toNat (ξ 31 j) (by omega) (by omega) e
      obtain ⟨σ1, ζ1, r1, r2, r3, r4, r5, r6, r7, r8, r9⟩ := X5_stepTo (p := ξ 31 j) hK hc (by omega) (by omega) rfl g1.1 g1.2 g3
      have jf : j ≠ fr := by omega
      have lf := hK.1.lv (n := fr) f0 f1
      have ol : ∀ n d, 0 ≤ n → n < ξ 23 11 → n ≠ j → tab σ1 ξ d n = tab σ ξ d n := fun n d a b q => r4 n d (hK.1.lv a b) q
      have hW1 : WT ξ fr st (tab σ1 ξ) j := by
        intro n a b
        have pn := hT.par (n := n) a (by omega)
        have q := w1 n a b
        by_cases z : n = 0
        · subst z
          unfold WTn at q ⊢
          rw [ol 0 43 a (by omega) (by omega), ol 0 44 a (by omega) (by omega), ol 0 45 a (by omega) (by omega), ol 0 46 a (by omega) (by omega)]
          refine ⟨q.1, ⟨fun x => ?_, fun x => ?_⟩, q.2.2.1, fun x => by omega⟩
          · rcases q.2.1.mp x with y | y
            · exact Or.inl y
            · omega
          · rcases x with y | y
            · exact q.2.1.mpr (Or.inl y)
            · omega
        · have pp := pn.2.2 (by omega)
          unfold WTn at q ⊢
          rw [ol n 43 a (by omega) (by omega), ol n 44 a (by omega) (by omega), ol n 45 a (by omega) (by omega), ol n 46 a (by omega) (by omega), ol (ξ 31 n) 43 pp (by omega) (by omega), ol (ξ 31 n) 44 pp (by omega) (by omega), ol (ξ 31 n) 45 pp (by omega) (by omega), ol (ξ 31 n) 46 pp (by omega) (by omega)]
          exact q
      obtain ⟨σ', ζ', t1, t2⟩ := ih f (j + 1) σ1 ζ1 r2 r3 (by omega) (by omega) (by omega) ⟨fun n a b => by
        by_cases q : n = j
        · subst q
          unfold WTn
          rw [ol (ξ 31 n) 43 p0 (by omega) (by omega), ol (ξ 31 n) 44 p0 (by omega) (by omega), ol (ξ 31 n) 45 p0 (by omega) (by omega), ol (ξ 31 n) 46 p0 (by omega) (by omega)]
          exact ⟨Or.inr r5, ⟨fun _ => Or.inr ⟨by omega, e⟩, fun _ => r5⟩, fun x => absurd x jf, fun _ _ => ⟨r6, r7, r9⟩⟩
        · exact hW1 n a (by omega), fun n a b x => by
        have pn := hT.par (n := n) (by omega) (by omega)
        have pp := pn.2.2 (by omega)
        by_cases q : n = j
        · subst q
          rw [ol (ξ 31 n) 99 p0 (by omega) (by omega)]
          exact r8
        · rw [ol (ξ 31 n) 43 pp (by omega) (by omega)] at x
          rw [ol n 99 (by omega) (by omega) q, ol (ξ 31 n) 99 pp (by omega) (by omega)]
          exact w2 n a (by omega) x, fun n a b => by
        rw [ol n 43 (by omega) b (by omega)]
        exact w3 n (by omega) b, by rw [ol fr 44 f0 f1 (by omega)]; exact w4, by rw [ol fr 45 f0 f1 (by omega)]; exact w5, by rw [ol fr 46 f0 f1 (by omega)]; exact w6, by rw [ol fr 99 f0 f1 (by omega)]; exact w7⟩
      exact ⟨σ', ζ', top _ (fun x => by omega) (fun _ => evd (iS_16.trans r1) t1), t2⟩
    · obtain ⟨σ', ζ', t1, t2⟩ := ih f (j + 1) σ ζ hK hc (by omega) (by omega) (by omega) ⟨fun n a b => by
        by_cases q : n = j
        · subst q
          have x := w3 n (Int.le_refl _) (by omega)
          by_cases nf : n = fr
          · rw [if_pos nf] at x
            refine ⟨Or.inr x, ⟨fun _ => Or.inl nf, fun _ => x⟩, fun _ => by rw [nf]; exact ⟨w4, w5, w6⟩, fun y => by omega⟩
          · rw [if_neg nf] at x
            refine ⟨Or.inl x, ⟨fun y => by omega, fun y => ?_⟩, fun y => absurd y nf, fun _ y => absurd y e⟩
            rcases y with y | y
            · exact absurd y nf
            · exact absurd y.2 e
        · exact w1 n a (by omega), fun n a b x => by
        by_cases q : n = j
        · subst q; exact absurd x e
        · exact w2 n a (by omega) x, fun n a b => w3 n (by omega) b, w4, w5, w6, w7⟩
      exact ⟨σ', ζ', top _ (fun _ => t1) (fun x => absurd x e), t2⟩
theorem X5_go (h : KI b0 ξ σ) (hc : Ch scrC ξ ζ) (f0 : 0 ≤ fr) (f1 : fr < ξ 23 11) (s0 : 0 ≤ st) (s1 : st < ZZ ξ) : ∃ σ' ζ', F_X5_go (b0 + 16) (ξ 10 fr) st (S b0 σ ζ) = some (0, S b0 σ' ζ') ∧ KI b0 ξ σ' ∧ Ch scrC ξ ζ' ∧ WT ξ fr st (tab σ' ξ) (ξ 23 11) ∧ SH ξ fr (tab σ' ξ) := by
  have hT := h.1.2.1
  have n81 := hT.2.2.1
  have hm := h.1.made hc
  have lf := h.1.lv (n := fr) f0 f1
  obtain ⟨f', σ1, r1, r2, r3⟩ := go_clear (fa := ξ 10 fr) (st := st) h hc (ξ 23 11).toNat fu 0 σ h (fuN (by omega)) (Int.le_refl _) (by omega) (fun n a b => by omega)
  have o1 := r2.1.nd f0 f1
  have K2 := KI_wr (k := 11) (v := 1) r2 o1.1 (by omega)
  have o2 := K2.1.nd f0 f1
  have K3 := KI_wr (k := 12) (v := st) K2 o2.1 (by omega)
  have o3 := K3.1.nd f0 f1
  have K4 := KI_wr (k := 13) (v := 0) K3 o3.1 (by omega)
  have o4 := K4.1.nd f0 f1
  have K5 := KI_wr (k := 14) (v := 1) K4 o4.1 (by omega)
  have o5 := K5.1.nd f0 f1
  have K6 := KI_wr (k := 15) (v := 0) K5 o5.1 (by omega)
  have tw : ∀ n d, 0 ≤ n → n < ξ 23 11 → tab (wr (wr (wr (wr (wr σ1 (ξ 10 fr) 11 1) (ξ 10 fr) 12 st) (ξ 10 fr) 13 0) (ξ 10 fr) 14 1) (ξ 10 fr) 15 0) ξ d n = if n = fr ∧ fld d = 15 then 0 else if n = fr ∧ fld d = 14 then 1 else if n = fr ∧ fld d = 13 then 0 else if n = fr ∧ fld d = 12 then st else if n = fr ∧ fld d = 11 then 1 else tab σ1 ξ d n := by
    intro n d a b
    have ln' := h.1.lv (n := n) a b
    rw [tab_wr K5.1 lf ln', tab_wr K4.1 lf ln', tab_wr K3.1 lf ln', tab_wr K2.1 lf ln', tab_wr r2.1 lf ln']
  have t43 : ∀ n, 0 ≤ n → n < ξ 23 11 → tab (wr (wr (wr (wr (wr σ1 (ξ 10 fr) 11 1) (ξ 10 fr) 12 st) (ξ 10 fr) 13 0) (ξ 10 fr) 14 1) (ξ 10 fr) 15 0) ξ 43 n = if n = fr then 1 else 0 := by
    intro n a b
    rw [tw n 43 a b, show fld 43 = 11 from rfl, r3 n a b]
    by_cases e : n = fr
    · simp [e]
    · simp [e]
  have t44 : tab (wr (wr (wr (wr (wr σ1 (ξ 10 fr) 11 1) (ξ 10 fr) 12 st) (ξ 10 fr) 13 0) (ξ 10 fr) 14 1) (ξ 10 fr) 15 0) ξ 44 fr = st := by
    rw [tw fr 44 f0 f1, show fld 44 = 12 from rfl]
    simp
  have t45 : tab (wr (wr (wr (wr (wr σ1 (ξ 10 fr) 11 1) (ξ 10 fr) 12 st) (ξ 10 fr) 13 0) (ξ 10 fr) 14 1) (ξ 10 fr) 15 0) ξ 45 fr = 0 := by
    rw [tw fr 45 f0 f1, show fld 45 = 13 from rfl]
    simp
  have t46 : tab (wr (wr (wr (wr (wr σ1 (ξ 10 fr) 11 1) (ξ 10 fr) 12 st) (ξ 10 fr) 13 0) (ξ 10 fr) 14 1) (ξ 10 fr) 15 0) ξ 46 fr = 0 := by
    rw [tw fr 46 f0 f1, show fld 46 = 15 from rfl]
    simp
  have t99 : tab (wr (wr (wr (wr (wr σ1 (ξ 10 fr) 11 1) (ξ 10 fr) 12 st) (ξ 10 fr) 13 0) (ξ 10 fr) 14 1) (ξ 10 fr) 15 0) ξ 99 fr = 1 := by
    rw [tw fr 99 f0 f1, show fld 99 = 14 from rfl]
    simp
  have tt : ∀ n, n = fr → tab (wr (wr (wr (wr (wr σ1 (ξ 10 fr) 11 1) (ξ 10 fr) 12 st) (ξ 10 fr) 13 0) (ξ 10 fr) 14 1) (ξ 10 fr) 15 0) ξ 44 n = st ∧ tab (wr (wr (wr (wr (wr σ1 (ξ 10 fr) 11 1) (ξ 10 fr) 12 st) (ξ 10 fr) 13 0) (ξ 10 fr) 14 1) (ξ 10 fr) 15 0) ξ 45 n = 0 ∧ tab (wr (wr (wr (wr (wr σ1 (ξ 10 fr) 11 1) (ξ 10 fr) 12 st) (ξ 10 fr) 13 0) (ξ 10 fr) 14 1) (ξ 10 fr) 15 0) ξ 46 n = 0 := fun n e => by
    rw [e]
    exact ⟨t44, t45, t46⟩
  obtain ⟨σ', ζ', u1, u2, u3, u4⟩ := go_loop (st := st) hc h f0 f1 s0 s1 (ξ 23 11 - 1).toNat fu 1 _ ζ K6 hc (fuN (by omega)) (Int.le_refl _) (by omega) ⟨fun n a b => by
    have e0 : n = 0 := by omega
    subst e0
    have x := t43 0 a (by omega)
    by_cases nf : 0 = fr
    · rw [if_pos nf] at x
      refine ⟨Or.inr x, ⟨fun _ => Or.inl nf, fun _ => x⟩, tt 0, fun y => by omega⟩
    · rw [if_neg nf] at x
      refine ⟨Or.inl x, ⟨fun y => by omega, fun y => ?_⟩, fun y => absurd y nf, fun y => by omega⟩
      rcases y with y | y
      · exact absurd y nf
      · omega, fun n a b => by omega, fun n a b => t43 n (by omega) b, t44, t45, t46, t99⟩
  refine ⟨σ', ζ', ?_, u2, u3, u4.1, u4.2.2.2.2.2.2, u4.2.1⟩
  rw [F_X5_go]
  have hp0 := lf.2
  show (if ξ 10 fr < 0 then _ else _) = _
  rw [if_neg (by omega), r1, F_X5_go_L7]
  refine ev rS_16_1 ?_
  refine ev rS_9_2 ?_
  rw [hm.1]
  refine ev_bLt (by omega) (by omega) (by omega) (by omega) (fun q => by omega) (fun q => ?_)
  refine ev (pz_o o1 (by omega)) ?_
  refine ev (pw_o o2) ?_
  refine ev (pw_o o3) ?_
  refine ev (pw_o o4) ?_
  exact ev (pz_o o5 (by omega)) u1
end N3
