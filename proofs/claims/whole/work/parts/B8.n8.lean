theorem cmpL_eq {γ : Type} {a b : Int} {T E z : Option γ} (kT : a = b → T = z) (kE : ¬ a = b → E = z) : bEq (cmpL a b) 0 T E = z := by
  unfold cmpL
  by_cases h : a > b
  · rw [if_pos h]; exact ev_bEq (by omega) (by omega) (by omega) (by omega) (fun hc => absurd hc (by omega)) (fun _ => kE (by omega))
  · rw [if_neg h]
    by_cases e : a = b
    · rw [if_pos e]; exact ev_bEq (by omega) (by omega) (by omega) (by omega) (fun _ => kT (by omega)) (fun hc => absurd hc (by omega))
    · rw [if_neg e]; exact ev_bEq (by omega) (by omega) (by omega) (by omega) (fun hc => absurd hc (by omega)) (fun _ => kE (by omega))
section N8
variable {b0 : Int} {σ τ σ' : Hp} {ξ ζ η : Int → Int → Int} {a b c i l m n v j w s L p q le : Int}
theorem KI.rows (h : KI b0 ξ σ) (n0 : 0 ≤ n) (n1 : n < ξ 23 11) (hf : gf σ (ξ 10 n) 10 = ξ 15 2) : (0 ≤ gf σ (ξ 10 n) 8 ∧ ob b0 σ (gf σ (ξ 10 n) 8) 12 (ZZ ξ)) ∧ (0 ≤ gf σ (ξ 10 n) 9 ∧ ob b0 σ (gf σ (ξ 10 n) 9) 12 (ZZ ξ)) ∧ gf σ (ξ 10 n) 8 ≠ gf σ (ξ 10 n) 9 := by
  have ln' := h.1.lv n0 n1
  obtain ⟨z1, z2, z3⟩ := (h.2.1.2 n ln').2 n1 hf
  rcases h.1.2.2.2.2.1.2.2.1 n ln' with x | ⟨l, x1, x2, x3, x4⟩
  · omega
  · have el : l = ZZ ξ := x2.2.2.1.symm.trans z2
    subst el
    exact ⟨x2, x3, x4⟩
theorem KI_row {k : Int} (h : KI b0 ξ σ) (n0 : 0 ≤ n) (n1 : n < ξ 23 11) (hf : gf σ (ξ 10 n) 10 = ξ 15 2) (hk : (k = 8 ∧ v = VV ξ (lft ξ n) n s) ∨ (k = 9 ∧ v = MV ξ n s)) : KI b0 ξ (wr σ (gf σ (ξ 10 n) k) s v) := by
  have rw8 := h.rows n0 n1 hf
  obtain ⟨hK, hC, hM⟩ := id h
  have ln' := hK.lv n0 n1
  have kp : kd σ (gf σ (ξ 10 n) k) = 12 := by
    rcases hk with ⟨rfl, _⟩ | ⟨rfl, _⟩
    · exact rw8.1.2.1
    · exact rw8.2.1.2.1
  obtain ⟨hB, hT, hV, hE, hS, hN⟩ := id hK
  have hK' : KB b0 ξ (wr σ (gf σ (ξ 10 n) k) s v) := ⟨hB, hT, hV, hE, NS_wr hS (fun e => by omega), NL_wr hS hT.2.2.1.2 hN (Or.inr kp)⟩
  have e : ∀ m j, lv ξ m → gf (wr σ (gf σ (ξ 10 n) k) s v) (ξ 10 m) j = gf σ (ξ 10 m) j := fun m j hm => gf_wr_ne (Or.inl (fun x => by
    have := (hS.1 m hm).1.1
    rw [x] at this
    omega))
  obtain ⟨cn, r1, r2, r3⟩ := hM
  refine ⟨hK', ⟨hC.1, fun m hm => ?_⟩, ⟨cn, fun m m0 m1 => ?_, r2, r3⟩⟩
  · obtain ⟨q1, q2⟩ := hC.2 m hm
    unfold CMn
    rw [e m 10 hm, e m 8 hm, e m 9 hm, ln_wr]
    refine ⟨q1, fun x y => ?_⟩
    obtain ⟨z1, z2, z3⟩ := q2 x y
    refine ⟨z1, z2, fun t t0 t1 => ?_⟩
    have zt := z3 t t0 t1
    rw [gf_wr, gf_wr]
    by_cases em : m = n
    · subst em
      rcases hk with ⟨rfl, hv⟩ | ⟨rfl, hv⟩
      · rw [if_neg (show ¬ (gf σ (ξ 10 m) 9 = gf σ (ξ 10 m) 8 ∧ t = s) from fun x => rw8.2.2 x.1.symm)]
        refine ⟨?_, zt.2⟩
        by_cases et : t = s
        · rw [if_pos ⟨rfl, et⟩, et]; exact Or.inr hv
        · rw [if_neg (fun x => et x.2)]; exact zt.1
      · rw [if_neg (show ¬ (gf σ (ξ 10 m) 8 = gf σ (ξ 10 m) 9 ∧ t = s) from fun x => rw8.2.2 x.1)]
        refine ⟨zt.1, ?_⟩
        by_cases et : t = s
        · rw [if_pos ⟨rfl, et⟩, et]; exact Or.inr hv
        · rw [if_neg (fun x => et x.2)]; exact zt.2
    · have d1 := hS.2.2.2.1 m n hm ln' em z1 rw8.1.1
      have d2 := hS.2.2.2.1 n m ln' hm (fun x => em x.symm) rw8.1.1 z1
      rcases hk with ⟨rfl, hv⟩ | ⟨rfl, hv⟩
      · rw [if_neg (fun x => d1.1 x.1), if_neg (fun x => d2.2.2 x.1.symm)]
        exact zt
      · rw [if_neg (fun x => d1.2.2 x.1), if_neg (fun x => d1.2.1 x.1)]
        exact zt
  · obtain ⟨q1, q2, q3⟩ := r1 m m0 m1
    refine ⟨q1, fun x => ?_, q3⟩
    rw [e m 8 ⟨⟨m0, m1⟩, x⟩, ln_wr]
    exact q2 x
theorem Fp_row {k : Int} (h : KI b0 ξ σ) (n0 : 0 ≤ n) (n1 : n < ξ 23 11) (hf : gf σ (ξ 10 n) 10 = ξ 15 2) (hk : k = 8 ∨ k = 9) : Fp m ξ σ (wr σ (gf σ (ξ 10 n) k) s v) := by
  have rw8 := h.rows n0 n1 hf
  have kp : kd σ (gf σ (ξ 10 n) k) = 12 := by
    rcases hk with rfl | rfl
    · exact rw8.1.2.1
    · exact rw8.2.1.2.1
  intro m j hm _ _ _
  refine gf_wr_ne (Or.inl (fun x => ?_))
  have := (h.1.2.2.2.2.1.1 m hm).1.1
  rw [x] at this
  omega
theorem dg_0 : dg 0 0 = 0 ∧ dg 0 1 = 0 ∧ dg 0 2 = 0 := by decide
theorem flS0_bd (hB : LB ξ) (hT : TB ξ) (c0 : 0 ≤ c) (c1 : c < 81) : 0 ≤ flS ξ c s 0 ∧ flS ξ c s 0 < ZZ ξ := by
  have hI := hT.2.2.2.2.2.2
  have m0 := ms_bd (s := s) hB (i := 0) (by omega) (by omega)
  have m1 := ms_bd (s := s) hB (i := 1) (by omega) (by omega)
  have m2 := ms_bd (s := s) hB (i := 2) (by omega) (by omega)
  unfold flS
  rw [flw_g, dg_0.1, dg_0.2.1, dg_0.2.2]
  exact gfl_bd hB (hI _ (by omega) (by omega)).1 (hI _ (by omega) (by omega)).1 (hI _ (by omega) (by omega)).1 (by omega) (by omega) (by omega)
theorem rk_wsm (hT : TB ξ) (n0 : 0 ≤ n) (n1 : n < ξ 23 11) : rk ξ n (ξ 23 11) ≤ wsm ξ n := by
  rw [wsm_from hT n0 n1]
  unfold rk
  refine sf_le _ _ (fun i a b => ?_)
  unfold rkf wof
  by_cases e : ξ 31 i = n
  · rw [if_pos e, if_pos e]
    exact (hT.2.2.2.2.2.1 i (by omega) (by omega)).2.2.2.2.1
  · rw [if_neg e, if_neg e]; exact Int.le_refl _
/-- what a search may ask of the nodes behind -/
def RC (b0 : Int) (ξ : Int → Int → Int) (rec : Int → Int → Int → Int → Hp → Option (Int × Hp)) (n : Int) (k : Nat) : Prop := ∀ c s σ ζ, n < c → c < ξ 23 11 → ξ 31 c = n → 0 ≤ s → s < ZZ ξ → KI b0 ξ σ → Ch scrC ξ ζ → ∃ σ' ζ', rec (b0 + 15) (ξ 10 c) s (k : Int) (S b0 σ ζ) = some (VV ξ k c s, S b0 σ' ζ') ∧ KI b0 ξ σ' ∧ Ch scrC ξ ζ' ∧ Fp c ξ σ σ'
theorem X6_meanOf {rec : Int → Int → Int → Int → Hp → Option (Int × Hp)} {k : Nat} (h : KI b0 ξ σ) (hc : Ch scrC ξ ζ) (hW : WH ξ) (n0 : 0 ≤ n) (n1 : n < ξ 23 11) (hk : lft ξ n = k + 1) (hle : le = k + 1) (s0 : 0 ≤ s) (s1 : s < ZZ ξ) (hr : RC b0 ξ rec n k) : ∃ σ' ζ', F_X6_meanOfChildren rec (b0 + 15) (ξ 10 n) s le (S b0 σ ζ) = some (MV ξ n s, S b0 σ' ζ') ∧ KI b0 ξ σ' ∧ Ch scrC ξ ζ' ∧ Fp (n + 1) ξ σ σ' := by
  have hT := h.1.2.1
  have hB := h.1.1
  have hz := ZZ_le hB
  have n81 := hT.2.2.1
  have d6 := hT.2.1
  have wk := hT.week n0 n1
  have wn : wsm ξ n = ξ 23 9 := hW.2 n n0 n1 (by unfold lft at hk; omega)
  have r6 := rk_wsm hT n0 n1
  have key : ∀ (m f : Nat) (p a : Int) (σ : Hp) (ζ : Int → Int → Int), KI b0 ξ σ → Ch scrC ξ ζ → m < f → n + 1 ≤ p → p + m = ξ 23 11 → ∃ σ' ζ', F_X6_meanOfChildren_L6 rec (b0 + 15) (ξ 10 n) s le f a (rk ξ n p) (S b0 σ ζ) = some (a + sf (cof ξ n (fun c => VV ξ k c (flS ξ c s 0))) p m, S b0 σ' ζ') ∧ KI b0 ξ σ' ∧ Ch scrC ξ ζ' ∧ Fp (n + 1) ξ σ σ' := by
    intro m
    induction m with
    | zero =>
      intro f p a σ ζ K hc hf p0 he
      obtain ⟨f, rfl⟩ : ∃ g, f = g + 1 := ⟨f - 1, by omega⟩
      have e : p = ξ 23 11 := by omega
      subst e
      have hn := K.1.2.2.2.2.2.2.2 n n0 n1
      have r0 := rk_mono (ξ := ξ) (n := n) (p := n + 1) (q := ξ 23 11) (by omega) (by omega)
      rw [rk_0] at r0
      refine ⟨σ, ζ, ?_, K, hc, Fp.rf⟩
      rw [F_X6_meanOfChildren_L6]
      refine ev (rd_o (K.1.nd n0 n1)) ?_
      rw [hn.2.2.2.1]
      refine ev_bLt (by omega) (by omega) (by omega) (by omega) (fun q => by omega) (fun q => ev_end ?_ rfl)
      rw [sf]; omega
    | succ m ih =>
      intro f p a σ ζ K hc hf p0 he
      by_cases e : ξ 31 p = n
      · obtain ⟨f, rfl⟩ : ∃ g, f = g + 1 := ⟨f - 1, by omega⟩
        have rs := rk_s (ξ := ξ) (n := n) (p := p) p0
        have rf1 : rkf ξ n p = 1 := if_pos e
        have rm := rk_mono (ξ := ξ) (n := n) (p := p + 1) (q := ξ 23 11) (by omega) (by omega)
        have r0 := rk_mono (ξ := ξ) (n := n) (p := n + 1) (q := p) (by omega) (by omega)
        rw [rk_0] at r0
        have hn := K.1.2.2.2.2.2.2.2 n n0 n1
        have hp := K.1.2.2.2.2.2.2.2 p (by omega) (by omega)
        have on := K.1.nd n0 n1
        have op := K.1.nd (n := p) (by omega) (by omega)
        have lp := K.1.lv (n := p) (by omega) (by omega)
        have tp := hT.2.2.2.2.2.1 p (by omega) (by omega)
        have fb := flS0_bd (s := s) (c := p) hB hT (by omega) (by omega)
        have hc1 : Ch scrC ξ (xu ζ 1 3 (spS ξ p s 0)) := Ch_xu (Or.inl ⟨rfl, rfl⟩) hc
        obtain ⟨σ1, ζ1, t1, t2, t3, t4⟩ := hr p (flS ξ p s 0) σ _ (by omega) (by omega) e fb.1 fb.2 K hc1
        obtain ⟨σ', ζ', u1, u2, u3, u4⟩ := ih f (p + 1) (a + ξ 32 p * VV ξ k p (flS ξ p s 0)) σ1 ζ1 t2 t3 (by omega) (by omega) (by omega)
        refine ⟨σ', ζ', ?_, u2, u3, (t4.mono (by omega)).trans u4⟩
        rw [F_X6_meanOfChildren_L6]
        refine ev (rd_o on) ?_
        rw [hn.2.2.2.1]
        refine ev_bLt (by omega) (by omega) (by omega) (by omega) (fun q => ?_) (fun q => by omega)
        refine evd ((iv_o on).trans (X1_childAt K.1 n0 n1 (by omega) ⟨by omega, by omega⟩)) ?_
        rw [if_pos (by omega), hn.2.2.2.2.2.2 p (by omega) (by omega) e]
        have lp2 := lp.2
        refine ev_bN (fun q => by omega) (fun q => ?_)
        refine ev (rd_o op) ?_
        rw [hp.2.1 (by omega)]
        refine ev_g3 (by omega) (by omega) ?_
        refine ev rS_15_0 ?_
        refine ev (rd_o op) ?_
        refine evd (iS_1.trans (C_flow K.1 hc (by omega) (by omega) s0 (by omega) (by omega) (by omega))) ?_
        rw [show le - 1 = (k : Int) by omega]
        refine evd (iS_15.trans t1) ?_
        refine evn ?_
        rw [rs, rf1] at u1
        refine Eq.trans u1 (ev_end ?_ rfl)
        rw [sf, show cof ξ n (fun c => VV ξ k c (flS ξ c s 0)) p = ξ 32 p * VV ξ k p (flS ξ p s 0) from if_pos e]
        omega
      · have rs := rk_s (ξ := ξ) (n := n) (p := p) p0
        have rf1 : rkf ξ n p = 0 := if_neg e
        obtain ⟨σ', ζ', u1, u2⟩ := ih f (p + 1) a σ ζ K hc (by omega) (by omega) (by omega)
        refine ⟨σ', ζ', ?_, u2⟩
        rw [rs, rf1, Int.add_zero] at u1
        rw [u1, sf, show cof ξ n (fun c => VV ξ k c (flS ξ c s 0)) p = 0 from if_neg e, Int.zero_add]
  obtain ⟨σ', ζ', u1, u2⟩ := key (ξ 23 11 - (n + 1)).toNat fu (n + 1) 0 σ ζ h hc (fuN (by omega)) (Int.le_refl _) (by omega)
  refine ⟨σ', ζ', ?_, u2⟩
  rw [F_X6_meanOfChildren]
  rw [rk_0] at u1
  rw [u1, Int.zero_add]
  unfold MV csm
  rw [hk, show k + 1 - 1 = k by omega]
theorem MV_bd {k : Nat} (hB : LB ξ) (hT : TB ξ) (hW : WH ξ) (n0 : 0 ≤ n) (n1 : n < ξ 23 11) (hk : lft ξ n = k + 1) : 0 ≤ MV ξ n s ∧ MV ξ n s < 9000000000000000 := by
  have d6 := hT.2.1
  have wk := hT.week n0 n1
  have wn : wsm ξ n = ξ 23 9 := hW.2 n n0 n1 (by unfold lft at hk; omega)
  have l10 := lft_le hT n0 n1
  have m1 := BD_mono (show k + 1 ≤ 10 by omega)
  have b10 := BD_10
  have bs := BD_s k
  have bn := BD_nn k
  have pw : (0 : Int) ≤ 6 ^ (k + 1) * 8100 := Int.mul_nonneg (Int.pow_nonneg (by omega)) (by omega)
  have cb := csm_bd (ξ := ξ) hT (g := fun c => VV ξ (lft ξ n - 1) c (flS ξ c s 0)) (M := BD k) n0 n1 bn (fun c x y z => by
    have lc := lft_child hT (c := c) (by omega) y z
    rw [show lft ξ n - 1 = k by omega]
    exact VV_bd hB hT hW k c _ (by omega) y (by omega))
  rw [wn] at cb
  have mm : ξ 23 9 * BD k ≤ 6 * BD k := Int.mul_le_mul_of_nonneg_right (by omega) bn
  unfold MV
  omega
theorem X6_meanFrom {rec : Int → Int → Int → Int → Hp → Option (Int × Hp)} {k : Nat} (h : KI b0 ξ σ) (hc : Ch scrC ξ ζ) (hW : WH ξ) (n0 : 0 ≤ n) (n1 : n < ξ 23 11) (hf : gf σ (ξ 10 n) 10 = ξ 15 2) (hk : lft ξ n = k + 1) (hle : le = k + 1) (s0 : 0 ≤ s) (s1 : s < ZZ ξ) (hr : RC b0 ξ rec n k) : ∃ σ' ζ', F_X6_meanFrom rec (b0 + 15) (ξ 10 n) s le (S b0 σ ζ) = some (MV ξ n s, S b0 σ' ζ') ∧ KI b0 ξ σ' ∧ Ch scrC ξ ζ' ∧ Fp (n + 1) ξ σ σ' := by
  have hT := h.1.2.1
  have hB := h.1.1
  have hz := ZZ_le hB
  have on := h.1.nd n0 n1
  have ln' := h.1.lv n0 n1
  have rw9 := h.rows n0 n1 hf
  have ent := (((h.2.1.2 n ln').2 n1 hf).2.2 s s0 s1).2
  have mb := MV_bd (s := s) hB hT hW n0 n1 hk
  have eb : -1 ≤ gf σ (gf σ (ξ 10 n) 9) s ∧ gf σ (gf σ (ξ 10 n) 9) s < 9000000000000000 := by
    rcases ent with x | x <;> omega
  have top : ∀ z, (gf σ (gf σ (ξ 10 n) 9) s = -1 → (bd (iv 7 (S b0 σ ζ) (b0 + 15) (F_X6_meanOfChildren rec (b0 + 15) (ξ 10 n) s le (S b0 σ ζ))) fun jv4 σ5 => (aw 12 σ5 (gf σ (ξ 10 n) 9) s jv4).bind fun σ6 => F_X6_meanFrom_B46 rec s (gf σ (ξ 10 n) 9) σ6) = z) → (¬ gf σ (gf σ (ξ 10 n) 9) s = -1 → some (gf σ (gf σ (ξ 10 n) 9) s, S b0 σ ζ) = z) → F_X6_meanFrom rec (b0 + 15) (ξ 10 n) s le (S b0 σ ζ) = z := by
    intro z z1 z2
    rw [F_X6_meanFrom]
    refine ev (rd_o on) ?_
    refine ev_bN (fun q => by omega) (fun _ => ?_)
    refine ev_bLt (by omega) (by omega) (by omega) (by omega) (fun q => by omega) (fun _ => ?_)
    refine ev (al_o rw9.2.1.2 (by omega)) ?_
    refine ev_bLt (by omega) (by omega) (by omega) (by omega) (fun _ => ?_) (fun q => by omega)
    refine ev (ar_o rw9.2.1.2 s0 s1 (by omega)) ?_
    refine ev_g66 (by omega) (by omega) (by omega) (by omega) ?_
    refine cmpL_eq (fun q => z1 q) (fun q => ?_)
    rw [F_X6_meanFrom_B46]
    exact ev (ar_o rw9.2.1.2 s0 s1 (by omega)) (z2 q)
  by_cases e : gf σ (gf σ (ξ 10 n) 9) s = -1
  · obtain ⟨σ1, ζ1, t1, t2, t3, t4⟩ := X6_meanOf h hc hW n0 n1 hk hle s0 s1 hr
    have f1 : gf σ1 (ξ 10 n) 10 = ξ 15 2 := (t4 n 10 ln' (by omega) (by omega) (by omega)).trans hf
    have p1 : gf σ1 (ξ 10 n) 9 = gf σ (ξ 10 n) 9 := t4 n 9 ln' (by omega) (by omega) (by omega)
    have r1 := t2.rows n0 n1 f1
    have k1 := KI_row (k := 9) (s := s) t2 n0 n1 f1 (Or.inr ⟨rfl, rfl⟩)
    have fp := Fp_row (k := 9) (s := s) (v := MV ξ n s) (m := n + 1) t2 n0 n1 f1 (by omega)
    rw [p1] at r1 k1 fp
    refine ⟨wr σ1 (gf σ (ξ 10 n) 9) s (MV ξ n s), ζ1, top _ (fun _ => ?_) (fun x => absurd e x), k1, t3, t4.trans fp⟩
    refine evd (iS_15.trans t1) ?_
    refine ev (aw_o r1.2.1.2 s0 s1 (by omega)) ?_
    rw [F_X6_meanFrom_B46]
    refine ev (ar_o (ob_wr r1.2.1.2) s0 s1 (by omega)) ?_
    rw [gf_wr_s]
  · refine ⟨σ, ζ, top _ (fun x => absurd x e) (fun _ => ?_), h, hc, Fp.rf⟩
    rcases ent with x | x
    · exact absurd x e
    · rw [x]
end N8
