section Q3
variable {b0 : Int} {σ τ σ' : Hp} {ξ ζ η ζc ζm ζ1 ξ' ξa : Int → Int → Int} {a b c i k l m n v j w s L p q le r x t t' mm fr st g e u d N A wt nl ip cp ws wk : Int}
def B8 (σ : Hp) (p q cp r wt ws wk : Int) : Hp := wr (wr (wr (wr (wr (wr (wr (wr σ p 6 0) p 7 0) p 3 q) p 4 wt) p 5 (wk + 1)) cp r p) q 6 (r + 1)) q 7 (ws + wt)
theorem B8_gf : gf (B8 σ p q cp r wt ws wk) a k = if a = q ∧ k = 7 then ws + wt else if a = q ∧ k = 6 then r + 1 else if a = cp ∧ k = r then p else if a = p ∧ k = 5 then wk + 1 else if a = p ∧ k = 4 then wt else if a = p ∧ k = 3 then q else if a = p ∧ k = 7 then 0 else if a = p ∧ k = 6 then 0 else gf σ a k := by
  unfold B8
  rw [gf_wr, gf_wr, gf_wr, gf_wr, gf_wr, gf_wr, gf_wr, gf_wr]
theorem B8_k : kd (B8 σ p q cp r wt ws wk) a = kd σ a ∧ ln (B8 σ p q cp r wt ws wk) a = ln σ a := by
  unfold B8
  exact ⟨by rw [kd_wr, kd_wr, kd_wr, kd_wr, kd_wr, kd_wr, kd_wr, kd_wr], by rw [ln_wr, ln_wr, ln_wr, ln_wr, ln_wr, ln_wr, ln_wr, ln_wr]⟩
theorem ob_B8 (h : ob b0 σ a c l) : ob b0 (B8 σ p q cp r wt ws wk) a c l := ob_wr (ob_wr (ob_wr (ob_wr (ob_wr (ob_wr (ob_wr (ob_wr h)))))))
theorem node_B46 (h : KI b0 ξ σ) (hN : N = ξ 23 11) (N81 : N < 81) (lN : 0 ≤ ξ 10 N) (n0 : 0 ≤ n) (nN : n < N) (r5 : rk ξ n N ≤ 5) : F_X3_addNode_B46 (b0 + 9) (ξ 10 n) wt (S b0 σ ξ) = some (ξ 10 N, S b0 (B8 σ (ξ 10 N) (ξ 10 n) (gf σ (ξ 10 n) 2) (rk ξ n N) wt (wsm ξ n) (ξ 33 n)) (xu ξ 9 2 (N + 1))) := by
  obtain ⟨⟨hB, hT, hV, hC, hS, L1, L2, L3⟩, hM, hR⟩ := id h
  have lN' : lv ξ N := ⟨⟨by omega, N81⟩, lN⟩
  have ln' := h.1.lv n0 (by omega)
  have op := (hS.1 N lN').1
  have oq := (hS.1 n ln').1
  have oc := (hS.1 n ln').2.2
  have qp : ξ 10 n ≠ ξ 10 N := (hS.2.1 n N ln' lN' (by omega)).1
  have cpq : gf σ (ξ 10 n) 2 ≠ ξ 10 n ∧ gf σ (ξ 10 n) 2 ≠ ξ 10 N := by
    refine ⟨fun y => ?_, fun y => ?_⟩
    · have := oc.1; rw [y, oq.1] at this; omega
    · have := oc.1; rw [y, op.1] at this; omega
  obtain ⟨q1, q2, q3, q4, q5, q6, q7⟩ := L3 n n0 (by omega)
  have r0 := rk_mono (ξ := ξ) (n := n) (p := n + 1) (q := N) (by omega) (by omega)
  rw [rk_0] at r0
  rw [← hN] at q4
  rw [F_X3_addNode_B46]
  refine ev rS_9_0 ?_
  refine ev rS_9_2 ?_
  rw [hC.1, ← hN]
  refine ev (aS_10 (by omega) (by omega)) ?_
  refine evd ((iv_o op).trans (show F_X1_dropChildren (ξ 10 N) (S b0 σ ξ) = some (0, S b0 (wr (wr σ (ξ 10 N) 6 0) (ξ 10 N) 7 0) ξ) from ?_)) ?_
  · rw [F_X1_dropChildren]
    refine ev (pw_o op) ?_
    exact ev (pw_o (ob_wr op)) rfl
  refine ev (pw_o (ob_wr (ob_wr op))) ?_
  refine ev (pw_o (ob_wr (ob_wr (ob_wr op)))) ?_
  refine ev (rd_o (ob_wr (ob_wr (ob_wr (ob_wr oq))))) ?_
  rw [gf_wr_ne (Or.inl qp), gf_wr_ne (Or.inl qp), gf_wr_ne (Or.inl qp), gf_wr_ne (Or.inl qp), q3]
  refine ev (pw_o (ob_wr (ob_wr (ob_wr (ob_wr op))))) ?_
  have o5 : ∀ a c l, ob b0 σ a c l → ob b0 (wr (wr (wr (wr (wr σ (ξ 10 N) 6 0) (ξ 10 N) 7 0) (ξ 10 N) 3 (ξ 10 n)) (ξ 10 N) 4 wt) (ξ 10 N) 5 (ξ 33 n + 1)) a c l := fun a c l y => ob_wr (ob_wr (ob_wr (ob_wr (ob_wr y))))
  have g5 : ∀ k, gf (wr (wr (wr (wr (wr σ (ξ 10 N) 6 0) (ξ 10 N) 7 0) (ξ 10 N) 3 (ξ 10 n)) (ξ 10 N) 4 wt) (ξ 10 N) 5 (ξ 33 n + 1)) (ξ 10 n) k = gf σ (ξ 10 n) k := fun k => by rw [gf_wr_ne (Or.inl qp), gf_wr_ne (Or.inl qp), gf_wr_ne (Or.inl qp), gf_wr_ne (Or.inl qp), gf_wr_ne (Or.inl qp)]
  have g54 : gf (wr (wr (wr (wr (wr σ (ξ 10 N) 6 0) (ξ 10 N) 7 0) (ξ 10 N) 3 (ξ 10 n)) (ξ 10 N) 4 wt) (ξ 10 N) 5 (ξ 33 n + 1)) (ξ 10 N) 4 = wt := by rw [gf_wr_ne (Or.inr (by omega)), gf_wr_s]
  have eb : B8 σ (ξ 10 N) (ξ 10 n) (gf σ (ξ 10 n) 2) (rk ξ n N) wt (wsm ξ n) (ξ 33 n) = wr (wr (wr (wr (wr (wr (wr (wr σ (ξ 10 N) 6 0) (ξ 10 N) 7 0) (ξ 10 N) 3 (ξ 10 n)) (ξ 10 N) 4 wt) (ξ 10 N) 5 (ξ 33 n + 1)) (gf σ (ξ 10 n) 2) (rk ξ n N) (ξ 10 N)) (ξ 10 n) 6 (rk ξ n N + 1)) (ξ 10 n) 7 (wsm ξ n + wt) := rfl
  rw [eb]
  generalize wr (wr (wr (wr (wr σ (ξ 10 N) 6 0) (ξ 10 N) 7 0) (ξ 10 N) 3 (ξ 10 n)) (ξ 10 N) 4 wt) (ξ 10 N) 5 (ξ 33 n + 1) = σ5 at *
  have oq5 := o5 _ _ _ oq
  have op5 := o5 _ _ _ op
  have oc5 := o5 _ _ _ oc
  refine evd ((iv_o oq5).trans (show F_X1_addChild (ξ 10 n) (ξ 10 N) (S b0 σ5 ξ) = some (0, S b0 (wr (wr (wr σ5 (gf σ (ξ 10 n) 2) (rk ξ n N) (ξ 10 N)) (ξ 10 n) 6 (rk ξ n N + 1)) (ξ 10 n) 7 (wsm ξ n + wt)) ξ) from ?_)) ?_
  · rw [F_X1_addChild]
    refine ev (rd_o oq5) ?_
    rw [g5, q4]
    refine ev (rd_o oq5) ?_
    rw [g5]
    refine ev (al_o oc5 (by omega)) ?_
    refine ev_bLt (by omega) (by omega) (by omega) (by omega) (fun _ => ?_) (fun q => by omega)
    refine ev (rd_o oq5) ?_
    rw [g5]
    refine ev (rd_o oq5) ?_
    rw [g5, q4]
    refine ev (aq_o oc5 op5 (by omega) (by omega) (by omega)) ?_
    refine ev (rd_o (ob_wr oq5)) ?_
    rw [gf_wr_ne (Or.inl (fun y => cpq.1 y.symm)), g5, q4]
    refine ev (pw_o (ob_wr oq5)) ?_
    refine ev (rd_o (ob_wr (ob_wr oq5))) ?_
    rw [gf_wr_ne (Or.inr (by omega)), gf_wr_ne (Or.inl (fun y => cpq.1 y.symm)), g5, q5]
    refine ev (rd_o (ob_wr (ob_wr op5))) ?_
    rw [gf_wr_ne (Or.inl (fun y => qp y.symm)), gf_wr_ne (Or.inl (fun y => cpq.2 y.symm)), g54]
    exact ev (pw_o (ob_wr (ob_wr oq5))) rfl
  refine ev rS_9_2 ?_
  rw [hC.1, ← hN]
  exact ev pS_9_2 rfl
theorem X3_addNode (h : KI b0 ξ σ) (hN : N = ξ 23 11) (N81 : N < 81) : ∃ σa ξa, KI b0 ξa σa ∧ Ch (fun d k => d = 10 ∧ k = N) ξ ξa ∧ 0 ≤ ξa 10 N ∧ F_X3_addNode (b0 + 9) p wt (S b0 σ ξ) = F_X3_addNode_B46 (b0 + 9) p wt (S b0 σa ξa) := by
  have hC := h.1.2.2.2.1
  have n81 := h.1.2.1.2.2.1
  have top : ∀ z, (ξ 10 N < 0 → ((rd 4 (S b0 σ ξ) (b0 + 9) 0).bind fun jv7 => (rd 4 (S b0 σ ξ) (b0 + 9) 2).bind fun jv8 => nwb 2 (S b0 σ ξ) 16 1 fun ja9 σ10 => (rd 4 σ10 (b0 + 9) 2).bind fun jv11 => bd (F_X1_init ja9 jv11 σ10) fun jv12 σ13 => (aq 15 2 σ13 jv7 jv8 ja9).bind fun σ14 => F_X3_addNode_B46 (b0 + 9) p wt σ14) = z) → (¬ ξ 10 N < 0 → F_X3_addNode_B46 (b0 + 9) p wt (S b0 σ ξ) = z) → F_X3_addNode (b0 + 9) p wt (S b0 σ ξ) = z := by
    intro z z1 z2
    rw [F_X3_addNode]
    refine ev rS_9_2 ?_
    rw [hC.1, ← hN]
    refine ev rS_9_0 ?_
    refine ev lS_10 ?_
    refine ev_bLt (by omega) (by omega) (by omega) (by omega) (fun _ => ?_) (fun q => by omega)
    refine ev rS_9_0 ?_
    refine ev rS_9_2 ?_
    rw [hC.1, ← hN]
    refine ev (aS_10 (by omega) (by omega)) ?_
    exact ev_bN z1 z2
  by_cases neg : ξ 10 N < 0
  · obtain ⟨σa, e1, e2⟩ := node_alloc (K := fun σ14 => F_X3_addNode_B46 (b0 + 9) p wt σ14) h hN N81 neg
    refine ⟨σa, xu ξ 10 N σ.1, e2, Ch_xu ⟨rfl, rfl⟩ Ch.rf, ?_, top _ (fun _ => e1) (fun y => absurd neg y)⟩
    rw [xu_s]; omega
  · exact ⟨σ, ξ, h, Ch.rf, by omega, top _ (fun y => absurd y neg) (fun _ => rfl)⟩
def okD (ξ : Int → Int → Int) (n wt x : Int) : Prop := okN ξ n ∧ ¬ ξ 33 n = ξ 23 8 - 1 ∧ (1 ≤ wt ∧ wt ≤ ξ 23 9 - wsm ξ n) ∧ (0 ≤ x ∧ x ≤ pI (ξ 23 1) - 1)
theorem T_node (h : INV b0 ξ σ t) (ht : t + 1 ≤ t') (tb : t' ≤ 100000) (hn : R3 n) (hw : R3 wt) (hx : R3 x) : Step b0 σ ξ t' (F_X7_node b0 n wt x) (F_X8_node (b0 + 23) n wt x) R3 := by
  obtain ⟨hI, hM, hX, hR, hv⟩ := id h
  obtain ⟨r1, r2, r3, r4⟩ := id hR
  obtain ⟨hB, hT, hV, hC, hS, hNL⟩ := id hI.1
  have nl := hB.1
  have n81 := hT.2.2.1
  have w10 := hT.1
  have d6 := hT.2.1
  have pb := pI_bd (nl := ξ 23 1) nl.1 nl.2
  have top : ∀ z, (¬ okD ξ n wt x → some (-1, S b0 σ ξ) = z) → (okD ξ n wt x → ξ 23 32 ≠ 0 → some (-2, S b0 σ ξ) = z) → (okD ξ n wt x → ξ 23 32 = 0 → (bd (iv 4 (S b0 σ ξ) (b0 + 9) (F_X3_addNode (b0 + 9) (ξ 10 n) wt (S b0 σ ξ))) fun jv18 σ19 => bN jv18 (some ((-5), σ19)) ((rd 8 σ19 b0 0).bind fun jv20 => (rd 2 σ19 jv18 1).bind fun jv21 => bd (iv 5 σ19 jv20 (F_X4_tellIn jv20 x jv21 σ19)) fun jv22 σ23 => (rd 8 σ23 b0 2).bind fun jv24 => bd (iv 7 σ23 jv24 (F_X6_forget jv24 σ23)) fun jv25 σ26 => (rd 2 σ26 jv18 0).bind fun jv27 => some (jv27, σ26))) = z) → F_X7_node b0 n wt x (S b0 σ ξ) = z := by
    intro z z1 z2 z3
    rw [F_X7_node]
    refine pre_N hI.1 Ch.rf hn (fun q => z1 (fun y => q y.1)) (fun q1 => ?_)
    have n0 := q1.1
    have n1 : n < ξ 23 11 := by have := q1.2; omega
    have wb := wsm_bd (m := n) hT
    refine ev rS_0_1 ?_
    refine evd (iS_9.trans (X3_isLast hI.1 Ch.rf n0 n1)) ?_
    unfold lst
    refine ev_if (fun q2 => ?_) (fun q2 => z1 (fun y => y.2.1 q2))
    refine ev_bLt hw.1 hw.2 (by omega) (by omega) (fun q => z1 (fun y => by have := y.2.2.1; omega)) (fun q3 => ?_)
    refine ev rS_0_1 ?_
    refine ev rS_9_4 ?_
    rw [hC.2.2.1]
    refine ev (rd_o (hI.1.nd n0 n1)) ?_
    rw [(hNL.2.2 n n0 n1).2.2.2.2.1]
    refine ev_bLe hw.1 hw.2 (by omega) (by omega) (fun q4 => ?_) (fun q => z1 (fun y => q y.2.2.1.2))
    refine ev rS_0_0 ?_
    refine evd (iS_1.trans (X4_mostIn hV.1 nl.1 nl.2)) ?_
    refine evd (X7_isWithin hx ⟨by omega, by omega⟩) (ev_if (fun q => z1 (fun y => q y.2.2.2)) (fun q5 => ?_))
    have ok : okD ξ n wt x := ⟨q1, q2, ⟨by omega, q4⟩, q5⟩
    refine ev rS_0_4 ?_
    refine ev rS_17_5 ?_
    rw [r2]
    refine ev_bEq (by omega) (by omega) (by omega) (by omega) (fun q => ?_) (fun q => z2 ok q)
    refine ev rS_0_1 ?_
    exact z3 ok q
  have mtop : ∀ (σ : Hp) (ζ : Int → Int → Int) z, Cf ξ ζ → ζ 23 32 = ξ 23 32 → (¬ okD ξ n wt x → some (-1, S b0 σ ζ) = z) → (okD ξ n wt x → ξ 23 32 ≠ 0 → some (-2, S b0 σ ζ) = z) → (okD ξ n wt x → ξ 23 32 = 0 → ξ 23 11 = 81 → some (-5, S b0 σ ζ) = z) → (okD ξ n wt x → ξ 23 32 = 0 → ξ 23 11 < 81 → F_X8_node_L161 (b0 + 23) (ξ 23 11) fu x (ξ 23 1 - 1) (S b0 σ (xu (xu (xu ζ 31 (ξ 23 11) n) 32 (ξ 23 11) wt) 33 (ξ 23 11) (ξ 33 n + 1))) = z) → F_X8_node (b0 + 23) n wt x (S b0 σ ζ) = z := by
    intro σ ζ z cf e32 z1 z2 z3 z4
    obtain ⟨f', e⟩ := node_head (b0 := b0) (σ := σ) (ζ := ζ) (n := n) (wt := wt) (x := x) (nl := ξ 23 1) (cf.2 1 (by omega)) nl.1 nl.2
    have wb := wsm_bd (m := n) hT
    rw [e, F_X8_node_L6]
    refine ev rS_23_1 ?_
    rw [cf.2 1 (by omega)]
    refine ev_bLt (by omega) (by omega) (by omega) (by omega) (fun q => by omega) (fun _ => ?_)
    refine evd (iS_23.trans (K_isNode hT cf hn)) (ev_if (fun q => z1 (fun y => q y.1)) (fun q1 => ?_))
    have n0 := q1.1
    have n1 : n < ξ 23 11 := by have := q1.2; omega
    have wk := hT.week n0 n1
    refine ev rS_23_14 ?_
    refine ev (aS_33 n0 (by omega)) ?_
    refine ev rS_23_8 ?_
    rw [cf.1 33 (by omega), cf.2 8 (by omega)]
    refine ev_bEq (by omega) (by omega) (by omega) (by omega) (fun q => z1 (fun y => y.2.1 q)) (fun q2 => ?_)
    refine ev rS_23_9 ?_
    rw [cf.2 9 (by omega)]
    refine evd (X8_in _ hw ⟨by omega, by omega⟩ ⟨by omega, by omega⟩) (ev_if (fun q => z1 (fun y => by have := y.2.2.1; omega)) (fun q3 => ?_))
    have hwt := X8_weightsOf (b0 := b0) (σ := σ) (m := n) (hT.cf cf) hn
    rw [wsm_cf cf] at hwt
    refine evd (iS_23.trans hwt) ?_
    refine ev rS_23_9 ?_
    rw [cf.2 9 (by omega)]
    refine ev_bLe (by omega) (by omega) (by omega) (by omega) (fun q4 => ?_) (fun q => z1 (fun y => by have := y.2.2.1; omega))
    refine evd (X8_in _ hx ⟨by omega, by omega⟩ ⟨by omega, by omega⟩) (ev_if (fun q => z1 (fun y => q y.2.2.2)) (fun q5 => ?_))
    have ok : okD ξ n wt x := ⟨q1, q2, ⟨by omega, by omega⟩, q5⟩
    refine ev rS_23_32 ?_
    rw [e32]
    refine ev_bEq (by omega) (by omega) (by omega) (by omega) (fun q6 => ?_) (fun q => z2 ok q)
    refine ev rS_23_11 ?_
    rw [cf.2 11 (by omega)]
    refine ev_bEq (by omega) (by omega) (by omega) (by omega) (fun q => z3 ok q6 q) (fun q7 => ?_)
    refine ev rS_23_11 ?_
    rw [cf.2 11 (by omega)]
    refine ev rS_23_12 ?_
    refine ev (wS_31 (by omega) (by omega)) ?_
    refine ev rS_23_13 ?_
    refine ev (wS_32 (by omega) (by omega)) ?_
    refine ev rS_23_14 ?_
    refine ev rS_23_14 ?_
    refine ev (aS_33 n0 (by omega)) ?_
    rw [xu_nd (by omega), xu_nd (by omega), cf.1 33 (by omega)]
    refine ev (wS_33 (by omega) (by omega)) ?_
    refine ev rS_23_1 ?_
    rw [xu_nd (by omega), xu_nd (by omega), xu_nd (by omega), cf.2 1 (by omega)]
    exact z4 ok q6 (by omega)
  by_cases ok : okD ξ n wt x
  · by_cases off : ξ 23 32 = 0
    · by_cases full : ξ 23 11 = 81
      · refine Step_s (r := -5) h (by omega) (top _ (fun q => absurd ok q) (fun _ q => absurd off q) (fun _ _ => ?_)) (mtop σ ξ _ Cf.rfl' rfl (fun q => absurd ok q) (fun _ q => absurd off q) (fun _ _ _ => rfl) (fun _ _ q => by omega)) ⟨by decide, by decide⟩
        refine evd (iS_9.trans (show F_X3_addNode (b0 + 9) (ξ 10 n) wt (S b0 σ ξ) = some (-1, S b0 σ ξ) from ?_)) ?_
        · rw [F_X3_addNode]
          refine ev rS_9_2 ?_
          rw [hC.1]
          refine ev rS_9_0 ?_
          refine ev lS_10 ?_
          exact ev_bLt (by omega) (by omega) (by omega) (by omega) (fun q => by omega) (fun _ => rfl)
        · exact ev_bN (fun _ => rfl) (fun q => by omega)
      · obtain ⟨N, hN⟩ : ∃ N, N = ξ 23 11 := ⟨_, rfl⟩
        have N81 : N < 81 := by omega
        obtain ⟨ok1, ok2, ok3, ok4⟩ := id ok
        have n0 := ok1.1
        have nN : n < N := by have := ok1.2; omega
        obtain ⟨σa, ξa, a1, a2, a3, a4⟩ := X3_addNode (p := ξ 10 n) (wt := wt) hI hN N81
        have oa : ∀ d k, ¬ (d = 10 ∧ k = N) → ξa d k = ξ d k := fun d k q => a2 d k q
        have fa : ∀ d, d ≠ 10 → ξa d = ξ d := fun d q => funext fun k => oa d k (by omega)
        have cfa : Cf ξ ξa := ⟨fun d hd => fa d (by omega), fun k hk => by rw [fa 23 (by omega)]⟩
        have an : ξa 10 n = ξ 10 n := oa 10 n (by omega)
        have hNa : N = ξa 23 11 := by rw [fa 23 (by omega)]; exact hN
        have wk := hT.week n0 (show n < ξ 23 11 by omega)
        have rw' := rk_wsm hT n0 (show n < ξ 23 11 by omega)
        have r5 : rk ξa n N ≤ 5 := by rw [rk_cw cfa.cw, hN]; omega
        have b46 := node_B46 (b0 := b0) (wt := wt) a1 hNa N81 a3 n0 nN r5
        rw [an] at b46
        -- objects
        obtain ⟨⟨_, hTa, hVa, hCa, hSa, hNLa⟩, _, _⟩ := id a1
        have lNa : lv ξa N := ⟨⟨by omega, N81⟩, a3⟩
        have lna := a1.1.lv n0 (show n < ξa 23 11 by omega)
        have oN := hSa.1 N lNa
        have on := hSa.1 n lna
        rw [an] at on
        have qp : ξ 10 n ≠ ξa 10 N := by
          have := (hSa.2.1 n N lna lNa (by omega)).1
          rw [an] at this
          exact this
        have i8 : gf (B8 σa (ξa 10 N) (ξ 10 n) (gf σa (ξ 10 n) 2) (rk ξa n N) wt (wsm ξa n) (ξa 33 n)) (ξa 10 N) 1 = gf σa (ξa 10 N) 1 := by
          rw [B8_gf, if_neg (by omega), if_neg (by omega), if_neg (fun y => by have := on.2.2.1; rw [← y.1, oN.1.1] at this; omega), if_neg (by omega), if_neg (by omega), if_neg (by omega), if_neg (by omega), if_neg (by omega)]
        have g80 : gf (B8 σa (ξa 10 N) (ξ 10 n) (gf σa (ξ 10 n) 2) (rk ξa n N) wt (wsm ξa n) (ξa 33 n)) (ξa 10 N) 0 = N := by
          rw [B8_gf, if_neg (by omega), if_neg (by omega), if_neg (fun y => by have := on.2.2.1; rw [← y.1, oN.1.1] at this; omega), if_neg (by omega), if_neg (by omega), if_neg (by omega), if_neg (by omega), if_neg (by omega)]
          exact hNLa.2.1 N lNa
        have tell := X4_tellIn (b0 := b0) (σ := B8 σa (ξa 10 N) (ξ 10 n) (gf σa (ξ 10 n) 2) (rk ξa n N) wt (wsm ξa n) (ξa 33 n)) (ζ := xu ξa 9 2 (N + 1)) (nl := ξ 23 1) (x := x) (by rw [xu_nd (by omega), fa 1 (by omega)]; exact hV.1) nl.1 nl.2 (ob_B8 oN.2.1) ok4.1 hx.2
        have nip : gf σa (ξa 10 N) 1 ≠ ξa 10 N := fun y => by have := oN.2.1.1; rw [y, oN.1.1] at this; omega
        -- what the class leaves
        have c1 : Ch (scrn N) ξa (xu (xu ξa 9 2 (N + 1)) 15 2 (ξa 15 2 + 1)) := Ch_xu (by unfold scrn; omega) (Ch_xu (by unfold scrn; omega) Ch.rf)
        have cf1 : Cf ξ (xu (xu ξa 9 2 (N + 1)) 15 2 (ξa 15 2 + 1)) := cfa.trans ((Cf.xu (by omega)).trans (Cf.xu (by omega)))
        obtain ⟨ξ', m1, m2, m3, m4, m5⟩ := node_in (b0 := b0) (σ := wr (wr (wr (B8 σa (ξa 10 N) (ξ 10 n) (gf σa (ξ 10 n) 2) (rk ξa n N) wt (wsm ξa n) (ξa 33 n)) (gf σa (ξa 10 N) 1) 2 (tD (ξ 23 1) x 2)) (gf σa (ξa 10 N) 1) 1 (tD (ξ 23 1) x 1)) (gf σa (ξa 10 N) 1) 0 (tD (ξ 23 1) x 0)) (ζ := xu (xu (xu (xu (xu ξa 9 2 (N + 1)) 15 2 (ξa 15 2 + 1)) 31 N n) 32 N wt) 33 N (ξ 33 n + 1)) (nl := ξ 23 1) (N := N) (x := x) nl.1 nl.2 (by omega) N81 ok4.1 hx.2
        have c2 : Ch (scrn N) ξa (xu (xu (xu (xu (xu ξa 9 2 (N + 1)) 15 2 (ξa 15 2 + 1)) 31 N n) 32 N wt) 33 N (ξ 33 n + 1)) := Ch_xu (by unfold scrn; omega) (Ch_xu (by unfold scrn; omega) (Ch_xu (by unfold scrn; omega) c1))
        have ch : Ch (scrn N) ξa ξ' := c2.trans (fun d k q => m2 d k (by unfold scrn at q; omega))
        have v34 : ∀ l, 0 ≤ l → l < 3 → ξ' 34 (3 * N + l) = tD (ξ 23 1) x l := by
          intro l l0 l3
          by_cases e : l < ξ 23 1
          · exact m5 l l0 e
          · rw [tD_no nl.1 (by omega) l3, m2 34 _ (by omega), xu_nd (by omega), xu_nd (by omega), xu_nd (by omega), xu_nd (by omega), xu_nd (by omega), fa 34 (by omega)]
            exact hX.2.1 N l (by omega) N81 (by omega) l3
        refine ⟨N, _, xu (xu ξa 9 2 (N + 1)) 15 2 (ξa 15 2 + 1), _, ξ', top _ (fun q => absurd ok q) (fun _ q => absurd off q) (fun _ _ => ?_), mtop _ _ _ cf1 (by rw [xu_nd (by omega), xu_nd (by omega), fa 23 (by omega)]) (fun q => absurd ok q) (fun _ q => absurd off q) (fun _ _ q => by omega) (fun _ _ _ => by rw [← hN]; exact m1), ?_, ⟨by omega, by omega⟩⟩
        · refine evd (iS_9.trans (a4.trans b46)) ?_
          refine ev_bN (fun y => by omega) (fun _ => ?_)
          refine ev rS_0_0 ?_
          refine ev (rd_o (ob_B8 oN.1)) ?_
          rw [i8]
          refine evd (iS_1.trans tell) ?_
          refine ev rS_0_2 ?_
          refine evd (iS_15.trans X6_forget) ?_
          rw [xu_nd (show (15 : Int) ≠ 9 by omega)]
          refine ev (rd_o (ob_wr (ob_wr (ob_wr (ob_B8 oN.1))))) ?_
          rw [gf_wr_ne (Or.inl (fun y => nip y.symm)), gf_wr_ne (Or.inl (fun y => nip y.symm)), gf_wr_ne (Or.inl (fun y => nip y.symm)), g80]
        · have e11 : ξ' 23 11 = N + 1 := by rw [m3, xu_nd (by omega), xu_nd (by omega), xu_nd (by omega), xu_nd (by omega), xu_nd (by omega), ← hNa]
          have e15 : ξ' 15 2 = ξa 15 2 + 1 := by rw [m2 15 2 (by omega), xu_nd (by omega), xu_nd (by omega), xu_nd (by omega), xu_s]
          have e9 : ξ' 9 2 = N + 1 := by rw [m2 9 2 (by omega), xu_nd (by omega), xu_nd (by omega), xu_nd (by omega), xu_nd (by omega), xu_s]
          have e31 : ξ' 31 N = n := by rw [m2 31 N (by omega), xu_nd (by omega), xu_nd (by omega), xu_s]
          have e32 : ξ' 32 N = wt := by rw [m2 32 N (by omega), xu_nd (by omega), xu_s]
          have e33 : ξ' 33 N = ξ 33 n + 1 := by rw [m2 33 N (by omega), xu_s]
          have a33 : ξa 33 n = ξ 33 n := oa 33 n (by omega)
          have a15 : ξa 15 2 = ξ 15 2 := oa 15 2 (by omega)
          have o : ∀ d k, ¬ scrn N d k → ξ' d k = ξa d k := ch
          -- the nodes' objects
          have kn : ∀ m, lv ξa m → kd σa (ξa 10 m) = 2 ∧ kd σa (gf σa (ξa 10 m) 1) = 11 ∧ kd σa (gf σa (ξa 10 m) 2) = 15 := fun m hm => ⟨(hSa.1 m hm).1.1, (hSa.1 m hm).2.1.1, (hSa.1 m hm).2.2.1⟩
          have kN := kn N lNa
          have knn := kn n lna
          rw [an] at knn
          have E : ∀ a k, gf (wr (wr (wr (B8 σa (ξa 10 N) (ξ 10 n) (gf σa (ξ 10 n) 2) (rk ξa n N) wt (wsm ξa n) (ξa 33 n)) (gf σa (ξa 10 N) 1) 2 (tD (ξ 23 1) x 2)) (gf σa (ξa 10 N) 1) 1 (tD (ξ 23 1) x 1)) (gf σa (ξa 10 N) 1) 0 (tD (ξ 23 1) x 0)) a k = if a = gf σa (ξa 10 N) 1 ∧ k = 0 then tD (ξ 23 1) x 0 else if a = gf σa (ξa 10 N) 1 ∧ k = 1 then tD (ξ 23 1) x 1 else if a = gf σa (ξa 10 N) 1 ∧ k = 2 then tD (ξ 23 1) x 2 else if a = ξ 10 n ∧ k = 7 then wsm ξa n + wt else if a = ξ 10 n ∧ k = 6 then rk ξa n N + 1 else if a = gf σa (ξ 10 n) 2 ∧ k = rk ξa n N then ξa 10 N else if a = ξa 10 N ∧ k = 5 then ξa 33 n + 1 else if a = ξa 10 N ∧ k = 4 then wt else if a = ξa 10 N ∧ k = 3 then ξ 10 n else if a = ξa 10 N ∧ k = 7 then 0 else if a = ξa 10 N ∧ k = 6 then 0 else gf σa a k := fun a k => by rw [gf_wr, gf_wr, gf_wr, B8_gf]
          have H : ∀ a, kd (wr (wr (wr (B8 σa (ξa 10 N) (ξ 10 n) (gf σa (ξ 10 n) 2) (rk ξa n N) wt (wsm ξa n) (ξa 33 n)) (gf σa (ξa 10 N) 1) 2 (tD (ξ 23 1) x 2)) (gf σa (ξa 10 N) 1) 1 (tD (ξ 23 1) x 1)) (gf σa (ξa 10 N) 1) 0 (tD (ξ 23 1) x 0)) a = kd σa a ∧ ln (wr (wr (wr (B8 σa (ξa 10 N) (ξ 10 n) (gf σa (ξ 10 n) 2) (rk ξa n N) wt (wsm ξa n) (ξa 33 n)) (gf σa (ξa 10 N) 1) 2 (tD (ξ 23 1) x 2)) (gf σa (ξa 10 N) 1) 1 (tD (ξ 23 1) x 1)) (gf σa (ξa 10 N) 1) 0 (tD (ξ 23 1) x 0)) a = ln σa a := fun a => ⟨by rw [kd_wr, kd_wr, kd_wr]; exact B8_k.1, by rw [ln_wr, ln_wr, ln_wr]; exact B8_k.2⟩
          have P1 : (wr (wr (wr (B8 σa (ξa 10 N) (ξ 10 n) (gf σa (ξ 10 n) 2) (rk ξa n N) wt (wsm ξa n) (ξa 33 n)) (gf σa (ξa 10 N) 1) 2 (tD (ξ 23 1) x 2)) (gf σa (ξa 10 N) 1) 1 (tD (ξ 23 1) x 1)) (gf σa (ξa 10 N) 1) 0 (tD (ξ 23 1) x 0)).1 = σa.1 := rfl
          have P2 : (wr (wr (wr (B8 σa (ξa 10 N) (ξ 10 n) (gf σa (ξ 10 n) 2) (rk ξa n N) wt (wsm ξa n) (ξa 33 n)) (gf σa (ξa 10 N) 1) 2 (tD (ξ 23 1) x 2)) (gf σa (ξa 10 N) 1) 1 (tD (ξ 23 1) x 1)) (gf σa (ξa 10 N) 1) 0 (tD (ξ 23 1) x 0)).2.1 = σa.2.1 := rfl
          generalize wr (wr (wr (B8 σa (ξa 10 N) (ξ 10 n) (gf σa (ξ 10 n) 2) (rk ξa n N) wt (wsm ξa n) (ξa 33 n)) (gf σa (ξa 10 N) 1) 2 (tD (ξ 23 1) x 2)) (gf σa (ξa 10 N) 1) 1 (tD (ξ 23 1) x 1)) (gf σa (ξa 10 N) 1) 0 (tD (ξ 23 1) x 0) = σ' at *
          have ne : ∀ a b c d, kd σa a = c → kd σa b = d → c ≠ d → a ≠ b := fun a b c d x y z w => z (by rw [← x, ← y, w])
          have nqi : ξ 10 n ≠ gf σa (ξa 10 N) 1 := ne _ _ _ _ knn.1 kN.2.1 (by omega)
          have npi : ξa 10 N ≠ gf σa (ξa 10 N) 1 := ne _ _ _ _ kN.1 kN.2.1 (by omega)
          have nqc : ξ 10 n ≠ gf σa (ξ 10 n) 2 := ne _ _ _ _ knn.1 knn.2.2 (by omega)
          have npc : ξa 10 N ≠ gf σa (ξ 10 n) 2 := ne _ _ _ _ kN.1 knn.2.2 (by omega)
          have nci : gf σa (ξ 10 n) 2 ≠ gf σa (ξa 10 N) 1 := ne _ _ _ _ knn.2.2 kN.2.1 (by omega)
          have far : ∀ a k, a ≠ gf σa (ξa 10 N) 1 → a ≠ ξ 10 n → a ≠ gf σa (ξ 10 n) 2 → a ≠ ξa 10 N → gf σ' a k = gf σa a k := fun a k h1 h2 h3 h4 => by rw [E, if_neg (fun y => h1 y.1), if_neg (fun y => h1 y.1), if_neg (fun y => h1 y.1), if_neg (fun y => h2 y.1), if_neg (fun y => h2 y.1), if_neg (fun y => h3 y.1), if_neg (fun y => h4 y.1), if_neg (fun y => h4 y.1), if_neg (fun y => h4 y.1), if_neg (fun y => h4 y.1), if_neg (fun y => h4 y.1)]
          have atq : ∀ k, gf σ' (ξ 10 n) k = if k = 7 then wsm ξa n + wt else if k = 6 then rk ξa n N + 1 else gf σa (ξ 10 n) k := fun k => by
            rw [E, if_neg (fun y => nqi y.1), if_neg (fun y => nqi y.1), if_neg (fun y => nqi y.1)]
            simp [nqc, qp]
          have atp : ∀ k, gf σ' (ξa 10 N) k = if k = 5 then ξa 33 n + 1 else if k = 4 then wt else if k = 3 then ξ 10 n else if k = 7 then 0 else if k = 6 then 0 else gf σa (ξa 10 N) k := fun k => by
            rw [E, if_neg (fun y => npi y.1), if_neg (fun y => npi y.1), if_neg (fun y => npi y.1), if_neg (fun y => qp y.1.symm), if_neg (fun y => qp y.1.symm), if_neg (fun y => npc y.1)]
            simp
          have atc : ∀ k, gf σ' (gf σa (ξ 10 n) 2) k = if k = rk ξa n N then ξa 10 N else gf σa (gf σa (ξ 10 n) 2) k := fun k => by
            rw [E, if_neg (fun y => nci y.1), if_neg (fun y => nci y.1), if_neg (fun y => nci y.1), if_neg (fun y => nqc y.1.symm), if_neg (fun y => nqc y.1.symm), if_neg (c := gf σa (ξ 10 n) 2 = ξa 10 N ∧ k = 5) (fun y => npc y.1.symm), if_neg (c := gf σa (ξ 10 n) 2 = ξa 10 N ∧ k = 4) (fun y => npc y.1.symm), if_neg (c := gf σa (ξ 10 n) 2 = ξa 10 N ∧ k = 3) (fun y => npc y.1.symm), if_neg (c := gf σa (ξ 10 n) 2 = ξa 10 N ∧ k = 7) (fun y => npc y.1.symm), if_neg (c := gf σa (ξ 10 n) 2 = ξa 10 N ∧ k = 6) (fun y => npc y.1.symm)]
            simp
          have ati : ∀ l, 0 ≤ l → l < 3 → gf σ' (gf σa (ξa 10 N) 1) l = tD (ξ 23 1) x l := fun l l0 l3 => by
            rw [E]
            rcases (by omega : l = 0 ∨ l = 1 ∨ l = 2) with rfl | rfl | rfl
            · rw [if_pos ⟨rfl, rfl⟩]
            · rw [if_neg (by omega), if_pos ⟨rfl, rfl⟩]
            · rw [if_neg (by omega), if_neg (by omega), if_pos ⟨rfl, rfl⟩]
          have hK' : KI b0 ξ' σ' := by
            refine KI_node a1 hNa N81 a3 n0 nN (by rw [a33, fa 23 (by omega)]; omega) ok3.1 (by rw [fa 23 (by omega)]; have := wsm_bd (m := n) hT; omega) ch e9 e15 (by rw [a15]; omega) e11 e31 e32 (by rw [e33, a33]) (fun l l0 l3 => by rw [v34 l l0 l3]; exact tD_bd) H P1 P2 ?_ ?_ ?_ ?_ ?_ ?_ ?_ ?_ ?_ ?_ ?_ ?_ ?_ ?_
            · intro m k hm e1 e2
              have km := kn m hm
              refine far _ _ (ne _ _ _ _ km.1 kN.2.1 (by omega)) ?_ (ne _ _ _ _ km.1 knn.2.2 (by omega)) (hSa.2.1 m N hm lNa e1).1
              rw [← an]
              exact (hSa.2.1 m n hm lna e2).1
            · intro k k6 k7
              rw [an, atq, if_neg k7, if_neg k6]
            · rw [an, atq, if_neg (by omega), if_pos rfl]
            · rw [an, atq, if_pos rfl]
            · intro k hk
              rw [atp, if_neg (by omega), if_neg (by omega), if_neg (by omega), if_neg (by omega), if_neg (by omega)]
            · rw [atp, if_neg (by omega), if_neg (by omega), if_pos rfl, an]
            · rw [atp, if_neg (by omega), if_pos rfl]
            · rw [atp, if_pos rfl]
            · rw [atp, if_neg (by omega), if_neg (by omega), if_neg (by omega), if_neg (by omega), if_pos rfl]
            · rw [atp, if_neg (by omega), if_neg (by omega), if_neg (by omega), if_pos rfl]
            · intro m k hm e1
              have km := kn m hm
              by_cases e2 : m = n
              · rw [e2, an, atc, if_neg (by omega)]
              · have := (hSa.2.1 m n hm lna e2).2.2
                rw [an] at this
                exact far _ _ (ne _ _ _ _ km.2.2 kN.2.1 (by omega)) (ne _ _ _ _ km.2.2 knn.1 (by omega)) this (ne _ _ _ _ km.2.2 kN.1 (by omega))
            · rw [an, atc, if_pos rfl]
            · intro m k hm e1
              have km := kn m hm
              exact far _ _ (hSa.2.1 m N hm lNa e1).2.1 (ne _ _ _ _ km.2.1 knn.1 (by omega)) (ne _ _ _ _ km.2.1 knn.2.2 (by omega)) (ne _ _ _ _ km.2.1 kN.1 (by omega))
            · intro l l0 l3
              rw [ati l l0 l3, v34 l l0 l3]
          have f' : ∀ d, (d < 9 ∨ d = 11 ∨ (16 ≤ d ∧ d ≤ 22) ∨ (24 ≤ d ∧ d ≤ 30) ∨ 35 ≤ d) → ξ' d = ξ d := fun d q => (funext fun k => o d k (by unfold scrn; omega)).trans (fa d (by omega))
          have o23 : ∀ k, k ≠ 11 → k ≠ 19 → ξ' 23 k = ξ 23 k := fun k a b => by rw [o 23 k (by unfold scrn; omega), fa 23 (by omega)]
          refine INV_e h off hK' ?_ ?_ ?_ m4 (f' 37 (by omega)) (f' 38 (by omega)) (o23 32 (by omega) (by omega)) (by rw [f' 17 (by omega)]) (fun d a b => by rw [f' d (by omega)]) (by rw [e15, a15]; omega)
          · obtain ⟨x1, x2, x3, x4⟩ := hX
            unfold XT
            rw [o23 1 (by omega) (by omega), f' 25 (by omega), f' 28 (by omega), f' 41 (by omega)]
            refine ⟨x1, fun k i k0 k1 i0 i1 => ?_, fun i i0 i1 => ?_, x4⟩
            · by_cases e : k = N
              · rw [e, v34 i (by omega) i1]
                exact tD_no nl.1 i0 i1
              · rw [o 34 _ (by unfold scrn; omega), fa 34 (by omega)]
                exact x2 k i k0 k1 i0 i1
            · rw [o 34 i (by unfold scrn; omega), fa 34 (by omega)]
              exact x3 i i0 i1
          · have q := hM.1.2.1
            unfold MB at q ⊢
            rw [o23 1 (by omega) (by omega), f' 25 (by omega), f' 35 (by omega)]
            exact q
          · have q := hM.1.2.2.1
            unfold TZ at q ⊢
            rw [o23 1 (by omega) (by omega), f' 36 (by omega)]
            exact q
    · exact Step_s h (by omega) (top _ (fun q => absurd ok q) (fun _ _ => rfl) (fun _ q => absurd q off)) (mtop σ ξ _ Cf.rfl' rfl (fun q => absurd ok q) (fun _ _ => rfl) (fun _ q => absurd q off) (fun _ q => absurd q off)) ⟨by decide, by decide⟩
  · exact Step_s h (by omega) (top _ (fun _ => rfl) (fun q => absurd q ok) (fun q => absurd q ok)) (mtop σ ξ _ Cf.rfl' rfl (fun _ => rfl) (fun q => absurd q ok) (fun q => absurd q ok) (fun q => absurd q ok)) ⟨by decide, by decide⟩
end Q3
