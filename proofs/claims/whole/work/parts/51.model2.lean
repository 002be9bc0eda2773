section
variable {p : Program} {l : Launch} {e : Env} {R : Room} {s : State} {m : MethodId} {args : Array Value} {below : List Frame} {meth : Method} {c : Code} {D : va_G} {dA : Nat → ClassId} {b0 n0 m0 nE mE : Nat} {Q : State → Prop}
def F_X8_prepare_L36 (jx0 : Int) : Nat → Int → Hp → Option (Int × Hp)
  | 0, _, _ => none
  | n + 1, jx1, σ => bLt jx1 81000 ((rd 9 σ jx0 20).bind fun jv5 => (az 13 σ jv5 jx1 0).bind fun σ6 => (F_X8_prepare_L36 jx0 n) (jx1 + 1) σ6) (some (0, σ))
theorem M_X8_prepare_L36 (jx0 : Int) : ∀ (n : Nat) (jx1 : Int) (σ : Hp), Mn σ (F_X8_prepare_L36 jx0 n jx1 σ) := by
  intro n
  induction n with
  | zero => intros; rw [F_X8_prepare_L36]; exact Mn_none
  | succ n hk36 =>
    intros
    rw [F_X8_prepare_L36]
    repeat' first | exact Mn_ret | exact Mn_rz | exact hk36 _  _ | refine Mn_nm (fun _ => ?_) | refine Mn_nab (fun _ _ => ?_) | refine Mn_nwb (fun _ _ => ?_) | refine Mn_pw (fun _ => ?_) | refine Mn_pz (fun _ => ?_) | refine Mn_aw (fun _ => ?_) | refine Mn_az (fun _ => ?_) | refine Mn_aq (fun _ => ?_) | refine Mn_bo (fun _ => ?_) | refine Mn_bd ?_ (fun _ _ => ?_) | refine Mn_iv ?_ | refine Mn_bLt ?_ ?_ | refine Mn_bLe ?_ ?_ | refine Mn_bEq ?_ ?_ | refine Mn_bN ?_ ?_ | refine Mn_g3 ?_ | refine Mn_g33 ?_ | refine Mn_g66 ?_ | refine Mn_gD ?_
set_option maxRecDepth 100000 in
set_option maxHeartbeats 4000000 in
theorem T_X8_prepare_L36 {r : Int} {σE : Hp} (hX : Cx p R s m args meth c D dA b0 n0 m0 2 nE mE cX8_prepare RX8 0 0) (hR : Rx meth none) (hnm : meth.name = yX8_prepare.name) (hQ : Q = Qm D dA b0 n0 m0 below args s none σE) (hE : nE = σE.1 ∧ mE = σE.2.1) (jx0 : Int) : ∀ (n : Nat) (jx1 : Int) (σ : Hp), F_X8_prepare_L36 jx0 n jx1 σ = some (r, σE) → G p l e R s m args below meth c D dA b0 n0 m0 2 nE mE Q 36 [(0, 2, jx0), (1, 0, jx1)] [] σ := by
  intro n
  induction n with
  | zero =>
    intro jx1 σ hF
    rw [F_X8_prepare_L36] at hF
    cases hF
  | succ n hk36 =>
    intro jx1 σ hF
    rw [F_X8_prepare_L36] at hF
    refine g_iload_n hX 1 dX8_prepare_36 rfl rfl ?_
    refine g_ldc (z := 81000) hX kc_X8_62 (by decide) dX8_prepare_37 ?_
    refine g_icmp_ge (tgt := 55) hX dX8_prepare_39 (by decide) hF (fun hc hF => ?_) (fun hc hF => ?_)
    · refine g_aload_n hX 0 dX8_prepare_42 rfl rfl ?_
      refine g_get hX fl_X8_63 (by decide) (by decide) dX8_prepare_43 hF (fun jv5 hF => ?_)
      refine g_iload_n hX 1 dX8_prepare_46 rfl rfl ?_
      refine g_iconst hX dX8_prepare_47 ?_
      refine u_zast hX dX8_prepare_48 hF (fun σ6 hF => ?_)
      refine g_iinc (lv' := [(1, 0, (jx1 + 1)), (0, 2, jx0)]) hX 1 dX8_prepare_49 rfl (by decide) rfl ?_
      refine g_goto (tgt := 36) hX dX8_prepare_52 (by decide) ?_
      refine g_lvp (lv' := [(0, 2, jx0), (1, 0, (jx1 + 1))]) [1, 0] rfl ?_
      exact hk36 (jx1 + 1) σ6 hF
    · exact g_vret hX hR hQ hE dX8_prepare_55 hF
def F_X8_prepare_L2 (jx0 : Int) : Nat → Int → Hp → Option (Int × Hp)
  | 0, _, _ => none
  | n + 1, jx1, σ => bLt jx1 81000 ((rd 9 σ jx0 21).bind fun jv1 => (az 13 σ jv1 jx1 0).bind fun σ2 => (F_X8_prepare_L2 jx0 n) (jx1 + 1) σ2) ((rd 9 σ jx0 19).bind fun jv3 => bEq jv3 0 ((pz 9 σ jx0 19 1).bind fun σ4 => F_X8_prepare_L36 jx0 fu 0 σ4) (some (0, σ)))
theorem M_X8_prepare_L2 (jx0 : Int) : ∀ (n : Nat) (jx1 : Int) (σ : Hp), Mn σ (F_X8_prepare_L2 jx0 n jx1 σ) := by
  intro n
  induction n with
  | zero => intros; rw [F_X8_prepare_L2]; exact Mn_none
  | succ n hk2 =>
    intros
    rw [F_X8_prepare_L2]
    repeat' first | exact Mn_ret | exact Mn_rz | exact hk2 _  _ | exact M_X8_prepare_L36 _ _ _ _ | refine Mn_nm (fun _ => ?_) | refine Mn_nab (fun _ _ => ?_) | refine Mn_nwb (fun _ _ => ?_) | refine Mn_pw (fun _ => ?_) | refine Mn_pz (fun _ => ?_) | refine Mn_aw (fun _ => ?_) | refine Mn_az (fun _ => ?_) | refine Mn_aq (fun _ => ?_) | refine Mn_bo (fun _ => ?_) | refine Mn_bd ?_ (fun _ _ => ?_) | refine Mn_iv ?_ | refine Mn_bLt ?_ ?_ | refine Mn_bLe ?_ ?_ | refine Mn_bEq ?_ ?_ | refine Mn_bN ?_ ?_ | refine Mn_g3 ?_ | refine Mn_g33 ?_ | refine Mn_g66 ?_ | refine Mn_gD ?_
set_option maxRecDepth 100000 in
set_option maxHeartbeats 4000000 in
theorem T_X8_prepare_L2 {r : Int} {σE : Hp} (hX : Cx p R s m args meth c D dA b0 n0 m0 2 nE mE cX8_prepare RX8 0 0) (hR : Rx meth none) (hnm : meth.name = yX8_prepare.name) (hQ : Q = Qm D dA b0 n0 m0 below args s none σE) (hE : nE = σE.1 ∧ mE = σE.2.1) (jx0 : Int) : ∀ (n : Nat) (jx1 : Int) (σ : Hp), F_X8_prepare_L2 jx0 n jx1 σ = some (r, σE) → G p l e R s m args below meth c D dA b0 n0 m0 2 nE mE Q 2 [(0, 2, jx0), (1, 0, jx1)] [] σ := by
  intro n
  induction n with
  | zero =>
    intro jx1 σ hF
    rw [F_X8_prepare_L2] at hF
    cases hF
  | succ n hk2 =>
    intro jx1 σ hF
    rw [F_X8_prepare_L2] at hF
    refine g_iload_n hX 1 dX8_prepare_2 rfl rfl ?_
    refine g_ldc (z := 81000) hX kc_X8_62 (by decide) dX8_prepare_3 ?_
    refine g_icmp_ge (tgt := 21) hX dX8_prepare_5 (by decide) hF (fun hc hF => ?_) (fun hc hF => ?_)
    · refine g_aload_n hX 0 dX8_prepare_8 rfl rfl ?_
      refine g_get hX fl_X8_67 (by decide) (by decide) dX8_prepare_9 hF (fun jv1 hF => ?_)
      refine g_iload_n hX 1 dX8_prepare_12 rfl rfl ?_
      refine g_iconst hX dX8_prepare_13 ?_
      refine u_zast hX dX8_prepare_14 hF (fun σ2 hF => ?_)
      refine g_iinc (lv' := [(1, 0, (jx1 + 1)), (0, 2, jx0)]) hX 1 dX8_prepare_15 rfl (by decide) rfl ?_
      refine g_goto (tgt := 2) hX dX8_prepare_18 (by decide) ?_
      refine g_lvp (lv' := [(0, 2, jx0), (1, 0, (jx1 + 1))]) [1, 0] rfl ?_
      exact hk2 (jx1 + 1) σ2 hF
    · refine g_aload_n hX 0 dX8_prepare_21 rfl rfl ?_
      refine g_get hX fl_X8_130 (by decide) (by decide) dX8_prepare_22 hF (fun jv3 hF => ?_)
      refine g_if_eq (tgt := 29) hX dX8_prepare_25 (by decide) hF (fun hc hF => ?_) (fun hc hF => ?_)
      · refine g_aload_n hX 0 dX8_prepare_29 rfl rfl ?_
        refine g_iconst hX dX8_prepare_30 ?_
        refine u_putZ hX fp_X8_130 (by decide) (by decide) dX8_prepare_31 hF (fun σ4 hF => ?_)
        refine g_iconst hX dX8_prepare_34 ?_
        refine g_istore_n (lv' := [(1, 0, 0), (0, 2, jx0)]) hX dX8_prepare_35 rfl (by decide) rfl ?_
        refine g_lvp (lv' := [(0, 2, jx0), (1, 0, 0)]) [1, 0] rfl ?_
        exact T_X8_prepare_L36 hX hR hnm hQ hE jx0  fu 0 σ4 hF
      · exact g_vret hX hR hQ hE dX8_prepare_28 hF
def F_X8_prepare (jx0 : Int) (σ : Hp) : Option (Int × Hp) :=
  F_X8_prepare_L2 jx0 fu 0 σ
theorem M_X8_prepare (jx0 : Int) (σ : Hp) : Mn σ (F_X8_prepare jx0 σ) := by
  unfold F_X8_prepare
  repeat' first | exact Mn_ret | exact Mn_rz | exact M_X8_prepare_L2 _ _ _ _ | refine Mn_nm (fun _ => ?_) | refine Mn_nab (fun _ _ => ?_) | refine Mn_nwb (fun _ _ => ?_) | refine Mn_pw (fun _ => ?_) | refine Mn_pz (fun _ => ?_) | refine Mn_aw (fun _ => ?_) | refine Mn_az (fun _ => ?_) | refine Mn_aq (fun _ => ?_) | refine Mn_bo (fun _ => ?_) | refine Mn_bd ?_ (fun _ _ => ?_) | refine Mn_iv ?_ | refine Mn_bLt ?_ ?_ | refine Mn_bLe ?_ ?_ | refine Mn_bEq ?_ ?_ | refine Mn_bN ?_ ?_ | refine Mn_g3 ?_ | refine Mn_g33 ?_ | refine Mn_g66 ?_ | refine Mn_gD ?_
set_option maxRecDepth 100000 in
set_option maxHeartbeats 4000000 in
theorem T_X8_prepare (l : Launch) (D : va_G) (dA : Nat → ClassId) (b0 : Nat) (jx0 : Int) (σ σE : Hp) (r : Int) (hF : F_X8_prepare jx0 σ = some (r, σE)) : Ct l D dA b0 yX8_prepare cX8_prepare 2 none 0 0 [(2, jx0)] σ none σE := by
  refine Ct.of (lv0 := [(0, 2, jx0)]) (by decide) RX8 rfl (Nat.le_of_ble_eq_true rfl) rfl ?_ (M_X8_prepare jx0 σ r σE hF)
  intro p e R s m args below meth c hX hR hnm
  obtain ⟨Q, hQ⟩ : ∃ Q, Q = Qm D dA b0 σ.1 σ.2.1 below args s none σE := ⟨_, rfl⟩
  rw [← hQ]
  have hE : σE.1 = σE.1 ∧ σE.2.1 = σE.2.1 := ⟨rfl, rfl⟩
  unfold F_X8_prepare at hF
  refine g_iconst hX dX8_prepare_0 ?_
  refine g_istore_n (lv' := [(1, 0, 0), (0, 2, jx0)]) hX dX8_prepare_1 rfl (by decide) rfl ?_
  refine g_lvp (lv' := [(0, 2, jx0), (1, 0, 0)]) [1, 0] rfl ?_
  exact T_X8_prepare_L2 hX hR hnm hQ hE jx0  fu 0 σ hF
end

section
variable {p : Program} {l : Launch} {e : Env} {R : Room} {s : State} {m : MethodId} {args : Array Value} {below : List Frame} {meth : Method} {c : Code} {D : va_G} {dA : Nat → ClassId} {b0 n0 m0 nE mE : Nat} {Q : State → Prop}
def F_X8_spread_B59 (k11 : Int → Hp → Option (Int × Hp)) (k20 : Int → Hp → Option (Int × Hp)) (jx0 : Int) (jx1 : Int) (jx4 : Int) (σ : Hp) : Option (Int × Hp) :=
  k20 (jx4 + 1) σ
theorem M_X8_spread_B59 (k11 : Int → Hp → Option (Int × Hp)) (k20 : Int → Hp → Option (Int × Hp)) (hk11 : ∀ (jx3 : Int) (σ : Hp), Mn σ (k11 jx3 σ)) (hk20 : ∀ (jx4 : Int) (σ : Hp), Mn σ (k20 jx4 σ)) (jx0 : Int) (jx1 : Int) (jx4 : Int) (σ : Hp) : Mn σ (F_X8_spread_B59 k11 k20 jx0 jx1 jx4 σ) := by
  unfold F_X8_spread_B59
  repeat' first | exact Mn_ret | exact Mn_rz | exact hk11 _  _ | exact hk20 _  _ | refine Mn_nm (fun _ => ?_) | refine Mn_nab (fun _ _ => ?_) | refine Mn_nwb (fun _ _ => ?_) | refine Mn_pw (fun _ => ?_) | refine Mn_pz (fun _ => ?_) | refine Mn_aw (fun _ => ?_) | refine Mn_az (fun _ => ?_) | refine Mn_aq (fun _ => ?_) | refine Mn_bo (fun _ => ?_) | refine Mn_bd ?_ (fun _ _ => ?_) | refine Mn_iv ?_ | refine Mn_bLt ?_ ?_ | refine Mn_bLe ?_ ?_ | refine Mn_bEq ?_ ?_ | refine Mn_bN ?_ ?_ | refine Mn_g3 ?_ | refine Mn_g33 ?_ | refine Mn_g66 ?_ | refine Mn_gD ?_
set_option maxRecDepth 100000 in
set_option maxHeartbeats 4000000 in
theorem T_X8_spread_B59 {r : Int} {σE : Hp} (hX : Cx p R s m args meth c D dA b0 n0 m0 5 nE mE cX8_spread RX8 3 65) (hR : Rx meth none) (hnm : meth.name = yX8_spread.name) (hQ : Q = Qm D dA b0 n0 m0 below args s none σE) (hE : nE = σE.1 ∧ mE = σE.2.1) (k11 : Int → Hp → Option (Int × Hp)) (k20 : Int → Hp → Option (Int × Hp)) (jx0 : Int) (jx1 : Int) (jx4 : Int) (hk11 : ∀ (jx3 : Int) (σ : Hp), k11 jx3 σ = some (r, σE) → G p l e R s m args below meth c D dA b0 n0 m0 5 nE mE Q 11 [(0, 2, jx0), (1, 0, jx1), (3, 0, jx3)] [] σ) (hk20 : ∀ (jx4 : Int) (σ : Hp), k20 jx4 σ = some (r, σE) → G p l e R s m args below meth c D dA b0 n0 m0 5 nE mE Q 20 [(0, 2, jx0), (1, 0, jx1), (4, 0, jx4)] [] σ) (σ : Hp) (hF : F_X8_spread_B59 k11 k20 jx0 jx1 jx4 σ = some (r, σE)) : G p l e R s m args below meth c D dA b0 n0 m0 5 nE mE Q 59 [(0, 2, jx0), (1, 0, jx1), (4, 0, jx4)] [] σ := by
  unfold F_X8_spread_B59 at hF
  refine g_iinc (lv' := [(4, 0, (jx4 + 1)), (0, 2, jx0), (1, 0, jx1)]) hX 2 dX8_spread_59 rfl (by decide) rfl ?_
  refine g_goto (tgt := 20) hX dX8_spread_62 (by decide) ?_
  refine g_lvp (lv' := [(0, 2, jx0), (1, 0, jx1), (4, 0, (jx4 + 1))]) [1, 2, 0] rfl ?_
  exact hk20 (jx4 + 1) σ hF
def F_X8_spread_L20 (k11 : Int → Hp → Option (Int × Hp)) (jx0 : Int) (jx1 : Int) : Nat → Int → Hp → Option (Int × Hp)
  | 0, _, _ => none
  | n + 1, jx4, σ => (rd 9 σ jx0 11).bind fun jv5 => bLt jx4 jv5 ((rd 9 σ jx0 12).bind fun jv6 => (ar 11 σ jv6 jx4).bind fun jv7 => bEq jv7 jx1 ((rd 9 σ jx0 21).bind fun jv8 => bd (iv 9 σ jx0 (F_X8_comes  jx0 jx4 σ)) fun jv9 σ10 => (az 13 σ10 jv8 ((1000 * jx4) + jv9) 1).bind fun σ11 => F_X8_spread_B59 k11 (F_X8_spread_L20 k11 jx0 jx1 n) jx0 jx1 jx4  σ11) (F_X8_spread_B59 k11 (F_X8_spread_L20 k11 jx0 jx1 n) jx0 jx1 jx4  σ)) (bd (iv 9 σ jx0 (F_X8_nextLets  jx0  σ)) fun jv12 σ13 => k11 jv12 σ13)
theorem M_X8_spread_L20 (k11 : Int → Hp → Option (Int × Hp)) (hk11 : ∀ (jx3 : Int) (σ : Hp), Mn σ (k11 jx3 σ)) (jx0 : Int) (jx1 : Int) : ∀ (n : Nat) (jx4 : Int) (σ : Hp), Mn σ (F_X8_spread_L20 k11 jx0 jx1 n jx4 σ) := by
  intro n
  induction n with
  | zero => intros; rw [F_X8_spread_L20]; exact Mn_none
  | succ n hk20 =>
    intros
    rw [F_X8_spread_L20]
    repeat' first | exact Mn_ret | exact Mn_rz | exact hk11 _  _ | exact hk20 _  _ | exact M_X8_comes _ _ _ | exact M_X8_spread_B59 k11 (F_X8_spread_L20 k11 jx0 jx1 n) hk11 hk20 _ _ _  _ | exact M_X8_nextLets _ _ | refine Mn_nm (fun _ => ?_) | refine Mn_nab (fun _ _ => ?_) | refine Mn_nwb (fun _ _ => ?_) | refine Mn_pw (fun _ => ?_) | refine Mn_pz (fun _ => ?_) | refine Mn_aw (fun _ => ?_) | refine Mn_az (fun _ => ?_) | refine Mn_aq (fun _ => ?_) | refine Mn_bo (fun _ => ?_) | refine Mn_bd ?_ (fun _ _ => ?_) | refine Mn_iv ?_ | refine Mn_bLt ?_ ?_ | refine Mn_bLe ?_ ?_ | refine Mn_bEq ?_ ?_ | refine Mn_bN ?_ ?_ | refine Mn_g3 ?_ | refine Mn_g33 ?_ | refine Mn_g66 ?_ | refine Mn_gD ?_
set_option maxRecDepth 100000 in
set_option maxHeartbeats 4000000 in
theorem T_X8_spread_L20 {r : Int} {σE : Hp} (hX : Cx p R s m args meth c D dA b0 n0 m0 5 nE mE cX8_spread RX8 3 65) (hR : Rx meth none) (hnm : meth.name = yX8_spread.name) (hQ : Q = Qm D dA b0 n0 m0 below args s none σE) (hE : nE = σE.1 ∧ mE = σE.2.1) (k11 : Int → Hp → Option (Int × Hp)) (jx0 : Int) (jx1 : Int) (hk11 : ∀ (jx3 : Int) (σ : Hp), k11 jx3 σ = some (r, σE) → G p l e R s m args below meth c D dA b0 n0 m0 5 nE mE Q 11 [(0, 2, jx0), (1, 0, jx1), (3, 0, jx3)] [] σ) : ∀ (n : Nat) (jx4 : Int) (σ : Hp), F_X8_spread_L20 k11 jx0 jx1 n jx4 σ = some (r, σE) → G p l e R s m args below meth c D dA b0 n0 m0 5 nE mE Q 20 [(0, 2, jx0), (1, 0, jx1), (4, 0, jx4)] [] σ := by
  intro n
  induction n with
  | zero =>
    intro jx4 σ hF
    rw [F_X8_spread_L20] at hF
    cases hF
  | succ n hk20 =>
    intro jx4 σ hF
    rw [F_X8_spread_L20] at hF
    refine g_iload hX 2 dX8_spread_20 rfl ?_
    refine g_aload_n hX 0 dX8_spread_22 rfl rfl ?_
    refine g_get hX fl_X8_41 (by decide) (by decide) dX8_spread_23 hF (fun jv5 hF => ?_)
    refine g_icmp_ge (tgt := 65) hX dX8_spread_26 (by decide) hF (fun hc hF => ?_) (fun hc hF => ?_)
    · refine g_aload_n hX 0 dX8_spread_29 rfl rfl ?_
      refine g_get hX fl_X8_44 (by decide) (by decide) dX8_spread_30 hF (fun jv6 hF => ?_)
      refine g_iload hX 2 dX8_spread_33 rfl ?_
      refine g_iald hX dX8_spread_35 hF (fun jv7 hF => ?_)
      refine g_iload_n hX 1 dX8_spread_36 rfl rfl ?_
      refine g_icmp_ne (tgt := 59) hX dX8_spread_37 (by decide) hF (fun hc hF => ?_) (fun hc hF => ?_)
      · refine g_aload_n hX 0 dX8_spread_40 rfl rfl ?_
        refine g_get hX fl_X8_67 (by decide) (by decide) dX8_spread_41 hF (fun jv8 hF => ?_)
        refine g_sipush hX dX8_spread_44 (by decide) ?_
        refine g_iload hX 2 dX8_spread_47 rfl ?_
        refine g_imul hX dX8_spread_49 ?_
        refine g_aload_n hX 0 dX8_spread_50 rfl rfl ?_
        refine g_iload hX 2 dX8_spread_51 rfl ?_
        refine g_callV (t := 0) (ci := 8) (rest := [(0, (1000 * jx4)), (2, jv8)]) [(0, jx4)] hX cw_X8_178 rfl (by decide) (by decide) (fun r σ1 h => T_X8_comes l D dA b0  jx0 jx4 σ σ1 r h) ⟨by decide, by decide⟩ rfl rfl (Nat.le_of_ble_eq_true rfl) dX8_spread_53 hF (fun jv9 σ10 hF => ?_)
        refine g_iadd hX dX8_spread_56 ?_
        refine g_iconst hX dX8_spread_57 ?_
        refine u_zast hX dX8_spread_58 hF (fun σ11 hF => ?_)
        exact T_X8_spread_B59 hX hR hnm hQ hE k11 (F_X8_spread_L20 k11 jx0 jx1 n) jx0 jx1 jx4  hk11 hk20  σ11 hF
      · exact T_X8_spread_B59 hX hR hnm hQ hE k11 (F_X8_spread_L20 k11 jx0 jx1 n) jx0 jx1 jx4  hk11 hk20  σ hF
    · refine g_aload_n hX 0 dX8_spread_65 rfl rfl ?_
      refine g_callV (t := 0) (ci := 8) (rest := []) [] hX cw_X8_181 rfl (by decide) (by decide) (fun r σ1 h => T_X8_nextLets l D dA b0  jx0  σ σ1 r h) ⟨by decide, by decide⟩ rfl rfl (Nat.le_of_ble_eq_true rfl) dX8_spread_66 hF (fun jv12 σ13 hF => ?_)
      refine g_istore_n (lv' := [(3, 0, jv12), (0, 2, jx0), (1, 0, jx1), (4, 0, jx4)]) hX dX8_spread_69 rfl (by decide) rfl ?_
      refine g_goto (tgt := 11) hX dX8_spread_70 (by decide) ?_
      refine g_lvp (lv' := [(0, 2, jx0), (1, 0, jx1), (3, 0, jv12)]) [1, 2, 0] rfl ?_
      exact hk11 jv12 σ13 hF
def F_X8_spread_L11 (jx0 : Int) (jx1 : Int) : Nat → Int → Hp → Option (Int × Hp)
  | 0, _, _ => none
  | n + 1, jx3, σ => bEq jx3 0 (some (0, σ)) (F_X8_spread_L20 (F_X8_spread_L11 jx0 jx1 n) jx0 jx1 fu (jx1 + 1) σ)
theorem M_X8_spread_L11 (jx0 : Int) (jx1 : Int) : ∀ (n : Nat) (jx3 : Int) (σ : Hp), Mn σ (F_X8_spread_L11 jx0 jx1 n jx3 σ) := by
  intro n
  induction n with
  | zero => intros; rw [F_X8_spread_L11]; exact Mn_none
  | succ n hk11 =>
    intros
    rw [F_X8_spread_L11]
    repeat' first | exact Mn_ret | exact Mn_rz | exact hk11 _  _ | exact M_X8_spread_L20 (F_X8_spread_L11 jx0 jx1 n) hk11 _ _ _ _ _ | refine Mn_nm (fun _ => ?_) | refine Mn_nab (fun _ _ => ?_) | refine Mn_nwb (fun _ _ => ?_) | refine Mn_pw (fun _ => ?_) | refine Mn_pz (fun _ => ?_) | refine Mn_aw (fun _ => ?_) | refine Mn_az (fun _ => ?_) | refine Mn_aq (fun _ => ?_) | refine Mn_bo (fun _ => ?_) | refine Mn_bd ?_ (fun _ _ => ?_) | refine Mn_iv ?_ | refine Mn_bLt ?_ ?_ | refine Mn_bLe ?_ ?_ | refine Mn_bEq ?_ ?_ | refine Mn_bN ?_ ?_ | refine Mn_g3 ?_ | refine Mn_g33 ?_ | refine Mn_g66 ?_ | refine Mn_gD ?_
set_option maxRecDepth 100000 in
set_option maxHeartbeats 4000000 in
theorem T_X8_spread_L11 {r : Int} {σE : Hp} (hX : Cx p R s m args meth c D dA b0 n0 m0 5 nE mE cX8_spread RX8 3 65) (hR : Rx meth none) (hnm : meth.name = yX8_spread.name) (hQ : Q = Qm D dA b0 n0 m0 below args s none σE) (hE : nE = σE.1 ∧ mE = σE.2.1) (jx0 : Int) (jx1 : Int) : ∀ (n : Nat) (jx3 : Int) (σ : Hp), F_X8_spread_L11 jx0 jx1 n jx3 σ = some (r, σE) → G p l e R s m args below meth c D dA b0 n0 m0 5 nE mE Q 11 [(0, 2, jx0), (1, 0, jx1), (3, 0, jx3)] [] σ := by
  intro n
  induction n with
  | zero =>
    intro jx3 σ hF
    rw [F_X8_spread_L11] at hF
    cases hF
  | succ n hk11 =>
    intro jx3 σ hF
    rw [F_X8_spread_L11] at hF
    refine g_iload_n hX 2 dX8_spread_11 rfl rfl ?_
    refine g_if_eq (tgt := 73) hX dX8_spread_12 (by decide) hF (fun hc hF => ?_) (fun hc hF => ?_)
    · exact g_vret hX hR hQ hE dX8_spread_73 hF
    · refine g_iload_n hX 1 dX8_spread_15 rfl rfl ?_
      refine g_iconst hX dX8_spread_16 ?_
      refine g_iadd hX dX8_spread_17 ?_
      refine g_istore (lv' := [(4, 0, (jx1 + 1)), (0, 2, jx0), (1, 0, jx1), (3, 0, jx3)]) hX dX8_spread_18 (by decide) rfl ?_
      refine g_lvp (lv' := [(0, 2, jx0), (1, 0, jx1), (4, 0, (jx1 + 1))]) [1, 2, 0] rfl ?_
      exact T_X8_spread_L20 hX hR hnm hQ hE (F_X8_spread_L11 jx0 jx1 n) jx0 jx1 hk11  fu (jx1 + 1) σ hF
def F_X8_spread (jx0 : Int) (jx1 : Int) (jx2 : Int) (σ : Hp) : Option (Int × Hp) :=
  bd (iv 9 σ jx0 (F_X8_unfold  jx0 jx2 σ)) fun jv1 σ2 => bd (iv 9 σ2 jx0 (F_X8_firstLets  jx0  σ2)) fun jv3 σ4 => F_X8_spread_L11 jx0 jx1 fu 1 σ4
theorem M_X8_spread (jx0 : Int) (jx1 : Int) (jx2 : Int) (σ : Hp) : Mn σ (F_X8_spread jx0 jx1 jx2 σ) := by
  unfold F_X8_spread
  repeat' first | exact Mn_ret | exact Mn_rz | exact M_X8_unfold _ _ _ | exact M_X8_firstLets _ _ | exact M_X8_spread_L11 _ _ _ _ _ | refine Mn_nm (fun _ => ?_) | refine Mn_nab (fun _ _ => ?_) | refine Mn_nwb (fun _ _ => ?_) | refine Mn_pw (fun _ => ?_) | refine Mn_pz (fun _ => ?_) | refine Mn_aw (fun _ => ?_) | refine Mn_az (fun _ => ?_) | refine Mn_aq (fun _ => ?_) | refine Mn_bo (fun _ => ?_) | refine Mn_bd ?_ (fun _ _ => ?_) | refine Mn_iv ?_ | refine Mn_bLt ?_ ?_ | refine Mn_bLe ?_ ?_ | refine Mn_bEq ?_ ?_ | refine Mn_bN ?_ ?_ | refine Mn_g3 ?_ | refine Mn_g33 ?_ | refine Mn_g66 ?_ | refine Mn_gD ?_
set_option maxRecDepth 100000 in
set_option maxHeartbeats 4000000 in
theorem T_X8_spread (l : Launch) (D : va_G) (dA : Nat → ClassId) (b0 : Nat) (jx0 : Int) (jx1 : Int) (jx2 : Int) (σ σE : Hp) (r : Int) (hF : F_X8_spread jx0 jx1 jx2 σ = some (r, σE)) : Ct l D dA b0 yX8_spread cX8_spread 5 none 3 65 [(2, jx0), (0, jx1), (0, jx2)] σ none σE := by
  refine Ct.of (lv0 := [(0, 2, jx0), (1, 0, jx1), (2, 0, jx2)]) (by decide) RX8 rfl (Nat.le_of_ble_eq_true rfl) rfl ?_ (M_X8_spread jx0 jx1 jx2 σ r σE hF)
  intro p e R s m args below meth c hX hR hnm
  obtain ⟨Q, hQ⟩ : ∃ Q, Q = Qm D dA b0 σ.1 σ.2.1 below args s none σE := ⟨_, rfl⟩
  rw [← hQ]
  have hE : σE.1 = σE.1 ∧ σE.2.1 = σE.2.1 := ⟨rfl, rfl⟩
  unfold F_X8_spread at hF
  refine g_aload_n hX 0 dX8_spread_0 rfl rfl ?_
  refine g_iload_n hX 2 dX8_spread_1 rfl rfl ?_
  refine g_callVv (ci := 8) (rest := []) [(0, jx2)] hX cw_X8_164 rfl (by decide) (by decide) (fun r σ1 h => T_X8_unfold l D dA b0  jx0 jx2 σ σ1 r h) ⟨by decide, by decide⟩ rfl rfl (Nat.le_of_ble_eq_true rfl) dX8_spread_2 hF (fun jv1 σ2 hF => ?_)
  refine g_aload_n hX 0 dX8_spread_5 rfl rfl ?_
  refine g_callVv (ci := 8) (rest := []) [] hX cw_X8_175 rfl (by decide) (by decide) (fun r σ1 h => T_X8_firstLets l D dA b0  jx0  σ2 σ1 r h) ⟨by decide, by decide⟩ rfl rfl (Nat.le_of_ble_eq_true rfl) dX8_spread_6 hF (fun jv3 σ4 hF => ?_)
  refine g_iconst hX dX8_spread_9 ?_
  refine g_istore_n (lv' := [(3, 0, 1), (0, 2, jx0), (1, 0, jx1), (2, 0, jx2)]) hX dX8_spread_10 rfl (by decide) rfl ?_
  refine g_lvp (lv' := [(0, 2, jx0), (1, 0, jx1), (3, 0, 1)]) [1, 2, 0] rfl ?_
  exact T_X8_spread_L11 hX hR hnm hQ hE jx0 jx1  fu 1 σ4 hF
end

section
variable {p : Program} {l : Launch} {e : Env} {R : Room} {s : State} {m : MethodId} {args : Array Value} {below : List Frame} {meth : Method} {c : Code} {D : va_G} {dA : Nat → ClassId} {b0 n0 m0 nE mE : Nat} {Q : State → Prop}
def F_X8_scale_L10 (jx0 : Int) : Nat → Int → Int → Hp → Option (Int × Hp)
  | 0, _, _, _ => none
  | n + 1, jx2, jx4, σ => (rd 9 σ jx0 8).bind fun jv3 => bLt jx4 (jv3 - 1) ((rd 9 σ jx0 9).bind fun jv4 => g3 jv4 (nm ((jx2 * jv4)) fun jv5 => (F_X8_scale_L10 jx0 n) jv5 (jx4 + 1) σ)) (some (jx2, σ))
theorem M_X8_scale_L10 (jx0 : Int) : ∀ (n : Nat) (jx2 : Int) (jx4 : Int) (σ : Hp), Mn σ (F_X8_scale_L10 jx0 n jx2 jx4 σ) := by
  intro n
  induction n with
  | zero => intros; rw [F_X8_scale_L10]; exact Mn_none
  | succ n hk10 =>
    intros
    rw [F_X8_scale_L10]
    repeat' first | exact Mn_ret | exact Mn_rz | exact hk10 _ _  _ | refine Mn_nm (fun _ => ?_) | refine Mn_nab (fun _ _ => ?_) | refine Mn_nwb (fun _ _ => ?_) | refine Mn_pw (fun _ => ?_) | refine Mn_pz (fun _ => ?_) | refine Mn_aw (fun _ => ?_) | refine Mn_az (fun _ => ?_) | refine Mn_aq (fun _ => ?_) | refine Mn_bo (fun _ => ?_) | refine Mn_bd ?_ (fun _ _ => ?_) | refine Mn_iv ?_ | refine Mn_bLt ?_ ?_ | refine Mn_bLe ?_ ?_ | refine Mn_bEq ?_ ?_ | refine Mn_bN ?_ ?_ | refine Mn_g3 ?_ | refine Mn_g33 ?_ | refine Mn_g66 ?_ | refine Mn_gD ?_
set_option maxRecDepth 100000 in
set_option maxHeartbeats 4000000 in
theorem T_X8_scale_L10 {r : Int} {σE : Hp} (hX : Cx p R s m args meth c D dA b0 n0 m0 5 nE mE cX8_scale RX8 0 0) (hR : Rx meth (some .long)) (hnm : meth.name = yX8_scale.name) (hQ : Q = Qm D dA b0 n0 m0 below args s (some (pV 1 r)) σE) (hE : nE = σE.1 ∧ mE = σE.2.1) (jx0 : Int) : ∀ (n : Nat) (jx2 : Int) (jx4 : Int) (σ : Hp), F_X8_scale_L10 jx0 n jx2 jx4 σ = some (r, σE) → G p l e R s m args below meth c D dA b0 n0 m0 5 nE mE Q 10 [(0, 2, jx0), (2, 1, jx2), (4, 0, jx4)] [] σ := by
  intro n
  induction n with
  | zero =>
    intro jx2 jx4 σ hF
    rw [F_X8_scale_L10] at hF
    cases hF
  | succ n hk10 =>
    intro jx2 jx4 σ hF
    rw [F_X8_scale_L10] at hF
    refine g_iload hX 2 dX8_scale_10 rfl ?_
    refine g_aload_n hX 0 dX8_scale_12 rfl rfl ?_
    refine g_get hX fl_X8_32 (by decide) (by decide) dX8_scale_13 hF (fun jv3 hF => ?_)
    refine g_iconst hX dX8_scale_16 ?_
    refine g_isub hX dX8_scale_17 ?_
    refine g_icmp_ge (tgt := 35) hX dX8_scale_18 (by decide) hF (fun hc hF => ?_) (fun hc hF => ?_)
    · refine g_lload_n hX 1 dX8_scale_21 rfl rfl ?_
      refine g_aload_n hX 0 dX8_scale_22 rfl rfl ?_
      refine g_get hX fl_X8_35 (by decide) (by decide) dX8_scale_23 hF (fun jv4 hF => ?_)
      refine g_i2l hX dX8_scale_26 hF (fun hF => ?_)
      refine g_lmul hX dX8_scale_27 ?_
      refine g_nm hF (fun jv5 hF => ?_)
      refine g_lstore_n (lv' := [(2, 1, jv5), (0, 2, jx0), (4, 0, jx4)]) hX dX8_scale_28 rfl (by decide) rfl ?_
      refine g_iinc (lv' := [(4, 0, (jx4 + 1)), (2, 1, jv5), (0, 2, jx0)]) hX 2 dX8_scale_29 rfl (by decide) rfl ?_
      refine g_goto (tgt := 10) hX dX8_scale_32 (by decide) ?_
      refine g_lvp (lv' := [(0, 2, jx0), (2, 1, jv5), (4, 0, (jx4 + 1))]) [2, 1, 0] rfl ?_
      exact hk10 jv5 (jx4 + 1) σ hF
    · refine g_lload_n hX 1 dX8_scale_35 rfl rfl ?_
      exact g_lret hX hR hQ hE dX8_scale_36 hF
def F_X8_scale (jx0 : Int) (jx1 : Int) (σ : Hp) : Option (Int × Hp) :=
  (rd 9 σ jx0 14).bind fun jv1 => (ar 11 σ jv1 jx1).bind fun jv2 => F_X8_scale_L10 jx0 fu 1 jv2 σ
theorem M_X8_scale (jx0 : Int) (jx1 : Int) (σ : Hp) : Mn σ (F_X8_scale jx0 jx1 σ) := by
  unfold F_X8_scale
  repeat' first | exact Mn_ret | exact Mn_rz | exact M_X8_scale_L10 _ _ _ _ _ | refine Mn_nm (fun _ => ?_) | refine Mn_nab (fun _ _ => ?_) | refine Mn_nwb (fun _ _ => ?_) | refine Mn_pw (fun _ => ?_) | refine Mn_pz (fun _ => ?_) | refine Mn_aw (fun _ => ?_) | refine Mn_az (fun _ => ?_) | refine Mn_aq (fun _ => ?_) | refine Mn_bo (fun _ => ?_) | refine Mn_bd ?_ (fun _ _ => ?_) | refine Mn_iv ?_ | refine Mn_bLt ?_ ?_ | refine Mn_bLe ?_ ?_ | refine Mn_bEq ?_ ?_ | refine Mn_bN ?_ ?_ | refine Mn_g3 ?_ | refine Mn_g33 ?_ | refine Mn_g66 ?_ | refine Mn_gD ?_
set_option maxRecDepth 100000 in
set_option maxHeartbeats 4000000 in
theorem T_X8_scale (l : Launch) (D : va_G) (dA : Nat → ClassId) (b0 : Nat) (jx0 : Int) (jx1 : Int) (σ σE : Hp) (r : Int) (hF : F_X8_scale jx0 jx1 σ = some (r, σE)) : Ct l D dA b0 yX8_scale cX8_scale 5 (some .long) 0 0 [(2, jx0), (0, jx1)] σ (some (pV 1 r)) σE := by
  refine Ct.of (lv0 := [(0, 2, jx0), (1, 0, jx1)]) (by decide) RX8 rfl (Nat.le_of_ble_eq_true rfl) rfl ?_ (M_X8_scale jx0 jx1 σ r σE hF)
  intro p e R s m args below meth c hX hR hnm
  obtain ⟨Q, hQ⟩ : ∃ Q, Q = Qm D dA b0 σ.1 σ.2.1 below args s (some (pV 1 r)) σE := ⟨_, rfl⟩
  rw [← hQ]
  have hE : σE.1 = σE.1 ∧ σE.2.1 = σE.2.1 := ⟨rfl, rfl⟩
  unfold F_X8_scale at hF
  refine g_lconst (z := 1) hX dX8_scale_0 rfl ?_
  refine g_lstore_n (lv' := [(2, 1, 1), (0, 2, jx0), (1, 0, jx1)]) hX dX8_scale_1 rfl (by decide) rfl ?_
  refine g_aload_n hX 1 dX8_scale_2 rfl rfl ?_
  refine g_get hX fl_X8_50 (by decide) (by decide) dX8_scale_3 hF (fun jv1 hF => ?_)
  refine g_iload_n hX 2 dX8_scale_6 rfl rfl ?_
  refine g_iald hX dX8_scale_7 hF (fun jv2 hF => ?_)
  refine g_istore (lv' := [(4, 0, jv2), (2, 1, 1), (0, 2, jx0), (1, 0, jx1)]) hX dX8_scale_8 (by decide) rfl ?_
  refine g_lvp (lv' := [(0, 2, jx0), (2, 1, 1), (4, 0, jv2)]) [2, 1, 0] rfl ?_
  exact T_X8_scale_L10 hX hR hnm hQ hE jx0  fu 1 jv2 σ hF
end

section
variable {p : Program} {l : Launch} {e : Env} {R : Room} {s : State} {m : MethodId} {args : Array Value} {below : List Frame} {meth : Method} {c : Code} {D : va_G} {dA : Nat → ClassId} {b0 n0 m0 nE mE : Nat} {Q : State → Prop}
def F_X8_settle_B145 (k65 : Int → Int → Hp → Option (Int × Hp)) (k93 : Int → Int → Hp → Option (Int × Hp)) (jx0 : Int) (jx1 : Int) (jx3 : Int) (jx4 : Int) (jx6 : Int) (jx8 : Int) (jx10 : Int) (σ : Hp) : Option (Int × Hp) :=
  k93 jx8 (jx10 + 1) σ
theorem M_X8_settle_B145 (k65 : Int → Int → Hp → Option (Int × Hp)) (k93 : Int → Int → Hp → Option (Int × Hp)) (hk65 : ∀ (jx6 : Int) (jx7 : Int) (σ : Hp), Mn σ (k65 jx6 jx7 σ)) (hk93 : ∀ (jx8 : Int) (jx10 : Int) (σ : Hp), Mn σ (k93 jx8 jx10 σ)) (jx0 : Int) (jx1 : Int) (jx3 : Int) (jx4 : Int) (jx6 : Int) (jx8 : Int) (jx10 : Int) (σ : Hp) : Mn σ (F_X8_settle_B145 k65 k93 jx0 jx1 jx3 jx4 jx6 jx8 jx10 σ) := by
  unfold F_X8_settle_B145
  repeat' first | exact Mn_ret | exact Mn_rz | exact hk65 _ _  _ | exact hk93 _ _  _ | refine Mn_nm (fun _ => ?_) | refine Mn_nab (fun _ _ => ?_) | refine Mn_nwb (fun _ _ => ?_) | refine Mn_pw (fun _ => ?_) | refine Mn_pz (fun _ => ?_) | refine Mn_aw (fun _ => ?_) | refine Mn_az (fun _ => ?_) | refine Mn_aq (fun _ => ?_) | refine Mn_bo (fun _ => ?_) | refine Mn_bd ?_ (fun _ _ => ?_) | refine Mn_iv ?_ | refine Mn_bLt ?_ ?_ | refine Mn_bLe ?_ ?_ | refine Mn_bEq ?_ ?_ | refine Mn_bN ?_ ?_ | refine Mn_g3 ?_ | refine Mn_g33 ?_ | refine Mn_g66 ?_ | refine Mn_gD ?_
set_option maxRecDepth 100000 in
set_option maxHeartbeats 4000000 in
theorem T_X8_settle_B145 {r : Int} {σE : Hp} (hX : Cx p R s m args meth c D dA b0 n0 m0 11 nE mE cX8_settle RX8 3 65) (hR : Rx meth none) (hnm : meth.name = yX8_settle.name) (hQ : Q = Qm D dA b0 n0 m0 below args s none σE) (hE : nE = σE.1 ∧ mE = σE.2.1) (k65 : Int → Int → Hp → Option (Int × Hp)) (k93 : Int → Int → Hp → Option (Int × Hp)) (jx0 : Int) (jx1 : Int) (jx3 : Int) (jx4 : Int) (jx6 : Int) (jx8 : Int) (jx10 : Int) (hk65 : ∀ (jx6 : Int) (jx7 : Int) (σ : Hp), k65 jx6 jx7 σ = some (r, σE) → G p l e R s m args below meth c D dA b0 n0 m0 11 nE mE Q 65 [(0, 2, jx0), (1, 0, jx1), (3, 0, jx3), (4, 1, jx4), (6, 0, jx6), (7, 0, jx7)] [] σ) (hk93 : ∀ (jx8 : Int) (jx10 : Int) (σ : Hp), k93 jx8 jx10 σ = some (r, σE) → G p l e R s m args below meth c D dA b0 n0 m0 11 nE mE Q 93 [(0, 2, jx0), (1, 0, jx1), (3, 0, jx3), (4, 1, jx4), (6, 0, jx6), (8, 1, jx8), (10, 0, jx10)] [] σ) (σ : Hp) (hF : F_X8_settle_B145 k65 k93 jx0 jx1 jx3 jx4 jx6 jx8 jx10 σ = some (r, σE)) : G p l e R s m args below meth c D dA b0 n0 m0 11 nE mE Q 145 [(0, 2, jx0), (1, 0, jx1), (3, 0, jx3), (4, 1, jx4), (6, 0, jx6), (8, 1, jx8), (10, 0, jx10)] [] σ := by
  unfold F_X8_settle_B145 at hF
  refine g_iinc (lv' := [(10, 0, (jx10 + 1)), (0, 2, jx0), (1, 0, jx1), (3, 0, jx3), (4, 1, jx4), (6, 0, jx6), (8, 1, jx8)]) hX 6 dX8_settle_145 rfl (by decide) rfl ?_
  refine g_goto (tgt := 93) hX dX8_settle_148 (by decide) ?_
  refine g_lvp (lv' := [(0, 2, jx0), (1, 0, jx1), (3, 0, jx3), (4, 1, jx4), (6, 0, jx6), (8, 1, jx8), (10, 0, (jx10 + 1))]) [1, 2, 3, 4, 5, 6, 0] rfl ?_
  exact hk93 jx8 (jx10 + 1) σ hF
def F_X8_settle_B208 (k65 : Int → Int → Hp → Option (Int × Hp)) (jx0 : Int) (jx1 : Int) (jx3 : Int) (jx4 : Int) (σ : Hp) : Option (Int × Hp) :=
  bd (iv 9 σ jx0 (F_X8_nextLets  jx0  σ)) fun jv34 σ35 => k65 0 jv34 σ35
theorem M_X8_settle_B208 (k65 : Int → Int → Hp → Option (Int × Hp)) (hk65 : ∀ (jx6 : Int) (jx7 : Int) (σ : Hp), Mn σ (k65 jx6 jx7 σ)) (jx0 : Int) (jx1 : Int) (jx3 : Int) (jx4 : Int) (σ : Hp) : Mn σ (F_X8_settle_B208 k65 jx0 jx1 jx3 jx4 σ) := by
  unfold F_X8_settle_B208
  repeat' first | exact Mn_ret | exact Mn_rz | exact hk65 _ _  _ | exact M_X8_nextLets _ _ | refine Mn_nm (fun _ => ?_) | refine Mn_nab (fun _ _ => ?_) | refine Mn_nwb (fun _ _ => ?_) | refine Mn_pw (fun _ => ?_) | refine Mn_pz (fun _ => ?_) | refine Mn_aw (fun _ => ?_) | refine Mn_az (fun _ => ?_) | refine Mn_aq (fun _ => ?_) | refine Mn_bo (fun _ => ?_) | refine Mn_bd ?_ (fun _ _ => ?_) | refine Mn_iv ?_ | refine Mn_bLt ?_ ?_ | refine Mn_bLe ?_ ?_ | refine Mn_bEq ?_ ?_ | refine Mn_bN ?_ ?_ | refine Mn_g3 ?_ | refine Mn_g33 ?_ | refine Mn_g66 ?_ | refine Mn_gD ?_
set_option maxRecDepth 100000 in
set_option maxHeartbeats 4000000 in
theorem T_X8_settle_B208 {r : Int} {σE : Hp} (hX : Cx p R s m args meth c D dA b0 n0 m0 11 nE mE cX8_settle RX8 3 65) (hR : Rx meth none) (hnm : meth.name = yX8_settle.name) (hQ : Q = Qm D dA b0 n0 m0 below args s none σE) (hE : nE = σE.1 ∧ mE = σE.2.1) (k65 : Int → Int → Hp → Option (Int × Hp)) (jx0 : Int) (jx1 : Int) (jx3 : Int) (jx4 : Int) (hk65 : ∀ (jx6 : Int) (jx7 : Int) (σ : Hp), k65 jx6 jx7 σ = some (r, σE) → G p l e R s m args below meth c D dA b0 n0 m0 11 nE mE Q 65 [(0, 2, jx0), (1, 0, jx1), (3, 0, jx3), (4, 1, jx4), (6, 0, jx6), (7, 0, jx7)] [] σ) (σ : Hp) (hF : F_X8_settle_B208 k65 jx0 jx1 jx3 jx4 σ = some (r, σE)) : G p l e R s m args below meth c D dA b0 n0 m0 11 nE mE Q 208 [(0, 2, jx0), (1, 0, jx1), (3, 0, jx3), (4, 1, jx4)] [] σ := by
  unfold F_X8_settle_B208 at hF
  refine g_iconst hX dX8_settle_208 ?_
  refine g_istore (lv' := [(6, 0, 0), (0, 2, jx0), (1, 0, jx1), (3, 0, jx3), (4, 1, jx4)]) hX dX8_settle_209 (by decide) rfl ?_
  refine g_aload_n hX 1 dX8_settle_211 rfl rfl ?_
  refine g_callV (t := 0) (ci := 8) (rest := []) [] hX cw_X8_181 rfl (by decide) (by decide) (fun r σ1 h => T_X8_nextLets l D dA b0  jx0  σ σ1 r h) ⟨by decide, by decide⟩ rfl rfl (Nat.le_of_ble_eq_true rfl) dX8_settle_212 hF (fun jv34 σ35 hF => ?_)
  refine g_istore (lv' := [(7, 0, jv34), (6, 0, 0), (0, 2, jx0), (1, 0, jx1), (3, 0, jx3), (4, 1, jx4)]) hX dX8_settle_215 (by decide) rfl ?_
  refine g_goto (tgt := 65) hX dX8_settle_217 (by decide) ?_
  refine g_lvp (lv' := [(0, 2, jx0), (1, 0, jx1), (3, 0, jx3), (4, 1, jx4), (6, 0, 0), (7, 0, jv34)]) [2, 3, 4, 5, 1, 0] rfl ?_
  exact hk65 0 jv34 σ35 hF
def F_X8_settle_B168 (k65 : Int → Int → Hp → Option (Int × Hp)) (jx0 : Int) (jx1 : Int) (jx3 : Int) (jx4 : Int) (jx8 : Int) (σ : Hp) : Option (Int × Hp) :=
  (rd 9 σ jx0 22).bind fun jv36 => (aw 12 σ jv36 jx3 jx8).bind fun σ37 => (rd 9 σ37 jx0 23).bind fun jv38 => (rd 9 σ37 jx0 17).bind fun jv39 => (ar 11 σ37 jv39 0).bind fun jv40 => (rd 9 σ37 jx0 17).bind fun jv41 => (ar 11 σ37 jv41 1).bind fun jv42 => (rd 9 σ37 jx0 17).bind fun jv43 => (ar 11 σ37 jv43 2).bind fun jv44 => (aw 11 σ37 jv38 jx3 ((((jv40 * 16) + jv42) * 16) + jv44)).bind fun σ45 => F_X8_settle_B208 k65 jx0 jx1 jx3 jx4  σ45
theorem M_X8_settle_B168 (k65 : Int → Int → Hp → Option (Int × Hp)) (hk65 : ∀ (jx6 : Int) (jx7 : Int) (σ : Hp), Mn σ (k65 jx6 jx7 σ)) (jx0 : Int) (jx1 : Int) (jx3 : Int) (jx4 : Int) (jx8 : Int) (σ : Hp) : Mn σ (F_X8_settle_B168 k65 jx0 jx1 jx3 jx4 jx8 σ) := by
  unfold F_X8_settle_B168
  repeat' first | exact Mn_ret | exact Mn_rz | exact hk65 _ _  _ | exact M_X8_settle_B208 k65 hk65 _ _ _ _  _ | refine Mn_nm (fun _ => ?_) | refine Mn_nab (fun _ _ => ?_) | refine Mn_nwb (fun _ _ => ?_) | refine Mn_pw (fun _ => ?_) | refine Mn_pz (fun _ => ?_) | refine Mn_aw (fun _ => ?_) | refine Mn_az (fun _ => ?_) | refine Mn_aq (fun _ => ?_) | refine Mn_bo (fun _ => ?_) | refine Mn_bd ?_ (fun _ _ => ?_) | refine Mn_iv ?_ | refine Mn_bLt ?_ ?_ | refine Mn_bLe ?_ ?_ | refine Mn_bEq ?_ ?_ | refine Mn_bN ?_ ?_ | refine Mn_g3 ?_ | refine Mn_g33 ?_ | refine Mn_g66 ?_ | refine Mn_gD ?_
set_option maxRecDepth 100000 in
set_option maxHeartbeats 4000000 in
theorem T_X8_settle_B168 {r : Int} {σE : Hp} (hX : Cx p R s m args meth c D dA b0 n0 m0 11 nE mE cX8_settle RX8 3 65) (hR : Rx meth none) (hnm : meth.name = yX8_settle.name) (hQ : Q = Qm D dA b0 n0 m0 below args s none σE) (hE : nE = σE.1 ∧ mE = σE.2.1) (k65 : Int → Int → Hp → Option (Int × Hp)) (jx0 : Int) (jx1 : Int) (jx3 : Int) (jx4 : Int) (jx8 : Int) (hk65 : ∀ (jx6 : Int) (jx7 : Int) (σ : Hp), k65 jx6 jx7 σ = some (r, σE) → G p l e R s m args below meth c D dA b0 n0 m0 11 nE mE Q 65 [(0, 2, jx0), (1, 0, jx1), (3, 0, jx3), (4, 1, jx4), (6, 0, jx6), (7, 0, jx7)] [] σ) (σ : Hp) (hF : F_X8_settle_B168 k65 jx0 jx1 jx3 jx4 jx8 σ = some (r, σE)) : G p l e R s m args below meth c D dA b0 n0 m0 11 nE mE Q 168 [(0, 2, jx0), (1, 0, jx1), (3, 0, jx3), (4, 1, jx4), (8, 1, jx8)] [] σ := by
  unfold F_X8_settle_B168 at hF
  refine g_aload_n hX 0 dX8_settle_168 rfl rfl ?_
  refine g_get hX fl_X8_70 (by decide) (by decide) dX8_settle_169 hF (fun jv36 hF => ?_)
  refine g_iload_n hX 2 dX8_settle_172 rfl rfl ?_
  refine g_lload hX 4 dX8_settle_173 rfl ?_
  refine u_last hX dX8_settle_175 hF (fun σ37 hF => ?_)
  refine g_aload_n hX 0 dX8_settle_176 rfl rfl ?_
  refine g_get hX fl_X8_74 (by decide) (by decide) dX8_settle_177 hF (fun jv38 hF => ?_)
  refine g_iload_n hX 2 dX8_settle_180 rfl rfl ?_
  refine g_aload_n hX 0 dX8_settle_181 rfl rfl ?_
  refine g_get hX fl_X8_59 (by decide) (by decide) dX8_settle_182 hF (fun jv39 hF => ?_)
  refine g_iconst hX dX8_settle_185 ?_
  refine g_iald hX dX8_settle_186 hF (fun jv40 hF => ?_)
  refine g_bipush hX dX8_settle_187 (by decide) ?_
  refine g_imul hX dX8_settle_189 ?_
  refine g_aload_n hX 0 dX8_settle_190 rfl rfl ?_
  refine g_get hX fl_X8_59 (by decide) (by decide) dX8_settle_191 hF (fun jv41 hF => ?_)
  refine g_iconst hX dX8_settle_194 ?_
  refine g_iald hX dX8_settle_195 hF (fun jv42 hF => ?_)
  refine g_iadd hX dX8_settle_196 ?_
  refine g_bipush hX dX8_settle_197 (by decide) ?_
  refine g_imul hX dX8_settle_199 ?_
  refine g_aload_n hX 0 dX8_settle_200 rfl rfl ?_
  refine g_get hX fl_X8_59 (by decide) (by decide) dX8_settle_201 hF (fun jv43 hF => ?_)
  refine g_iconst hX dX8_settle_204 ?_
  refine g_iald hX dX8_settle_205 hF (fun jv44 hF => ?_)
  refine g_iadd hX dX8_settle_206 ?_
  refine u_iast hX dX8_settle_207 hF (fun σ45 hF => ?_)
  refine g_lvp (lv' := [(0, 2, jx0), (1, 0, jx1), (3, 0, jx3), (4, 1, jx4)]) [0, 1, 2, 3] rfl ?_
  exact T_X8_settle_B208 hX hR hnm hQ hE k65 jx0 jx1 jx3 jx4  hk65  σ45 hF
def F_X8_settle_L93 (k65 : Int → Int → Hp → Option (Int × Hp)) (jx0 : Int) (jx1 : Int) (jx3 : Int) (jx4 : Int) (jx6 : Int) : Nat → Int → Int → Hp → Option (Int × Hp)
  | 0, _, _, _ => none
  | n + 1, jx8, jx10, σ => (rd 9 σ jx0 11).bind fun jv22 => bLt jx10 jv22 ((rd 9 σ jx0 12).bind fun jv23 => (ar 11 σ jv23 jx10).bind fun jv24 => bEq jv24 jx1 ((rd 9 σ jx0 13).bind fun jv25 => (ar 11 σ jv25 jx10).bind fun jv26 => g3 jv26 ((rd 9 σ jx0 22).bind fun jv27 => bd (iv 9 σ jx0 (F_X8_comes  jx0 jx10 σ)) fun jv28 σ29 => (ar 12 σ29 jv27 ((1000 * jx10) + jv28)).bind fun jv30 => nm ((jx8 + (jv26 * jv30))) fun jv31 => F_X8_settle_B145 k65 (F_X8_settle_L93 k65 jx0 jx1 jx3 jx4 jx6 n) jx0 jx1 jx3 jx4 jx6 jv31 jx10  σ29)) (F_X8_settle_B145 k65 (F_X8_settle_L93 k65 jx0 jx1 jx3 jx4 jx6 n) jx0 jx1 jx3 jx4 jx6 jx8 jx10  σ)) (bEq jx6 0 ((rd 9 σ jx0 22).bind fun jv32 => (ar 12 σ jv32 jx3).bind fun jv33 => g66 jx8 jv33 (bLe (cmpL jx8 jv33) 0 (F_X8_settle_B208 k65 jx0 jx1 jx3 jx4  σ) (F_X8_settle_B168 k65 jx0 jx1 jx3 jx4 jx8  σ))) (F_X8_settle_B168 k65 jx0 jx1 jx3 jx4 jx8  σ))
theorem M_X8_settle_L93 (k65 : Int → Int → Hp → Option (Int × Hp)) (hk65 : ∀ (jx6 : Int) (jx7 : Int) (σ : Hp), Mn σ (k65 jx6 jx7 σ)) (jx0 : Int) (jx1 : Int) (jx3 : Int) (jx4 : Int) (jx6 : Int) : ∀ (n : Nat) (jx8 : Int) (jx10 : Int) (σ : Hp), Mn σ (F_X8_settle_L93 k65 jx0 jx1 jx3 jx4 jx6 n jx8 jx10 σ) := by
  intro n
  induction n with
  | zero => intros; rw [F_X8_settle_L93]; exact Mn_none
  | succ n hk93 =>
    intros
    rw [F_X8_settle_L93]
    repeat' first | exact Mn_ret | exact Mn_rz | exact hk65 _ _  _ | exact hk93 _ _  _ | exact M_X8_comes _ _ _ | exact M_X8_settle_B145 k65 (F_X8_settle_L93 k65 jx0 jx1 jx3 jx4 jx6 n) hk65 hk93 _ _ _ _ _ _ _  _ | exact M_X8_settle_B208 k65 hk65 _ _ _ _  _ | exact M_X8_settle_B168 k65 hk65 _ _ _ _ _  _ | refine Mn_nm (fun _ => ?_) | refine Mn_nab (fun _ _ => ?_) | refine Mn_nwb (fun _ _ => ?_) | refine Mn_pw (fun _ => ?_) | refine Mn_pz (fun _ => ?_) | refine Mn_aw (fun _ => ?_) | refine Mn_az (fun _ => ?_) | refine Mn_aq (fun _ => ?_) | refine Mn_bo (fun _ => ?_) | refine Mn_bd ?_ (fun _ _ => ?_) | refine Mn_iv ?_ | refine Mn_bLt ?_ ?_ | refine Mn_bLe ?_ ?_ | refine Mn_bEq ?_ ?_ | refine Mn_bN ?_ ?_ | refine Mn_g3 ?_ | refine Mn_g33 ?_ | refine Mn_g66 ?_ | refine Mn_gD ?_
set_option maxRecDepth 100000 in
set_option maxHeartbeats 4000000 in
theorem T_X8_settle_L93 {r : Int} {σE : Hp} (hX : Cx p R s m args meth c D dA b0 n0 m0 11 nE mE cX8_settle RX8 3 65) (hR : Rx meth none) (hnm : meth.name = yX8_settle.name) (hQ : Q = Qm D dA b0 n0 m0 below args s none σE) (hE : nE = σE.1 ∧ mE = σE.2.1) (k65 : Int → Int → Hp → Option (Int × Hp)) (jx0 : Int) (jx1 : Int) (jx3 : Int) (jx4 : Int) (jx6 : Int) (hk65 : ∀ (jx6 : Int) (jx7 : Int) (σ : Hp), k65 jx6 jx7 σ = some (r, σE) → G p l e R s m args below meth c D dA b0 n0 m0 11 nE mE Q 65 [(0, 2, jx0), (1, 0, jx1), (3, 0, jx3), (4, 1, jx4), (6, 0, jx6), (7, 0, jx7)] [] σ) : ∀ (n : Nat) (jx8 : Int) (jx10 : Int) (σ : Hp), F_X8_settle_L93 k65 jx0 jx1 jx3 jx4 jx6 n jx8 jx10 σ = some (r, σE) → G p l e R s m args below meth c D dA b0 n0 m0 11 nE mE Q 93 [(0, 2, jx0), (1, 0, jx1), (3, 0, jx3), (4, 1, jx4), (6, 0, jx6), (8, 1, jx8), (10, 0, jx10)] [] σ := by
  intro n
  induction n with
  | zero =>
    intro jx8 jx10 σ hF
    rw [F_X8_settle_L93] at hF
    cases hF
  | succ n hk93 =>
    intro jx8 jx10 σ hF
    rw [F_X8_settle_L93] at hF
    refine g_iload hX 6 dX8_settle_93 rfl ?_
    refine g_aload_n hX 0 dX8_settle_95 rfl rfl ?_
    refine g_get hX fl_X8_41 (by decide) (by decide) dX8_settle_96 hF (fun jv22 hF => ?_)
    refine g_icmp_ge (tgt := 151) hX dX8_settle_99 (by decide) hF (fun hc hF => ?_) (fun hc hF => ?_)
    · refine g_aload_n hX 0 dX8_settle_102 rfl rfl ?_
      refine g_get hX fl_X8_44 (by decide) (by decide) dX8_settle_103 hF (fun jv23 hF => ?_)
      refine g_iload hX 6 dX8_settle_106 rfl ?_
      refine g_iald hX dX8_settle_108 hF (fun jv24 hF => ?_)
      refine g_iload_n hX 1 dX8_settle_109 rfl rfl ?_
      refine g_icmp_ne (tgt := 145) hX dX8_settle_110 (by decide) hF (fun hc hF => ?_) (fun hc hF => ?_)
      · refine g_lload hX 5 dX8_settle_113 rfl ?_
        refine g_aload_n hX 0 dX8_settle_115 rfl rfl ?_
        refine g_get hX fl_X8_47 (by decide) (by decide) dX8_settle_116 hF (fun jv25 hF => ?_)
        refine g_iload hX 6 dX8_settle_119 rfl ?_
        refine g_iald hX dX8_settle_121 hF (fun jv26 hF => ?_)
        refine g_i2l hX dX8_settle_122 hF (fun hF => ?_)
        refine g_aload_n hX 0 dX8_settle_123 rfl rfl ?_
        refine g_get hX fl_X8_70 (by decide) (by decide) dX8_settle_124 hF (fun jv27 hF => ?_)
        refine g_sipush hX dX8_settle_127 (by decide) ?_
        refine g_iload hX 6 dX8_settle_130 rfl ?_
        refine g_imul hX dX8_settle_132 ?_
        refine g_aload_n hX 0 dX8_settle_133 rfl rfl ?_
        refine g_iload hX 6 dX8_settle_134 rfl ?_
        refine g_callV (t := 0) (ci := 8) (rest := [(0, (1000 * jx10)), (2, jv27), (1, jv26), (1, jx8)]) [(0, jx10)] hX cw_X8_178 rfl (by decide) (by decide) (fun r σ1 h => T_X8_comes l D dA b0  jx0 jx10 σ σ1 r h) ⟨by decide, by decide⟩ rfl rfl (Nat.le_of_ble_eq_true rfl) dX8_settle_136 hF (fun jv28 σ29 hF => ?_)
        refine g_iadd hX dX8_settle_139 ?_
        refine g_lald hX dX8_settle_140 hF (fun jv30 hF => ?_)
        refine g_lmul hX dX8_settle_141 ?_
        refine g_ladd hX dX8_settle_142 ?_
        refine g_nm hF (fun jv31 hF => ?_)
        refine g_lstore (lv' := [(8, 1, jv31), (0, 2, jx0), (1, 0, jx1), (3, 0, jx3), (4, 1, jx4), (6, 0, jx6), (10, 0, jx10)]) hX dX8_settle_143 (by decide) rfl ?_
        refine g_lvp (lv' := [(0, 2, jx0), (1, 0, jx1), (3, 0, jx3), (4, 1, jx4), (6, 0, jx6), (8, 1, jv31), (10, 0, jx10)]) [1, 2, 3, 4, 5, 0, 6] rfl ?_
        exact T_X8_settle_B145 hX hR hnm hQ hE k65 (F_X8_settle_L93 k65 jx0 jx1 jx3 jx4 jx6 n) jx0 jx1 jx3 jx4 jx6 jv31 jx10  hk65 hk93  σ29 hF
      · exact T_X8_settle_B145 hX hR hnm hQ hE k65 (F_X8_settle_L93 k65 jx0 jx1 jx3 jx4 jx6 n) jx0 jx1 jx3 jx4 jx6 jx8 jx10  hk65 hk93  σ hF
    · refine g_iload hX 4 dX8_settle_151 rfl ?_
      refine g_if_ne (tgt := 168) hX dX8_settle_153 (by decide) hF (fun hc hF => ?_) (fun hc hF => ?_)
      · refine g_lload hX 5 dX8_settle_156 rfl ?_
        refine g_aload_n hX 0 dX8_settle_158 rfl rfl ?_
        refine g_get hX fl_X8_70 (by decide) (by decide) dX8_settle_159 hF (fun jv32 hF => ?_)
        refine g_iload_n hX 2 dX8_settle_162 rfl rfl ?_
        refine g_lald hX dX8_settle_163 hF (fun jv33 hF => ?_)
        refine g_lcmp hX dX8_settle_164 hF (fun hF => ?_)
        refine g_if_le (tgt := 208) hX dX8_settle_165 (by decide) hF (fun hc hF => ?_) (fun hc hF => ?_)
        · refine g_lvp (lv' := [(0, 2, jx0), (1, 0, jx1), (3, 0, jx3), (4, 1, jx4)]) [0, 1, 2, 3] rfl ?_
          exact T_X8_settle_B208 hX hR hnm hQ hE k65 jx0 jx1 jx3 jx4  hk65  σ hF
        · refine g_lvp (lv' := [(0, 2, jx0), (1, 0, jx1), (3, 0, jx3), (4, 1, jx4), (8, 1, jx8)]) [0, 1, 2, 3, 5] rfl ?_
          exact T_X8_settle_B168 hX hR hnm hQ hE k65 jx0 jx1 jx3 jx4 jx8  hk65  σ hF
      · refine g_lvp (lv' := [(0, 2, jx0), (1, 0, jx1), (3, 0, jx3), (4, 1, jx4), (8, 1, jx8)]) [0, 1, 2, 3, 5] rfl ?_
        exact T_X8_settle_B168 hX hR hnm hQ hE k65 jx0 jx1 jx3 jx4 jx8  hk65  σ hF
def F_X8_settle_L65 (jx0 : Int) (jx1 : Int) (jx3 : Int) (jx4 : Int) : Nat → Int → Int → Hp → Option (Int × Hp)
  | 0, _, _, _ => none
  | n + 1, jx6, jx7, σ => bEq jx7 0 (some (0, σ)) ((rd 9 σ jx0 14).bind fun jv17 => (ar 11 σ jv17 jx1).bind fun jv18 => bd (iv 9 σ jx0 (F_X8_earns  jx0 (jv18 + 1) σ)) fun jv19 σ20 => g3 jv19 (nm ((jx4 * jv19)) fun jv21 => F_X8_settle_L93 (F_X8_settle_L65 jx0 jx1 jx3 jx4 n) jx0 jx1 jx3 jx4 jx6 fu jv21 (jx1 + 1) σ20))
theorem M_X8_settle_L65 (jx0 : Int) (jx1 : Int) (jx3 : Int) (jx4 : Int) : ∀ (n : Nat) (jx6 : Int) (jx7 : Int) (σ : Hp), Mn σ (F_X8_settle_L65 jx0 jx1 jx3 jx4 n jx6 jx7 σ) := by
  intro n
  induction n with
  | zero => intros; rw [F_X8_settle_L65]; exact Mn_none
  | succ n hk65 =>
    intros
    rw [F_X8_settle_L65]
    repeat' first | exact Mn_ret | exact Mn_rz | exact hk65 _ _  _ | exact M_X8_earns _ _ _ | exact M_X8_settle_L93 (F_X8_settle_L65 jx0 jx1 jx3 jx4 n) hk65 _ _ _ _ _ _ _ _ _ | refine Mn_nm (fun _ => ?_) | refine Mn_nab (fun _ _ => ?_) | refine Mn_nwb (fun _ _ => ?_) | refine Mn_pw (fun _ => ?_) | refine Mn_pz (fun _ => ?_) | refine Mn_aw (fun _ => ?_) | refine Mn_az (fun _ => ?_) | refine Mn_aq (fun _ => ?_) | refine Mn_bo (fun _ => ?_) | refine Mn_bd ?_ (fun _ _ => ?_) | refine Mn_iv ?_ | refine Mn_bLt ?_ ?_ | refine Mn_bLe ?_ ?_ | refine Mn_bEq ?_ ?_ | refine Mn_bN ?_ ?_ | refine Mn_g3 ?_ | refine Mn_g33 ?_ | refine Mn_g66 ?_ | refine Mn_gD ?_
set_option maxRecDepth 100000 in
set_option maxHeartbeats 4000000 in
theorem T_X8_settle_L65 {r : Int} {σE : Hp} (hX : Cx p R s m args meth c D dA b0 n0 m0 11 nE mE cX8_settle RX8 3 65) (hR : Rx meth none) (hnm : meth.name = yX8_settle.name) (hQ : Q = Qm D dA b0 n0 m0 below args s none σE) (hE : nE = σE.1 ∧ mE = σE.2.1) (jx0 : Int) (jx1 : Int) (jx3 : Int) (jx4 : Int) : ∀ (n : Nat) (jx6 : Int) (jx7 : Int) (σ : Hp), F_X8_settle_L65 jx0 jx1 jx3 jx4 n jx6 jx7 σ = some (r, σE) → G p l e R s m args below meth c D dA b0 n0 m0 11 nE mE Q 65 [(0, 2, jx0), (1, 0, jx1), (3, 0, jx3), (4, 1, jx4), (6, 0, jx6), (7, 0, jx7)] [] σ := by
  intro n
  induction n with
  | zero =>
    intro jx6 jx7 σ hF
    rw [F_X8_settle_L65] at hF
    cases hF
  | succ n hk65 =>
    intro jx6 jx7 σ hF
    rw [F_X8_settle_L65] at hF
    refine g_iload hX 5 dX8_settle_65 rfl ?_
    refine g_if_eq (tgt := 220) hX dX8_settle_67 (by decide) hF (fun hc hF => ?_) (fun hc hF => ?_)
    · exact g_vret hX hR hQ hE dX8_settle_220 hF
    · refine g_lload hX 3 dX8_settle_70 rfl ?_
      refine g_aload_n hX 0 dX8_settle_72 rfl rfl ?_
      refine g_aload_n hX 0 dX8_settle_73 rfl rfl ?_
      refine g_get hX fl_X8_50 (by decide) (by decide) dX8_settle_74 hF (fun jv17 hF => ?_)
      refine g_iload_n hX 1 dX8_settle_77 rfl rfl ?_
      refine g_iald hX dX8_settle_78 hF (fun jv18 hF => ?_)
      refine g_iconst hX dX8_settle_79 ?_
      refine g_iadd hX dX8_settle_80 ?_
      refine g_callV (t := 0) (ci := 8) (rest := [(1, jx4)]) [(0, (jv18 + 1))] hX cw_X8_191 rfl (by decide) (by decide) (fun r σ1 h => T_X8_earns l D dA b0  jx0 (jv18 + 1) σ σ1 r h) ⟨by decide, by decide⟩ rfl rfl (Nat.le_of_ble_eq_true rfl) dX8_settle_81 hF (fun jv19 σ20 hF => ?_)
      refine g_i2l hX dX8_settle_84 hF (fun hF => ?_)
      refine g_lmul hX dX8_settle_85 ?_
      refine g_nm hF (fun jv21 hF => ?_)
      refine g_lstore (lv' := [(8, 1, jv21), (0, 2, jx0), (1, 0, jx1), (3, 0, jx3), (4, 1, jx4), (6, 0, jx6), (7, 0, jx7)]) hX dX8_settle_86 (by decide) rfl ?_
      refine g_iload_n hX 2 dX8_settle_88 rfl rfl ?_
      refine g_iconst hX dX8_settle_89 ?_
      refine g_iadd hX dX8_settle_90 ?_
      refine g_istore (lv' := [(10, 0, (jx1 + 1)), (8, 1, jv21), (0, 2, jx0), (1, 0, jx1), (3, 0, jx3), (4, 1, jx4), (6, 0, jx6), (7, 0, jx7)]) hX dX8_settle_91 (by decide) rfl ?_
      refine g_lvp (lv' := [(0, 2, jx0), (1, 0, jx1), (3, 0, jx3), (4, 1, jx4), (6, 0, jx6), (8, 1, jv21), (10, 0, (jx1 + 1))]) [2, 3, 4, 5, 6, 1, 0] rfl ?_
      exact T_X8_settle_L93 hX hR hnm hQ hE (F_X8_settle_L65 jx0 jx1 jx3 jx4 n) jx0 jx1 jx3 jx4 jx6 hk65  fu jv21 (jx1 + 1) σ20 hF
def F_X8_settle (jx0 : Int) (jx1 : Int) (jx2 : Int) (σ : Hp) : Option (Int × Hp) :=
  nm (((1000 * jx1) + jx2)) fun jv1 => (rd 9 σ jx0 20).bind fun jv2 => (az 13 σ jv2 jv1 1).bind fun σ3 => (rd 9 σ3 jx0 14).bind fun jv4 => (ar 11 σ3 jv4 jx1).bind fun jv5 => (rd 9 σ3 jx0 8).bind fun jv6 => bEq jv5 (jv6 - 1) ((rd 9 σ3 jx0 22).bind fun jv7 => bd (iv 9 σ3 jx0 (F_X8_endOf  jx0 jx2 σ3)) fun jv8 σ9 => g3 jv8 ((aw 12 σ9 jv7 jv1 jv8).bind fun σ10 => some (0, σ10))) (bd (iv 9 σ3 jx0 (F_X8_unfold  jx0 jx2 σ3)) fun jv11 σ12 => bd (iv 9 σ12 jx0 (F_X8_firstLets  jx0  σ12)) fun jv13 σ14 => bd (iv 9 σ14 jx0 (F_X8_scale  jx0 jx1 σ14)) fun jv15 σ16 => F_X8_settle_L65 jx0 jx1 jv1 jv15 fu 1 1 σ16)
theorem M_X8_settle (jx0 : Int) (jx1 : Int) (jx2 : Int) (σ : Hp) : Mn σ (F_X8_settle jx0 jx1 jx2 σ) := by
  unfold F_X8_settle
  repeat' first | exact Mn_ret | exact Mn_rz | exact M_X8_endOf _ _ _ | exact M_X8_unfold _ _ _ | exact M_X8_firstLets _ _ | exact M_X8_scale _ _ _ | exact M_X8_settle_L65 _ _ _ _ _ _ _ _ | refine Mn_nm (fun _ => ?_) | refine Mn_nab (fun _ _ => ?_) | refine Mn_nwb (fun _ _ => ?_) | refine Mn_pw (fun _ => ?_) | refine Mn_pz (fun _ => ?_) | refine Mn_aw (fun _ => ?_) | refine Mn_az (fun _ => ?_) | refine Mn_aq (fun _ => ?_) | refine Mn_bo (fun _ => ?_) | refine Mn_bd ?_ (fun _ _ => ?_) | refine Mn_iv ?_ | refine Mn_bLt ?_ ?_ | refine Mn_bLe ?_ ?_ | refine Mn_bEq ?_ ?_ | refine Mn_bN ?_ ?_ | refine Mn_g3 ?_ | refine Mn_g33 ?_ | refine Mn_g66 ?_ | refine Mn_gD ?_
set_option maxRecDepth 100000 in
set_option maxHeartbeats 4000000 in
theorem T_X8_settle (l : Launch) (D : va_G) (dA : Nat → ClassId) (b0 : Nat) (jx0 : Int) (jx1 : Int) (jx2 : Int) (σ σE : Hp) (r : Int) (hF : F_X8_settle jx0 jx1 jx2 σ = some (r, σE)) : Ct l D dA b0 yX8_settle cX8_settle 11 none 3 65 [(2, jx0), (0, jx1), (0, jx2)] σ none σE := by
  refine Ct.of (lv0 := [(0, 2, jx0), (1, 0, jx1), (2, 0, jx2)]) (by decide) RX8 rfl (Nat.le_of_ble_eq_true rfl) rfl ?_ (M_X8_settle jx0 jx1 jx2 σ r σE hF)
  intro p e R s m args below meth c hX hR hnm
  obtain ⟨Q, hQ⟩ : ∃ Q, Q = Qm D dA b0 σ.1 σ.2.1 below args s none σE := ⟨_, rfl⟩
  rw [← hQ]
  have hE : σE.1 = σE.1 ∧ σE.2.1 = σE.2.1 := ⟨rfl, rfl⟩
  unfold F_X8_settle at hF
  refine g_sipush hX dX8_settle_0 (by decide) ?_
  refine g_iload_n hX 1 dX8_settle_3 rfl rfl ?_
  refine g_imul hX dX8_settle_4 ?_
  refine g_iload_n hX 2 dX8_settle_5 rfl rfl ?_
  refine g_iadd hX dX8_settle_6 ?_
  refine g_nm hF (fun jv1 hF => ?_)
  refine g_istore_n (lv' := [(3, 0, jv1), (0, 2, jx0), (1, 0, jx1), (2, 0, jx2)]) hX dX8_settle_7 rfl (by decide) rfl ?_
  refine g_aload_n hX 1 dX8_settle_8 rfl rfl ?_
  refine g_get hX fl_X8_63 (by decide) (by decide) dX8_settle_9 hF (fun jv2 hF => ?_)
  refine g_iload_n hX 0 dX8_settle_12 rfl rfl ?_
  refine g_iconst hX dX8_settle_13 ?_
  refine u_zast hX dX8_settle_14 hF (fun σ3 hF => ?_)
  refine g_aload_n hX 1 dX8_settle_15 rfl rfl ?_
  refine g_get hX fl_X8_50 (by decide) (by decide) dX8_settle_16 hF (fun jv4 hF => ?_)
  refine g_iload_n hX 2 dX8_settle_19 rfl rfl ?_
  refine g_iald hX dX8_settle_20 hF (fun jv5 hF => ?_)
  refine g_aload_n hX 1 dX8_settle_21 rfl rfl ?_
  refine g_get hX fl_X8_32 (by decide) (by decide) dX8_settle_22 hF (fun jv6 hF => ?_)
  refine g_iconst hX dX8_settle_25 ?_
  refine g_isub hX dX8_settle_26 ?_
  refine g_icmp_ne (tgt := 43) hX dX8_settle_27 (by decide) hF (fun hc hF => ?_) (fun hc hF => ?_)
  · refine g_aload_n hX 1 dX8_settle_30 rfl rfl ?_
    refine g_get hX fl_X8_70 (by decide) (by decide) dX8_settle_31 hF (fun jv7 hF => ?_)
    refine g_iload_n hX 0 dX8_settle_34 rfl rfl ?_
    refine g_aload_n hX 1 dX8_settle_35 rfl rfl ?_
    refine g_iload_n hX 3 dX8_settle_36 rfl rfl ?_
    refine g_callV (t := 0) (ci := 8) (rest := [(0, jv1), (2, jv7)]) [(0, jx2)] hX cw_X8_184 rfl (by decide) (by decide) (fun r σ1 h => T_X8_endOf l D dA b0  jx0 jx2 σ3 σ1 r h) ⟨by decide, by decide⟩ rfl rfl (Nat.le_of_ble_eq_true rfl) dX8_settle_37 hF (fun jv8 σ9 hF => ?_)
    refine g_i2l hX dX8_settle_40 hF (fun hF => ?_)
    refine u_last hX dX8_settle_41 hF (fun σ10 hF => ?_)
    exact g_vret hX hR hQ hE dX8_settle_42 hF
  · refine g_aload_n hX 1 dX8_settle_43 rfl rfl ?_
    refine g_iload_n hX 3 dX8_settle_44 rfl rfl ?_
    refine g_callVv (ci := 8) (rest := []) [(0, jx2)] hX cw_X8_164 rfl (by decide) (by decide) (fun r σ1 h => T_X8_unfold l D dA b0  jx0 jx2 σ3 σ1 r h) ⟨by decide, by decide⟩ rfl rfl (Nat.le_of_ble_eq_true rfl) dX8_settle_45 hF (fun jv11 σ12 hF => ?_)
    refine g_aload_n hX 1 dX8_settle_48 rfl rfl ?_
    refine g_callVv (ci := 8) (rest := []) [] hX cw_X8_175 rfl (by decide) (by decide) (fun r σ1 h => T_X8_firstLets l D dA b0  jx0  σ12 σ1 r h) ⟨by decide, by decide⟩ rfl rfl (Nat.le_of_ble_eq_true rfl) dX8_settle_49 hF (fun jv13 σ14 hF => ?_)
    refine g_aload_n hX 1 dX8_settle_52 rfl rfl ?_
    refine g_iload_n hX 2 dX8_settle_53 rfl rfl ?_
    refine g_callV (t := 1) (ci := 8) (rest := []) [(0, jx1)] hX cw_X8_187 rfl (by decide) (by decide) (fun r σ1 h => T_X8_scale l D dA b0  jx0 jx1 σ14 σ1 r h) ⟨by decide, by decide⟩ rfl rfl (Nat.le_of_ble_eq_true rfl) dX8_settle_54 hF (fun jv15 σ16 hF => ?_)
    refine g_lstore (lv' := [(4, 1, jv15), (3, 0, jv1), (0, 2, jx0), (1, 0, jx1), (2, 0, jx2)]) hX dX8_settle_57 (by decide) rfl ?_
    refine g_iconst hX dX8_settle_59 ?_
    refine g_istore (lv' := [(6, 0, 1), (4, 1, jv15), (3, 0, jv1), (0, 2, jx0), (1, 0, jx1), (2, 0, jx2)]) hX dX8_settle_60 (by decide) rfl ?_
    refine g_iconst hX dX8_settle_62 ?_
    refine g_istore (lv' := [(7, 0, 1), (6, 0, 1), (4, 1, jv15), (3, 0, jv1), (0, 2, jx0), (1, 0, jx1), (2, 0, jx2)]) hX dX8_settle_63 (by decide) rfl ?_
    refine g_lvp (lv' := [(0, 2, jx0), (1, 0, jx1), (3, 0, jv1), (4, 1, jv15), (6, 0, 1), (7, 0, 1)]) [4, 5, 3, 2, 1, 0] rfl ?_
    exact T_X8_settle_L65 hX hR hnm hQ hE jx0 jx1 jv1 jv15  fu 1 1 σ16 hF
end

section
variable {p : Program} {l : Launch} {e : Env} {R : Room} {s : State} {m : MethodId} {args : Array Value} {below : List Frame} {meth : Method} {c : Code} {D : va_G} {dA : Nat → ClassId} {b0 n0 m0 nE mE : Nat} {Q : State → Prop}
def F_X8_work_B71 (k2 : Int → Hp → Option (Int × Hp)) (k12 : Int → Hp → Option (Int × Hp)) (jx0 : Int) (jx1 : Int) (jx2 : Int) (jx3 : Int) (σ : Hp) : Option (Int × Hp) :=
  k12 (jx3 + 1) σ
theorem M_X8_work_B71 (k2 : Int → Hp → Option (Int × Hp)) (k12 : Int → Hp → Option (Int × Hp)) (hk2 : ∀ (jx2 : Int) (σ : Hp), Mn σ (k2 jx2 σ)) (hk12 : ∀ (jx3 : Int) (σ : Hp), Mn σ (k12 jx3 σ)) (jx0 : Int) (jx1 : Int) (jx2 : Int) (jx3 : Int) (σ : Hp) : Mn σ (F_X8_work_B71 k2 k12 jx0 jx1 jx2 jx3 σ) := by
  unfold F_X8_work_B71
  repeat' first | exact Mn_ret | exact Mn_rz | exact hk2 _  _ | exact hk12 _  _ | refine Mn_nm (fun _ => ?_) | refine Mn_nab (fun _ _ => ?_) | refine Mn_nwb (fun _ _ => ?_) | refine Mn_pw (fun _ => ?_) | refine Mn_pz (fun _ => ?_) | refine Mn_aw (fun _ => ?_) | refine Mn_az (fun _ => ?_) | refine Mn_aq (fun _ => ?_) | refine Mn_bo (fun _ => ?_) | refine Mn_bd ?_ (fun _ _ => ?_) | refine Mn_iv ?_ | refine Mn_bLt ?_ ?_ | refine Mn_bLe ?_ ?_ | refine Mn_bEq ?_ ?_ | refine Mn_bN ?_ ?_ | refine Mn_g3 ?_ | refine Mn_g33 ?_ | refine Mn_g66 ?_ | refine Mn_gD ?_
set_option maxRecDepth 100000 in
set_option maxHeartbeats 4000000 in
theorem T_X8_work_B71 {r : Int} {σE : Hp} (hX : Cx p R s m args meth c D dA b0 n0 m0 4 nE mE cX8_work RX8 4 95) (hR : Rx meth none) (hnm : meth.name = yX8_work.name) (hQ : Q = Qm D dA b0 n0 m0 below args s none σE) (hE : nE = σE.1 ∧ mE = σE.2.1) (k2 : Int → Hp → Option (Int × Hp)) (k12 : Int → Hp → Option (Int × Hp)) (jx0 : Int) (jx1 : Int) (jx2 : Int) (jx3 : Int) (hk2 : ∀ (jx2 : Int) (σ : Hp), k2 jx2 σ = some (r, σE) → G p l e R s m args below meth c D dA b0 n0 m0 4 nE mE Q 2 [(0, 2, jx0), (1, 0, jx1), (2, 0, jx2)] [] σ) (hk12 : ∀ (jx3 : Int) (σ : Hp), k12 jx3 σ = some (r, σE) → G p l e R s m args below meth c D dA b0 n0 m0 4 nE mE Q 12 [(0, 2, jx0), (1, 0, jx1), (2, 0, jx2), (3, 0, jx3)] [] σ) (σ : Hp) (hF : F_X8_work_B71 k2 k12 jx0 jx1 jx2 jx3 σ = some (r, σE)) : G p l e R s m args below meth c D dA b0 n0 m0 4 nE mE Q 71 [(0, 2, jx0), (1, 0, jx1), (2, 0, jx2), (3, 0, jx3)] [] σ := by
  unfold F_X8_work_B71 at hF
  refine g_iinc (lv' := [(3, 0, (jx3 + 1)), (0, 2, jx0), (1, 0, jx1), (2, 0, jx2)]) hX 3 dX8_work_71 rfl (by decide) rfl ?_
  refine g_goto (tgt := 12) hX dX8_work_74 (by decide) ?_
  refine g_lvp (lv' := [(0, 2, jx0), (1, 0, jx1), (2, 0, jx2), (3, 0, (jx3 + 1))]) [1, 2, 3, 0] rfl ?_
  exact hk12 (jx3 + 1) σ hF
def F_X8_work_L12 (k2 : Int → Hp → Option (Int × Hp)) (jx0 : Int) (jx1 : Int) (jx2 : Int) : Nat → Int → Hp → Option (Int × Hp)
  | 0, _, _ => none
  | n + 1, jx3, σ => bd (iv 9 σ jx0 (F_X8_states  jx0  σ)) fun jv2 σ3 => bLt jx3 jv2 ((rd 9 σ3 jx0 21).bind fun jv4 => (ar 13 σ3 jv4 ((1000 * jx2) + jx3)).bind fun jv5 => bEq jv5 0 (F_X8_work_B71 k2 (F_X8_work_L12 k2 jx0 jx1 jx2 n) jx0 jx1 jx2 jx3  σ3) ((rd 9 σ3 jx0 20).bind fun jv6 => (ar 13 σ3 jv6 ((1000 * jx2) + jx3)).bind fun jv7 => bEq jv7 0 ((rd 9 σ3 jx0 14).bind fun jv8 => (ar 11 σ3 jv8 jx2).bind fun jv9 => (rd 9 σ3 jx0 8).bind fun jv10 => bLt jv9 (jv10 - 1) (bd (iv 9 σ3 jx0 (F_X8_spread  jx0 jx2 jx3 σ3)) fun jv11 σ12 => F_X8_work_B71 k2 (F_X8_work_L12 k2 jx0 jx1 jx2 n) jx0 jx1 jx2 jx3  σ12) (F_X8_work_B71 k2 (F_X8_work_L12 k2 jx0 jx1 jx2 n) jx0 jx1 jx2 jx3  σ3)) (F_X8_work_B71 k2 (F_X8_work_L12 k2 jx0 jx1 jx2 n) jx0 jx1 jx2 jx3  σ3))) (k2 (jx2 + 1) σ3)
theorem M_X8_work_L12 (k2 : Int → Hp → Option (Int × Hp)) (hk2 : ∀ (jx2 : Int) (σ : Hp), Mn σ (k2 jx2 σ)) (jx0 : Int) (jx1 : Int) (jx2 : Int) : ∀ (n : Nat) (jx3 : Int) (σ : Hp), Mn σ (F_X8_work_L12 k2 jx0 jx1 jx2 n jx3 σ) := by
  intro n
  induction n with
  | zero => intros; rw [F_X8_work_L12]; exact Mn_none
  | succ n hk12 =>
    intros
    rw [F_X8_work_L12]
    repeat' first | exact Mn_ret | exact Mn_rz | exact hk2 _  _ | exact hk12 _  _ | exact M_X8_states _ _ | exact M_X8_work_B71 k2 (F_X8_work_L12 k2 jx0 jx1 jx2 n) hk2 hk12 _ _ _ _  _ | exact M_X8_spread _ _ _ _ | refine Mn_nm (fun _ => ?_) | refine Mn_nab (fun _ _ => ?_) | refine Mn_nwb (fun _ _ => ?_) | refine Mn_pw (fun _ => ?_) | refine Mn_pz (fun _ => ?_) | refine Mn_aw (fun _ => ?_) | refine Mn_az (fun _ => ?_) | refine Mn_aq (fun _ => ?_) | refine Mn_bo (fun _ => ?_) | refine Mn_bd ?_ (fun _ _ => ?_) | refine Mn_iv ?_ | refine Mn_bLt ?_ ?_ | refine Mn_bLe ?_ ?_ | refine Mn_bEq ?_ ?_ | refine Mn_bN ?_ ?_ | refine Mn_g3 ?_ | refine Mn_g33 ?_ | refine Mn_g66 ?_ | refine Mn_gD ?_
set_option maxRecDepth 100000 in
set_option maxHeartbeats 4000000 in
theorem T_X8_work_L12 {r : Int} {σE : Hp} (hX : Cx p R s m args meth c D dA b0 n0 m0 4 nE mE cX8_work RX8 4 95) (hR : Rx meth none) (hnm : meth.name = yX8_work.name) (hQ : Q = Qm D dA b0 n0 m0 below args s none σE) (hE : nE = σE.1 ∧ mE = σE.2.1) (k2 : Int → Hp → Option (Int × Hp)) (jx0 : Int) (jx1 : Int) (jx2 : Int) (hk2 : ∀ (jx2 : Int) (σ : Hp), k2 jx2 σ = some (r, σE) → G p l e R s m args below meth c D dA b0 n0 m0 4 nE mE Q 2 [(0, 2, jx0), (1, 0, jx1), (2, 0, jx2)] [] σ) : ∀ (n : Nat) (jx3 : Int) (σ : Hp), F_X8_work_L12 k2 jx0 jx1 jx2 n jx3 σ = some (r, σE) → G p l e R s m args below meth c D dA b0 n0 m0 4 nE mE Q 12 [(0, 2, jx0), (1, 0, jx1), (2, 0, jx2), (3, 0, jx3)] [] σ := by
  intro n
  induction n with
  | zero =>
    intro jx3 σ hF
    rw [F_X8_work_L12] at hF
    cases hF
  | succ n hk12 =>
    intro jx3 σ hF
    rw [F_X8_work_L12] at hF
    refine g_iload_n hX 3 dX8_work_12 rfl rfl ?_
    refine g_aload_n hX 0 dX8_work_13 rfl rfl ?_
    refine g_callV (t := 0) (ci := 8) (rest := [(0, jx3)]) [] hX cw_X8_126 rfl (by decide) (by decide) (fun r σ1 h => T_X8_states l D dA b0  jx0  σ σ1 r h) ⟨by decide, by decide⟩ rfl rfl (Nat.le_of_ble_eq_true rfl) dX8_work_14 hF (fun jv2 σ3 hF => ?_)
    refine g_icmp_ge (tgt := 77) hX dX8_work_17 (by decide) hF (fun hc hF => ?_) (fun hc hF => ?_)
    · refine g_aload_n hX 0 dX8_work_20 rfl rfl ?_
      refine g_get hX fl_X8_67 (by decide) (by decide) dX8_work_21 hF (fun jv4 hF => ?_)
      refine g_sipush hX dX8_work_24 (by decide) ?_
      refine g_iload_n hX 2 dX8_work_27 rfl rfl ?_
      refine g_imul hX dX8_work_28 ?_
      refine g_iload_n hX 3 dX8_work_29 rfl rfl ?_
      refine g_iadd hX dX8_work_30 ?_
      refine g_zald hX dX8_work_31 hF (fun jv5 hF => ?_)
      refine g_if_eq (tgt := 71) hX dX8_work_32 (by decide) hF (fun hc hF => ?_) (fun hc hF => ?_)
      · exact T_X8_work_B71 hX hR hnm hQ hE k2 (F_X8_work_L12 k2 jx0 jx1 jx2 n) jx0 jx1 jx2 jx3  hk2 hk12  σ3 hF
      · refine g_aload_n hX 0 dX8_work_35 rfl rfl ?_
        refine g_get hX fl_X8_63 (by decide) (by decide) dX8_work_36 hF (fun jv6 hF => ?_)
        refine g_sipush hX dX8_work_39 (by decide) ?_
        refine g_iload_n hX 2 dX8_work_42 rfl rfl ?_
        refine g_imul hX dX8_work_43 ?_
        refine g_iload_n hX 3 dX8_work_44 rfl rfl ?_
        refine g_iadd hX dX8_work_45 ?_
        refine g_zald hX dX8_work_46 hF (fun jv7 hF => ?_)
        refine g_if_ne (tgt := 71) hX dX8_work_47 (by decide) hF (fun hc hF => ?_) (fun hc hF => ?_)
        · refine g_aload_n hX 0 dX8_work_50 rfl rfl ?_
          refine g_get hX fl_X8_50 (by decide) (by decide) dX8_work_51 hF (fun jv8 hF => ?_)
          refine g_iload_n hX 2 dX8_work_54 rfl rfl ?_
          refine g_iald hX dX8_work_55 hF (fun jv9 hF => ?_)
          refine g_aload_n hX 0 dX8_work_56 rfl rfl ?_
          refine g_get hX fl_X8_32 (by decide) (by decide) dX8_work_57 hF (fun jv10 hF => ?_)
          refine g_iconst hX dX8_work_60 ?_
          refine g_isub hX dX8_work_61 ?_
          refine g_icmp_ge (tgt := 71) hX dX8_work_62 (by decide) hF (fun hc hF => ?_) (fun hc hF => ?_)
          · refine g_aload_n hX 0 dX8_work_65 rfl rfl ?_
            refine g_iload_n hX 2 dX8_work_66 rfl rfl ?_
            refine g_iload_n hX 3 dX8_work_67 rfl rfl ?_
            refine g_callVv (ci := 8) (rest := []) [(0, jx2), (0, jx3)] hX cw_X8_168 rfl (by decide) (by decide) (fun r σ1 h => T_X8_spread l D dA b0  jx0 jx2 jx3 σ3 σ1 r h) ⟨by decide, by decide⟩ rfl rfl (Nat.le_of_ble_eq_true rfl) dX8_work_68 hF (fun jv11 σ12 hF => ?_)
            exact T_X8_work_B71 hX hR hnm hQ hE k2 (F_X8_work_L12 k2 jx0 jx1 jx2 n) jx0 jx1 jx2 jx3  hk2 hk12  σ12 hF
          · exact T_X8_work_B71 hX hR hnm hQ hE k2 (F_X8_work_L12 k2 jx0 jx1 jx2 n) jx0 jx1 jx2 jx3  hk2 hk12  σ3 hF
        · exact T_X8_work_B71 hX hR hnm hQ hE k2 (F_X8_work_L12 k2 jx0 jx1 jx2 n) jx0 jx1 jx2 jx3  hk2 hk12  σ3 hF
    · refine g_iinc (lv' := [(2, 0, (jx2 + 1)), (0, 2, jx0), (1, 0, jx1), (3, 0, jx3)]) hX 2 dX8_work_77 rfl (by decide) rfl ?_
      refine g_goto (tgt := 2) hX dX8_work_80 (by decide) ?_
      refine g_lvp (lv' := [(0, 2, jx0), (1, 0, jx1), (2, 0, (jx2 + 1))]) [1, 2, 0] rfl ?_
      exact hk2 (jx2 + 1) σ3 hF
def F_X8_work_B141 (k90 : Int → Hp → Option (Int × Hp)) (k97 : Int → Hp → Option (Int × Hp)) (jx0 : Int) (jx1 : Int) (jx2 : Int) (jx3 : Int) (σ : Hp) : Option (Int × Hp) :=
  k97 (jx3 + 1) σ
theorem M_X8_work_B141 (k90 : Int → Hp → Option (Int × Hp)) (k97 : Int → Hp → Option (Int × Hp)) (hk90 : ∀ (jx2 : Int) (σ : Hp), Mn σ (k90 jx2 σ)) (hk97 : ∀ (jx3 : Int) (σ : Hp), Mn σ (k97 jx3 σ)) (jx0 : Int) (jx1 : Int) (jx2 : Int) (jx3 : Int) (σ : Hp) : Mn σ (F_X8_work_B141 k90 k97 jx0 jx1 jx2 jx3 σ) := by
  unfold F_X8_work_B141
  repeat' first | exact Mn_ret | exact Mn_rz | exact hk90 _  _ | exact hk97 _  _ | refine Mn_nm (fun _ => ?_) | refine Mn_nab (fun _ _ => ?_) | refine Mn_nwb (fun _ _ => ?_) | refine Mn_pw (fun _ => ?_) | refine Mn_pz (fun _ => ?_) | refine Mn_aw (fun _ => ?_) | refine Mn_az (fun _ => ?_) | refine Mn_aq (fun _ => ?_) | refine Mn_bo (fun _ => ?_) | refine Mn_bd ?_ (fun _ _ => ?_) | refine Mn_iv ?_ | refine Mn_bLt ?_ ?_ | refine Mn_bLe ?_ ?_ | refine Mn_bEq ?_ ?_ | refine Mn_bN ?_ ?_ | refine Mn_g3 ?_ | refine Mn_g33 ?_ | refine Mn_g66 ?_ | refine Mn_gD ?_
set_option maxRecDepth 100000 in
set_option maxHeartbeats 4000000 in
theorem T_X8_work_B141 {r : Int} {σE : Hp} (hX : Cx p R s m args meth c D dA b0 n0 m0 4 nE mE cX8_work RX8 4 95) (hR : Rx meth none) (hnm : meth.name = yX8_work.name) (hQ : Q = Qm D dA b0 n0 m0 below args s none σE) (hE : nE = σE.1 ∧ mE = σE.2.1) (k90 : Int → Hp → Option (Int × Hp)) (k97 : Int → Hp → Option (Int × Hp)) (jx0 : Int) (jx1 : Int) (jx2 : Int) (jx3 : Int) (hk90 : ∀ (jx2 : Int) (σ : Hp), k90 jx2 σ = some (r, σE) → G p l e R s m args below meth c D dA b0 n0 m0 4 nE mE Q 90 [(0, 2, jx0), (1, 0, jx1), (2, 0, jx2)] [] σ) (hk97 : ∀ (jx3 : Int) (σ : Hp), k97 jx3 σ = some (r, σE) → G p l e R s m args below meth c D dA b0 n0 m0 4 nE mE Q 97 [(0, 2, jx0), (1, 0, jx1), (2, 0, jx2), (3, 0, jx3)] [] σ) (σ : Hp) (hF : F_X8_work_B141 k90 k97 jx0 jx1 jx2 jx3 σ = some (r, σE)) : G p l e R s m args below meth c D dA b0 n0 m0 4 nE mE Q 141 [(0, 2, jx0), (1, 0, jx1), (2, 0, jx2), (3, 0, jx3)] [] σ := by
  unfold F_X8_work_B141 at hF
  refine g_iinc (lv' := [(3, 0, (jx3 + 1)), (0, 2, jx0), (1, 0, jx1), (2, 0, jx2)]) hX 3 dX8_work_141 rfl (by decide) rfl ?_
  refine g_goto (tgt := 97) hX dX8_work_144 (by decide) ?_
  refine g_lvp (lv' := [(0, 2, jx0), (1, 0, jx1), (2, 0, jx2), (3, 0, (jx3 + 1))]) [1, 2, 3, 0] rfl ?_
  exact hk97 (jx3 + 1) σ hF
def F_X8_work_L97 (k90 : Int → Hp → Option (Int × Hp)) (jx0 : Int) (jx1 : Int) (jx2 : Int) : Nat → Int → Hp → Option (Int × Hp)
  | 0, _, _ => none
  | n + 1, jx3, σ => bd (iv 9 σ jx0 (F_X8_states  jx0  σ)) fun jv14 σ15 => bLt jx3 jv14 ((rd 9 σ15 jx0 21).bind fun jv16 => (ar 13 σ15 jv16 ((1000 * jx2) + jx3)).bind fun jv17 => bEq jv17 0 (F_X8_work_B141 k90 (F_X8_work_L97 k90 jx0 jx1 jx2 n) jx0 jx1 jx2 jx3  σ15) ((rd 9 σ15 jx0 20).bind fun jv18 => (ar 13 σ15 jv18 ((1000 * jx2) + jx3)).bind fun jv19 => bEq jv19 0 (bd (iv 9 σ15 jx0 (F_X8_settle  jx0 jx2 jx3 σ15)) fun jv20 σ21 => F_X8_work_B141 k90 (F_X8_work_L97 k90 jx0 jx1 jx2 n) jx0 jx1 jx2 jx3  σ21) (F_X8_work_B141 k90 (F_X8_work_L97 k90 jx0 jx1 jx2 n) jx0 jx1 jx2 jx3  σ15))) (k90 (jx2 + (-1)) σ15)
theorem M_X8_work_L97 (k90 : Int → Hp → Option (Int × Hp)) (hk90 : ∀ (jx2 : Int) (σ : Hp), Mn σ (k90 jx2 σ)) (jx0 : Int) (jx1 : Int) (jx2 : Int) : ∀ (n : Nat) (jx3 : Int) (σ : Hp), Mn σ (F_X8_work_L97 k90 jx0 jx1 jx2 n jx3 σ) := by
  intro n
  induction n with
  | zero => intros; rw [F_X8_work_L97]; exact Mn_none
  | succ n hk97 =>
    intros
    rw [F_X8_work_L97]
    repeat' first | exact Mn_ret | exact Mn_rz | exact hk90 _  _ | exact hk97 _  _ | exact M_X8_states _ _ | exact M_X8_work_B141 k90 (F_X8_work_L97 k90 jx0 jx1 jx2 n) hk90 hk97 _ _ _ _  _ | exact M_X8_settle _ _ _ _ | refine Mn_nm (fun _ => ?_) | refine Mn_nab (fun _ _ => ?_) | refine Mn_nwb (fun _ _ => ?_) | refine Mn_pw (fun _ => ?_) | refine Mn_pz (fun _ => ?_) | refine Mn_aw (fun _ => ?_) | refine Mn_az (fun _ => ?_) | refine Mn_aq (fun _ => ?_) | refine Mn_bo (fun _ => ?_) | refine Mn_bd ?_ (fun _ _ => ?_) | refine Mn_iv ?_ | refine Mn_bLt ?_ ?_ | refine Mn_bLe ?_ ?_ | refine Mn_bEq ?_ ?_ | refine Mn_bN ?_ ?_ | refine Mn_g3 ?_ | refine Mn_g33 ?_ | refine Mn_g66 ?_ | refine Mn_gD ?_
set_option maxRecDepth 100000 in
set_option maxHeartbeats 4000000 in
theorem T_X8_work_L97 {r : Int} {σE : Hp} (hX : Cx p R s m args meth c D dA b0 n0 m0 4 nE mE cX8_work RX8 4 95) (hR : Rx meth none) (hnm : meth.name = yX8_work.name) (hQ : Q = Qm D dA b0 n0 m0 below args s none σE) (hE : nE = σE.1 ∧ mE = σE.2.1) (k90 : Int → Hp → Option (Int × Hp)) (jx0 : Int) (jx1 : Int) (jx2 : Int) (hk90 : ∀ (jx2 : Int) (σ : Hp), k90 jx2 σ = some (r, σE) → G p l e R s m args below meth c D dA b0 n0 m0 4 nE mE Q 90 [(0, 2, jx0), (1, 0, jx1), (2, 0, jx2)] [] σ) : ∀ (n : Nat) (jx3 : Int) (σ : Hp), F_X8_work_L97 k90 jx0 jx1 jx2 n jx3 σ = some (r, σE) → G p l e R s m args below meth c D dA b0 n0 m0 4 nE mE Q 97 [(0, 2, jx0), (1, 0, jx1), (2, 0, jx2), (3, 0, jx3)] [] σ := by
  intro n
  induction n with
  | zero =>
    intro jx3 σ hF
    rw [F_X8_work_L97] at hF
    cases hF
  | succ n hk97 =>
    intro jx3 σ hF
    rw [F_X8_work_L97] at hF
    refine g_iload_n hX 3 dX8_work_97 rfl rfl ?_
    refine g_aload_n hX 0 dX8_work_98 rfl rfl ?_
    refine g_callV (t := 0) (ci := 8) (rest := [(0, jx3)]) [] hX cw_X8_126 rfl (by decide) (by decide) (fun r σ1 h => T_X8_states l D dA b0  jx0  σ σ1 r h) ⟨by decide, by decide⟩ rfl rfl (Nat.le_of_ble_eq_true rfl) dX8_work_99 hF (fun jv14 σ15 hF => ?_)
    refine g_icmp_ge (tgt := 147) hX dX8_work_102 (by decide) hF (fun hc hF => ?_) (fun hc hF => ?_)
    · refine g_aload_n hX 0 dX8_work_105 rfl rfl ?_
      refine g_get hX fl_X8_67 (by decide) (by decide) dX8_work_106 hF (fun jv16 hF => ?_)
      refine g_sipush hX dX8_work_109 (by decide) ?_
      refine g_iload_n hX 2 dX8_work_112 rfl rfl ?_
      refine g_imul hX dX8_work_113 ?_
      refine g_iload_n hX 3 dX8_work_114 rfl rfl ?_
      refine g_iadd hX dX8_work_115 ?_
      refine g_zald hX dX8_work_116 hF (fun jv17 hF => ?_)
      refine g_if_eq (tgt := 141) hX dX8_work_117 (by decide) hF (fun hc hF => ?_) (fun hc hF => ?_)
      · exact T_X8_work_B141 hX hR hnm hQ hE k90 (F_X8_work_L97 k90 jx0 jx1 jx2 n) jx0 jx1 jx2 jx3  hk90 hk97  σ15 hF
      · refine g_aload_n hX 0 dX8_work_120 rfl rfl ?_
        refine g_get hX fl_X8_63 (by decide) (by decide) dX8_work_121 hF (fun jv18 hF => ?_)
        refine g_sipush hX dX8_work_124 (by decide) ?_
        refine g_iload_n hX 2 dX8_work_127 rfl rfl ?_
        refine g_imul hX dX8_work_128 ?_
        refine g_iload_n hX 3 dX8_work_129 rfl rfl ?_
        refine g_iadd hX dX8_work_130 ?_
        refine g_zald hX dX8_work_131 hF (fun jv19 hF => ?_)
        refine g_if_ne (tgt := 141) hX dX8_work_132 (by decide) hF (fun hc hF => ?_) (fun hc hF => ?_)
        · refine g_aload_n hX 0 dX8_work_135 rfl rfl ?_
          refine g_iload_n hX 2 dX8_work_136 rfl rfl ?_
          refine g_iload_n hX 3 dX8_work_137 rfl rfl ?_
          refine g_callVv (ci := 8) (rest := []) [(0, jx2), (0, jx3)] hX cw_X8_172 rfl (by decide) (by decide) (fun r σ1 h => T_X8_settle l D dA b0  jx0 jx2 jx3 σ15 σ1 r h) ⟨by decide, by decide⟩ rfl rfl (Nat.le_of_ble_eq_true rfl) dX8_work_138 hF (fun jv20 σ21 hF => ?_)
          exact T_X8_work_B141 hX hR hnm hQ hE k90 (F_X8_work_L97 k90 jx0 jx1 jx2 n) jx0 jx1 jx2 jx3  hk90 hk97  σ21 hF
        · exact T_X8_work_B141 hX hR hnm hQ hE k90 (F_X8_work_L97 k90 jx0 jx1 jx2 n) jx0 jx1 jx2 jx3  hk90 hk97  σ15 hF
    · refine g_iinc (lv' := [(2, 0, (jx2 + (-1))), (0, 2, jx0), (1, 0, jx1), (3, 0, jx3)]) hX 2 dX8_work_147 rfl (by decide) rfl ?_
      refine g_goto (tgt := 90) hX dX8_work_150 (by decide) ?_
      refine g_lvp (lv' := [(0, 2, jx0), (1, 0, jx1), (2, 0, (jx2 + (-1)))]) [1, 2, 0] rfl ?_
      exact hk90 (jx2 + (-1)) σ15 hF
def F_X8_work_L90 (jx0 : Int) (jx1 : Int) : Nat → Int → Hp → Option (Int × Hp)
  | 0, _, _ => none
  | n + 1, jx2, σ => bLt jx2 jx1 (some (0, σ)) (F_X8_work_L97 (F_X8_work_L90 jx0 jx1 n) jx0 jx1 jx2 fu 0 σ)
theorem M_X8_work_L90 (jx0 : Int) (jx1 : Int) : ∀ (n : Nat) (jx2 : Int) (σ : Hp), Mn σ (F_X8_work_L90 jx0 jx1 n jx2 σ) := by
  intro n
  induction n with
  | zero => intros; rw [F_X8_work_L90]; exact Mn_none
  | succ n hk90 =>
    intros
    rw [F_X8_work_L90]
    repeat' first | exact Mn_ret | exact Mn_rz | exact hk90 _  _ | exact M_X8_work_L97 (F_X8_work_L90 jx0 jx1 n) hk90 _ _ _ _ _ _ | refine Mn_nm (fun _ => ?_) | refine Mn_nab (fun _ _ => ?_) | refine Mn_nwb (fun _ _ => ?_) | refine Mn_pw (fun _ => ?_) | refine Mn_pz (fun _ => ?_) | refine Mn_aw (fun _ => ?_) | refine Mn_az (fun _ => ?_) | refine Mn_aq (fun _ => ?_) | refine Mn_bo (fun _ => ?_) | refine Mn_bd ?_ (fun _ _ => ?_) | refine Mn_iv ?_ | refine Mn_bLt ?_ ?_ | refine Mn_bLe ?_ ?_ | refine Mn_bEq ?_ ?_ | refine Mn_bN ?_ ?_ | refine Mn_g3 ?_ | refine Mn_g33 ?_ | refine Mn_g66 ?_ | refine Mn_gD ?_
set_option maxRecDepth 100000 in
set_option maxHeartbeats 4000000 in
theorem T_X8_work_L90 {r : Int} {σE : Hp} (hX : Cx p R s m args meth c D dA b0 n0 m0 4 nE mE cX8_work RX8 4 95) (hR : Rx meth none) (hnm : meth.name = yX8_work.name) (hQ : Q = Qm D dA b0 n0 m0 below args s none σE) (hE : nE = σE.1 ∧ mE = σE.2.1) (jx0 : Int) (jx1 : Int) : ∀ (n : Nat) (jx2 : Int) (σ : Hp), F_X8_work_L90 jx0 jx1 n jx2 σ = some (r, σE) → G p l e R s m args below meth c D dA b0 n0 m0 4 nE mE Q 90 [(0, 2, jx0), (1, 0, jx1), (2, 0, jx2)] [] σ := by
  intro n
  induction n with
  | zero =>
    intro jx2 σ hF
    rw [F_X8_work_L90] at hF
    cases hF
  | succ n hk90 =>
    intro jx2 σ hF
    rw [F_X8_work_L90] at hF
    refine g_iload_n hX 2 dX8_work_90 rfl rfl ?_
    refine g_iload_n hX 1 dX8_work_91 rfl rfl ?_
    refine g_icmp_lt (tgt := 153) hX dX8_work_92 (by decide) hF (fun hc hF => ?_) (fun hc hF => ?_)
    · exact g_vret hX hR hQ hE dX8_work_153 hF
    · refine g_iconst hX dX8_work_95 ?_
      refine g_istore_n (lv' := [(3, 0, 0), (0, 2, jx0), (1, 0, jx1), (2, 0, jx2)]) hX dX8_work_96 rfl (by decide) rfl ?_
      refine g_lvp (lv' := [(0, 2, jx0), (1, 0, jx1), (2, 0, jx2), (3, 0, 0)]) [1, 2, 3, 0] rfl ?_
      exact T_X8_work_L97 hX hR hnm hQ hE (F_X8_work_L90 jx0 jx1 n) jx0 jx1 jx2 hk90  fu 0 σ hF
def F_X8_work_L2 (jx0 : Int) (jx1 : Int) : Nat → Int → Hp → Option (Int × Hp)
  | 0, _, _ => none
  | n + 1, jx2, σ => (rd 9 σ jx0 11).bind fun jv1 => bLt jx2 jv1 (F_X8_work_L12 (F_X8_work_L2 jx0 jx1 n) jx0 jx1 jx2 fu 0 σ) ((rd 9 σ jx0 11).bind fun jv13 => F_X8_work_L90 jx0 jx1 fu (jv13 - 1) σ)
theorem M_X8_work_L2 (jx0 : Int) (jx1 : Int) : ∀ (n : Nat) (jx2 : Int) (σ : Hp), Mn σ (F_X8_work_L2 jx0 jx1 n jx2 σ) := by
  intro n
  induction n with
  | zero => intros; rw [F_X8_work_L2]; exact Mn_none
  | succ n hk2 =>
    intros
    rw [F_X8_work_L2]
    repeat' first | exact Mn_ret | exact Mn_rz | exact hk2 _  _ | exact M_X8_work_L12 (F_X8_work_L2 jx0 jx1 n) hk2 _ _ _ _ _ _ | exact M_X8_work_L90 _ _ _ _ _ | refine Mn_nm (fun _ => ?_) | refine Mn_nab (fun _ _ => ?_) | refine Mn_nwb (fun _ _ => ?_) | refine Mn_pw (fun _ => ?_) | refine Mn_pz (fun _ => ?_) | refine Mn_aw (fun _ => ?_) | refine Mn_az (fun _ => ?_) | refine Mn_aq (fun _ => ?_) | refine Mn_bo (fun _ => ?_) | refine Mn_bd ?_ (fun _ _ => ?_) | refine Mn_iv ?_ | refine Mn_bLt ?_ ?_ | refine Mn_bLe ?_ ?_ | refine Mn_bEq ?_ ?_ | refine Mn_bN ?_ ?_ | refine Mn_g3 ?_ | refine Mn_g33 ?_ | refine Mn_g66 ?_ | refine Mn_gD ?_
set_option maxRecDepth 100000 in
set_option maxHeartbeats 4000000 in
theorem T_X8_work_L2 {r : Int} {σE : Hp} (hX : Cx p R s m args meth c D dA b0 n0 m0 4 nE mE cX8_work RX8 4 95) (hR : Rx meth none) (hnm : meth.name = yX8_work.name) (hQ : Q = Qm D dA b0 n0 m0 below args s none σE) (hE : nE = σE.1 ∧ mE = σE.2.1) (jx0 : Int) (jx1 : Int) : ∀ (n : Nat) (jx2 : Int) (σ : Hp), F_X8_work_L2 jx0 jx1 n jx2 σ = some (r, σE) → G p l e R s m args below meth c D dA b0 n0 m0 4 nE mE Q 2 [(0, 2, jx0), (1, 0, jx1), (2, 0, jx2)] [] σ := by
  intro n
  induction n with
  | zero =>
    intro jx2 σ hF
    rw [F_X8_work_L2] at hF
    cases hF
  | succ n hk2 =>
    intro jx2 σ hF
    rw [F_X8_work_L2] at hF
    refine g_iload_n hX 2 dX8_work_2 rfl rfl ?_
    refine g_aload_n hX 0 dX8_work_3 rfl rfl ?_
    refine g_get hX fl_X8_41 (by decide) (by decide) dX8_work_4 hF (fun jv1 hF => ?_)
    refine g_icmp_ge (tgt := 83) hX dX8_work_7 (by decide) hF (fun hc hF => ?_) (fun hc hF => ?_)
    · refine g_iconst hX dX8_work_10 ?_
      refine g_istore_n (lv' := [(3, 0, 0), (0, 2, jx0), (1, 0, jx1), (2, 0, jx2)]) hX dX8_work_11 rfl (by decide) rfl ?_
      refine g_lvp (lv' := [(0, 2, jx0), (1, 0, jx1), (2, 0, jx2), (3, 0, 0)]) [1, 2, 3, 0] rfl ?_
      exact T_X8_work_L12 hX hR hnm hQ hE (F_X8_work_L2 jx0 jx1 n) jx0 jx1 jx2 hk2  fu 0 σ hF
    · refine g_aload_n hX 0 dX8_work_83 rfl rfl ?_
      refine g_get hX fl_X8_41 (by decide) (by decide) dX8_work_84 hF (fun jv13 hF => ?_)
      refine g_iconst hX dX8_work_87 ?_
      refine g_isub hX dX8_work_88 ?_
      refine g_istore_n (lv' := [(2, 0, (jv13 - 1)), (0, 2, jx0), (1, 0, jx1)]) hX dX8_work_89 rfl (by decide) rfl ?_
      refine g_lvp (lv' := [(0, 2, jx0), (1, 0, jx1), (2, 0, (jv13 - 1))]) [1, 2, 0] rfl ?_
      exact T_X8_work_L90 hX hR hnm hQ hE jx0 jx1  fu (jv13 - 1) σ hF
def F_X8_work (jx0 : Int) (jx1 : Int) (σ : Hp) : Option (Int × Hp) :=
  F_X8_work_L2 jx0 jx1 fu jx1 σ
theorem M_X8_work (jx0 : Int) (jx1 : Int) (σ : Hp) : Mn σ (F_X8_work jx0 jx1 σ) := by
  unfold F_X8_work
  repeat' first | exact Mn_ret | exact Mn_rz | exact M_X8_work_L2 _ _ _ _ _ | refine Mn_nm (fun _ => ?_) | refine Mn_nab (fun _ _ => ?_) | refine Mn_nwb (fun _ _ => ?_) | refine Mn_pw (fun _ => ?_) | refine Mn_pz (fun _ => ?_) | refine Mn_aw (fun _ => ?_) | refine Mn_az (fun _ => ?_) | refine Mn_aq (fun _ => ?_) | refine Mn_bo (fun _ => ?_) | refine Mn_bd ?_ (fun _ _ => ?_) | refine Mn_iv ?_ | refine Mn_bLt ?_ ?_ | refine Mn_bLe ?_ ?_ | refine Mn_bEq ?_ ?_ | refine Mn_bN ?_ ?_ | refine Mn_g3 ?_ | refine Mn_g33 ?_ | refine Mn_g66 ?_ | refine Mn_gD ?_
set_option maxRecDepth 100000 in
set_option maxHeartbeats 4000000 in
theorem T_X8_work (l : Launch) (D : va_G) (dA : Nat → ClassId) (b0 : Nat) (jx0 : Int) (jx1 : Int) (σ σE : Hp) (r : Int) (hF : F_X8_work jx0 jx1 σ = some (r, σE)) : Ct l D dA b0 yX8_work cX8_work 4 none 4 95 [(2, jx0), (0, jx1)] σ none σE := by
  refine Ct.of (lv0 := [(0, 2, jx0), (1, 0, jx1)]) (by decide) RX8 rfl (Nat.le_of_ble_eq_true rfl) rfl ?_ (M_X8_work jx0 jx1 σ r σE hF)
  intro p e R s m args below meth c hX hR hnm
  obtain ⟨Q, hQ⟩ : ∃ Q, Q = Qm D dA b0 σ.1 σ.2.1 below args s none σE := ⟨_, rfl⟩
  rw [← hQ]
  have hE : σE.1 = σE.1 ∧ σE.2.1 = σE.2.1 := ⟨rfl, rfl⟩
  unfold F_X8_work at hF
  refine g_iload_n hX 1 dX8_work_0 rfl rfl ?_
  refine g_istore_n (lv' := [(2, 0, jx1), (0, 2, jx0), (1, 0, jx1)]) hX dX8_work_1 rfl (by decide) rfl ?_
  refine g_lvp (lv' := [(0, 2, jx0), (1, 0, jx1), (2, 0, jx1)]) [1, 2, 0] rfl ?_
  exact T_X8_work_L2 hX hR hnm hQ hE jx0 jx1  fu jx1 σ hF
end

section
variable {p : Program} {l : Launch} {e : Env} {R : Room} {s : State} {m : MethodId} {args : Array Value} {below : List Frame} {meth : Method} {c : Code} {D : va_G} {dA : Nat → ClassId} {b0 n0 m0 nE mE : Nat} {Q : State → Prop}
def F_X8_worthOf (jx0 : Int) (jx1 : Int) (jx2 : Int) (σ : Hp) : Option (Int × Hp) :=
  bd (iv 9 σ jx0 (F_X8_prepare  jx0  σ)) fun jv1 σ2 => (rd 9 σ2 jx0 21).bind fun jv3 => (az 13 σ2 jv3 ((1000 * jx1) + jx2) 1).bind fun σ4 => bd (iv 9 σ4 jx0 (F_X8_work  jx0 jx1 σ4)) fun jv5 σ6 => (rd 9 σ6 jx0 22).bind fun jv7 => (ar 12 σ6 jv7 ((1000 * jx1) + jx2)).bind fun jv8 => some (jv8, σ6)
theorem M_X8_worthOf (jx0 : Int) (jx1 : Int) (jx2 : Int) (σ : Hp) : Mn σ (F_X8_worthOf jx0 jx1 jx2 σ) := by
  unfold F_X8_worthOf
  repeat' first | exact Mn_ret | exact Mn_rz | exact M_X8_prepare _ _ | exact M_X8_work _ _ _ | refine Mn_nm (fun _ => ?_) | refine Mn_nab (fun _ _ => ?_) | refine Mn_nwb (fun _ _ => ?_) | refine Mn_pw (fun _ => ?_) | refine Mn_pz (fun _ => ?_) | refine Mn_aw (fun _ => ?_) | refine Mn_az (fun _ => ?_) | refine Mn_aq (fun _ => ?_) | refine Mn_bo (fun _ => ?_) | refine Mn_bd ?_ (fun _ _ => ?_) | refine Mn_iv ?_ | refine Mn_bLt ?_ ?_ | refine Mn_bLe ?_ ?_ | refine Mn_bEq ?_ ?_ | refine Mn_bN ?_ ?_ | refine Mn_g3 ?_ | refine Mn_g33 ?_ | refine Mn_g66 ?_ | refine Mn_gD ?_
set_option maxRecDepth 100000 in
set_option maxHeartbeats 4000000 in
theorem T_X8_worthOf (l : Launch) (D : va_G) (dA : Nat → ClassId) (b0 : Nat) (jx0 : Int) (jx1 : Int) (jx2 : Int) (σ σE : Hp) (r : Int) (hF : F_X8_worthOf jx0 jx1 jx2 σ = some (r, σE)) : Ct l D dA b0 yX8_worthOf cX8_worthOf 3 (some .long) 5 118 [(2, jx0), (0, jx1), (0, jx2)] σ (some (pV 1 r)) σE := by
  refine Ct.of (lv0 := [(0, 2, jx0), (1, 0, jx1), (2, 0, jx2)]) (by decide) RX8 rfl (Nat.le_of_ble_eq_true rfl) rfl ?_ (M_X8_worthOf jx0 jx1 jx2 σ r σE hF)
  intro p e R s m args below meth c hX hR hnm
  obtain ⟨Q, hQ⟩ : ∃ Q, Q = Qm D dA b0 σ.1 σ.2.1 below args s (some (pV 1 r)) σE := ⟨_, rfl⟩
  rw [← hQ]
  have hE : σE.1 = σE.1 ∧ σE.2.1 = σE.2.1 := ⟨rfl, rfl⟩
  unfold F_X8_worthOf at hF
  refine g_aload_n hX 0 dX8_worthOf_0 rfl rfl ?_
  refine g_callVv (ci := 8) (rest := []) [] hX cw_X8_194 rfl (by decide) (by decide) (fun r σ1 h => T_X8_prepare l D dA b0  jx0  σ σ1 r h) ⟨by decide, by decide⟩ rfl rfl (Nat.le_of_ble_eq_true rfl) dX8_worthOf_1 hF (fun jv1 σ2 hF => ?_)
  refine g_aload_n hX 0 dX8_worthOf_4 rfl rfl ?_
  refine g_get hX fl_X8_67 (by decide) (by decide) dX8_worthOf_5 hF (fun jv3 hF => ?_)
  refine g_sipush hX dX8_worthOf_8 (by decide) ?_
  refine g_iload_n hX 1 dX8_worthOf_11 rfl rfl ?_
  refine g_imul hX dX8_worthOf_12 ?_
  refine g_iload_n hX 2 dX8_worthOf_13 rfl rfl ?_
  refine g_iadd hX dX8_worthOf_14 ?_
  refine g_iconst hX dX8_worthOf_15 ?_
  refine u_zast hX dX8_worthOf_16 hF (fun σ4 hF => ?_)
  refine g_aload_n hX 0 dX8_worthOf_17 rfl rfl ?_
  refine g_iload_n hX 1 dX8_worthOf_18 rfl rfl ?_
  refine g_callVv (ci := 8) (rest := []) [(0, jx1)] hX cw_X8_197 rfl (by decide) (by decide) (fun r σ1 h => T_X8_work l D dA b0  jx0 jx1 σ4 σ1 r h) ⟨by decide, by decide⟩ rfl rfl (Nat.le_of_ble_eq_true rfl) dX8_worthOf_19 hF (fun jv5 σ6 hF => ?_)
  refine g_aload_n hX 0 dX8_worthOf_22 rfl rfl ?_
  refine g_get hX fl_X8_70 (by decide) (by decide) dX8_worthOf_23 hF (fun jv7 hF => ?_)
  refine g_sipush hX dX8_worthOf_26 (by decide) ?_
  refine g_iload_n hX 1 dX8_worthOf_29 rfl rfl ?_
  refine g_imul hX dX8_worthOf_30 ?_
  refine g_iload_n hX 2 dX8_worthOf_31 rfl rfl ?_
  refine g_iadd hX dX8_worthOf_32 ?_
  refine g_lald hX dX8_worthOf_33 hF (fun jv8 hF => ?_)
  exact g_lret hX hR hQ hE dX8_worthOf_34 hF
end

section
variable {p : Program} {l : Launch} {e : Env} {R : Room} {s : State} {m : MethodId} {args : Array Value} {below : List Frame} {meth : Method} {c : Code} {D : va_G} {dA : Nat → ClassId} {b0 n0 m0 nE mE : Nat} {Q : State → Prop}
def F_X8_worth (jx0 : Int) (jx1 : Int) (jx2 : Int) (σ : Hp) : Option (Int × Hp) :=
  bd (iv 9 σ jx0 (F_X8_isNode  jx0 jx1 σ)) fun jv1 σ2 => bEq jv1 0 (some ((-9000000000000000000), σ2)) (bd (iv 9 σ2 jx0 (F_X8_isState  jx0 jx2 σ2)) fun jv3 σ4 => bEq jv3 0 (some ((-9000000000000000000), σ4)) (bd (iv 9 σ4 jx0 (F_X8_isWhole  jx0  σ4)) fun jv5 σ6 => bEq jv5 0 (some ((-9000000000000000000), σ6)) (bd (iv 9 σ6 jx0 (F_X8_worthOf  jx0 jx1 jx2 σ6)) fun jv7 σ8 => some (jv7, σ8))))
theorem M_X8_worth (jx0 : Int) (jx1 : Int) (jx2 : Int) (σ : Hp) : Mn σ (F_X8_worth jx0 jx1 jx2 σ) := by
  unfold F_X8_worth
  repeat' first | exact Mn_ret | exact Mn_rz | exact M_X8_isNode _ _ _ | exact M_X8_isState _ _ _ | exact M_X8_isWhole _ _ | exact M_X8_worthOf _ _ _ _ | refine Mn_nm (fun _ => ?_) | refine Mn_nab (fun _ _ => ?_) | refine Mn_nwb (fun _ _ => ?_) | refine Mn_pw (fun _ => ?_) | refine Mn_pz (fun _ => ?_) | refine Mn_aw (fun _ => ?_) | refine Mn_az (fun _ => ?_) | refine Mn_aq (fun _ => ?_) | refine Mn_bo (fun _ => ?_) | refine Mn_bd ?_ (fun _ _ => ?_) | refine Mn_iv ?_ | refine Mn_bLt ?_ ?_ | refine Mn_bLe ?_ ?_ | refine Mn_bEq ?_ ?_ | refine Mn_bN ?_ ?_ | refine Mn_g3 ?_ | refine Mn_g33 ?_ | refine Mn_g66 ?_ | refine Mn_gD ?_
set_option maxRecDepth 100000 in
set_option maxHeartbeats 4000000 in
theorem T_X8_worth (l : Launch) (D : va_G) (dA : Nat → ClassId) (b0 : Nat) (jx0 : Int) (jx1 : Int) (jx2 : Int) (σ σE : Hp) (r : Int) (hF : F_X8_worth jx0 jx1 jx2 σ = some (r, σE)) : Ct l D dA b0 yX8_worth cX8_worth 3 (some .long) 6 140 [(2, jx0), (0, jx1), (0, jx2)] σ (some (pV 1 r)) σE := by
  refine Ct.of (lv0 := [(0, 2, jx0), (1, 0, jx1), (2, 0, jx2)]) (by decide) RX8 rfl (Nat.le_of_ble_eq_true rfl) rfl ?_ (M_X8_worth jx0 jx1 jx2 σ r σE hF)
  intro p e R s m args below meth c hX hR hnm
  obtain ⟨Q, hQ⟩ : ∃ Q, Q = Qm D dA b0 σ.1 σ.2.1 below args s (some (pV 1 r)) σE := ⟨_, rfl⟩
  rw [← hQ]
  have hE : σE.1 = σE.1 ∧ σE.2.1 = σE.2.1 := ⟨rfl, rfl⟩
  unfold F_X8_worth at hF
  refine g_aload_n hX 0 dX8_worth_0 rfl rfl ?_
  refine g_iload_n hX 1 dX8_worth_1 rfl rfl ?_
  refine g_callV (t := 0) (ci := 8) (rest := []) [(0, jx1)] hX cw_X8_144 rfl (by decide) (by decide) (fun r σ1 h => T_X8_isNode l D dA b0  jx0 jx1 σ σ1 r h) ⟨by decide, by decide⟩ rfl rfl (Nat.le_of_ble_eq_true rfl) dX8_worth_2 hF (fun jv1 σ2 hF => ?_)
  refine g_if_eq (tgt := 23) hX dX8_worth_5 (by decide) hF (fun hc hF => ?_) (fun hc hF => ?_)
  · refine g_ldc2 (z := -9000000000000000000) hX kc_X8_203 (by decide) dX8_worth_23 ?_
    refine g_goto (tgt := 35) hX dX8_worth_26 (by decide) ?_
    exact g_lret hX hR hQ hE dX8_worth_35 hF
  · refine g_aload_n hX 0 dX8_worth_8 rfl rfl ?_
    refine g_iload_n hX 2 dX8_worth_9 rfl rfl ?_
    refine g_callV (t := 0) (ci := 8) (rest := []) [(0, jx2)] hX cw_X8_200 rfl (by decide) (by decide) (fun r σ1 h => T_X8_isState l D dA b0  jx0 jx2 σ2 σ1 r h) ⟨by decide, by decide⟩ rfl rfl (Nat.le_of_ble_eq_true rfl) dX8_worth_10 hF (fun jv3 σ4 hF => ?_)
    refine g_if_eq (tgt := 23) hX dX8_worth_13 (by decide) hF (fun hc hF => ?_) (fun hc hF => ?_)
    · refine g_ldc2 (z := -9000000000000000000) hX kc_X8_203 (by decide) dX8_worth_23 ?_
      refine g_goto (tgt := 35) hX dX8_worth_26 (by decide) ?_
      exact g_lret hX hR hQ hE dX8_worth_35 hF
    · refine g_aload_n hX 0 dX8_worth_16 rfl rfl ?_
      refine g_callV (t := 0) (ci := 8) (rest := []) [] hX cw_X8_151 rfl (by decide) (by decide) (fun r σ1 h => T_X8_isWhole l D dA b0  jx0  σ4 σ1 r h) ⟨by decide, by decide⟩ rfl rfl (Nat.le_of_ble_eq_true rfl) dX8_worth_17 hF (fun jv5 σ6 hF => ?_)
      refine g_if_ne (tgt := 29) hX dX8_worth_20 (by decide) hF (fun hc hF => ?_) (fun hc hF => ?_)
      · refine g_ldc2 (z := -9000000000000000000) hX kc_X8_203 (by decide) dX8_worth_23 ?_
        refine g_goto (tgt := 35) hX dX8_worth_26 (by decide) ?_
        exact g_lret hX hR hQ hE dX8_worth_35 hF
      · refine g_aload_n hX 0 dX8_worth_29 rfl rfl ?_
        refine g_iload_n hX 1 dX8_worth_30 rfl rfl ?_
        refine g_iload_n hX 2 dX8_worth_31 rfl rfl ?_
        refine g_callV (t := 1) (ci := 8) (rest := []) [(0, jx1), (0, jx2)] hX cw_X8_205 rfl (by decide) (by decide) (fun r σ1 h => T_X8_worthOf l D dA b0  jx0 jx1 jx2 σ6 σ1 r h) ⟨by decide, by decide⟩ rfl rfl (Nat.le_of_ble_eq_true rfl) dX8_worth_32 hF (fun jv7 σ8 hF => ?_)
        exact g_lret hX hR hQ hE dX8_worth_35 hF
end

section
variable {p : Program} {l : Launch} {e : Env} {R : Room} {s : State} {m : MethodId} {args : Array Value} {below : List Frame} {meth : Method} {c : Code} {D : va_G} {dA : Nat → ClassId} {b0 n0 m0 nE mE : Nat} {Q : State → Prop}
def F_X8_bestLet (jx0 : Int) (jx1 : Int) (jx2 : Int) (σ : Hp) : Option (Int × Hp) :=
  bd (iv 9 σ jx0 (F_X8_worthOf  jx0 jx1 jx2 σ)) fun jv1 σ2 => (rd 9 σ2 jx0 23).bind fun jv3 => (ar 11 σ2 jv3 ((1000 * jx1) + jx2)).bind fun jv4 => (rd 9 σ2 jx0 17).bind fun jv5 => (aw 11 σ2 jv5 0 (shrI jv4 8)).bind fun σ6 => (rd 9 σ6 jx0 17).bind fun jv7 => (aw 11 σ6 jv7 1 (andI (shrI jv4 4) 15)).bind fun σ8 => (rd 9 σ8 jx0 17).bind fun jv9 => (aw 11 σ8 jv9 2 (andI jv4 15)).bind fun σ10 => some (0, σ10)
theorem M_X8_bestLet (jx0 : Int) (jx1 : Int) (jx2 : Int) (σ : Hp) : Mn σ (F_X8_bestLet jx0 jx1 jx2 σ) := by
  unfold F_X8_bestLet
  repeat' first | exact Mn_ret | exact Mn_rz | exact M_X8_worthOf _ _ _ _ | refine Mn_nm (fun _ => ?_) | refine Mn_nab (fun _ _ => ?_) | refine Mn_nwb (fun _ _ => ?_) | refine Mn_pw (fun _ => ?_) | refine Mn_pz (fun _ => ?_) | refine Mn_aw (fun _ => ?_) | refine Mn_az (fun _ => ?_) | refine Mn_aq (fun _ => ?_) | refine Mn_bo (fun _ => ?_) | refine Mn_bd ?_ (fun _ _ => ?_) | refine Mn_iv ?_ | refine Mn_bLt ?_ ?_ | refine Mn_bLe ?_ ?_ | refine Mn_bEq ?_ ?_ | refine Mn_bN ?_ ?_ | refine Mn_g3 ?_ | refine Mn_g33 ?_ | refine Mn_g66 ?_ | refine Mn_gD ?_
set_option maxRecDepth 100000 in
set_option maxHeartbeats 4000000 in
theorem T_X8_bestLet (l : Launch) (D : va_G) (dA : Nat → ClassId) (b0 : Nat) (jx0 : Int) (jx1 : Int) (jx2 : Int) (σ σE : Hp) (r : Int) (hF : F_X8_bestLet jx0 jx1 jx2 σ = some (r, σE)) : Ct l D dA b0 yX8_bestLet cX8_bestLet 6 none 6 140 [(2, jx0), (0, jx1), (0, jx2)] σ none σE := by
  refine Ct.of (lv0 := [(0, 2, jx0), (1, 0, jx1), (2, 0, jx2)]) (by decide) RX8 rfl (Nat.le_of_ble_eq_true rfl) rfl ?_ (M_X8_bestLet jx0 jx1 jx2 σ r σE hF)
  intro p e R s m args below meth c hX hR hnm
  obtain ⟨Q, hQ⟩ : ∃ Q, Q = Qm D dA b0 σ.1 σ.2.1 below args s none σE := ⟨_, rfl⟩
  rw [← hQ]
  have hE : σE.1 = σE.1 ∧ σE.2.1 = σE.2.1 := ⟨rfl, rfl⟩
  unfold F_X8_bestLet at hF
  refine g_aload_n hX 0 dX8_bestLet_0 rfl rfl ?_
  refine g_iload_n hX 1 dX8_bestLet_1 rfl rfl ?_
  refine g_iload_n hX 2 dX8_bestLet_2 rfl rfl ?_
  refine g_callV (t := 1) (ci := 8) (rest := []) [(0, jx1), (0, jx2)] hX cw_X8_205 rfl (by decide) (by decide) (fun r σ1 h => T_X8_worthOf l D dA b0  jx0 jx1 jx2 σ σ1 r h) ⟨by decide, by decide⟩ rfl rfl (Nat.le_of_ble_eq_true rfl) dX8_bestLet_3 hF (fun jv1 σ2 hF => ?_)
  refine g_lstore_n (lv' := [(3, 1, jv1), (0, 2, jx0), (1, 0, jx1), (2, 0, jx2)]) hX dX8_bestLet_6 rfl (by decide) rfl ?_
  refine g_aload_n hX 1 dX8_bestLet_7 rfl rfl ?_
  refine g_get hX fl_X8_74 (by decide) (by decide) dX8_bestLet_8 hF (fun jv3 hF => ?_)
  refine g_sipush hX dX8_bestLet_11 (by decide) ?_
  refine g_iload_n hX 2 dX8_bestLet_14 rfl rfl ?_
  refine g_imul hX dX8_bestLet_15 ?_
  refine g_iload_n hX 3 dX8_bestLet_16 rfl rfl ?_
  refine g_iadd hX dX8_bestLet_17 ?_
  refine g_iald hX dX8_bestLet_18 hF (fun jv4 hF => ?_)
  refine g_istore (lv' := [(5, 0, jv4), (3, 1, jv1), (0, 2, jx0), (1, 0, jx1), (2, 0, jx2)]) hX dX8_bestLet_19 (by decide) rfl ?_
  refine g_aload_n hX 2 dX8_bestLet_21 rfl rfl ?_
  refine g_get hX fl_X8_59 (by decide) (by decide) dX8_bestLet_22 hF (fun jv5 hF => ?_)
  refine g_iconst hX dX8_bestLet_25 ?_
  refine g_iload hX 0 dX8_bestLet_26 rfl ?_
  refine g_bipush hX dX8_bestLet_28 (by decide) ?_
  refine g_ishr hX dX8_bestLet_30 ?_
  refine u_iast hX dX8_bestLet_31 hF (fun σ6 hF => ?_)
  refine g_aload_n hX 2 dX8_bestLet_32 rfl rfl ?_
  refine g_get hX fl_X8_59 (by decide) (by decide) dX8_bestLet_33 hF (fun jv7 hF => ?_)
  refine g_iconst hX dX8_bestLet_36 ?_
  refine g_iload hX 0 dX8_bestLet_37 rfl ?_
  refine g_iconst hX dX8_bestLet_39 ?_
  refine g_ishr hX dX8_bestLet_40 ?_
  refine g_bipush hX dX8_bestLet_41 (by decide) ?_
  refine g_iand hX dX8_bestLet_43 ?_
  refine u_iast hX dX8_bestLet_44 hF (fun σ8 hF => ?_)
  refine g_aload_n hX 2 dX8_bestLet_45 rfl rfl ?_
  refine g_get hX fl_X8_59 (by decide) (by decide) dX8_bestLet_46 hF (fun jv9 hF => ?_)
  refine g_iconst hX dX8_bestLet_49 ?_
  refine g_iload hX 0 dX8_bestLet_50 rfl ?_
  refine g_bipush hX dX8_bestLet_52 (by decide) ?_
  refine g_iand hX dX8_bestLet_54 ?_
  refine u_iast hX dX8_bestLet_55 hF (fun σ10 hF => ?_)
  exact g_vret hX hR hQ hE dX8_bestLet_56 hF
end

section
variable {p : Program} {l : Launch} {e : Env} {R : Room} {s : State} {m : MethodId} {args : Array Value} {below : List Frame} {meth : Method} {c : Code} {D : va_G} {dA : Nat → ClassId} {b0 n0 m0 nE mE : Nat} {Q : State → Prop}
def F_X8_policy (jx0 : Int) (jx1 : Int) (jx2 : Int) (jx3 : Int) (σ : Hp) : Option (Int × Hp) :=
  bd (iv 9 σ jx0 (F_X8_isNode  jx0 jx1 σ)) fun jv1 σ2 => bEq jv1 0 (some ((-1), σ2)) (bd (iv 9 σ2 jx0 (F_X8_isState  jx0 jx2 σ2)) fun jv3 σ4 => bEq jv3 0 (some ((-1), σ4)) (bd (iv 9 σ4 jx0 (F_X8_isLake  jx0 jx3 σ4)) fun jv5 σ6 => bEq jv5 0 (some ((-1), σ6)) (bd (iv 9 σ6 jx0 (F_X8_isWhole  jx0  σ6)) fun jv7 σ8 => bEq jv7 0 (some ((-3), σ8)) ((rd 9 σ8 jx0 14).bind fun jv9 => (ar 11 σ8 jv9 jx1).bind fun jv10 => (rd 9 σ8 jx0 8).bind fun jv11 => bEq jv10 (jv11 - 1) (some ((-4), σ8)) (bd (iv 9 σ8 jx0 (F_X8_bestLet  jx0 jx1 jx2 σ8)) fun jv12 σ13 => (rd 9 σ13 jx0 17).bind fun jv14 => (ar 11 σ13 jv14 jx3).bind fun jv15 => some (jv15, σ13))))))
theorem M_X8_policy (jx0 : Int) (jx1 : Int) (jx2 : Int) (jx3 : Int) (σ : Hp) : Mn σ (F_X8_policy jx0 jx1 jx2 jx3 σ) := by
  unfold F_X8_policy
  repeat' first | exact Mn_ret | exact Mn_rz | exact M_X8_isNode _ _ _ | exact M_X8_isState _ _ _ | exact M_X8_isLake _ _ _ | exact M_X8_isWhole _ _ | exact M_X8_bestLet _ _ _ _ | refine Mn_nm (fun _ => ?_) | refine Mn_nab (fun _ _ => ?_) | refine Mn_nwb (fun _ _ => ?_) | refine Mn_pw (fun _ => ?_) | refine Mn_pz (fun _ => ?_) | refine Mn_aw (fun _ => ?_) | refine Mn_az (fun _ => ?_) | refine Mn_aq (fun _ => ?_) | refine Mn_bo (fun _ => ?_) | refine Mn_bd ?_ (fun _ _ => ?_) | refine Mn_iv ?_ | refine Mn_bLt ?_ ?_ | refine Mn_bLe ?_ ?_ | refine Mn_bEq ?_ ?_ | refine Mn_bN ?_ ?_ | refine Mn_g3 ?_ | refine Mn_g33 ?_ | refine Mn_g66 ?_ | refine Mn_gD ?_
set_option maxRecDepth 100000 in
set_option maxHeartbeats 4000000 in
theorem T_X8_policy (l : Launch) (D : va_G) (dA : Nat → ClassId) (b0 : Nat) (jx0 : Int) (jx1 : Int) (jx2 : Int) (jx3 : Int) (σ σE : Hp) (r : Int) (hF : F_X8_policy jx0 jx1 jx2 jx3 σ = some (r, σE)) : Ct l D dA b0 yX8_policy cX8_policy 4 (some .int) 7 165 [(2, jx0), (0, jx1), (0, jx2), (0, jx3)] σ (some (pV 0 r)) σE := by
  refine Ct.of (lv0 := [(0, 2, jx0), (1, 0, jx1), (2, 0, jx2), (3, 0, jx3)]) (by decide) RX8 rfl (Nat.le_of_ble_eq_true rfl) rfl ?_ (M_X8_policy jx0 jx1 jx2 jx3 σ r σE hF)
  intro p e R s m args below meth c hX hR hnm
  obtain ⟨Q, hQ⟩ : ∃ Q, Q = Qm D dA b0 σ.1 σ.2.1 below args s (some (pV 0 r)) σE := ⟨_, rfl⟩
  rw [← hQ]
  have hE : σE.1 = σE.1 ∧ σE.2.1 = σE.2.1 := ⟨rfl, rfl⟩
  unfold F_X8_policy at hF
  refine g_aload_n hX 0 dX8_policy_0 rfl rfl ?_
  refine g_iload_n hX 1 dX8_policy_1 rfl rfl ?_
  refine g_callV (t := 0) (ci := 8) (rest := []) [(0, jx1)] hX cw_X8_144 rfl (by decide) (by decide) (fun r σ1 h => T_X8_isNode l D dA b0  jx0 jx1 σ σ1 r h) ⟨by decide, by decide⟩ rfl rfl (Nat.le_of_ble_eq_true rfl) dX8_policy_2 hF (fun jv1 σ2 hF => ?_)
  refine g_if_eq (tgt := 24) hX dX8_policy_5 (by decide) hF (fun hc hF => ?_) (fun hc hF => ?_)
  · refine g_iconst hX dX8_policy_24 ?_
    exact g_iret hX hR hQ hE dX8_policy_25 hF
  · refine g_aload_n hX 0 dX8_policy_8 rfl rfl ?_
    refine g_iload_n hX 2 dX8_policy_9 rfl rfl ?_
    refine g_callV (t := 0) (ci := 8) (rest := []) [(0, jx2)] hX cw_X8_200 rfl (by decide) (by decide) (fun r σ1 h => T_X8_isState l D dA b0  jx0 jx2 σ2 σ1 r h) ⟨by decide, by decide⟩ rfl rfl (Nat.le_of_ble_eq_true rfl) dX8_policy_10 hF (fun jv3 σ4 hF => ?_)
    refine g_if_eq (tgt := 24) hX dX8_policy_13 (by decide) hF (fun hc hF => ?_) (fun hc hF => ?_)
    · refine g_iconst hX dX8_policy_24 ?_
      exact g_iret hX hR hQ hE dX8_policy_25 hF
    · refine g_aload_n hX 0 dX8_policy_16 rfl rfl ?_
      refine g_iload_n hX 3 dX8_policy_17 rfl rfl ?_
      refine g_callV (t := 0) (ci := 8) (rest := []) [(0, jx3)] hX cw_X8_140 rfl (by decide) (by decide) (fun r σ1 h => T_X8_isLake l D dA b0  jx0 jx3 σ4 σ1 r h) ⟨by decide, by decide⟩ rfl rfl (Nat.le_of_ble_eq_true rfl) dX8_policy_18 hF (fun jv5 σ6 hF => ?_)
      refine g_if_ne (tgt := 26) hX dX8_policy_21 (by decide) hF (fun hc hF => ?_) (fun hc hF => ?_)
      · refine g_iconst hX dX8_policy_24 ?_
        exact g_iret hX hR hQ hE dX8_policy_25 hF
      · refine g_aload_n hX 0 dX8_policy_26 rfl rfl ?_
        refine g_callV (t := 0) (ci := 8) (rest := []) [] hX cw_X8_151 rfl (by decide) (by decide) (fun r σ1 h => T_X8_isWhole l D dA b0  jx0  σ6 σ1 r h) ⟨by decide, by decide⟩ rfl rfl (Nat.le_of_ble_eq_true rfl) dX8_policy_27 hF (fun jv7 σ8 hF => ?_)
        refine g_if_ne (tgt := 36) hX dX8_policy_30 (by decide) hF (fun hc hF => ?_) (fun hc hF => ?_)
        · refine g_bipush hX dX8_policy_33 (by decide) ?_
          exact g_iret hX hR hQ hE dX8_policy_35 hF
        · refine g_aload_n hX 0 dX8_policy_36 rfl rfl ?_
          refine g_get hX fl_X8_50 (by decide) (by decide) dX8_policy_37 hF (fun jv9 hF => ?_)
          refine g_iload_n hX 1 dX8_policy_40 rfl rfl ?_
          refine g_iald hX dX8_policy_41 hF (fun jv10 hF => ?_)
          refine g_aload_n hX 0 dX8_policy_42 rfl rfl ?_
          refine g_get hX fl_X8_32 (by decide) (by decide) dX8_policy_43 hF (fun jv11 hF => ?_)
          refine g_iconst hX dX8_policy_46 ?_
          refine g_isub hX dX8_policy_47 ?_
          refine g_icmp_ne (tgt := 54) hX dX8_policy_48 (by decide) hF (fun hc hF => ?_) (fun hc hF => ?_)
          · refine g_bipush hX dX8_policy_51 (by decide) ?_
            exact g_iret hX hR hQ hE dX8_policy_53 hF
          · refine g_aload_n hX 0 dX8_policy_54 rfl rfl ?_
            refine g_iload_n hX 1 dX8_policy_55 rfl rfl ?_
            refine g_iload_n hX 2 dX8_policy_56 rfl rfl ?_
            refine g_callVv (ci := 8) (rest := []) [(0, jx1), (0, jx2)] hX cw_X8_209 rfl (by decide) (by decide) (fun r σ1 h => T_X8_bestLet l D dA b0  jx0 jx1 jx2 σ8 σ1 r h) ⟨by decide, by decide⟩ rfl rfl (Nat.le_of_ble_eq_true rfl) dX8_policy_57 hF (fun jv12 σ13 hF => ?_)
            refine g_aload_n hX 0 dX8_policy_60 rfl rfl ?_
            refine g_get hX fl_X8_59 (by decide) (by decide) dX8_policy_61 hF (fun jv14 hF => ?_)
            refine g_iload_n hX 3 dX8_policy_64 rfl rfl ?_
            refine g_iald hX dX8_policy_65 hF (fun jv15 hF => ?_)
            exact g_iret hX hR hQ hE dX8_policy_66 hF
end

section
variable {p : Program} {l : Launch} {e : Env} {R : Room} {s : State} {m : MethodId} {args : Array Value} {below : List Frame} {meth : Method} {c : Code} {D : va_G} {dA : Nat → ClassId} {b0 n0 m0 nE mE : Nat} {Q : State → Prop}
def F_X8_unit_L6 (jx0 : Int) : Nat → Int → Int → Hp → Option (Int × Hp)
  | 0, _, _, _ => none
  | n + 1, jx2, jx3, σ => (rd 9 σ jx0 1).bind fun jv1 => bLt jx3 jv1 ((rd 9 σ jx0 3).bind fun jv2 => (ar 11 σ jv2 jx3).bind fun jv3 => nm ((jx2 * (jv3 + 1))) fun jv4 => (F_X8_unit_L6 jx0 n) jv4 (jx3 + 1) σ) (some (jx2, σ))
theorem M_X8_unit_L6 (jx0 : Int) : ∀ (n : Nat) (jx2 : Int) (jx3 : Int) (σ : Hp), Mn σ (F_X8_unit_L6 jx0 n jx2 jx3 σ) := by
  intro n
  induction n with
  | zero => intros; rw [F_X8_unit_L6]; exact Mn_none
  | succ n hk6 =>
    intros
    rw [F_X8_unit_L6]
    repeat' first | exact Mn_ret | exact Mn_rz | exact hk6 _ _  _ | refine Mn_nm (fun _ => ?_) | refine Mn_nab (fun _ _ => ?_) | refine Mn_nwb (fun _ _ => ?_) | refine Mn_pw (fun _ => ?_) | refine Mn_pz (fun _ => ?_) | refine Mn_aw (fun _ => ?_) | refine Mn_az (fun _ => ?_) | refine Mn_aq (fun _ => ?_) | refine Mn_bo (fun _ => ?_) | refine Mn_bd ?_ (fun _ _ => ?_) | refine Mn_iv ?_ | refine Mn_bLt ?_ ?_ | refine Mn_bLe ?_ ?_ | refine Mn_bEq ?_ ?_ | refine Mn_bN ?_ ?_ | refine Mn_g3 ?_ | refine Mn_g33 ?_ | refine Mn_g66 ?_ | refine Mn_gD ?_
set_option maxRecDepth 100000 in
set_option maxHeartbeats 4000000 in
theorem T_X8_unit_L6 {r : Int} {σE : Hp} (hX : Cx p R s m args meth c D dA b0 n0 m0 4 nE mE cX8_unit RX8 0 0) (hR : Rx meth (some .int)) (hnm : meth.name = yX8_unit.name) (hQ : Q = Qm D dA b0 n0 m0 below args s (some (pV 0 r)) σE) (hE : nE = σE.1 ∧ mE = σE.2.1) (jx0 : Int) : ∀ (n : Nat) (jx2 : Int) (jx3 : Int) (σ : Hp), F_X8_unit_L6 jx0 n jx2 jx3 σ = some (r, σE) → G p l e R s m args below meth c D dA b0 n0 m0 4 nE mE Q 6 [(0, 2, jx0), (2, 0, jx2), (3, 0, jx3)] [] σ := by
  intro n
  induction n with
  | zero =>
    intro jx2 jx3 σ hF
    rw [F_X8_unit_L6] at hF
    cases hF
  | succ n hk6 =>
    intro jx2 jx3 σ hF
    rw [F_X8_unit_L6] at hF
    refine g_iload_n hX 2 dX8_unit_6 rfl rfl ?_
    refine g_aload_n hX 0 dX8_unit_7 rfl rfl ?_
    refine g_get hX fl_X8_119 (by decide) (by decide) dX8_unit_8 hF (fun jv1 hF => ?_)
    refine g_icmp_ge (tgt := 31) hX dX8_unit_11 (by decide) hF (fun hc hF => ?_) (fun hc hF => ?_)
    · refine g_iload_n hX 1 dX8_unit_14 rfl rfl ?_
      refine g_aload_n hX 0 dX8_unit_15 rfl rfl ?_
      refine g_get hX fl_X8_17 (by decide) (by decide) dX8_unit_16 hF (fun jv2 hF => ?_)
      refine g_iload_n hX 2 dX8_unit_19 rfl rfl ?_
      refine g_iald hX dX8_unit_20 hF (fun jv3 hF => ?_)
      refine g_iconst hX dX8_unit_21 ?_
      refine g_iadd hX dX8_unit_22 ?_
      refine g_imul hX dX8_unit_23 ?_
      refine g_nm hF (fun jv4 hF => ?_)
      refine g_istore_n (lv' := [(2, 0, jv4), (0, 2, jx0), (3, 0, jx3)]) hX dX8_unit_24 rfl (by decide) rfl ?_
      refine g_iinc (lv' := [(3, 0, (jx3 + 1)), (2, 0, jv4), (0, 2, jx0)]) hX 2 dX8_unit_25 rfl (by decide) rfl ?_
      refine g_goto (tgt := 6) hX dX8_unit_28 (by decide) ?_
      refine g_lvp (lv' := [(0, 2, jx0), (2, 0, jv4), (3, 0, (jx3 + 1))]) [2, 1, 0] rfl ?_
      exact hk6 jv4 (jx3 + 1) σ hF
    · refine g_iload_n hX 1 dX8_unit_31 rfl rfl ?_
      exact g_iret hX hR hQ hE dX8_unit_32 hF
def F_X8_unit (jx0 : Int) (jx1 : Int) (σ : Hp) : Option (Int × Hp) :=
  F_X8_unit_L6 jx0 fu 1 (jx1 + 1) σ
theorem M_X8_unit (jx0 : Int) (jx1 : Int) (σ : Hp) : Mn σ (F_X8_unit jx0 jx1 σ) := by
  unfold F_X8_unit
  repeat' first | exact Mn_ret | exact Mn_rz | exact M_X8_unit_L6 _ _ _ _ _ | refine Mn_nm (fun _ => ?_) | refine Mn_nab (fun _ _ => ?_) | refine Mn_nwb (fun _ _ => ?_) | refine Mn_pw (fun _ => ?_) | refine Mn_pz (fun _ => ?_) | refine Mn_aw (fun _ => ?_) | refine Mn_az (fun _ => ?_) | refine Mn_aq (fun _ => ?_) | refine Mn_bo (fun _ => ?_) | refine Mn_bd ?_ (fun _ _ => ?_) | refine Mn_iv ?_ | refine Mn_bLt ?_ ?_ | refine Mn_bLe ?_ ?_ | refine Mn_bEq ?_ ?_ | refine Mn_bN ?_ ?_ | refine Mn_g3 ?_ | refine Mn_g33 ?_ | refine Mn_g66 ?_ | refine Mn_gD ?_
set_option maxRecDepth 100000 in
set_option maxHeartbeats 4000000 in
theorem T_X8_unit (l : Launch) (D : va_G) (dA : Nat → ClassId) (b0 : Nat) (jx0 : Int) (jx1 : Int) (σ σE : Hp) (r : Int) (hF : F_X8_unit jx0 jx1 σ = some (r, σE)) : Ct l D dA b0 yX8_unit cX8_unit 4 (some .int) 0 0 [(2, jx0), (0, jx1)] σ (some (pV 0 r)) σE := by
  refine Ct.of (lv0 := [(0, 2, jx0), (1, 0, jx1)]) (by decide) RX8 rfl (Nat.le_of_ble_eq_true rfl) rfl ?_ (M_X8_unit jx0 jx1 σ r σE hF)
  intro p e R s m args below meth c hX hR hnm
  obtain ⟨Q, hQ⟩ : ∃ Q, Q = Qm D dA b0 σ.1 σ.2.1 below args s (some (pV 0 r)) σE := ⟨_, rfl⟩
  rw [← hQ]
  have hE : σE.1 = σE.1 ∧ σE.2.1 = σE.2.1 := ⟨rfl, rfl⟩
  unfold F_X8_unit at hF
  refine g_iconst hX dX8_unit_0 ?_
  refine g_istore_n (lv' := [(2, 0, 1), (0, 2, jx0), (1, 0, jx1)]) hX dX8_unit_1 rfl (by decide) rfl ?_
  refine g_iload_n hX 2 dX8_unit_2 rfl rfl ?_
  refine g_iconst hX dX8_unit_3 ?_
  refine g_iadd hX dX8_unit_4 ?_
  refine g_istore_n (lv' := [(3, 0, (jx1 + 1)), (2, 0, 1), (0, 2, jx0), (1, 0, jx1)]) hX dX8_unit_5 rfl (by decide) rfl ?_
  refine g_lvp (lv' := [(0, 2, jx0), (2, 0, 1), (3, 0, (jx1 + 1))]) [2, 1, 0] rfl ?_
  exact T_X8_unit_L6 hX hR hnm hQ hE jx0  fu 1 (jx1 + 1) σ hF
end

section
variable {p : Program} {l : Launch} {e : Env} {R : Room} {s : State} {m : MethodId} {args : Array Value} {below : List Frame} {meth : Method} {c : Code} {D : va_G} {dA : Nat → ClassId} {b0 n0 m0 nE mE : Nat} {Q : State → Prop}
def F_X8_water (jx0 : Int) (jx1 : Int) (jx2 : Int) (jx3 : Int) (σ : Hp) : Option (Int × Hp) :=
  bd (iv 9 σ jx0 (F_X8_isNode  jx0 jx1 σ)) fun jv1 σ2 => bEq jv1 0 (some ((-9000000000000000000), σ2)) (bd (iv 9 σ2 jx0 (F_X8_isState  jx0 jx2 σ2)) fun jv3 σ4 => bEq jv3 0 (some ((-9000000000000000000), σ4)) (bd (iv 9 σ4 jx0 (F_X8_isLake  jx0 jx3 σ4)) fun jv5 σ6 => bEq jv5 0 (some ((-9000000000000000000), σ6)) (bd (iv 9 σ6 jx0 (F_X8_unfold  jx0 jx2 σ6)) fun jv7 σ8 => (rd 9 σ8 jx0 16).bind fun jv9 => (ar 11 σ8 jv9 jx3).bind fun jv10 => (rd 9 σ8 jx0 3).bind fun jv11 => (ar 11 σ8 jv11 jx3).bind fun jv12 => bEq jv10 jv12 (some ((-9000000000000000000), σ8)) (bd (iv 9 σ8 jx0 (F_X8_isWhole  jx0  σ8)) fun jv13 σ14 => bEq jv13 0 (some ((-9000000000000000000), σ14)) (bd (iv 9 σ14 jx0 (F_X8_unit  jx0 jx3 σ14)) fun jv15 σ16 => bd (iv 9 σ16 jx0 (F_X8_worthOf  jx0 jx1 (jx2 + jv15) σ16)) fun jv17 σ18 => bd (iv 9 σ18 jx0 (F_X8_worthOf  jx0 jx1 jx2 σ18)) fun jv19 σ20 => some ((jv17 - jv19), σ20))))))
theorem M_X8_water (jx0 : Int) (jx1 : Int) (jx2 : Int) (jx3 : Int) (σ : Hp) : Mn σ (F_X8_water jx0 jx1 jx2 jx3 σ) := by
  unfold F_X8_water
  repeat' first | exact Mn_ret | exact Mn_rz | exact M_X8_isNode _ _ _ | exact M_X8_isState _ _ _ | exact M_X8_isLake _ _ _ | exact M_X8_unfold _ _ _ | exact M_X8_isWhole _ _ | exact M_X8_unit _ _ _ | exact M_X8_worthOf _ _ _ _ | refine Mn_nm (fun _ => ?_) | refine Mn_nab (fun _ _ => ?_) | refine Mn_nwb (fun _ _ => ?_) | refine Mn_pw (fun _ => ?_) | refine Mn_pz (fun _ => ?_) | refine Mn_aw (fun _ => ?_) | refine Mn_az (fun _ => ?_) | refine Mn_aq (fun _ => ?_) | refine Mn_bo (fun _ => ?_) | refine Mn_bd ?_ (fun _ _ => ?_) | refine Mn_iv ?_ | refine Mn_bLt ?_ ?_ | refine Mn_bLe ?_ ?_ | refine Mn_bEq ?_ ?_ | refine Mn_bN ?_ ?_ | refine Mn_g3 ?_ | refine Mn_g33 ?_ | refine Mn_g66 ?_ | refine Mn_gD ?_
set_option maxRecDepth 100000 in
set_option maxHeartbeats 4000000 in
theorem T_X8_water (l : Launch) (D : va_G) (dA : Nat → ClassId) (b0 : Nat) (jx0 : Int) (jx1 : Int) (jx2 : Int) (jx3 : Int) (σ σE : Hp) (r : Int) (hF : F_X8_water jx0 jx1 jx2 jx3 σ = some (r, σE)) : Ct l D dA b0 yX8_water cX8_water 4 (some .long) 6 140 [(2, jx0), (0, jx1), (0, jx2), (0, jx3)] σ (some (pV 1 r)) σE := by
  refine Ct.of (lv0 := [(0, 2, jx0), (1, 0, jx1), (2, 0, jx2), (3, 0, jx3)]) (by decide) RX8 rfl (Nat.le_of_ble_eq_true rfl) rfl ?_ (M_X8_water jx0 jx1 jx2 jx3 σ r σE hF)
  intro p e R s m args below meth c hX hR hnm
  obtain ⟨Q, hQ⟩ : ∃ Q, Q = Qm D dA b0 σ.1 σ.2.1 below args s (some (pV 1 r)) σE := ⟨_, rfl⟩
  rw [← hQ]
  have hE : σE.1 = σE.1 ∧ σE.2.1 = σE.2.1 := ⟨rfl, rfl⟩
  unfold F_X8_water at hF
  refine g_aload_n hX 0 dX8_water_0 rfl rfl ?_
  refine g_iload_n hX 1 dX8_water_1 rfl rfl ?_
  refine g_callV (t := 0) (ci := 8) (rest := []) [(0, jx1)] hX cw_X8_144 rfl (by decide) (by decide) (fun r σ1 h => T_X8_isNode l D dA b0  jx0 jx1 σ σ1 r h) ⟨by decide, by decide⟩ rfl rfl (Nat.le_of_ble_eq_true rfl) dX8_water_2 hF (fun jv1 σ2 hF => ?_)
  refine g_if_eq (tgt := 24) hX dX8_water_5 (by decide) hF (fun hc hF => ?_) (fun hc hF => ?_)
  · refine g_ldc2 (z := -9000000000000000000) hX kc_X8_203 (by decide) dX8_water_24 ?_
    exact g_lret hX hR hQ hE dX8_water_27 hF
  · refine g_aload_n hX 0 dX8_water_8 rfl rfl ?_
    refine g_iload_n hX 2 dX8_water_9 rfl rfl ?_
    refine g_callV (t := 0) (ci := 8) (rest := []) [(0, jx2)] hX cw_X8_200 rfl (by decide) (by decide) (fun r σ1 h => T_X8_isState l D dA b0  jx0 jx2 σ2 σ1 r h) ⟨by decide, by decide⟩ rfl rfl (Nat.le_of_ble_eq_true rfl) dX8_water_10 hF (fun jv3 σ4 hF => ?_)
    refine g_if_eq (tgt := 24) hX dX8_water_13 (by decide) hF (fun hc hF => ?_) (fun hc hF => ?_)
    · refine g_ldc2 (z := -9000000000000000000) hX kc_X8_203 (by decide) dX8_water_24 ?_
      exact g_lret hX hR hQ hE dX8_water_27 hF
    · refine g_aload_n hX 0 dX8_water_16 rfl rfl ?_
      refine g_iload_n hX 3 dX8_water_17 rfl rfl ?_
      refine g_callV (t := 0) (ci := 8) (rest := []) [(0, jx3)] hX cw_X8_140 rfl (by decide) (by decide) (fun r σ1 h => T_X8_isLake l D dA b0  jx0 jx3 σ4 σ1 r h) ⟨by decide, by decide⟩ rfl rfl (Nat.le_of_ble_eq_true rfl) dX8_water_18 hF (fun jv5 σ6 hF => ?_)
      refine g_if_ne (tgt := 28) hX dX8_water_21 (by decide) hF (fun hc hF => ?_) (fun hc hF => ?_)
      · refine g_ldc2 (z := -9000000000000000000) hX kc_X8_203 (by decide) dX8_water_24 ?_
        exact g_lret hX hR hQ hE dX8_water_27 hF
      · refine g_aload_n hX 0 dX8_water_28 rfl rfl ?_
        refine g_iload_n hX 2 dX8_water_29 rfl rfl ?_
        refine g_callVv (ci := 8) (rest := []) [(0, jx2)] hX cw_X8_164 rfl (by decide) (by decide) (fun r σ1 h => T_X8_unfold l D dA b0  jx0 jx2 σ6 σ1 r h) ⟨by decide, by decide⟩ rfl rfl (Nat.le_of_ble_eq_true rfl) dX8_water_30 hF (fun jv7 σ8 hF => ?_)
        refine g_aload_n hX 0 dX8_water_33 rfl rfl ?_
        refine g_get hX fl_X8_56 (by decide) (by decide) dX8_water_34 hF (fun jv9 hF => ?_)
        refine g_iload_n hX 3 dX8_water_37 rfl rfl ?_
        refine g_iald hX dX8_water_38 hF (fun jv10 hF => ?_)
        refine g_aload_n hX 0 dX8_water_39 rfl rfl ?_
        refine g_get hX fl_X8_17 (by decide) (by decide) dX8_water_40 hF (fun jv11 hF => ?_)
        refine g_iload_n hX 3 dX8_water_43 rfl rfl ?_
        refine g_iald hX dX8_water_44 hF (fun jv12 hF => ?_)
        refine g_icmp_eq (tgt := 55) hX dX8_water_45 (by decide) hF (fun hc hF => ?_) (fun hc hF => ?_)
        · refine g_ldc2 (z := -9000000000000000000) hX kc_X8_203 (by decide) dX8_water_55 ?_
          exact g_lret hX hR hQ hE dX8_water_58 hF
        · refine g_aload_n hX 0 dX8_water_48 rfl rfl ?_
          refine g_callV (t := 0) (ci := 8) (rest := []) [] hX cw_X8_151 rfl (by decide) (by decide) (fun r σ1 h => T_X8_isWhole l D dA b0  jx0  σ8 σ1 r h) ⟨by decide, by decide⟩ rfl rfl (Nat.le_of_ble_eq_true rfl) dX8_water_49 hF (fun jv13 σ14 hF => ?_)
          refine g_if_ne (tgt := 59) hX dX8_water_52 (by decide) hF (fun hc hF => ?_) (fun hc hF => ?_)
          · refine g_ldc2 (z := -9000000000000000000) hX kc_X8_203 (by decide) dX8_water_55 ?_
            exact g_lret hX hR hQ hE dX8_water_58 hF
          · refine g_aload_n hX 0 dX8_water_59 rfl rfl ?_
            refine g_iload_n hX 1 dX8_water_60 rfl rfl ?_
            refine g_iload_n hX 2 dX8_water_61 rfl rfl ?_
            refine g_aload_n hX 0 dX8_water_62 rfl rfl ?_
            refine g_iload_n hX 3 dX8_water_63 rfl rfl ?_
            refine g_callV (t := 0) (ci := 8) (rest := [(0, jx2), (0, jx1), (2, jx0)]) [(0, jx3)] hX cw_X8_212 rfl (by decide) (by decide) (fun r σ1 h => T_X8_unit l D dA b0  jx0 jx3 σ14 σ1 r h) ⟨by decide, by decide⟩ rfl rfl (Nat.le_of_ble_eq_true rfl) dX8_water_64 hF (fun jv15 σ16 hF => ?_)
            refine g_iadd hX dX8_water_67 ?_
            refine g_callV (t := 1) (ci := 8) (rest := []) [(0, jx1), (0, (jx2 + jv15))] hX cw_X8_205 rfl (by decide) (by decide) (fun r σ1 h => T_X8_worthOf l D dA b0  jx0 jx1 (jx2 + jv15) σ16 σ1 r h) ⟨by decide, by decide⟩ rfl rfl (Nat.le_of_ble_eq_true rfl) dX8_water_68 hF (fun jv17 σ18 hF => ?_)
            refine g_aload_n hX 0 dX8_water_71 rfl rfl ?_
            refine g_iload_n hX 1 dX8_water_72 rfl rfl ?_
            refine g_iload_n hX 2 dX8_water_73 rfl rfl ?_
            refine g_callV (t := 1) (ci := 8) (rest := [(1, jv17)]) [(0, jx1), (0, jx2)] hX cw_X8_205 rfl (by decide) (by decide) (fun r σ1 h => T_X8_worthOf l D dA b0  jx0 jx1 jx2 σ18 σ1 r h) ⟨by decide, by decide⟩ rfl rfl (Nat.le_of_ble_eq_true rfl) dX8_water_74 hF (fun jv19 σ20 hF => ?_)
            refine g_lsub hX dX8_water_77 ?_
            exact g_lret hX hR hQ hE dX8_water_78 hF
end

section
variable {p : Program} {l : Launch} {e : Env} {R : Room} {s : State} {m : MethodId} {args : Array Value} {below : List Frame} {meth : Method} {c : Code} {D : va_G} {dA : Nat → ClassId} {b0 n0 m0 nE mE : Nat} {Q : State → Prop}
def F_X8_needs_B163 (k71 : Int → Int → Int → Hp → Option (Int × Hp)) (jx0 : Int) (jx1 : Int) (jx2 : Int) (jx4 : Int) (jx5 : Int) (jx6 : Int) (σ : Hp) : Option (Int × Hp) :=
  k71 jx4 jx5 (jx6 + 1) σ
theorem M_X8_needs_B163 (k71 : Int → Int → Int → Hp → Option (Int × Hp)) (hk71 : ∀ (jx4 : Int) (jx5 : Int) (jx6 : Int) (σ : Hp), Mn σ (k71 jx4 jx5 jx6 σ)) (jx0 : Int) (jx1 : Int) (jx2 : Int) (jx4 : Int) (jx5 : Int) (jx6 : Int) (σ : Hp) : Mn σ (F_X8_needs_B163 k71 jx0 jx1 jx2 jx4 jx5 jx6 σ) := by
  unfold F_X8_needs_B163
  repeat' first | exact Mn_ret | exact Mn_rz | exact hk71 _ _ _  _ | refine Mn_nm (fun _ => ?_) | refine Mn_nab (fun _ _ => ?_) | refine Mn_nwb (fun _ _ => ?_) | refine Mn_pw (fun _ => ?_) | refine Mn_pz (fun _ => ?_) | refine Mn_aw (fun _ => ?_) | refine Mn_az (fun _ => ?_) | refine Mn_aq (fun _ => ?_) | refine Mn_bo (fun _ => ?_) | refine Mn_bd ?_ (fun _ _ => ?_) | refine Mn_iv ?_ | refine Mn_bLt ?_ ?_ | refine Mn_bLe ?_ ?_ | refine Mn_bEq ?_ ?_ | refine Mn_bN ?_ ?_ | refine Mn_g3 ?_ | refine Mn_g33 ?_ | refine Mn_g66 ?_ | refine Mn_gD ?_
set_option maxRecDepth 100000 in
set_option maxHeartbeats 4000000 in
theorem T_X8_needs_B163 {r : Int} {σE : Hp} (hX : Cx p R s m args meth c D dA b0 n0 m0 9 nE mE cX8_needs RX8 5 118) (hR : Rx meth (some .int)) (hnm : meth.name = yX8_needs.name) (hQ : Q = Qm D dA b0 n0 m0 below args s (some (pV 0 r)) σE) (hE : nE = σE.1 ∧ mE = σE.2.1) (k71 : Int → Int → Int → Hp → Option (Int × Hp)) (jx0 : Int) (jx1 : Int) (jx2 : Int) (jx4 : Int) (jx5 : Int) (jx6 : Int) (hk71 : ∀ (jx4 : Int) (jx5 : Int) (jx6 : Int) (σ : Hp), k71 jx4 jx5 jx6 σ = some (r, σE) → G p l e R s m args below meth c D dA b0 n0 m0 9 nE mE Q 71 [(0, 2, jx0), (1, 0, jx1), (2, 1, jx2), (4, 0, jx4), (5, 0, jx5), (6, 0, jx6)] [] σ) (σ : Hp) (hF : F_X8_needs_B163 k71 jx0 jx1 jx2 jx4 jx5 jx6 σ = some (r, σE)) : G p l e R s m args below meth c D dA b0 n0 m0 9 nE mE Q 163 [(0, 2, jx0), (1, 0, jx1), (2, 1, jx2), (4, 0, jx4), (5, 0, jx5), (6, 0, jx6)] [] σ := by
  unfold F_X8_needs_B163 at hF
  refine g_iinc (lv' := [(6, 0, (jx6 + 1)), (0, 2, jx0), (1, 0, jx1), (2, 1, jx2), (4, 0, jx4), (5, 0, jx5)]) hX 5 dX8_needs_163 rfl (by decide) rfl ?_
  refine g_goto (tgt := 71) hX dX8_needs_166 (by decide) ?_
  refine g_lvp (lv' := [(0, 2, jx0), (1, 0, jx1), (2, 1, jx2), (4, 0, jx4), (5, 0, jx5), (6, 0, (jx6 + 1))]) [1, 2, 3, 4, 5, 0] rfl ?_
  exact hk71 jx4 jx5 (jx6 + 1) σ hF
def F_X8_needs_B155 (k71 : Int → Int → Int → Hp → Option (Int × Hp)) (jx0 : Int) (jx1 : Int) (jx2 : Int) (jx6 : Int) (jx7 : Int) (σ : Hp) : Option (Int × Hp) :=
  F_X8_needs_B163 k71 jx0 jx1 jx2 jx6 jx7 jx6  σ
theorem M_X8_needs_B155 (k71 : Int → Int → Int → Hp → Option (Int × Hp)) (hk71 : ∀ (jx4 : Int) (jx5 : Int) (jx6 : Int) (σ : Hp), Mn σ (k71 jx4 jx5 jx6 σ)) (jx0 : Int) (jx1 : Int) (jx2 : Int) (jx6 : Int) (jx7 : Int) (σ : Hp) : Mn σ (F_X8_needs_B155 k71 jx0 jx1 jx2 jx6 jx7 σ) := by
  unfold F_X8_needs_B155
  repeat' first | exact Mn_ret | exact Mn_rz | exact hk71 _ _ _  _ | exact M_X8_needs_B163 k71 hk71 _ _ _ _ _ _  _ | refine Mn_nm (fun _ => ?_) | refine Mn_nab (fun _ _ => ?_) | refine Mn_nwb (fun _ _ => ?_) | refine Mn_pw (fun _ => ?_) | refine Mn_pz (fun _ => ?_) | refine Mn_aw (fun _ => ?_) | refine Mn_az (fun _ => ?_) | refine Mn_aq (fun _ => ?_) | refine Mn_bo (fun _ => ?_) | refine Mn_bd ?_ (fun _ _ => ?_) | refine Mn_iv ?_ | refine Mn_bLt ?_ ?_ | refine Mn_bLe ?_ ?_ | refine Mn_bEq ?_ ?_ | refine Mn_bN ?_ ?_ | refine Mn_g3 ?_ | refine Mn_g33 ?_ | refine Mn_g66 ?_ | refine Mn_gD ?_
set_option maxRecDepth 100000 in
set_option maxHeartbeats 4000000 in
theorem T_X8_needs_B155 {r : Int} {σE : Hp} (hX : Cx p R s m args meth c D dA b0 n0 m0 9 nE mE cX8_needs RX8 5 118) (hR : Rx meth (some .int)) (hnm : meth.name = yX8_needs.name) (hQ : Q = Qm D dA b0 n0 m0 below args s (some (pV 0 r)) σE) (hE : nE = σE.1 ∧ mE = σE.2.1) (k71 : Int → Int → Int → Hp → Option (Int × Hp)) (jx0 : Int) (jx1 : Int) (jx2 : Int) (jx6 : Int) (jx7 : Int) (hk71 : ∀ (jx4 : Int) (jx5 : Int) (jx6 : Int) (σ : Hp), k71 jx4 jx5 jx6 σ = some (r, σE) → G p l e R s m args below meth c D dA b0 n0 m0 9 nE mE Q 71 [(0, 2, jx0), (1, 0, jx1), (2, 1, jx2), (4, 0, jx4), (5, 0, jx5), (6, 0, jx6)] [] σ) (σ : Hp) (hF : F_X8_needs_B155 k71 jx0 jx1 jx2 jx6 jx7 σ = some (r, σE)) : G p l e R s m args below meth c D dA b0 n0 m0 9 nE mE Q 155 [(0, 2, jx0), (1, 0, jx1), (2, 1, jx2), (6, 0, jx6), (7, 0, jx7)] [] σ := by
  unfold F_X8_needs_B155 at hF
  refine g_iload hX 3 dX8_needs_155 rfl ?_
  refine g_istore (lv' := [(4, 0, jx6), (0, 2, jx0), (1, 0, jx1), (2, 1, jx2), (6, 0, jx6), (7, 0, jx7)]) hX dX8_needs_157 (by decide) rfl ?_
  refine g_iload hX 5 dX8_needs_159 rfl ?_
  refine g_istore (lv' := [(5, 0, jx7), (4, 0, jx6), (0, 2, jx0), (1, 0, jx1), (2, 1, jx2), (6, 0, jx6), (7, 0, jx7)]) hX dX8_needs_161 (by decide) rfl ?_
  refine g_lvp (lv' := [(0, 2, jx0), (1, 0, jx1), (2, 1, jx2), (4, 0, jx6), (5, 0, jx7), (6, 0, jx6)]) [2, 3, 4, 1, 0, 5] rfl ?_
  exact T_X8_needs_B163 hX hR hnm hQ hE k71 jx0 jx1 jx2 jx6 jx7 jx6  hk71  σ hF
def F_X8_needs_L113 (k71 : Int → Int → Int → Hp → Option (Int × Hp)) (jx0 : Int) (jx1 : Int) (jx2 : Int) (jx4 : Int) (jx5 : Int) (jx6 : Int) : Nat → Int → Int → Hp → Option (Int × Hp)
  | 0, _, _, _ => none
  | n + 1, jx7, jx8, σ => (rd 9 σ jx0 1).bind fun jv19 => bLt jx8 jv19 ((rd 9 σ jx0 16).bind fun jv20 => (ar 11 σ jv20 jx8).bind fun jv21 => (F_X8_needs_L113 k71 jx0 jx1 jx2 jx4 jx5 jx6 n) (jx7 + jv21) (jx8 + 1) σ) (bLt jx4 0 (F_X8_needs_B155 k71 jx0 jx1 jx2 jx6 jx7  σ) (bLt jx7 jx5 (F_X8_needs_B155 k71 jx0 jx1 jx2 jx6 jx7  σ) (F_X8_needs_B163 k71 jx0 jx1 jx2 jx4 jx5 jx6  σ)))
theorem M_X8_needs_L113 (k71 : Int → Int → Int → Hp → Option (Int × Hp)) (hk71 : ∀ (jx4 : Int) (jx5 : Int) (jx6 : Int) (σ : Hp), Mn σ (k71 jx4 jx5 jx6 σ)) (jx0 : Int) (jx1 : Int) (jx2 : Int) (jx4 : Int) (jx5 : Int) (jx6 : Int) : ∀ (n : Nat) (jx7 : Int) (jx8 : Int) (σ : Hp), Mn σ (F_X8_needs_L113 k71 jx0 jx1 jx2 jx4 jx5 jx6 n jx7 jx8 σ) := by
  intro n
  induction n with
  | zero => intros; rw [F_X8_needs_L113]; exact Mn_none
  | succ n hk113 =>
    intros
    rw [F_X8_needs_L113]
    repeat' first | exact Mn_ret | exact Mn_rz | exact hk71 _ _ _  _ | exact hk113 _ _  _ | exact M_X8_needs_B155 k71 hk71 _ _ _ _ _  _ | exact M_X8_needs_B163 k71 hk71 _ _ _ _ _ _  _ | refine Mn_nm (fun _ => ?_) | refine Mn_nab (fun _ _ => ?_) | refine Mn_nwb (fun _ _ => ?_) | refine Mn_pw (fun _ => ?_) | refine Mn_pz (fun _ => ?_) | refine Mn_aw (fun _ => ?_) | refine Mn_az (fun _ => ?_) | refine Mn_aq (fun _ => ?_) | refine Mn_bo (fun _ => ?_) | refine Mn_bd ?_ (fun _ _ => ?_) | refine Mn_iv ?_ | refine Mn_bLt ?_ ?_ | refine Mn_bLe ?_ ?_ | refine Mn_bEq ?_ ?_ | refine Mn_bN ?_ ?_ | refine Mn_g3 ?_ | refine Mn_g33 ?_ | refine Mn_g66 ?_ | refine Mn_gD ?_
set_option maxRecDepth 100000 in
set_option maxHeartbeats 4000000 in
theorem T_X8_needs_L113 {r : Int} {σE : Hp} (hX : Cx p R s m args meth c D dA b0 n0 m0 9 nE mE cX8_needs RX8 5 118) (hR : Rx meth (some .int)) (hnm : meth.name = yX8_needs.name) (hQ : Q = Qm D dA b0 n0 m0 below args s (some (pV 0 r)) σE) (hE : nE = σE.1 ∧ mE = σE.2.1) (k71 : Int → Int → Int → Hp → Option (Int × Hp)) (jx0 : Int) (jx1 : Int) (jx2 : Int) (jx4 : Int) (jx5 : Int) (jx6 : Int) (hk71 : ∀ (jx4 : Int) (jx5 : Int) (jx6 : Int) (σ : Hp), k71 jx4 jx5 jx6 σ = some (r, σE) → G p l e R s m args below meth c D dA b0 n0 m0 9 nE mE Q 71 [(0, 2, jx0), (1, 0, jx1), (2, 1, jx2), (4, 0, jx4), (5, 0, jx5), (6, 0, jx6)] [] σ) : ∀ (n : Nat) (jx7 : Int) (jx8 : Int) (σ : Hp), F_X8_needs_L113 k71 jx0 jx1 jx2 jx4 jx5 jx6 n jx7 jx8 σ = some (r, σE) → G p l e R s m args below meth c D dA b0 n0 m0 9 nE mE Q 113 [(0, 2, jx0), (1, 0, jx1), (2, 1, jx2), (4, 0, jx4), (5, 0, jx5), (6, 0, jx6), (7, 0, jx7), (8, 0, jx8)] [] σ := by
  intro n
  induction n with
  | zero =>
    intro jx7 jx8 σ hF
    rw [F_X8_needs_L113] at hF
    cases hF
  | succ n hk113 =>
    intro jx7 jx8 σ hF
    rw [F_X8_needs_L113] at hF
    refine g_iload hX 7 dX8_needs_113 rfl ?_
    refine g_aload_n hX 0 dX8_needs_115 rfl rfl ?_
    refine g_get hX fl_X8_119 (by decide) (by decide) dX8_needs_116 hF (fun jv19 hF => ?_)
    refine g_icmp_ge (tgt := 140) hX dX8_needs_119 (by decide) hF (fun hc hF => ?_) (fun hc hF => ?_)
    · refine g_iload hX 6 dX8_needs_122 rfl ?_
      refine g_aload_n hX 0 dX8_needs_124 rfl rfl ?_
      refine g_get hX fl_X8_56 (by decide) (by decide) dX8_needs_125 hF (fun jv20 hF => ?_)
      refine g_iload hX 7 dX8_needs_128 rfl ?_
      refine g_iald hX dX8_needs_130 hF (fun jv21 hF => ?_)
      refine g_iadd hX dX8_needs_131 ?_
      refine g_istore (lv' := [(7, 0, (jx7 + jv21)), (0, 2, jx0), (1, 0, jx1), (2, 1, jx2), (4, 0, jx4), (5, 0, jx5), (6, 0, jx6), (8, 0, jx8)]) hX dX8_needs_132 (by decide) rfl ?_
      refine g_iinc (lv' := [(8, 0, (jx8 + 1)), (7, 0, (jx7 + jv21)), (0, 2, jx0), (1, 0, jx1), (2, 1, jx2), (4, 0, jx4), (5, 0, jx5), (6, 0, jx6)]) hX 7 dX8_needs_134 rfl (by decide) rfl ?_
      refine g_goto (tgt := 113) hX dX8_needs_137 (by decide) ?_
      refine g_lvp (lv' := [(0, 2, jx0), (1, 0, jx1), (2, 1, jx2), (4, 0, jx4), (5, 0, jx5), (6, 0, jx6), (7, 0, (jx7 + jv21)), (8, 0, (jx8 + 1))]) [2, 3, 4, 5, 6, 7, 1, 0] rfl ?_
      exact hk113 (jx7 + jv21) (jx8 + 1) σ hF
    · refine g_iload hX 3 dX8_needs_140 rfl ?_
      refine g_if_lt (tgt := 155) hX dX8_needs_142 (by decide) hF (fun hc hF => ?_) (fun hc hF => ?_)
      · refine g_lvp (lv' := [(0, 2, jx0), (1, 0, jx1), (2, 1, jx2), (6, 0, jx6), (7, 0, jx7)]) [0, 1, 2, 5, 6] rfl ?_
        exact T_X8_needs_B155 hX hR hnm hQ hE k71 jx0 jx1 jx2 jx6 jx7  hk71  σ hF
      · refine g_iload hX 6 dX8_needs_145 rfl ?_
        refine g_iload hX 4 dX8_needs_147 rfl ?_
        refine g_icmp_lt (tgt := 155) hX dX8_needs_149 (by decide) hF (fun hc hF => ?_) (fun hc hF => ?_)
        · refine g_lvp (lv' := [(0, 2, jx0), (1, 0, jx1), (2, 1, jx2), (6, 0, jx6), (7, 0, jx7)]) [0, 1, 2, 5, 6] rfl ?_
          exact T_X8_needs_B155 hX hR hnm hQ hE k71 jx0 jx1 jx2 jx6 jx7  hk71  σ hF
        · refine g_goto (tgt := 163) hX dX8_needs_152 (by decide) ?_
          refine g_lvp (lv' := [(0, 2, jx0), (1, 0, jx1), (2, 1, jx2), (4, 0, jx4), (5, 0, jx5), (6, 0, jx6)]) [0, 1, 2, 3, 4, 5] rfl ?_
          exact T_X8_needs_B163 hX hR hnm hQ hE k71 jx0 jx1 jx2 jx4 jx5 jx6  hk71  σ hF
def F_X8_needs_L71 (jx0 : Int) (jx1 : Int) (jx2 : Int) : Nat → Int → Int → Int → Hp → Option (Int × Hp)
  | 0, _, _, _, _ => none
  | n + 1, jx4, jx5, jx6, σ => bd (iv 9 σ jx0 (F_X8_states  jx0  σ)) fun jv13 σ14 => bLt jx6 jv13 ((rd 9 σ14 jx0 22).bind fun jv15 => (ar 12 σ14 jv15 ((1000 * jx1) + jx6)).bind fun jv16 => g66 jv16 jx2 (bLt (cmpL jv16 jx2) 0 (F_X8_needs_B163 (F_X8_needs_L71 jx0 jx1 jx2 n) jx0 jx1 jx2 jx4 jx5 jx6  σ14) (bd (iv 9 σ14 jx0 (F_X8_unfold  jx0 jx6 σ14)) fun jv17 σ18 => F_X8_needs_L113 (F_X8_needs_L71 jx0 jx1 jx2 n) jx0 jx1 jx2 jx4 jx5 jx6 fu 0 0 σ18))) (some (jx4, σ14))
theorem M_X8_needs_L71 (jx0 : Int) (jx1 : Int) (jx2 : Int) : ∀ (n : Nat) (jx4 : Int) (jx5 : Int) (jx6 : Int) (σ : Hp), Mn σ (F_X8_needs_L71 jx0 jx1 jx2 n jx4 jx5 jx6 σ) := by
  intro n
  induction n with
  | zero => intros; rw [F_X8_needs_L71]; exact Mn_none
  | succ n hk71 =>
    intros
    rw [F_X8_needs_L71]
    repeat' first | exact Mn_ret | exact Mn_rz | exact hk71 _ _ _  _ | exact M_X8_states _ _ | exact M_X8_needs_B163 (F_X8_needs_L71 jx0 jx1 jx2 n) hk71 _ _ _ _ _ _  _ | exact M_X8_unfold _ _ _ | exact M_X8_needs_L113 (F_X8_needs_L71 jx0 jx1 jx2 n) hk71 _ _ _ _ _ _ _ _ _ _ | refine Mn_nm (fun _ => ?_) | refine Mn_nab (fun _ _ => ?_) | refine Mn_nwb (fun _ _ => ?_) | refine Mn_pw (fun _ => ?_) | refine Mn_pz (fun _ => ?_) | refine Mn_aw (fun _ => ?_) | refine Mn_az (fun _ => ?_) | refine Mn_aq (fun _ => ?_) | refine Mn_bo (fun _ => ?_) | refine Mn_bd ?_ (fun _ _ => ?_) | refine Mn_iv ?_ | refine Mn_bLt ?_ ?_ | refine Mn_bLe ?_ ?_ | refine Mn_bEq ?_ ?_ | refine Mn_bN ?_ ?_ | refine Mn_g3 ?_ | refine Mn_g33 ?_ | refine Mn_g66 ?_ | refine Mn_gD ?_
set_option maxRecDepth 100000 in
set_option maxHeartbeats 4000000 in
theorem T_X8_needs_L71 {r : Int} {σE : Hp} (hX : Cx p R s m args meth c D dA b0 n0 m0 9 nE mE cX8_needs RX8 5 118) (hR : Rx meth (some .int)) (hnm : meth.name = yX8_needs.name) (hQ : Q = Qm D dA b0 n0 m0 below args s (some (pV 0 r)) σE) (hE : nE = σE.1 ∧ mE = σE.2.1) (jx0 : Int) (jx1 : Int) (jx2 : Int) : ∀ (n : Nat) (jx4 : Int) (jx5 : Int) (jx6 : Int) (σ : Hp), F_X8_needs_L71 jx0 jx1 jx2 n jx4 jx5 jx6 σ = some (r, σE) → G p l e R s m args below meth c D dA b0 n0 m0 9 nE mE Q 71 [(0, 2, jx0), (1, 0, jx1), (2, 1, jx2), (4, 0, jx4), (5, 0, jx5), (6, 0, jx6)] [] σ := by
  intro n
  induction n with
  | zero =>
    intro jx4 jx5 jx6 σ hF
    rw [F_X8_needs_L71] at hF
    cases hF
  | succ n hk71 =>
    intro jx4 jx5 jx6 σ hF
    rw [F_X8_needs_L71] at hF
    refine g_iload hX 5 dX8_needs_71 rfl ?_
    refine g_aload_n hX 0 dX8_needs_73 rfl rfl ?_
    refine g_callV (t := 0) (ci := 8) (rest := [(0, jx6)]) [] hX cw_X8_126 rfl (by decide) (by decide) (fun r σ1 h => T_X8_states l D dA b0  jx0  σ σ1 r h) ⟨by decide, by decide⟩ rfl rfl (Nat.le_of_ble_eq_true rfl) dX8_needs_74 hF (fun jv13 σ14 hF => ?_)
    refine g_icmp_ge (tgt := 169) hX dX8_needs_77 (by decide) hF (fun hc hF => ?_) (fun hc hF => ?_)
    · refine g_aload_n hX 0 dX8_needs_80 rfl rfl ?_
      refine g_get hX fl_X8_70 (by decide) (by decide) dX8_needs_81 hF (fun jv15 hF => ?_)
      refine g_sipush hX dX8_needs_84 (by decide) ?_
      refine g_iload_n hX 1 dX8_needs_87 rfl rfl ?_
      refine g_imul hX dX8_needs_88 ?_
      refine g_iload hX 5 dX8_needs_89 rfl ?_
      refine g_iadd hX dX8_needs_91 ?_
      refine g_lald hX dX8_needs_92 hF (fun jv16 hF => ?_)
      refine g_lload_n hX 2 dX8_needs_93 rfl rfl ?_
      refine g_lcmp hX dX8_needs_94 hF (fun hF => ?_)
      refine g_if_ge (tgt := 101) hX dX8_needs_95 (by decide) hF (fun hc hF => ?_) (fun hc hF => ?_)
      · refine g_goto (tgt := 163) hX dX8_needs_98 (by decide) ?_
        exact T_X8_needs_B163 hX hR hnm hQ hE (F_X8_needs_L71 jx0 jx1 jx2 n) jx0 jx1 jx2 jx4 jx5 jx6  hk71  σ14 hF
      · refine g_aload_n hX 0 dX8_needs_101 rfl rfl ?_
        refine g_iload hX 5 dX8_needs_102 rfl ?_
        refine g_callVv (ci := 8) (rest := []) [(0, jx6)] hX cw_X8_164 rfl (by decide) (by decide) (fun r σ1 h => T_X8_unfold l D dA b0  jx0 jx6 σ14 σ1 r h) ⟨by decide, by decide⟩ rfl rfl (Nat.le_of_ble_eq_true rfl) dX8_needs_104 hF (fun jv17 σ18 hF => ?_)
        refine g_iconst hX dX8_needs_107 ?_
        refine g_istore (lv' := [(7, 0, 0), (0, 2, jx0), (1, 0, jx1), (2, 1, jx2), (4, 0, jx4), (5, 0, jx5), (6, 0, jx6)]) hX dX8_needs_108 (by decide) rfl ?_
        refine g_iconst hX dX8_needs_110 ?_
        refine g_istore (lv' := [(8, 0, 0), (7, 0, 0), (0, 2, jx0), (1, 0, jx1), (2, 1, jx2), (4, 0, jx4), (5, 0, jx5), (6, 0, jx6)]) hX dX8_needs_111 (by decide) rfl ?_
        refine g_lvp (lv' := [(0, 2, jx0), (1, 0, jx1), (2, 1, jx2), (4, 0, jx4), (5, 0, jx5), (6, 0, jx6), (7, 0, 0), (8, 0, 0)]) [2, 3, 4, 5, 6, 7, 1, 0] rfl ?_
        exact T_X8_needs_L113 hX hR hnm hQ hE (F_X8_needs_L71 jx0 jx1 jx2 n) jx0 jx1 jx2 jx4 jx5 jx6 hk71  fu 0 0 σ18 hF
    · refine g_iload hX 3 dX8_needs_169 rfl ?_
      exact g_iret hX hR hQ hE dX8_needs_171 hF
def F_X8_needs_L27 (jx0 : Int) (jx1 : Int) (jx2 : Int) : Nat → Int → Hp → Option (Int × Hp)
  | 0, _, _ => none
  | n + 1, jx4, σ => bd (iv 9 σ jx0 (F_X8_states  jx0  σ)) fun jv7 σ8 => bLt jx4 jv7 ((rd 9 σ8 jx0 21).bind fun jv9 => (az 13 σ8 jv9 ((1000 * jx1) + jx4) 1).bind fun σ10 => (F_X8_needs_L27 jx0 jx1 jx2 n) (jx4 + 1) σ10) (bd (iv 9 σ8 jx0 (F_X8_work  jx0 jx1 σ8)) fun jv11 σ12 => F_X8_needs_L71 jx0 jx1 jx2 fu (-6) 0 0 σ12)
theorem M_X8_needs_L27 (jx0 : Int) (jx1 : Int) (jx2 : Int) : ∀ (n : Nat) (jx4 : Int) (σ : Hp), Mn σ (F_X8_needs_L27 jx0 jx1 jx2 n jx4 σ) := by
  intro n
  induction n with
  | zero => intros; rw [F_X8_needs_L27]; exact Mn_none
  | succ n hk27 =>
    intros
    rw [F_X8_needs_L27]
    repeat' first | exact Mn_ret | exact Mn_rz | exact hk27 _  _ | exact M_X8_states _ _ | exact M_X8_work _ _ _ | exact M_X8_needs_L71 _ _ _ _ _ _ _ _ | refine Mn_nm (fun _ => ?_) | refine Mn_nab (fun _ _ => ?_) | refine Mn_nwb (fun _ _ => ?_) | refine Mn_pw (fun _ => ?_) | refine Mn_pz (fun _ => ?_) | refine Mn_aw (fun _ => ?_) | refine Mn_az (fun _ => ?_) | refine Mn_aq (fun _ => ?_) | refine Mn_bo (fun _ => ?_) | refine Mn_bd ?_ (fun _ _ => ?_) | refine Mn_iv ?_ | refine Mn_bLt ?_ ?_ | refine Mn_bLe ?_ ?_ | refine Mn_bEq ?_ ?_ | refine Mn_bN ?_ ?_ | refine Mn_g3 ?_ | refine Mn_g33 ?_ | refine Mn_g66 ?_ | refine Mn_gD ?_
set_option maxRecDepth 100000 in
set_option maxHeartbeats 4000000 in
theorem T_X8_needs_L27 {r : Int} {σE : Hp} (hX : Cx p R s m args meth c D dA b0 n0 m0 9 nE mE cX8_needs RX8 5 118) (hR : Rx meth (some .int)) (hnm : meth.name = yX8_needs.name) (hQ : Q = Qm D dA b0 n0 m0 below args s (some (pV 0 r)) σE) (hE : nE = σE.1 ∧ mE = σE.2.1) (jx0 : Int) (jx1 : Int) (jx2 : Int) : ∀ (n : Nat) (jx4 : Int) (σ : Hp), F_X8_needs_L27 jx0 jx1 jx2 n jx4 σ = some (r, σE) → G p l e R s m args below meth c D dA b0 n0 m0 9 nE mE Q 27 [(0, 2, jx0), (1, 0, jx1), (2, 1, jx2), (4, 0, jx4)] [] σ := by
  intro n
  induction n with
  | zero =>
    intro jx4 σ hF
    rw [F_X8_needs_L27] at hF
    cases hF
  | succ n hk27 =>
    intro jx4 σ hF
    rw [F_X8_needs_L27] at hF
    refine g_iload hX 3 dX8_needs_27 rfl ?_
    refine g_aload_n hX 0 dX8_needs_29 rfl rfl ?_
    refine g_callV (t := 0) (ci := 8) (rest := [(0, jx4)]) [] hX cw_X8_126 rfl (by decide) (by decide) (fun r σ1 h => T_X8_states l D dA b0  jx0  σ σ1 r h) ⟨by decide, by decide⟩ rfl rfl (Nat.le_of_ble_eq_true rfl) dX8_needs_30 hF (fun jv7 σ8 hF => ?_)
    refine g_icmp_ge (tgt := 56) hX dX8_needs_33 (by decide) hF (fun hc hF => ?_) (fun hc hF => ?_)
    · refine g_aload_n hX 0 dX8_needs_36 rfl rfl ?_
      refine g_get hX fl_X8_67 (by decide) (by decide) dX8_needs_37 hF (fun jv9 hF => ?_)
      refine g_sipush hX dX8_needs_40 (by decide) ?_
      refine g_iload_n hX 1 dX8_needs_43 rfl rfl ?_
      refine g_imul hX dX8_needs_44 ?_
      refine g_iload hX 3 dX8_needs_45 rfl ?_
      refine g_iadd hX dX8_needs_47 ?_
      refine g_iconst hX dX8_needs_48 ?_
      refine u_zast hX dX8_needs_49 hF (fun σ10 hF => ?_)
      refine g_iinc (lv' := [(4, 0, (jx4 + 1)), (0, 2, jx0), (1, 0, jx1), (2, 1, jx2)]) hX 3 dX8_needs_50 rfl (by decide) rfl ?_
      refine g_goto (tgt := 27) hX dX8_needs_53 (by decide) ?_
      refine g_lvp (lv' := [(0, 2, jx0), (1, 0, jx1), (2, 1, jx2), (4, 0, (jx4 + 1))]) [1, 2, 3, 0] rfl ?_
      exact hk27 (jx4 + 1) σ10 hF
    · refine g_aload_n hX 0 dX8_needs_56 rfl rfl ?_
      refine g_iload_n hX 1 dX8_needs_57 rfl rfl ?_
      refine g_callVv (ci := 8) (rest := []) [(0, jx1)] hX cw_X8_197 rfl (by decide) (by decide) (fun r σ1 h => T_X8_work l D dA b0  jx0 jx1 σ8 σ1 r h) ⟨by decide, by decide⟩ rfl rfl (Nat.le_of_ble_eq_true rfl) dX8_needs_58 hF (fun jv11 σ12 hF => ?_)
      refine g_bipush hX dX8_needs_61 (by decide) ?_
      refine g_istore (lv' := [(4, 0, (-6)), (0, 2, jx0), (1, 0, jx1), (2, 1, jx2)]) hX dX8_needs_63 (by decide) rfl ?_
      refine g_iconst hX dX8_needs_65 ?_
      refine g_istore (lv' := [(5, 0, 0), (4, 0, (-6)), (0, 2, jx0), (1, 0, jx1), (2, 1, jx2)]) hX dX8_needs_66 (by decide) rfl ?_
      refine g_iconst hX dX8_needs_68 ?_
      refine g_istore (lv' := [(6, 0, 0), (5, 0, 0), (4, 0, (-6)), (0, 2, jx0), (1, 0, jx1), (2, 1, jx2)]) hX dX8_needs_69 (by decide) rfl ?_
      refine g_lvp (lv' := [(0, 2, jx0), (1, 0, jx1), (2, 1, jx2), (4, 0, (-6)), (5, 0, 0), (6, 0, 0)]) [3, 4, 5, 2, 1, 0] rfl ?_
      exact T_X8_needs_L71 hX hR hnm hQ hE jx0 jx1 jx2  fu (-6) 0 0 σ12 hF
def F_X8_needs (jx0 : Int) (jx1 : Int) (jx2 : Int) (σ : Hp) : Option (Int × Hp) :=
  bd (iv 9 σ jx0 (F_X8_isNode  jx0 jx1 σ)) fun jv1 σ2 => bEq jv1 0 (some ((-1), σ2)) (bd (iv 9 σ2 jx0 (F_X8_isWhole  jx0  σ2)) fun jv3 σ4 => bEq jv3 0 (some ((-3), σ4)) (bd (iv 9 σ4 jx0 (F_X8_prepare  jx0  σ4)) fun jv5 σ6 => F_X8_needs_L27 jx0 jx1 jx2 fu 0 σ6))
theorem M_X8_needs (jx0 : Int) (jx1 : Int) (jx2 : Int) (σ : Hp) : Mn σ (F_X8_needs jx0 jx1 jx2 σ) := by
  unfold F_X8_needs
  repeat' first | exact Mn_ret | exact Mn_rz | exact M_X8_isNode _ _ _ | exact M_X8_isWhole _ _ | exact M_X8_prepare _ _ | exact M_X8_needs_L27 _ _ _ _ _ _ | refine Mn_nm (fun _ => ?_) | refine Mn_nab (fun _ _ => ?_) | refine Mn_nwb (fun _ _ => ?_) | refine Mn_pw (fun _ => ?_) | refine Mn_pz (fun _ => ?_) | refine Mn_aw (fun _ => ?_) | refine Mn_az (fun _ => ?_) | refine Mn_aq (fun _ => ?_) | refine Mn_bo (fun _ => ?_) | refine Mn_bd ?_ (fun _ _ => ?_) | refine Mn_iv ?_ | refine Mn_bLt ?_ ?_ | refine Mn_bLe ?_ ?_ | refine Mn_bEq ?_ ?_ | refine Mn_bN ?_ ?_ | refine Mn_g3 ?_ | refine Mn_g33 ?_ | refine Mn_g66 ?_ | refine Mn_gD ?_
set_option maxRecDepth 100000 in
set_option maxHeartbeats 4000000 in
theorem T_X8_needs (l : Launch) (D : va_G) (dA : Nat → ClassId) (b0 : Nat) (jx0 : Int) (jx1 : Int) (jx2 : Int) (σ σE : Hp) (r : Int) (hF : F_X8_needs jx0 jx1 jx2 σ = some (r, σE)) : Ct l D dA b0 yX8_needs cX8_needs 9 (some .int) 5 118 [(2, jx0), (0, jx1), (1, jx2)] σ (some (pV 0 r)) σE := by
  refine Ct.of (lv0 := [(0, 2, jx0), (1, 0, jx1), (2, 1, jx2)]) (by decide) RX8 rfl (Nat.le_of_ble_eq_true rfl) rfl ?_ (M_X8_needs jx0 jx1 jx2 σ r σE hF)
  intro p e R s m args below meth c hX hR hnm
  obtain ⟨Q, hQ⟩ : ∃ Q, Q = Qm D dA b0 σ.1 σ.2.1 below args s (some (pV 0 r)) σE := ⟨_, rfl⟩
  rw [← hQ]
  have hE : σE.1 = σE.1 ∧ σE.2.1 = σE.2.1 := ⟨rfl, rfl⟩
  unfold F_X8_needs at hF
  refine g_aload_n hX 0 dX8_needs_0 rfl rfl ?_
  refine g_iload_n hX 1 dX8_needs_1 rfl rfl ?_
  refine g_callV (t := 0) (ci := 8) (rest := []) [(0, jx1)] hX cw_X8_144 rfl (by decide) (by decide) (fun r σ1 h => T_X8_isNode l D dA b0  jx0 jx1 σ σ1 r h) ⟨by decide, by decide⟩ rfl rfl (Nat.le_of_ble_eq_true rfl) dX8_needs_2 hF (fun jv1 σ2 hF => ?_)
  refine g_if_ne (tgt := 10) hX dX8_needs_5 (by decide) hF (fun hc hF => ?_) (fun hc hF => ?_)
  · refine g_iconst hX dX8_needs_8 ?_
    exact g_iret hX hR hQ hE dX8_needs_9 hF
  · refine g_aload_n hX 0 dX8_needs_10 rfl rfl ?_
    refine g_callV (t := 0) (ci := 8) (rest := []) [] hX cw_X8_151 rfl (by decide) (by decide) (fun r σ1 h => T_X8_isWhole l D dA b0  jx0  σ2 σ1 r h) ⟨by decide, by decide⟩ rfl rfl (Nat.le_of_ble_eq_true rfl) dX8_needs_11 hF (fun jv3 σ4 hF => ?_)
    refine g_if_ne (tgt := 20) hX dX8_needs_14 (by decide) hF (fun hc hF => ?_) (fun hc hF => ?_)
    · refine g_bipush hX dX8_needs_17 (by decide) ?_
      exact g_iret hX hR hQ hE dX8_needs_19 hF
    · refine g_aload_n hX 0 dX8_needs_20 rfl rfl ?_
      refine g_callVv (ci := 8) (rest := []) [] hX cw_X8_194 rfl (by decide) (by decide) (fun r σ1 h => T_X8_prepare l D dA b0  jx0  σ4 σ1 r h) ⟨by decide, by decide⟩ rfl rfl (Nat.le_of_ble_eq_true rfl) dX8_needs_21 hF (fun jv5 σ6 hF => ?_)
      refine g_iconst hX dX8_needs_24 ?_
      refine g_istore (lv' := [(4, 0, 0), (0, 2, jx0), (1, 0, jx1), (2, 1, jx2)]) hX dX8_needs_25 (by decide) rfl ?_
      refine g_lvp (lv' := [(0, 2, jx0), (1, 0, jx1), (2, 1, jx2), (4, 0, 0)]) [1, 2, 3, 0] rfl ?_
      exact T_X8_needs_L27 hX hR hnm hQ hE jx0 jx1 jx2  fu 0 σ6 hF
end

section
variable {p : Program} {l : Launch} {e : Env} {R : Room} {s : State} {m : MethodId} {args : Array Value} {below : List Frame} {meth : Method} {c : Code} {D : va_G} {dA : Nat → ClassId} {b0 n0 m0 nE mE : Nat} {Q : State → Prop}
def F_X8_rule (jx0 : Int) (jx1 : Int) (jx2 : Int) (jx3 : Int) (σ : Hp) : Option (Int × Hp) :=
  bd (iv 9 σ jx0 (F_X8_isLake  jx0 jx1 σ)) fun jv1 σ2 => bEq jv1 0 (some ((-1), σ2)) (bd (F_X8_in jx2 0 30 σ2) fun jv3 σ4 => bEq jv3 0 (some ((-1), σ4)) (bd (F_X8_in jx3 0 30 σ4) fun jv5 σ6 => bEq jv5 0 (some ((-1), σ6)) ((rd 9 σ6 jx0 24).bind fun jv7 => (aw 11 σ6 jv7 jx1 jx2).bind fun σ8 => (rd 9 σ8 jx0 25).bind fun jv9 => (aw 11 σ8 jv9 jx1 jx3).bind fun σ10 => some (1, σ10))))
theorem M_X8_rule (jx0 : Int) (jx1 : Int) (jx2 : Int) (jx3 : Int) (σ : Hp) : Mn σ (F_X8_rule jx0 jx1 jx2 jx3 σ) := by
  unfold F_X8_rule
  repeat' first | exact Mn_ret | exact Mn_rz | exact M_X8_isLake _ _ _ | exact M_X8_in _ _ _ _ | refine Mn_nm (fun _ => ?_) | refine Mn_nab (fun _ _ => ?_) | refine Mn_nwb (fun _ _ => ?_) | refine Mn_pw (fun _ => ?_) | refine Mn_pz (fun _ => ?_) | refine Mn_aw (fun _ => ?_) | refine Mn_az (fun _ => ?_) | refine Mn_aq (fun _ => ?_) | refine Mn_bo (fun _ => ?_) | refine Mn_bd ?_ (fun _ _ => ?_) | refine Mn_iv ?_ | refine Mn_bLt ?_ ?_ | refine Mn_bLe ?_ ?_ | refine Mn_bEq ?_ ?_ | refine Mn_bN ?_ ?_ | refine Mn_g3 ?_ | refine Mn_g33 ?_ | refine Mn_g66 ?_ | refine Mn_gD ?_
set_option maxRecDepth 100000 in
set_option maxHeartbeats 4000000 in
theorem T_X8_rule (l : Launch) (D : va_G) (dA : Nat → ClassId) (b0 : Nat) (jx0 : Int) (jx1 : Int) (jx2 : Int) (jx3 : Int) (σ σE : Hp) (r : Int) (hF : F_X8_rule jx0 jx1 jx2 jx3 σ = some (r, σE)) : Ct l D dA b0 yX8_rule cX8_rule 4 (some .int) 2 43 [(2, jx0), (0, jx1), (0, jx2), (0, jx3)] σ (some (pV 0 r)) σE := by
  refine Ct.of (lv0 := [(0, 2, jx0), (1, 0, jx1), (2, 0, jx2), (3, 0, jx3)]) (by decide) RX8 rfl (Nat.le_of_ble_eq_true rfl) rfl ?_ (M_X8_rule jx0 jx1 jx2 jx3 σ r σE hF)
  intro p e R s m args below meth c hX hR hnm
  obtain ⟨Q, hQ⟩ : ∃ Q, Q = Qm D dA b0 σ.1 σ.2.1 below args s (some (pV 0 r)) σE := ⟨_, rfl⟩
  rw [← hQ]
  have hE : σE.1 = σE.1 ∧ σE.2.1 = σE.2.1 := ⟨rfl, rfl⟩
  unfold F_X8_rule at hF
  refine g_aload_n hX 0 dX8_rule_0 rfl rfl ?_
  refine g_iload_n hX 1 dX8_rule_1 rfl rfl ?_
  refine g_callV (t := 0) (ci := 8) (rest := []) [(0, jx1)] hX cw_X8_140 rfl (by decide) (by decide) (fun r σ1 h => T_X8_isLake l D dA b0  jx0 jx1 σ σ1 r h) ⟨by decide, by decide⟩ rfl rfl (Nat.le_of_ble_eq_true rfl) dX8_rule_2 hF (fun jv1 σ2 hF => ?_)
  refine g_if_eq (tgt := 28) hX dX8_rule_5 (by decide) hF (fun hc hF => ?_) (fun hc hF => ?_)
  · refine g_iconst hX dX8_rule_28 ?_
    exact g_iret hX hR hQ hE dX8_rule_29 hF
  · refine g_iload_n hX 2 dX8_rule_8 rfl rfl ?_
    refine g_iconst hX dX8_rule_9 ?_
    refine g_bipush hX dX8_rule_10 (by decide) ?_
    refine g_callS (t := 0) (rest := []) [(0, jx2), (0, 0), (0, 30)] hX cw_X8_122 (fun r σ1 h => T_X8_in l D dA b0 jx2 0 30 σ2 σ1 r h) ⟨by decide, by decide⟩ rfl rfl (Nat.le_of_ble_eq_true rfl) dX8_rule_12 hF (fun jv3 σ4 hF => ?_)
    refine g_if_eq (tgt := 28) hX dX8_rule_15 (by decide) hF (fun hc hF => ?_) (fun hc hF => ?_)
    · refine g_iconst hX dX8_rule_28 ?_
      exact g_iret hX hR hQ hE dX8_rule_29 hF
    · refine g_iload_n hX 3 dX8_rule_18 rfl rfl ?_
      refine g_iconst hX dX8_rule_19 ?_
      refine g_bipush hX dX8_rule_20 (by decide) ?_
      refine g_callS (t := 0) (rest := []) [(0, jx3), (0, 0), (0, 30)] hX cw_X8_122 (fun r σ1 h => T_X8_in l D dA b0 jx3 0 30 σ4 σ1 r h) ⟨by decide, by decide⟩ rfl rfl (Nat.le_of_ble_eq_true rfl) dX8_rule_22 hF (fun jv5 σ6 hF => ?_)
      refine g_if_ne (tgt := 30) hX dX8_rule_25 (by decide) hF (fun hc hF => ?_) (fun hc hF => ?_)
      · refine g_iconst hX dX8_rule_28 ?_
        exact g_iret hX hR hQ hE dX8_rule_29 hF
      · refine g_aload_n hX 0 dX8_rule_30 rfl rfl ?_
        refine g_get hX fl_X8_77 (by decide) (by decide) dX8_rule_31 hF (fun jv7 hF => ?_)
        refine g_iload_n hX 1 dX8_rule_34 rfl rfl ?_
        refine g_iload_n hX 2 dX8_rule_35 rfl rfl ?_
        refine u_iast hX dX8_rule_36 hF (fun σ8 hF => ?_)
        refine g_aload_n hX 0 dX8_rule_37 rfl rfl ?_
        refine g_get hX fl_X8_80 (by decide) (by decide) dX8_rule_38 hF (fun jv9 hF => ?_)
        refine g_iload_n hX 1 dX8_rule_41 rfl rfl ?_
        refine g_iload_n hX 3 dX8_rule_42 rfl rfl ?_
        refine u_iast hX dX8_rule_43 hF (fun σ10 hF => ?_)
        refine g_iconst hX dX8_rule_44 ?_
        exact g_iret hX hR hQ hE dX8_rule_45 hF
end

section
variable {p : Program} {l : Launch} {e : Env} {R : Room} {s : State} {m : MethodId} {args : Array Value} {below : List Frame} {meth : Method} {c : Code} {D : va_G} {dA : Nat → ClassId} {b0 n0 m0 nE mE : Nat} {Q : State → Prop}
def F_X8_ruledLet_B93 (k2 : Int → Hp → Option (Int × Hp)) (jx0 : Int) (jx1 : Int) (js0 : Int) (js1 : Int) (js2 : Int) (σ : Hp) : Option (Int × Hp) :=
  (aw 11 σ js2 js1 js0).bind fun σ11 => k2 (jx1 + 1) σ11
theorem M_X8_ruledLet_B93 (k2 : Int → Hp → Option (Int × Hp)) (hk2 : ∀ (jx1 : Int) (σ : Hp), Mn σ (k2 jx1 σ)) (jx0 : Int) (jx1 : Int) (js0 : Int) (js1 : Int) (js2 : Int) (σ : Hp) : Mn σ (F_X8_ruledLet_B93 k2 jx0 jx1 js0 js1 js2 σ) := by
  unfold F_X8_ruledLet_B93
  repeat' first | exact Mn_ret | exact Mn_rz | exact hk2 _  _ | refine Mn_nm (fun _ => ?_) | refine Mn_nab (fun _ _ => ?_) | refine Mn_nwb (fun _ _ => ?_) | refine Mn_pw (fun _ => ?_) | refine Mn_pz (fun _ => ?_) | refine Mn_aw (fun _ => ?_) | refine Mn_az (fun _ => ?_) | refine Mn_aq (fun _ => ?_) | refine Mn_bo (fun _ => ?_) | refine Mn_bd ?_ (fun _ _ => ?_) | refine Mn_iv ?_ | refine Mn_bLt ?_ ?_ | refine Mn_bLe ?_ ?_ | refine Mn_bEq ?_ ?_ | refine Mn_bN ?_ ?_ | refine Mn_g3 ?_ | refine Mn_g33 ?_ | refine Mn_g66 ?_ | refine Mn_gD ?_
set_option maxRecDepth 100000 in
set_option maxHeartbeats 4000000 in
theorem T_X8_ruledLet_B93 {r : Int} {σE : Hp} (hX : Cx p R s m args meth c D dA b0 n0 m0 3 nE mE cX8_ruledLet RX8 2 44) (hR : Rx meth none) (hnm : meth.name = yX8_ruledLet.name) (hQ : Q = Qm D dA b0 n0 m0 below args s none σE) (hE : nE = σE.1 ∧ mE = σE.2.1) (k2 : Int → Hp → Option (Int × Hp)) (jx0 : Int) (jx1 : Int) (js0 : Int) (js1 : Int) (js2 : Int) (hk2 : ∀ (jx1 : Int) (σ : Hp), k2 jx1 σ = some (r, σE) → G p l e R s m args below meth c D dA b0 n0 m0 3 nE mE Q 2 [(0, 2, jx0), (1, 0, jx1)] [] σ) (σ : Hp) (hF : F_X8_ruledLet_B93 k2 jx0 jx1 js0 js1 js2 σ = some (r, σE)) : G p l e R s m args below meth c D dA b0 n0 m0 3 nE mE Q 93 [(0, 2, jx0), (1, 0, jx1)] [(0, js0), (0, js1), (2, js2)] σ := by
  unfold F_X8_ruledLet_B93 at hF
  refine u_iast hX dX8_ruledLet_93 hF (fun σ11 hF => ?_)
  refine g_iinc (lv' := [(1, 0, (jx1 + 1)), (0, 2, jx0)]) hX 1 dX8_ruledLet_94 rfl (by decide) rfl ?_
  refine g_goto (tgt := 2) hX dX8_ruledLet_97 (by decide) ?_
  refine g_lvp (lv' := [(0, 2, jx0), (1, 0, (jx1 + 1))]) [1, 0] rfl ?_
  exact hk2 (jx1 + 1) σ11 hF
def F_X8_ruledLet_B52 (k2 : Int → Hp → Option (Int × Hp)) (jx0 : Int) (jx1 : Int) (js0 : Int) (σ : Hp) : Option (Int × Hp) :=
  (rd 9 σ jx0 17).bind fun jv6 => bd (iv 9 σ jx0 (F_X8_lowest  jx0 jx1 σ)) fun jv7 σ8 => bLt js0 jv7 (bd (iv 9 σ8 jx0 (F_X8_lowest  jx0 jx1 σ8)) fun jv9 σ10 => F_X8_ruledLet_B93 k2 jx0 jx1 jv9 jx1 jv6 σ10) (bd (iv 9 σ8 jx0 (F_X8_highest  jx0 jx1 σ8)) fun jv12 σ13 => bLe js0 jv12 (F_X8_ruledLet_B93 k2 jx0 jx1 js0 jx1 jv6 σ13) (bd (iv 9 σ13 jx0 (F_X8_highest  jx0 jx1 σ13)) fun jv14 σ15 => F_X8_ruledLet_B93 k2 jx0 jx1 jv14 jx1 jv6 σ15))
theorem M_X8_ruledLet_B52 (k2 : Int → Hp → Option (Int × Hp)) (hk2 : ∀ (jx1 : Int) (σ : Hp), Mn σ (k2 jx1 σ)) (jx0 : Int) (jx1 : Int) (js0 : Int) (σ : Hp) : Mn σ (F_X8_ruledLet_B52 k2 jx0 jx1 js0 σ) := by
  unfold F_X8_ruledLet_B52
  repeat' first | exact Mn_ret | exact Mn_rz | exact hk2 _  _ | exact M_X8_lowest _ _ _ | exact M_X8_ruledLet_B93 k2 hk2 _ _ _ _ _ _ | exact M_X8_highest _ _ _ | refine Mn_nm (fun _ => ?_) | refine Mn_nab (fun _ _ => ?_) | refine Mn_nwb (fun _ _ => ?_) | refine Mn_pw (fun _ => ?_) | refine Mn_pz (fun _ => ?_) | refine Mn_aw (fun _ => ?_) | refine Mn_az (fun _ => ?_) | refine Mn_aq (fun _ => ?_) | refine Mn_bo (fun _ => ?_) | refine Mn_bd ?_ (fun _ _ => ?_) | refine Mn_iv ?_ | refine Mn_bLt ?_ ?_ | refine Mn_bLe ?_ ?_ | refine Mn_bEq ?_ ?_ | refine Mn_bN ?_ ?_ | refine Mn_g3 ?_ | refine Mn_g33 ?_ | refine Mn_g66 ?_ | refine Mn_gD ?_
set_option maxRecDepth 100000 in
set_option maxHeartbeats 4000000 in
theorem T_X8_ruledLet_B52 {r : Int} {σE : Hp} (hX : Cx p R s m args meth c D dA b0 n0 m0 3 nE mE cX8_ruledLet RX8 2 44) (hR : Rx meth none) (hnm : meth.name = yX8_ruledLet.name) (hQ : Q = Qm D dA b0 n0 m0 below args s none σE) (hE : nE = σE.1 ∧ mE = σE.2.1) (k2 : Int → Hp → Option (Int × Hp)) (jx0 : Int) (jx1 : Int) (js0 : Int) (hk2 : ∀ (jx1 : Int) (σ : Hp), k2 jx1 σ = some (r, σE) → G p l e R s m args below meth c D dA b0 n0 m0 3 nE mE Q 2 [(0, 2, jx0), (1, 0, jx1)] [] σ) (σ : Hp) (hF : F_X8_ruledLet_B52 k2 jx0 jx1 js0 σ = some (r, σE)) : G p l e R s m args below meth c D dA b0 n0 m0 3 nE mE Q 52 [(0, 2, jx0), (1, 0, jx1)] [(0, js0)] σ := by
  unfold F_X8_ruledLet_B52 at hF
  refine g_istore_n (lv' := [(2, 0, js0), (0, 2, jx0), (1, 0, jx1)]) hX dX8_ruledLet_52 rfl (by decide) rfl ?_
  refine g_aload_n hX 1 dX8_ruledLet_53 rfl rfl ?_
  refine g_get hX fl_X8_59 (by decide) (by decide) dX8_ruledLet_54 hF (fun jv6 hF => ?_)
  refine g_iload_n hX 2 dX8_ruledLet_57 rfl rfl ?_
  refine g_iload_n hX 0 dX8_ruledLet_58 rfl rfl ?_
  refine g_aload_n hX 1 dX8_ruledLet_59 rfl rfl ?_
  refine g_iload_n hX 2 dX8_ruledLet_60 rfl rfl ?_
  refine g_callV (t := 0) (ci := 8) (rest := [(0, js0), (0, jx1), (2, jv6)]) [(0, jx1)] hX cw_X8_155 rfl (by decide) (by decide) (fun r σ1 h => T_X8_lowest l D dA b0  jx0 jx1 σ σ1 r h) ⟨by decide, by decide⟩ rfl rfl (Nat.le_of_ble_eq_true rfl) dX8_ruledLet_61 hF (fun jv7 σ8 hF => ?_)
  refine g_icmp_ge (tgt := 75) hX dX8_ruledLet_64 (by decide) hF (fun hc hF => ?_) (fun hc hF => ?_)
  · refine g_aload_n hX 1 dX8_ruledLet_67 rfl rfl ?_
    refine g_iload_n hX 2 dX8_ruledLet_68 rfl rfl ?_
    refine g_callV (t := 0) (ci := 8) (rest := [(0, jx1), (2, jv6)]) [(0, jx1)] hX cw_X8_155 rfl (by decide) (by decide) (fun r σ1 h => T_X8_lowest l D dA b0  jx0 jx1 σ8 σ1 r h) ⟨by decide, by decide⟩ rfl rfl (Nat.le_of_ble_eq_true rfl) dX8_ruledLet_69 hF (fun jv9 σ10 hF => ?_)
    refine g_goto (tgt := 93) hX dX8_ruledLet_72 (by decide) ?_
    refine g_lvp (lv' := [(0, 2, jx0), (1, 0, jx1)]) [1, 2] rfl ?_
    exact T_X8_ruledLet_B93 hX hR hnm hQ hE k2 jx0 jx1 jv9 jx1 jv6 hk2  σ10 hF
  · refine g_iload_n hX 0 dX8_ruledLet_75 rfl rfl ?_
    refine g_aload_n hX 1 dX8_ruledLet_76 rfl rfl ?_
    refine g_iload_n hX 2 dX8_ruledLet_77 rfl rfl ?_
    refine g_callV (t := 0) (ci := 8) (rest := [(0, js0), (0, jx1), (2, jv6)]) [(0, jx1)] hX cw_X8_161 rfl (by decide) (by decide) (fun r σ1 h => T_X8_highest l D dA b0  jx0 jx1 σ8 σ1 r h) ⟨by decide, by decide⟩ rfl rfl (Nat.le_of_ble_eq_true rfl) dX8_ruledLet_78 hF (fun jv12 σ13 hF => ?_)
    refine g_icmp_le (tgt := 92) hX dX8_ruledLet_81 (by decide) hF (fun hc hF => ?_) (fun hc hF => ?_)
    · refine g_iload_n hX 0 dX8_ruledLet_92 rfl rfl ?_
      refine g_lvp (lv' := [(0, 2, jx0), (1, 0, jx1)]) [1, 2] rfl ?_
      exact T_X8_ruledLet_B93 hX hR hnm hQ hE k2 jx0 jx1 js0 jx1 jv6 hk2  σ13 hF
    · refine g_aload_n hX 1 dX8_ruledLet_84 rfl rfl ?_
      refine g_iload_n hX 2 dX8_ruledLet_85 rfl rfl ?_
      refine g_callV (t := 0) (ci := 8) (rest := [(0, jx1), (2, jv6)]) [(0, jx1)] hX cw_X8_161 rfl (by decide) (by decide) (fun r σ1 h => T_X8_highest l D dA b0  jx0 jx1 σ13 σ1 r h) ⟨by decide, by decide⟩ rfl rfl (Nat.le_of_ble_eq_true rfl) dX8_ruledLet_86 hF (fun jv14 σ15 hF => ?_)
      refine g_goto (tgt := 93) hX dX8_ruledLet_89 (by decide) ?_
      refine g_lvp (lv' := [(0, 2, jx0), (1, 0, jx1)]) [1, 2] rfl ?_
      exact T_X8_ruledLet_B93 hX hR hnm hQ hE k2 jx0 jx1 jv14 jx1 jv6 hk2  σ15 hF
def F_X8_ruledLet_L2 (jx0 : Int) : Nat → Int → Hp → Option (Int × Hp)
  | 0, _, _ => none
  | n + 1, jx1, σ => (rd 9 σ jx0 1).bind fun jv1 => bLt jx1 jv1 ((rd 9 σ jx0 16).bind fun jv2 => (ar 11 σ jv2 jx1).bind fun jv3 => (rd 9 σ jx0 24).bind fun jv4 => (ar 11 σ jv4 jx1).bind fun jv5 => bLt (jv3 - jv5) 0 (F_X8_ruledLet_B52 (F_X8_ruledLet_L2 jx0 n) jx0 jx1 0 σ) ((rd 9 σ jx0 25).bind fun jv16 => (ar 11 σ jv16 jx1).bind fun jv17 => bLe (jv3 - jv5) jv17 (F_X8_ruledLet_B52 (F_X8_ruledLet_L2 jx0 n) jx0 jx1 (jv3 - jv5) σ) ((rd 9 σ jx0 25).bind fun jv18 => (ar 11 σ jv18 jx1).bind fun jv19 => F_X8_ruledLet_B52 (F_X8_ruledLet_L2 jx0 n) jx0 jx1 jv19 σ))) (some (0, σ))
theorem M_X8_ruledLet_L2 (jx0 : Int) : ∀ (n : Nat) (jx1 : Int) (σ : Hp), Mn σ (F_X8_ruledLet_L2 jx0 n jx1 σ) := by
  intro n
  induction n with
  | zero => intros; rw [F_X8_ruledLet_L2]; exact Mn_none
  | succ n hk2 =>
    intros
    rw [F_X8_ruledLet_L2]
    repeat' first | exact Mn_ret | exact Mn_rz | exact hk2 _  _ | exact M_X8_ruledLet_B52 (F_X8_ruledLet_L2 jx0 n) hk2 _ _ _ _ | refine Mn_nm (fun _ => ?_) | refine Mn_nab (fun _ _ => ?_) | refine Mn_nwb (fun _ _ => ?_) | refine Mn_pw (fun _ => ?_) | refine Mn_pz (fun _ => ?_) | refine Mn_aw (fun _ => ?_) | refine Mn_az (fun _ => ?_) | refine Mn_aq (fun _ => ?_) | refine Mn_bo (fun _ => ?_) | refine Mn_bd ?_ (fun _ _ => ?_) | refine Mn_iv ?_ | refine Mn_bLt ?_ ?_ | refine Mn_bLe ?_ ?_ | refine Mn_bEq ?_ ?_ | refine Mn_bN ?_ ?_ | refine Mn_g3 ?_ | refine Mn_g33 ?_ | refine Mn_g66 ?_ | refine Mn_gD ?_
set_option maxRecDepth 100000 in
set_option maxHeartbeats 4000000 in
theorem T_X8_ruledLet_L2 {r : Int} {σE : Hp} (hX : Cx p R s m args meth c D dA b0 n0 m0 3 nE mE cX8_ruledLet RX8 2 44) (hR : Rx meth none) (hnm : meth.name = yX8_ruledLet.name) (hQ : Q = Qm D dA b0 n0 m0 below args s none σE) (hE : nE = σE.1 ∧ mE = σE.2.1) (jx0 : Int) : ∀ (n : Nat) (jx1 : Int) (σ : Hp), F_X8_ruledLet_L2 jx0 n jx1 σ = some (r, σE) → G p l e R s m args below meth c D dA b0 n0 m0 3 nE mE Q 2 [(0, 2, jx0), (1, 0, jx1)] [] σ := by
  intro n
  induction n with
  | zero =>
    intro jx1 σ hF
    rw [F_X8_ruledLet_L2] at hF
    cases hF
  | succ n hk2 =>
    intro jx1 σ hF
    rw [F_X8_ruledLet_L2] at hF
    refine g_iload_n hX 1 dX8_ruledLet_2 rfl rfl ?_
    refine g_aload_n hX 0 dX8_ruledLet_3 rfl rfl ?_
    refine g_get hX fl_X8_119 (by decide) (by decide) dX8_ruledLet_4 hF (fun jv1 hF => ?_)
    refine g_icmp_ge (tgt := 100) hX dX8_ruledLet_7 (by decide) hF (fun hc hF => ?_) (fun hc hF => ?_)
    · refine g_aload_n hX 0 dX8_ruledLet_10 rfl rfl ?_
      refine g_get hX fl_X8_56 (by decide) (by decide) dX8_ruledLet_11 hF (fun jv2 hF => ?_)
      refine g_iload_n hX 1 dX8_ruledLet_14 rfl rfl ?_
      refine g_iald hX dX8_ruledLet_15 hF (fun jv3 hF => ?_)
      refine g_aload_n hX 0 dX8_ruledLet_16 rfl rfl ?_
      refine g_get hX fl_X8_77 (by decide) (by decide) dX8_ruledLet_17 hF (fun jv4 hF => ?_)
      refine g_iload_n hX 1 dX8_ruledLet_20 rfl rfl ?_
      refine g_iald hX dX8_ruledLet_21 hF (fun jv5 hF => ?_)
      refine g_isub hX dX8_ruledLet_22 ?_
      refine g_istore_n (lv' := [(2, 0, (jv3 - jv5)), (0, 2, jx0), (1, 0, jx1)]) hX dX8_ruledLet_23 rfl (by decide) rfl ?_
      refine g_iload_n hX 0 dX8_ruledLet_24 rfl rfl ?_
      refine g_if_ge (tgt := 32) hX dX8_ruledLet_25 (by decide) hF (fun hc hF => ?_) (fun hc hF => ?_)
      · refine g_iconst hX dX8_ruledLet_28 ?_
        refine g_goto (tgt := 52) hX dX8_ruledLet_29 (by decide) ?_
        refine g_lvp (lv' := [(0, 2, jx0), (1, 0, jx1)]) [1, 2] rfl ?_
        exact T_X8_ruledLet_B52 hX hR hnm hQ hE (F_X8_ruledLet_L2 jx0 n) jx0 jx1 0 hk2  σ hF
      · refine g_iload_n hX 0 dX8_ruledLet_32 rfl rfl ?_
        refine g_aload_n hX 1 dX8_ruledLet_33 rfl rfl ?_
        refine g_get hX fl_X8_80 (by decide) (by decide) dX8_ruledLet_34 hF (fun jv16 hF => ?_)
        refine g_iload_n hX 2 dX8_ruledLet_37 rfl rfl ?_
        refine g_iald hX dX8_ruledLet_38 hF (fun jv17 hF => ?_)
        refine g_icmp_le (tgt := 51) hX dX8_ruledLet_39 (by decide) hF (fun hc hF => ?_) (fun hc hF => ?_)
        · refine g_iload_n hX 0 dX8_ruledLet_51 rfl rfl ?_
          refine g_lvp (lv' := [(0, 2, jx0), (1, 0, jx1)]) [1, 2] rfl ?_
          exact T_X8_ruledLet_B52 hX hR hnm hQ hE (F_X8_ruledLet_L2 jx0 n) jx0 jx1 (jv3 - jv5) hk2  σ hF
        · refine g_aload_n hX 1 dX8_ruledLet_42 rfl rfl ?_
          refine g_get hX fl_X8_80 (by decide) (by decide) dX8_ruledLet_43 hF (fun jv18 hF => ?_)
          refine g_iload_n hX 2 dX8_ruledLet_46 rfl rfl ?_
          refine g_iald hX dX8_ruledLet_47 hF (fun jv19 hF => ?_)
          refine g_goto (tgt := 52) hX dX8_ruledLet_48 (by decide) ?_
          refine g_lvp (lv' := [(0, 2, jx0), (1, 0, jx1)]) [1, 2] rfl ?_
          exact T_X8_ruledLet_B52 hX hR hnm hQ hE (F_X8_ruledLet_L2 jx0 n) jx0 jx1 jv19 hk2  σ hF
    · exact g_vret hX hR hQ hE dX8_ruledLet_100 hF
def F_X8_ruledLet (jx0 : Int) (σ : Hp) : Option (Int × Hp) :=
  F_X8_ruledLet_L2 jx0 fu 0 σ
theorem M_X8_ruledLet (jx0 : Int) (σ : Hp) : Mn σ (F_X8_ruledLet jx0 σ) := by
  unfold F_X8_ruledLet
  repeat' first | exact Mn_ret | exact Mn_rz | exact M_X8_ruledLet_L2 _ _ _ _ | refine Mn_nm (fun _ => ?_) | refine Mn_nab (fun _ _ => ?_) | refine Mn_nwb (fun _ _ => ?_) | refine Mn_pw (fun _ => ?_) | refine Mn_pz (fun _ => ?_) | refine Mn_aw (fun _ => ?_) | refine Mn_az (fun _ => ?_) | refine Mn_aq (fun _ => ?_) | refine Mn_bo (fun _ => ?_) | refine Mn_bd ?_ (fun _ _ => ?_) | refine Mn_iv ?_ | refine Mn_bLt ?_ ?_ | refine Mn_bLe ?_ ?_ | refine Mn_bEq ?_ ?_ | refine Mn_bN ?_ ?_ | refine Mn_g3 ?_ | refine Mn_g33 ?_ | refine Mn_g66 ?_ | refine Mn_gD ?_
set_option maxRecDepth 100000 in
set_option maxHeartbeats 4000000 in
theorem T_X8_ruledLet (l : Launch) (D : va_G) (dA : Nat → ClassId) (b0 : Nat) (jx0 : Int) (σ σE : Hp) (r : Int) (hF : F_X8_ruledLet jx0 σ = some (r, σE)) : Ct l D dA b0 yX8_ruledLet cX8_ruledLet 3 none 2 44 [(2, jx0)] σ none σE := by
  refine Ct.of (lv0 := [(0, 2, jx0)]) (by decide) RX8 rfl (Nat.le_of_ble_eq_true rfl) rfl ?_ (M_X8_ruledLet jx0 σ r σE hF)
  intro p e R s m args below meth c hX hR hnm
  obtain ⟨Q, hQ⟩ : ∃ Q, Q = Qm D dA b0 σ.1 σ.2.1 below args s none σE := ⟨_, rfl⟩
  rw [← hQ]
  have hE : σE.1 = σE.1 ∧ σE.2.1 = σE.2.1 := ⟨rfl, rfl⟩
  unfold F_X8_ruledLet at hF
  refine g_iconst hX dX8_ruledLet_0 ?_
  refine g_istore_n (lv' := [(1, 0, 0), (0, 2, jx0)]) hX dX8_ruledLet_1 rfl (by decide) rfl ?_
  refine g_lvp (lv' := [(0, 2, jx0), (1, 0, 0)]) [1, 0] rfl ?_
  exact T_X8_ruledLet_L2 hX hR hnm hQ hE jx0  fu 0 σ hF
end
