section
variable {p : Program} {l : Launch} {e : Env} {R : Room} {s : State} {m : MethodId} {args : Array Value} {below : List Frame} {meth : Method} {c : Code} {D : va_G} {dA : Nat → ClassId} {b0 n0 m0 nE mE : Nat} {Q : State → Prop}
def F_X5_init (jx0 : Int) (jx1 : Int) (jx2 : Int) (σ : Hp) : Option (Int × Hp) :=
  iv 6 σ jx0 ((pw 6 σ jx0 0 jx1).bind fun σ1 => (pw 6 σ1 jx0 1 jx2).bind fun σ2 => some (0, σ2))
theorem M_X5_init (jx0 : Int) (jx1 : Int) (jx2 : Int) (σ : Hp) : Mn σ (F_X5_init jx0 jx1 jx2 σ) := by
  unfold F_X5_init
  repeat' first | exact Mn_ret | exact Mn_rz | refine Mn_nm (fun _ => ?_) | refine Mn_nab (fun _ _ => ?_) | refine Mn_nwb (fun _ _ => ?_) | refine Mn_pw (fun _ => ?_) | refine Mn_pz (fun _ => ?_) | refine Mn_aw (fun _ => ?_) | refine Mn_az (fun _ => ?_) | refine Mn_aq (fun _ => ?_) | refine Mn_bo (fun _ => ?_) | refine Mn_bd ?_ (fun _ _ => ?_) | refine Mn_iv ?_ | refine Mn_bLt ?_ ?_ | refine Mn_bLe ?_ ?_ | refine Mn_bEq ?_ ?_ | refine Mn_bN ?_ ?_ | refine Mn_g3 ?_ | refine Mn_g33 ?_ | refine Mn_g66 ?_ | refine Mn_gD ?_
set_option maxRecDepth 100000 in
set_option maxHeartbeats 4000000 in
theorem T_X5_init (l : Launch) (D : va_G) (dA : Nat → ClassId) (b0 : Nat) (jx0 : Int) (jx1 : Int) (jx2 : Int) (σ σE : Hp) (r : Int) (hF : F_X5_init jx0 jx1 jx2 σ = some (r, σE)) : Ct l D dA b0 yX5_init cX5_init 3 none 1 20 [(2, jx0), (2, jx1), (2, jx2)] σ none σE := by
  refine Ct.of (lv0 := [(0, 2, jx0), (1, 2, jx1), (2, 2, jx2)]) (by decide) RX5 rfl (Nat.le_of_ble_eq_true rfl) rfl ?_ (M_X5_init jx0 jx1 jx2 σ r σE hF)
  intro p e R s m args below meth c hX hR hnm
  obtain ⟨Q, hQ⟩ : ∃ Q, Q = Qm D dA b0 σ.1 σ.2.1 below args s none σE := ⟨_, rfl⟩
  rw [← hQ]
  have hE : σE.1 = σE.1 ∧ σE.2.1 = σE.2.1 := ⟨rfl, rfl⟩
  unfold F_X5_init at hF
  refine g_aload_n hX 0 dX5_init_0 rfl rfl ?_
  refine u_objInit hX ow_X5_3 (by decide) (by decide) (Nat.le_of_ble_eq_true rfl) dX5_init_1 hF (fun hF => ?_)
  refine g_aload_n hX 0 dX5_init_4 rfl rfl ?_
  refine g_aload_n hX 1 dX5_init_5 rfl rfl ?_
  refine u_putF hX fp_X5_9 hnm (by decide) (by decide) dX5_init_6 hF (fun σ1 hF => ?_)
  refine g_aload_n hX 0 dX5_init_9 rfl rfl ?_
  refine g_aload_n hX 2 dX5_init_10 rfl rfl ?_
  refine u_putF hX fp_X5_15 hnm (by decide) (by decide) dX5_init_11 hF (fun σ2 hF => ?_)
  exact g_vret hX hR hQ hE dX5_init_14 hF
end

section
variable {p : Program} {l : Launch} {e : Env} {R : Room} {s : State} {m : MethodId} {args : Array Value} {below : List Frame} {meth : Method} {c : Code} {D : va_G} {dA : Nat → ClassId} {b0 n0 m0 nE mE : Nat} {Q : State → Prop}
def F_X5_stepTo_B108 (js0 : Int) (js1 : Int) (σ : Hp) : Option (Int × Hp) :=
  (pz 2 σ js1 15 js0).bind fun σ29 => some (0, σ29)
theorem M_X5_stepTo_B108 (js0 : Int) (js1 : Int) (σ : Hp) : Mn σ (F_X5_stepTo_B108 js0 js1 σ) := by
  unfold F_X5_stepTo_B108
  repeat' first | exact Mn_ret | exact Mn_rz | refine Mn_nm (fun _ => ?_) | refine Mn_nab (fun _ _ => ?_) | refine Mn_nwb (fun _ _ => ?_) | refine Mn_pw (fun _ => ?_) | refine Mn_pz (fun _ => ?_) | refine Mn_aw (fun _ => ?_) | refine Mn_az (fun _ => ?_) | refine Mn_aq (fun _ => ?_) | refine Mn_bo (fun _ => ?_) | refine Mn_bd ?_ (fun _ _ => ?_) | refine Mn_iv ?_ | refine Mn_bLt ?_ ?_ | refine Mn_bLe ?_ ?_ | refine Mn_bEq ?_ ?_ | refine Mn_bN ?_ ?_ | refine Mn_g3 ?_ | refine Mn_g33 ?_ | refine Mn_g66 ?_ | refine Mn_gD ?_
set_option maxRecDepth 100000 in
set_option maxHeartbeats 4000000 in
theorem T_X5_stepTo_B108 {r : Int} {σE : Hp} (hX : Cx p R s m args meth c D dA b0 n0 m0 4 nE mE cX5_stepTo RX5 5 108) (hR : Rx meth none) (hnm : meth.name = yX5_stepTo.name) (hQ : Q = Qm D dA b0 n0 m0 below args s none σE) (hE : nE = σE.1 ∧ mE = σE.2.1) (js0 : Int) (js1 : Int) (σ : Hp) (hF : F_X5_stepTo_B108 js0 js1 σ = some (r, σE)) : G p l e R s m args below meth c D dA b0 n0 m0 4 nE mE Q 108 [] [(0, js0), (2, js1)] σ := by
  unfold F_X5_stepTo_B108 at hF
  refine u_putZ hX fp_X5_45 (by decide) (by decide) dX5_stepTo_108 hF (fun σ29 hF => ?_)
  exact g_vret hX hR hQ hE dX5_stepTo_111 hF
def F_X5_stepTo_B103 (js0 : Int) (σ : Hp) : Option (Int × Hp) :=
  F_X5_stepTo_B108  1 js0 σ
theorem M_X5_stepTo_B103 (js0 : Int) (σ : Hp) : Mn σ (F_X5_stepTo_B103 js0 σ) := by
  unfold F_X5_stepTo_B103
  repeat' first | exact Mn_ret | exact Mn_rz | exact M_X5_stepTo_B108  _ _ _ | refine Mn_nm (fun _ => ?_) | refine Mn_nab (fun _ _ => ?_) | refine Mn_nwb (fun _ _ => ?_) | refine Mn_pw (fun _ => ?_) | refine Mn_pz (fun _ => ?_) | refine Mn_aw (fun _ => ?_) | refine Mn_az (fun _ => ?_) | refine Mn_aq (fun _ => ?_) | refine Mn_bo (fun _ => ?_) | refine Mn_bd ?_ (fun _ _ => ?_) | refine Mn_iv ?_ | refine Mn_bLt ?_ ?_ | refine Mn_bLe ?_ ?_ | refine Mn_bEq ?_ ?_ | refine Mn_bN ?_ ?_ | refine Mn_g3 ?_ | refine Mn_g33 ?_ | refine Mn_g66 ?_ | refine Mn_gD ?_
set_option maxRecDepth 100000 in
set_option maxHeartbeats 4000000 in
theorem T_X5_stepTo_B103 {r : Int} {σE : Hp} (hX : Cx p R s m args meth c D dA b0 n0 m0 4 nE mE cX5_stepTo RX5 5 108) (hR : Rx meth none) (hnm : meth.name = yX5_stepTo.name) (hQ : Q = Qm D dA b0 n0 m0 below args s none σE) (hE : nE = σE.1 ∧ mE = σE.2.1) (js0 : Int) (σ : Hp) (hF : F_X5_stepTo_B103 js0 σ = some (r, σE)) : G p l e R s m args below meth c D dA b0 n0 m0 4 nE mE Q 103 [] [(2, js0)] σ := by
  unfold F_X5_stepTo_B103 at hF
  refine g_iconst hX dX5_stepTo_103 ?_
  refine g_goto (tgt := 108) hX dX5_stepTo_104 (by decide) ?_
  exact T_X5_stepTo_B108 hX hR hnm hQ hE  1 js0  σ hF
def F_X5_stepTo (jx0 : Int) (jx1 : Int) (jx2 : Int) (σ : Hp) : Option (Int × Hp) :=
  (rd 6 σ jx0 0).bind fun jv1 => (rd 2 σ jx2 12).bind fun jv2 => bd (iv 5 σ jv1 (F_X4_ruleLets  jv1 jv2 σ)) fun jv3 σ4 => (pz 2 σ4 jx1 11 1).bind fun σ5 => (rd 6 σ5 jx0 0).bind fun jv6 => (rd 2 σ5 jx2 12).bind fun jv7 => (rd 2 σ5 jx1 1).bind fun jv8 => bd (iv 5 σ5 jv6 (F_X4_flow  jv6 jv7 jv3 jv8 σ5)) fun jv9 σ10 => (pw 2 σ10 jx1 12 jv9).bind fun σ11 => (rd 2 σ11 jx2 13).bind fun jv12 => (rd 6 σ11 jx0 1).bind fun jv13 => bd (iv 4 σ11 jv13 (F_X3_priceFrom  jv13 jx2 σ11)) fun jv14 σ15 => (rd 6 σ15 jx0 0).bind fun jv16 => (rd 2 σ15 jx2 12).bind fun jv17 => bd (iv 5 σ15 jv16 (F_X4_headsTimesLets  jv16 jv17 jv3 σ15)) fun jv18 σ19 => (pw 2 σ19 jx1 13 (jv12 + (jv14 * jv18))).bind fun σ20 => (rd 2 σ20 jx2 14).bind fun jv21 => (rd 2 σ20 jx1 4).bind fun jv22 => g3 jv22 ((pw 2 σ20 jx1 14 (jv21 * jv22)).bind fun σ23 => (rd 2 σ23 jx2 15).bind fun jv24 => bEq jv24 0 ((rd 6 σ23 jx0 0).bind fun jv25 => (rd 2 σ23 jx1 12).bind fun jv26 => bd (iv 5 σ23 jv25 (F_X4_isBelowLeast  jv25 jv26 σ23)) fun jv27 σ28 => bEq jv27 0 (F_X5_stepTo_B108  0 jx1 σ28) (F_X5_stepTo_B103  jx1 σ28)) (F_X5_stepTo_B103  jx1 σ23))
theorem M_X5_stepTo (jx0 : Int) (jx1 : Int) (jx2 : Int) (σ : Hp) : Mn σ (F_X5_stepTo jx0 jx1 jx2 σ) := by
  unfold F_X5_stepTo
  repeat' first | exact Mn_ret | exact Mn_rz | exact M_X4_ruleLets _ _ _ | exact M_X4_flow _ _ _ _ _ | exact M_X3_priceFrom _ _ _ | exact M_X4_headsTimesLets _ _ _ _ | exact M_X4_isBelowLeast _ _ _ | exact M_X5_stepTo_B108  _ _ _ | exact M_X5_stepTo_B103  _ _ | refine Mn_nm (fun _ => ?_) | refine Mn_nab (fun _ _ => ?_) | refine Mn_nwb (fun _ _ => ?_) | refine Mn_pw (fun _ => ?_) | refine Mn_pz (fun _ => ?_) | refine Mn_aw (fun _ => ?_) | refine Mn_az (fun _ => ?_) | refine Mn_aq (fun _ => ?_) | refine Mn_bo (fun _ => ?_) | refine Mn_bd ?_ (fun _ _ => ?_) | refine Mn_iv ?_ | refine Mn_bLt ?_ ?_ | refine Mn_bLe ?_ ?_ | refine Mn_bEq ?_ ?_ | refine Mn_bN ?_ ?_ | refine Mn_g3 ?_ | refine Mn_g33 ?_ | refine Mn_g66 ?_ | refine Mn_gD ?_
set_option maxRecDepth 100000 in
set_option maxHeartbeats 4000000 in
theorem T_X5_stepTo (l : Launch) (D : va_G) (dA : Nat → ClassId) (b0 : Nat) (jx0 : Int) (jx1 : Int) (jx2 : Int) (σ σE : Hp) (r : Int) (hF : F_X5_stepTo jx0 jx1 jx2 σ = some (r, σE)) : Ct l D dA b0 yX5_stepTo cX5_stepTo 4 none 5 108 [(2, jx0), (2, jx1), (2, jx2)] σ none σE := by
  refine Ct.of (lv0 := [(0, 2, jx0), (1, 2, jx1), (2, 2, jx2)]) (by decide) RX5 rfl (Nat.le_of_ble_eq_true rfl) rfl ?_ (M_X5_stepTo jx0 jx1 jx2 σ r σE hF)
  intro p e R s m args below meth c hX hR hnm
  obtain ⟨Q, hQ⟩ : ∃ Q, Q = Qm D dA b0 σ.1 σ.2.1 below args s none σE := ⟨_, rfl⟩
  rw [← hQ]
  have hE : σE.1 = σE.1 ∧ σE.2.1 = σE.2.1 := ⟨rfl, rfl⟩
  unfold F_X5_stepTo at hF
  refine g_aload_n hX 0 dX5_stepTo_0 rfl rfl ?_
  refine g_get hX fl_X5_9 (by decide) (by decide) dX5_stepTo_1 hF (fun jv1 hF => ?_)
  refine g_aload_n hX 2 dX5_stepTo_4 rfl rfl ?_
  refine g_get hX fl_X5_35 (by decide) (by decide) dX5_stepTo_5 hF (fun jv2 hF => ?_)
  refine g_callV (t := 0) (ci := 4) (rest := []) [(0, jv2)] hX cw_X5_56 rfl (by decide) (by decide) (fun r σ1 h => T_X4_ruleLets l D dA b0  jv1 jv2 σ σ1 r h) ⟨by decide, by decide⟩ rfl rfl (Nat.le_of_ble_eq_true rfl) dX5_stepTo_8 hF (fun jv3 σ4 hF => ?_)
  refine g_istore_n (lv' := [(3, 0, jv3), (0, 2, jx0), (1, 2, jx1), (2, 2, jx2)]) hX dX5_stepTo_11 rfl (by decide) rfl ?_
  refine g_aload_n hX 2 dX5_stepTo_12 rfl rfl ?_
  refine g_iconst hX dX5_stepTo_13 ?_
  refine u_putZ hX fp_X5_29 (by decide) (by decide) dX5_stepTo_14 hF (fun σ5 hF => ?_)
  refine g_aload_n hX 2 dX5_stepTo_17 rfl rfl ?_
  refine g_aload_n hX 1 dX5_stepTo_18 rfl rfl ?_
  refine g_get hX fl_X5_9 (by decide) (by decide) dX5_stepTo_19 hF (fun jv6 hF => ?_)
  refine g_aload_n hX 3 dX5_stepTo_22 rfl rfl ?_
  refine g_get hX fl_X5_35 (by decide) (by decide) dX5_stepTo_23 hF (fun jv7 hF => ?_)
  refine g_iload_n hX 0 dX5_stepTo_26 rfl rfl ?_
  refine g_aload_n hX 2 dX5_stepTo_27 rfl rfl ?_
  refine g_get hX fl_X5_62 (by decide) (by decide) dX5_stepTo_28 hF (fun jv8 hF => ?_)
  refine g_callV (t := 0) (ci := 4) (rest := [(2, jx1)]) [(0, jv7), (0, jv3), (2, jv8)] hX cw_X5_66 rfl (by decide) (by decide) (fun r σ1 h => T_X4_flow l D dA b0  jv6 jv7 jv3 jv8 σ5 σ1 r h) ⟨by decide, by decide⟩ rfl rfl (Nat.le_of_ble_eq_true rfl) dX5_stepTo_31 hF (fun jv9 σ10 hF => ?_)
  refine u_put hX fp_X5_35 (by decide) (by decide) dX5_stepTo_34 hF (fun σ11 hF => ?_)
  refine g_aload_n hX 2 dX5_stepTo_37 rfl rfl ?_
  refine g_aload_n hX 3 dX5_stepTo_38 rfl rfl ?_
  refine g_get hX fl_X5_38 (by decide) (by decide) dX5_stepTo_39 hF (fun jv12 hF => ?_)
  refine g_aload_n hX 1 dX5_stepTo_42 rfl rfl ?_
  refine g_get hX fl_X5_15 (by decide) (by decide) dX5_stepTo_43 hF (fun jv13 hF => ?_)
  refine g_aload_n hX 3 dX5_stepTo_46 rfl rfl ?_
  refine g_callV (t := 0) (ci := 3) (rest := [(0, jv12), (2, jx1)]) [(2, jx2)] hX cw_X5_70 rfl (by decide) (by decide) (fun r σ1 h => T_X3_priceFrom l D dA b0  jv13 jx2 σ11 σ1 r h) ⟨by decide, by decide⟩ rfl rfl (Nat.le_of_ble_eq_true rfl) dX5_stepTo_47 hF (fun jv14 σ15 hF => ?_)
  refine g_aload_n hX 1 dX5_stepTo_50 rfl rfl ?_
  refine g_get hX fl_X5_9 (by decide) (by decide) dX5_stepTo_51 hF (fun jv16 hF => ?_)
  refine g_aload_n hX 3 dX5_stepTo_54 rfl rfl ?_
  refine g_get hX fl_X5_35 (by decide) (by decide) dX5_stepTo_55 hF (fun jv17 hF => ?_)
  refine g_iload_n hX 0 dX5_stepTo_58 rfl rfl ?_
  refine g_callV (t := 0) (ci := 4) (rest := [(0, jv14), (0, jv12), (2, jx1)]) [(0, jv17), (0, jv3)] hX cw_X5_74 rfl (by decide) (by decide) (fun r σ1 h => T_X4_headsTimesLets l D dA b0  jv16 jv17 jv3 σ15 σ1 r h) ⟨by decide, by decide⟩ rfl rfl (Nat.le_of_ble_eq_true rfl) dX5_stepTo_59 hF (fun jv18 σ19 hF => ?_)
  refine g_imul hX dX5_stepTo_62 ?_
  refine g_iadd hX dX5_stepTo_63 ?_
  refine u_put hX fp_X5_38 (by decide) (by decide) dX5_stepTo_64 hF (fun σ20 hF => ?_)
  refine g_aload_n hX 2 dX5_stepTo_67 rfl rfl ?_
  refine g_aload_n hX 3 dX5_stepTo_68 rfl rfl ?_
  refine g_get hX fl_X5_41 (by decide) (by decide) dX5_stepTo_69 hF (fun jv21 hF => ?_)
  refine g_aload_n hX 2 dX5_stepTo_72 rfl rfl ?_
  refine g_get hX fl_X5_78 (by decide) (by decide) dX5_stepTo_73 hF (fun jv22 hF => ?_)
  refine g_i2l hX dX5_stepTo_76 hF (fun hF => ?_)
  refine g_lmul hX dX5_stepTo_77 ?_
  refine u_put hX fp_X5_41 (by decide) (by decide) dX5_stepTo_78 hF (fun σ23 hF => ?_)
  refine g_aload_n hX 2 dX5_stepTo_81 rfl rfl ?_
  refine g_aload_n hX 3 dX5_stepTo_82 rfl rfl ?_
  refine g_get hX fl_X5_45 (by decide) (by decide) dX5_stepTo_83 hF (fun jv24 hF => ?_)
  refine g_if_ne (tgt := 103) hX dX5_stepTo_86 (by decide) hF (fun hc hF => ?_) (fun hc hF => ?_)
  · refine g_aload_n hX 1 dX5_stepTo_89 rfl rfl ?_
    refine g_get hX fl_X5_9 (by decide) (by decide) dX5_stepTo_90 hF (fun jv25 hF => ?_)
    refine g_aload_n hX 2 dX5_stepTo_93 rfl rfl ?_
    refine g_get hX fl_X5_35 (by decide) (by decide) dX5_stepTo_94 hF (fun jv26 hF => ?_)
    refine g_callV (t := 0) (ci := 4) (rest := [(2, jx1)]) [(0, jv26)] hX cw_X5_81 rfl (by decide) (by decide) (fun r σ1 h => T_X4_isBelowLeast l D dA b0  jv25 jv26 σ23 σ1 r h) ⟨by decide, by decide⟩ rfl rfl (Nat.le_of_ble_eq_true rfl) dX5_stepTo_97 hF (fun jv27 σ28 hF => ?_)
    refine g_if_eq (tgt := 107) hX dX5_stepTo_100 (by decide) hF (fun hc hF => ?_) (fun hc hF => ?_)
    · refine g_iconst hX dX5_stepTo_107 ?_
      refine g_lvp (lv' := []) [] rfl ?_
      exact T_X5_stepTo_B108 hX hR hnm hQ hE  0 jx1  σ28 hF
    · refine g_lvp (lv' := []) [] rfl ?_
      exact T_X5_stepTo_B103 hX hR hnm hQ hE  jx1  σ28 hF
  · refine g_lvp (lv' := []) [] rfl ?_
    exact T_X5_stepTo_B103 hX hR hnm hQ hE  jx1  σ23 hF
end

section
variable {p : Program} {l : Launch} {e : Env} {R : Room} {s : State} {m : MethodId} {args : Array Value} {below : List Frame} {meth : Method} {c : Code} {D : va_G} {dA : Nat → ClassId} {b0 n0 m0 nE mE : Nat} {Q : State → Prop}
def F_X5_go_B116 (k64 : Int → Hp → Option (Int × Hp)) (jx0 : Int) (jx3 : Int) (σ : Hp) : Option (Int × Hp) :=
  k64 (jx3 + 1) σ
theorem M_X5_go_B116 (k64 : Int → Hp → Option (Int × Hp)) (hk64 : ∀ (jx3 : Int) (σ : Hp), Mn σ (k64 jx3 σ)) (jx0 : Int) (jx3 : Int) (σ : Hp) : Mn σ (F_X5_go_B116 k64 jx0 jx3 σ) := by
  unfold F_X5_go_B116
  repeat' first | exact Mn_ret | exact Mn_rz | exact hk64 _  _ | refine Mn_nm (fun _ => ?_) | refine Mn_nab (fun _ _ => ?_) | refine Mn_nwb (fun _ _ => ?_) | refine Mn_pw (fun _ => ?_) | refine Mn_pz (fun _ => ?_) | refine Mn_aw (fun _ => ?_) | refine Mn_az (fun _ => ?_) | refine Mn_aq (fun _ => ?_) | refine Mn_bo (fun _ => ?_) | refine Mn_bd ?_ (fun _ _ => ?_) | refine Mn_iv ?_ | refine Mn_bLt ?_ ?_ | refine Mn_bLe ?_ ?_ | refine Mn_bEq ?_ ?_ | refine Mn_bN ?_ ?_ | refine Mn_g3 ?_ | refine Mn_g33 ?_ | refine Mn_g66 ?_ | refine Mn_gD ?_
set_option maxRecDepth 100000 in
set_option maxHeartbeats 4000000 in
theorem T_X5_go_B116 {r : Int} {σE : Hp} (hX : Cx p R s m args meth c D dA b0 n0 m0 5 nE mE cX5_go RX5 6 131) (hR : Rx meth none) (hnm : meth.name = yX5_go.name) (hQ : Q = Qm D dA b0 n0 m0 below args s none σE) (hE : nE = σE.1 ∧ mE = σE.2.1) (k64 : Int → Hp → Option (Int × Hp)) (jx0 : Int) (jx3 : Int) (hk64 : ∀ (jx3 : Int) (σ : Hp), k64 jx3 σ = some (r, σE) → G p l e R s m args below meth c D dA b0 n0 m0 5 nE mE Q 64 [(0, 2, jx0), (3, 0, jx3)] [] σ) (σ : Hp) (hF : F_X5_go_B116 k64 jx0 jx3 σ = some (r, σE)) : G p l e R s m args below meth c D dA b0 n0 m0 5 nE mE Q 116 [(0, 2, jx0), (3, 0, jx3)] [] σ := by
  unfold F_X5_go_B116 at hF
  refine g_iinc (lv' := [(3, 0, (jx3 + 1)), (0, 2, jx0)]) hX 1 dX5_go_116 rfl (by decide) rfl ?_
  refine g_goto (tgt := 64) hX dX5_go_119 (by decide) ?_
  refine g_lvp (lv' := [(0, 2, jx0), (3, 0, (jx3 + 1))]) [1, 0] rfl ?_
  exact hk64 (jx3 + 1) σ hF
def F_X5_go_L64 (jx0 : Int) : Nat → Int → Hp → Option (Int × Hp)
  | 0, _, _ => none
  | n + 1, jx3, σ => (rd 6 σ jx0 1).bind fun jv12 => (rd 4 σ jv12 2).bind fun jv13 => bLt jx3 jv13 ((rd 6 σ jx0 1).bind fun jv14 => (rd 4 σ jv14 0).bind fun jv15 => (ar 15 σ jv15 jx3).bind fun jv16 => (rd 2 σ jv16 3).bind fun jv17 => bN jv17 (F_X5_go_B116 (F_X5_go_L64 jx0 n) jx0 jx3  σ) ((rd 2 σ jv16 3).bind fun jv18 => (rd 2 σ jv18 11).bind fun jv19 => bEq jv19 0 (F_X5_go_B116 (F_X5_go_L64 jx0 n) jx0 jx3  σ) ((rd 2 σ jv16 3).bind fun jv20 => bd (iv 6 σ jx0 (F_X5_stepTo  jx0 jv16 jv20 σ)) fun jv21 σ22 => F_X5_go_B116 (F_X5_go_L64 jx0 n) jx0 jx3  σ22))) (some (0, σ))
theorem M_X5_go_L64 (jx0 : Int) : ∀ (n : Nat) (jx3 : Int) (σ : Hp), Mn σ (F_X5_go_L64 jx0 n jx3 σ) := by
  intro n
  induction n with
  | zero => intros; rw [F_X5_go_L64]; exact Mn_none
  | succ n hk64 =>
    intros
    rw [F_X5_go_L64]
    repeat' first | exact Mn_ret | exact Mn_rz | exact hk64 _  _ | exact M_X5_go_B116 (F_X5_go_L64 jx0 n) hk64 _ _  _ | exact M_X5_stepTo _ _ _ _ | refine Mn_nm (fun _ => ?_) | refine Mn_nab (fun _ _ => ?_) | refine Mn_nwb (fun _ _ => ?_) | refine Mn_pw (fun _ => ?_) | refine Mn_pz (fun _ => ?_) | refine Mn_aw (fun _ => ?_) | refine Mn_az (fun _ => ?_) | refine Mn_aq (fun _ => ?_) | refine Mn_bo (fun _ => ?_) | refine Mn_bd ?_ (fun _ _ => ?_) | refine Mn_iv ?_ | refine Mn_bLt ?_ ?_ | refine Mn_bLe ?_ ?_ | refine Mn_bEq ?_ ?_ | refine Mn_bN ?_ ?_ | refine Mn_g3 ?_ | refine Mn_g33 ?_ | refine Mn_g66 ?_ | refine Mn_gD ?_
set_option maxRecDepth 100000 in
set_option maxHeartbeats 4000000 in
theorem T_X5_go_L64 {r : Int} {σE : Hp} (hX : Cx p R s m args meth c D dA b0 n0 m0 5 nE mE cX5_go RX5 6 131) (hR : Rx meth none) (hnm : meth.name = yX5_go.name) (hQ : Q = Qm D dA b0 n0 m0 below args s none σE) (hE : nE = σE.1 ∧ mE = σE.2.1) (jx0 : Int) : ∀ (n : Nat) (jx3 : Int) (σ : Hp), F_X5_go_L64 jx0 n jx3 σ = some (r, σE) → G p l e R s m args below meth c D dA b0 n0 m0 5 nE mE Q 64 [(0, 2, jx0), (3, 0, jx3)] [] σ := by
  intro n
  induction n with
  | zero =>
    intro jx3 σ hF
    rw [F_X5_go_L64] at hF
    cases hF
  | succ n hk64 =>
    intro jx3 σ hF
    rw [F_X5_go_L64] at hF
    refine g_iload_n hX 1 dX5_go_64 rfl rfl ?_
    refine g_aload_n hX 0 dX5_go_65 rfl rfl ?_
    refine g_get hX fl_X5_15 (by decide) (by decide) dX5_go_66 hF (fun jv12 hF => ?_)
    refine g_get hX fl_X5_19 (by decide) (by decide) dX5_go_69 hF (fun jv13 hF => ?_)
    refine g_icmp_ge (tgt := 122) hX dX5_go_72 (by decide) hF (fun hc hF => ?_) (fun hc hF => ?_)
    · refine g_aload_n hX 0 dX5_go_75 rfl rfl ?_
      refine g_get hX fl_X5_15 (by decide) (by decide) dX5_go_76 hF (fun jv14 hF => ?_)
      refine g_get hX fl_X5_25 (by decide) (by decide) dX5_go_79 hF (fun jv15 hF => ?_)
      refine g_iload_n hX 1 dX5_go_82 rfl rfl ?_
      refine g_aald hX (by decide) dX5_go_83 hF (fun jv16 hF => ?_)
      refine g_astore (lv' := [(4, 2, jv16), (0, 2, jx0), (3, 0, jx3)]) hX dX5_go_84 (by decide) rfl ?_
      refine g_aload hX 0 dX5_go_86 rfl ?_
      refine g_get hX fl_X5_48 (by decide) (by decide) dX5_go_88 hF (fun jv17 hF => ?_)
      refine g_ifnull (tgt := 116) hX dX5_go_91 (by decide) hF (fun hc hF => ?_) (fun hc hF => ?_)
      · refine g_lvp (lv' := [(0, 2, jx0), (3, 0, jx3)]) [1, 2] rfl ?_
        exact T_X5_go_B116 hX hR hnm hQ hE (F_X5_go_L64 jx0 n) jx0 jx3  hk64  σ hF
      · refine g_aload hX 0 dX5_go_94 rfl ?_
        refine g_get hX fl_X5_48 (by decide) (by decide) dX5_go_96 hF (fun jv18 hF => ?_)
        refine g_get hX fl_X5_29 (by decide) (by decide) dX5_go_99 hF (fun jv19 hF => ?_)
        refine g_if_eq (tgt := 116) hX dX5_go_102 (by decide) hF (fun hc hF => ?_) (fun hc hF => ?_)
        · refine g_lvp (lv' := [(0, 2, jx0), (3, 0, jx3)]) [1, 2] rfl ?_
          exact T_X5_go_B116 hX hR hnm hQ hE (F_X5_go_L64 jx0 n) jx0 jx3  hk64  σ hF
        · refine g_aload_n hX 1 dX5_go_105 rfl rfl ?_
          refine g_aload hX 0 dX5_go_106 rfl ?_
          refine g_aload hX 0 dX5_go_108 rfl ?_
          refine g_get hX fl_X5_48 (by decide) (by decide) dX5_go_110 hF (fun jv20 hF => ?_)
          refine g_callVv (ci := 5) (rest := []) [(2, jv16), (2, jv20)] hX cw_X5_52 rfl (by decide) (by decide) (fun r σ1 h => T_X5_stepTo l D dA b0  jx0 jv16 jv20 σ σ1 r h) ⟨by decide, by decide⟩ rfl rfl (Nat.le_of_ble_eq_true rfl) dX5_go_113 hF (fun jv21 σ22 hF => ?_)
          refine g_lvp (lv' := [(0, 2, jx0), (3, 0, jx3)]) [1, 2] rfl ?_
          exact T_X5_go_B116 hX hR hnm hQ hE (F_X5_go_L64 jx0 n) jx0 jx3  hk64  σ22 hF
    · exact g_vret hX hR hQ hE dX5_go_122 hF
def F_X5_go_L7 (jx0 : Int) (jx1 : Int) (jx2 : Int) : Nat → Int → Hp → Option (Int × Hp)
  | 0, _, _ => none
  | n + 1, jx3, σ => (rd 6 σ jx0 1).bind fun jv1 => (rd 4 σ jv1 2).bind fun jv2 => bLt jx3 jv2 ((rd 6 σ jx0 1).bind fun jv3 => (rd 4 σ jv3 0).bind fun jv4 => (ar 15 σ jv4 jx3).bind fun jv5 => (pz 2 σ jv5 11 0).bind fun σ6 => (F_X5_go_L7 jx0 jx1 jx2 n) (jx3 + 1) σ6) ((pz 2 σ jx1 11 1).bind fun σ7 => (pw 2 σ7 jx1 12 jx2).bind fun σ8 => (pw 2 σ8 jx1 13 0).bind fun σ9 => (pw 2 σ9 jx1 14 1).bind fun σ10 => (pz 2 σ10 jx1 15 0).bind fun σ11 => F_X5_go_L64 jx0 fu 1 σ11)
theorem M_X5_go_L7 (jx0 : Int) (jx1 : Int) (jx2 : Int) : ∀ (n : Nat) (jx3 : Int) (σ : Hp), Mn σ (F_X5_go_L7 jx0 jx1 jx2 n jx3 σ) := by
  intro n
  induction n with
  | zero => intros; rw [F_X5_go_L7]; exact Mn_none
  | succ n hk7 =>
    intros
    rw [F_X5_go_L7]
    repeat' first | exact Mn_ret | exact Mn_rz | exact hk7 _  _ | exact M_X5_go_L64 _ _ _ _ | refine Mn_nm (fun _ => ?_) | refine Mn_nab (fun _ _ => ?_) | refine Mn_nwb (fun _ _ => ?_) | refine Mn_pw (fun _ => ?_) | refine Mn_pz (fun _ => ?_) | refine Mn_aw (fun _ => ?_) | refine Mn_az (fun _ => ?_) | refine Mn_aq (fun _ => ?_) | refine Mn_bo (fun _ => ?_) | refine Mn_bd ?_ (fun _ _ => ?_) | refine Mn_iv ?_ | refine Mn_bLt ?_ ?_ | refine Mn_bLe ?_ ?_ | refine Mn_bEq ?_ ?_ | refine Mn_bN ?_ ?_ | refine Mn_g3 ?_ | refine Mn_g33 ?_ | refine Mn_g66 ?_ | refine Mn_gD ?_
set_option maxRecDepth 100000 in
set_option maxHeartbeats 4000000 in
theorem T_X5_go_L7 {r : Int} {σE : Hp} (hX : Cx p R s m args meth c D dA b0 n0 m0 5 nE mE cX5_go RX5 6 131) (hR : Rx meth none) (hnm : meth.name = yX5_go.name) (hQ : Q = Qm D dA b0 n0 m0 below args s none σE) (hE : nE = σE.1 ∧ mE = σE.2.1) (jx0 : Int) (jx1 : Int) (jx2 : Int) : ∀ (n : Nat) (jx3 : Int) (σ : Hp), F_X5_go_L7 jx0 jx1 jx2 n jx3 σ = some (r, σE) → G p l e R s m args below meth c D dA b0 n0 m0 5 nE mE Q 7 [(0, 2, jx0), (1, 2, jx1), (2, 0, jx2), (3, 0, jx3)] [] σ := by
  intro n
  induction n with
  | zero =>
    intro jx3 σ hF
    rw [F_X5_go_L7] at hF
    cases hF
  | succ n hk7 =>
    intro jx3 σ hF
    rw [F_X5_go_L7] at hF
    refine g_iload_n hX 3 dX5_go_7 rfl rfl ?_
    refine g_aload_n hX 0 dX5_go_8 rfl rfl ?_
    refine g_get hX fl_X5_15 (by decide) (by decide) dX5_go_9 hF (fun jv1 hF => ?_)
    refine g_get hX fl_X5_19 (by decide) (by decide) dX5_go_12 hF (fun jv2 hF => ?_)
    refine g_icmp_ge (tgt := 37) hX dX5_go_15 (by decide) hF (fun hc hF => ?_) (fun hc hF => ?_)
    · refine g_aload_n hX 0 dX5_go_18 rfl rfl ?_
      refine g_get hX fl_X5_15 (by decide) (by decide) dX5_go_19 hF (fun jv3 hF => ?_)
      refine g_get hX fl_X5_25 (by decide) (by decide) dX5_go_22 hF (fun jv4 hF => ?_)
      refine g_iload_n hX 3 dX5_go_25 rfl rfl ?_
      refine g_aald hX (by decide) dX5_go_26 hF (fun jv5 hF => ?_)
      refine g_iconst hX dX5_go_27 ?_
      refine u_putZ hX fp_X5_29 (by decide) (by decide) dX5_go_28 hF (fun σ6 hF => ?_)
      refine g_iinc (lv' := [(3, 0, (jx3 + 1)), (0, 2, jx0), (1, 2, jx1), (2, 0, jx2)]) hX 3 dX5_go_31 rfl (by decide) rfl ?_
      refine g_goto (tgt := 7) hX dX5_go_34 (by decide) ?_
      refine g_lvp (lv' := [(0, 2, jx0), (1, 2, jx1), (2, 0, jx2), (3, 0, (jx3 + 1))]) [1, 2, 3, 0] rfl ?_
      exact hk7 (jx3 + 1) σ6 hF
    · refine g_aload_n hX 1 dX5_go_37 rfl rfl ?_
      refine g_iconst hX dX5_go_38 ?_
      refine u_putZ hX fp_X5_29 (by decide) (by decide) dX5_go_39 hF (fun σ7 hF => ?_)
      refine g_aload_n hX 1 dX5_go_42 rfl rfl ?_
      refine g_iload_n hX 2 dX5_go_43 rfl rfl ?_
      refine u_put hX fp_X5_35 (by decide) (by decide) dX5_go_44 hF (fun σ8 hF => ?_)
      refine g_aload_n hX 1 dX5_go_47 rfl rfl ?_
      refine g_iconst hX dX5_go_48 ?_
      refine u_put hX fp_X5_38 (by decide) (by decide) dX5_go_49 hF (fun σ9 hF => ?_)
      refine g_aload_n hX 1 dX5_go_52 rfl rfl ?_
      refine g_lconst (z := 1) hX dX5_go_53 rfl ?_
      refine u_put hX fp_X5_41 (by decide) (by decide) dX5_go_54 hF (fun σ10 hF => ?_)
      refine g_aload_n hX 1 dX5_go_57 rfl rfl ?_
      refine g_iconst hX dX5_go_58 ?_
      refine u_putZ hX fp_X5_45 (by decide) (by decide) dX5_go_59 hF (fun σ11 hF => ?_)
      refine g_iconst hX dX5_go_62 ?_
      refine g_istore_n (lv' := [(3, 0, 1), (0, 2, jx0), (1, 2, jx1), (2, 0, jx2)]) hX dX5_go_63 rfl (by decide) rfl ?_
      refine g_lvp (lv' := [(0, 2, jx0), (3, 0, 1)]) [1, 0] rfl ?_
      exact T_X5_go_L64 hX hR hnm hQ hE jx0  fu 1 σ11 hF
def F_X5_go (jx0 : Int) (jx1 : Int) (jx2 : Int) (σ : Hp) : Option (Int × Hp) :=
  bN jx1 (some (0, σ)) (F_X5_go_L7 jx0 jx1 jx2 fu 0 σ)
theorem M_X5_go (jx0 : Int) (jx1 : Int) (jx2 : Int) (σ : Hp) : Mn σ (F_X5_go jx0 jx1 jx2 σ) := by
  unfold F_X5_go
  repeat' first | exact Mn_ret | exact Mn_rz | exact M_X5_go_L7 _ _ _ _ _ _ | refine Mn_nm (fun _ => ?_) | refine Mn_nab (fun _ _ => ?_) | refine Mn_nwb (fun _ _ => ?_) | refine Mn_pw (fun _ => ?_) | refine Mn_pz (fun _ => ?_) | refine Mn_aw (fun _ => ?_) | refine Mn_az (fun _ => ?_) | refine Mn_aq (fun _ => ?_) | refine Mn_bo (fun _ => ?_) | refine Mn_bd ?_ (fun _ _ => ?_) | refine Mn_iv ?_ | refine Mn_bLt ?_ ?_ | refine Mn_bLe ?_ ?_ | refine Mn_bEq ?_ ?_ | refine Mn_bN ?_ ?_ | refine Mn_g3 ?_ | refine Mn_g33 ?_ | refine Mn_g66 ?_ | refine Mn_gD ?_
set_option maxRecDepth 100000 in
set_option maxHeartbeats 4000000 in
theorem T_X5_go (l : Launch) (D : va_G) (dA : Nat → ClassId) (b0 : Nat) (jx0 : Int) (jx1 : Int) (jx2 : Int) (σ σE : Hp) (r : Int) (hF : F_X5_go jx0 jx1 jx2 σ = some (r, σE)) : Ct l D dA b0 yX5_go cX5_go 5 none 6 131 [(2, jx0), (2, jx1), (0, jx2)] σ none σE := by
  refine Ct.of (lv0 := [(0, 2, jx0), (1, 2, jx1), (2, 0, jx2)]) (by decide) RX5 rfl (Nat.le_of_ble_eq_true rfl) rfl ?_ (M_X5_go jx0 jx1 jx2 σ r σE hF)
  intro p e R s m args below meth c hX hR hnm
  obtain ⟨Q, hQ⟩ : ∃ Q, Q = Qm D dA b0 σ.1 σ.2.1 below args s none σE := ⟨_, rfl⟩
  rw [← hQ]
  have hE : σE.1 = σE.1 ∧ σE.2.1 = σE.2.1 := ⟨rfl, rfl⟩
  unfold F_X5_go at hF
  refine g_aload_n hX 1 dX5_go_0 rfl rfl ?_
  refine g_ifnonnull (tgt := 5) hX dX5_go_1 (by decide) hF (fun hc hF => ?_) (fun hc hF => ?_)
  · exact g_vret hX hR hQ hE dX5_go_4 hF
  · refine g_iconst hX dX5_go_5 ?_
    refine g_istore_n (lv' := [(3, 0, 0), (0, 2, jx0), (1, 2, jx1), (2, 0, jx2)]) hX dX5_go_6 rfl (by decide) rfl ?_
    refine g_lvp (lv' := [(0, 2, jx0), (1, 2, jx1), (2, 0, jx2), (3, 0, 0)]) [1, 2, 3, 0] rfl ?_
    exact T_X5_go_L7 hX hR hnm hQ hE jx0 jx1 jx2  fu 0 σ hF
end

section
variable {p : Program} {l : Launch} {e : Env} {R : Room} {s : State} {m : MethodId} {args : Array Value} {below : List Frame} {meth : Method} {c : Code} {D : va_G} {dA : Nat → ClassId} {b0 n0 m0 nE mE : Nat} {Q : State → Prop}
def F_X5_endsCase (jx0 : Int) (jx1 : Int) (σ : Hp) : Option (Int × Hp) :=
  (rd 2 σ jx1 11).bind fun jv1 => bEq jv1 0 (rz 0 σ) ((rd 6 σ jx0 1).bind fun jv2 => bd (iv 4 σ jv2 (F_X3_isLast  jv2 jx1 σ)) fun jv3 σ4 => bEq jv3 0 (rz 0 σ4) (rz 1 σ4))
theorem M_X5_endsCase (jx0 : Int) (jx1 : Int) (σ : Hp) : Mn σ (F_X5_endsCase jx0 jx1 σ) := by
  unfold F_X5_endsCase
  repeat' first | exact Mn_ret | exact Mn_rz | exact M_X3_isLast _ _ _ | refine Mn_nm (fun _ => ?_) | refine Mn_nab (fun _ _ => ?_) | refine Mn_nwb (fun _ _ => ?_) | refine Mn_pw (fun _ => ?_) | refine Mn_pz (fun _ => ?_) | refine Mn_aw (fun _ => ?_) | refine Mn_az (fun _ => ?_) | refine Mn_aq (fun _ => ?_) | refine Mn_bo (fun _ => ?_) | refine Mn_bd ?_ (fun _ _ => ?_) | refine Mn_iv ?_ | refine Mn_bLt ?_ ?_ | refine Mn_bLe ?_ ?_ | refine Mn_bEq ?_ ?_ | refine Mn_bN ?_ ?_ | refine Mn_g3 ?_ | refine Mn_g33 ?_ | refine Mn_g66 ?_ | refine Mn_gD ?_
set_option maxRecDepth 100000 in
set_option maxHeartbeats 4000000 in
theorem T_X5_endsCase (l : Launch) (D : va_G) (dA : Nat → ClassId) (b0 : Nat) (jx0 : Int) (jx1 : Int) (σ σE : Hp) (r : Int) (hF : F_X5_endsCase jx0 jx1 σ = some (r, σE)) : Ct l D dA b0 yX5_endsCase cX5_endsCase 2 (some .boolean) 1 21 [(2, jx0), (2, jx1)] σ (some (pV 0 r)) σE := by
  refine Ct.of (lv0 := [(0, 2, jx0), (1, 2, jx1)]) (by decide) RX5 rfl (Nat.le_of_ble_eq_true rfl) rfl ?_ (M_X5_endsCase jx0 jx1 σ r σE hF)
  intro p e R s m args below meth c hX hR hnm
  obtain ⟨Q, hQ⟩ : ∃ Q, Q = Qm D dA b0 σ.1 σ.2.1 below args s (some (pV 0 r)) σE := ⟨_, rfl⟩
  rw [← hQ]
  have hE : σE.1 = σE.1 ∧ σE.2.1 = σE.2.1 := ⟨rfl, rfl⟩
  unfold F_X5_endsCase at hF
  refine g_aload_n hX 1 dX5_endsCase_0 rfl rfl ?_
  refine g_get hX fl_X5_29 (by decide) (by decide) dX5_endsCase_1 hF (fun jv1 hF => ?_)
  refine g_if_eq (tgt := 22) hX dX5_endsCase_4 (by decide) hF (fun hc hF => ?_) (fun hc hF => ?_)
  · refine g_iconst hX dX5_endsCase_22 ?_
    exact g_zret hX hR hQ hE dX5_endsCase_23 hF
  · refine g_aload_n hX 0 dX5_endsCase_7 rfl rfl ?_
    refine g_get hX fl_X5_15 (by decide) (by decide) dX5_endsCase_8 hF (fun jv2 hF => ?_)
    refine g_aload_n hX 1 dX5_endsCase_11 rfl rfl ?_
    refine g_callV (t := 0) (ci := 3) (rest := []) [(2, jx1)] hX cw_X5_85 rfl (by decide) (by decide) (fun r σ1 h => T_X3_isLast l D dA b0  jv2 jx1 σ σ1 r h) ⟨by decide, by decide⟩ rfl rfl (Nat.le_of_ble_eq_true rfl) dX5_endsCase_12 hF (fun jv3 σ4 hF => ?_)
    refine g_if_eq (tgt := 22) hX dX5_endsCase_15 (by decide) hF (fun hc hF => ?_) (fun hc hF => ?_)
    · refine g_iconst hX dX5_endsCase_22 ?_
      exact g_zret hX hR hQ hE dX5_endsCase_23 hF
    · refine g_iconst hX dX5_endsCase_18 ?_
      refine g_goto (tgt := 23) hX dX5_endsCase_19 (by decide) ?_
      exact g_zret hX hR hQ hE dX5_endsCase_23 hF
end

section
variable {p : Program} {l : Launch} {e : Env} {R : Room} {s : State} {m : MethodId} {args : Array Value} {below : List Frame} {meth : Method} {c : Code} {D : va_G} {dA : Nat → ClassId} {b0 n0 m0 nE mE : Nat} {Q : State → Prop}
def F_X5_totalOf (jx0 : Int) (jx1 : Int) (σ : Hp) : Option (Int × Hp) :=
  (rd 2 σ jx1 13).bind fun jv1 => g3 jv1 ((rd 6 σ jx0 0).bind fun jv2 => (rd 2 σ jx1 12).bind fun jv3 => bd (iv 5 σ jv2 (F_X4_endWorth  jv2 jv3 σ)) fun jv4 σ5 => some ((jv1 + jv4), σ5))
theorem M_X5_totalOf (jx0 : Int) (jx1 : Int) (σ : Hp) : Mn σ (F_X5_totalOf jx0 jx1 σ) := by
  unfold F_X5_totalOf
  repeat' first | exact Mn_ret | exact Mn_rz | exact M_X4_endWorth _ _ _ | refine Mn_nm (fun _ => ?_) | refine Mn_nab (fun _ _ => ?_) | refine Mn_nwb (fun _ _ => ?_) | refine Mn_pw (fun _ => ?_) | refine Mn_pz (fun _ => ?_) | refine Mn_aw (fun _ => ?_) | refine Mn_az (fun _ => ?_) | refine Mn_aq (fun _ => ?_) | refine Mn_bo (fun _ => ?_) | refine Mn_bd ?_ (fun _ _ => ?_) | refine Mn_iv ?_ | refine Mn_bLt ?_ ?_ | refine Mn_bLe ?_ ?_ | refine Mn_bEq ?_ ?_ | refine Mn_bN ?_ ?_ | refine Mn_g3 ?_ | refine Mn_g33 ?_ | refine Mn_g66 ?_ | refine Mn_gD ?_
set_option maxRecDepth 100000 in
set_option maxHeartbeats 4000000 in
theorem T_X5_totalOf (l : Launch) (D : va_G) (dA : Nat → ClassId) (b0 : Nat) (jx0 : Int) (jx1 : Int) (σ σE : Hp) (r : Int) (hF : F_X5_totalOf jx0 jx1 σ = some (r, σE)) : Ct l D dA b0 yX5_totalOf cX5_totalOf 2 (some .long) 2 48 [(2, jx0), (2, jx1)] σ (some (pV 1 r)) σE := by
  refine Ct.of (lv0 := [(0, 2, jx0), (1, 2, jx1)]) (by decide) RX5 rfl (Nat.le_of_ble_eq_true rfl) rfl ?_ (M_X5_totalOf jx0 jx1 σ r σE hF)
  intro p e R s m args below meth c hX hR hnm
  obtain ⟨Q, hQ⟩ : ∃ Q, Q = Qm D dA b0 σ.1 σ.2.1 below args s (some (pV 1 r)) σE := ⟨_, rfl⟩
  rw [← hQ]
  have hE : σE.1 = σE.1 ∧ σE.2.1 = σE.2.1 := ⟨rfl, rfl⟩
  unfold F_X5_totalOf at hF
  refine g_aload_n hX 1 dX5_totalOf_0 rfl rfl ?_
  refine g_get hX fl_X5_38 (by decide) (by decide) dX5_totalOf_1 hF (fun jv1 hF => ?_)
  refine g_i2l hX dX5_totalOf_4 hF (fun hF => ?_)
  refine g_aload_n hX 0 dX5_totalOf_5 rfl rfl ?_
  refine g_get hX fl_X5_9 (by decide) (by decide) dX5_totalOf_6 hF (fun jv2 hF => ?_)
  refine g_aload_n hX 1 dX5_totalOf_9 rfl rfl ?_
  refine g_get hX fl_X5_35 (by decide) (by decide) dX5_totalOf_10 hF (fun jv3 hF => ?_)
  refine g_callV (t := 1) (ci := 4) (rest := [(1, jv1)]) [(0, jv3)] hX cw_X5_89 rfl (by decide) (by decide) (fun r σ1 h => T_X4_endWorth l D dA b0  jv2 jv3 σ σ1 r h) ⟨by decide, by decide⟩ rfl rfl (Nat.le_of_ble_eq_true rfl) dX5_totalOf_13 hF (fun jv4 σ5 hF => ?_)
  refine g_ladd hX dX5_totalOf_16 ?_
  exact g_lret hX hR hQ hE dX5_totalOf_17 hF
end

section
variable {p : Program} {l : Launch} {e : Env} {R : Room} {s : State} {m : MethodId} {args : Array Value} {below : List Frame} {meth : Method} {c : Code} {D : va_G} {dA : Nat → ClassId} {b0 n0 m0 nE mE : Nat} {Q : State → Prop}
def F_X5_allCases_B34 (k4 : Int → Int → Hp → Option (Int × Hp)) (jx0 : Int) (jx1 : Int) (jx2 : Int) (σ : Hp) : Option (Int × Hp) :=
  k4 jx1 (jx2 + 1) σ
theorem M_X5_allCases_B34 (k4 : Int → Int → Hp → Option (Int × Hp)) (hk4 : ∀ (jx1 : Int) (jx2 : Int) (σ : Hp), Mn σ (k4 jx1 jx2 σ)) (jx0 : Int) (jx1 : Int) (jx2 : Int) (σ : Hp) : Mn σ (F_X5_allCases_B34 k4 jx0 jx1 jx2 σ) := by
  unfold F_X5_allCases_B34
  repeat' first | exact Mn_ret | exact Mn_rz | exact hk4 _ _  _ | refine Mn_nm (fun _ => ?_) | refine Mn_nab (fun _ _ => ?_) | refine Mn_nwb (fun _ _ => ?_) | refine Mn_pw (fun _ => ?_) | refine Mn_pz (fun _ => ?_) | refine Mn_aw (fun _ => ?_) | refine Mn_az (fun _ => ?_) | refine Mn_aq (fun _ => ?_) | refine Mn_bo (fun _ => ?_) | refine Mn_bd ?_ (fun _ _ => ?_) | refine Mn_iv ?_ | refine Mn_bLt ?_ ?_ | refine Mn_bLe ?_ ?_ | refine Mn_bEq ?_ ?_ | refine Mn_bN ?_ ?_ | refine Mn_g3 ?_ | refine Mn_g33 ?_ | refine Mn_g66 ?_ | refine Mn_gD ?_
set_option maxRecDepth 100000 in
set_option maxHeartbeats 4000000 in
theorem T_X5_allCases_B34 {r : Int} {σE : Hp} (hX : Cx p R s m args meth c D dA b0 n0 m0 3 nE mE cX5_allCases RX5 2 42) (hR : Rx meth (some .int)) (hnm : meth.name = yX5_allCases.name) (hQ : Q = Qm D dA b0 n0 m0 below args s (some (pV 0 r)) σE) (hE : nE = σE.1 ∧ mE = σE.2.1) (k4 : Int → Int → Hp → Option (Int × Hp)) (jx0 : Int) (jx1 : Int) (jx2 : Int) (hk4 : ∀ (jx1 : Int) (jx2 : Int) (σ : Hp), k4 jx1 jx2 σ = some (r, σE) → G p l e R s m args below meth c D dA b0 n0 m0 3 nE mE Q 4 [(0, 2, jx0), (1, 0, jx1), (2, 0, jx2)] [] σ) (σ : Hp) (hF : F_X5_allCases_B34 k4 jx0 jx1 jx2 σ = some (r, σE)) : G p l e R s m args below meth c D dA b0 n0 m0 3 nE mE Q 34 [(0, 2, jx0), (1, 0, jx1), (2, 0, jx2)] [] σ := by
  unfold F_X5_allCases_B34 at hF
  refine g_iinc (lv' := [(2, 0, (jx2 + 1)), (0, 2, jx0), (1, 0, jx1)]) hX 2 dX5_allCases_34 rfl (by decide) rfl ?_
  refine g_goto (tgt := 4) hX dX5_allCases_37 (by decide) ?_
  refine g_lvp (lv' := [(0, 2, jx0), (1, 0, jx1), (2, 0, (jx2 + 1))]) [1, 2, 0] rfl ?_
  exact hk4 jx1 (jx2 + 1) σ hF
def F_X5_allCases_L4 (jx0 : Int) : Nat → Int → Int → Hp → Option (Int × Hp)
  | 0, _, _, _ => none
  | n + 1, jx1, jx2, σ => (rd 6 σ jx0 1).bind fun jv1 => (rd 4 σ jv1 2).bind fun jv2 => bLt jx2 jv2 ((rd 6 σ jx0 1).bind fun jv3 => (rd 4 σ jv3 0).bind fun jv4 => (ar 15 σ jv4 jx2).bind fun jv5 => bd (iv 6 σ jx0 (F_X5_endsCase  jx0 jv5 σ)) fun jv6 σ7 => bEq jv6 0 (F_X5_allCases_B34 (F_X5_allCases_L4 jx0 n) jx0 jx1 jx2  σ7) (F_X5_allCases_B34 (F_X5_allCases_L4 jx0 n) jx0 (jx1 + 1) jx2  σ7)) (some (jx1, σ))
theorem M_X5_allCases_L4 (jx0 : Int) : ∀ (n : Nat) (jx1 : Int) (jx2 : Int) (σ : Hp), Mn σ (F_X5_allCases_L4 jx0 n jx1 jx2 σ) := by
  intro n
  induction n with
  | zero => intros; rw [F_X5_allCases_L4]; exact Mn_none
  | succ n hk4 =>
    intros
    rw [F_X5_allCases_L4]
    repeat' first | exact Mn_ret | exact Mn_rz | exact hk4 _ _  _ | exact M_X5_endsCase _ _ _ | exact M_X5_allCases_B34 (F_X5_allCases_L4 jx0 n) hk4 _ _ _  _ | refine Mn_nm (fun _ => ?_) | refine Mn_nab (fun _ _ => ?_) | refine Mn_nwb (fun _ _ => ?_) | refine Mn_pw (fun _ => ?_) | refine Mn_pz (fun _ => ?_) | refine Mn_aw (fun _ => ?_) | refine Mn_az (fun _ => ?_) | refine Mn_aq (fun _ => ?_) | refine Mn_bo (fun _ => ?_) | refine Mn_bd ?_ (fun _ _ => ?_) | refine Mn_iv ?_ | refine Mn_bLt ?_ ?_ | refine Mn_bLe ?_ ?_ | refine Mn_bEq ?_ ?_ | refine Mn_bN ?_ ?_ | refine Mn_g3 ?_ | refine Mn_g33 ?_ | refine Mn_g66 ?_ | refine Mn_gD ?_
set_option maxRecDepth 100000 in
set_option maxHeartbeats 4000000 in
theorem T_X5_allCases_L4 {r : Int} {σE : Hp} (hX : Cx p R s m args meth c D dA b0 n0 m0 3 nE mE cX5_allCases RX5 2 42) (hR : Rx meth (some .int)) (hnm : meth.name = yX5_allCases.name) (hQ : Q = Qm D dA b0 n0 m0 below args s (some (pV 0 r)) σE) (hE : nE = σE.1 ∧ mE = σE.2.1) (jx0 : Int) : ∀ (n : Nat) (jx1 : Int) (jx2 : Int) (σ : Hp), F_X5_allCases_L4 jx0 n jx1 jx2 σ = some (r, σE) → G p l e R s m args below meth c D dA b0 n0 m0 3 nE mE Q 4 [(0, 2, jx0), (1, 0, jx1), (2, 0, jx2)] [] σ := by
  intro n
  induction n with
  | zero =>
    intro jx1 jx2 σ hF
    rw [F_X5_allCases_L4] at hF
    cases hF
  | succ n hk4 =>
    intro jx1 jx2 σ hF
    rw [F_X5_allCases_L4] at hF
    refine g_iload_n hX 2 dX5_allCases_4 rfl rfl ?_
    refine g_aload_n hX 0 dX5_allCases_5 rfl rfl ?_
    refine g_get hX fl_X5_15 (by decide) (by decide) dX5_allCases_6 hF (fun jv1 hF => ?_)
    refine g_get hX fl_X5_19 (by decide) (by decide) dX5_allCases_9 hF (fun jv2 hF => ?_)
    refine g_icmp_ge (tgt := 40) hX dX5_allCases_12 (by decide) hF (fun hc hF => ?_) (fun hc hF => ?_)
    · refine g_aload_n hX 0 dX5_allCases_15 rfl rfl ?_
      refine g_aload_n hX 0 dX5_allCases_16 rfl rfl ?_
      refine g_get hX fl_X5_15 (by decide) (by decide) dX5_allCases_17 hF (fun jv3 hF => ?_)
      refine g_get hX fl_X5_25 (by decide) (by decide) dX5_allCases_20 hF (fun jv4 hF => ?_)
      refine g_iload_n hX 2 dX5_allCases_23 rfl rfl ?_
      refine g_aald hX (by decide) dX5_allCases_24 hF (fun jv5 hF => ?_)
      refine g_callV (t := 0) (ci := 5) (rest := []) [(2, jv5)] hX cw_X5_93 rfl (by decide) (by decide) (fun r σ1 h => T_X5_endsCase l D dA b0  jx0 jv5 σ σ1 r h) ⟨by decide, by decide⟩ rfl rfl (Nat.le_of_ble_eq_true rfl) dX5_allCases_25 hF (fun jv6 σ7 hF => ?_)
      refine g_if_eq (tgt := 34) hX dX5_allCases_28 (by decide) hF (fun hc hF => ?_) (fun hc hF => ?_)
      · exact T_X5_allCases_B34 hX hR hnm hQ hE (F_X5_allCases_L4 jx0 n) jx0 jx1 jx2  hk4  σ7 hF
      · refine g_iinc (lv' := [(1, 0, (jx1 + 1)), (0, 2, jx0), (2, 0, jx2)]) hX 1 dX5_allCases_31 rfl (by decide) rfl ?_
        refine g_lvp (lv' := [(0, 2, jx0), (1, 0, (jx1 + 1)), (2, 0, jx2)]) [1, 0, 2] rfl ?_
        exact T_X5_allCases_B34 hX hR hnm hQ hE (F_X5_allCases_L4 jx0 n) jx0 (jx1 + 1) jx2  hk4  σ7 hF
    · refine g_iload_n hX 1 dX5_allCases_40 rfl rfl ?_
      exact g_iret hX hR hQ hE dX5_allCases_41 hF
def F_X5_allCases (jx0 : Int) (σ : Hp) : Option (Int × Hp) :=
  F_X5_allCases_L4 jx0 fu 0 0 σ
theorem M_X5_allCases (jx0 : Int) (σ : Hp) : Mn σ (F_X5_allCases jx0 σ) := by
  unfold F_X5_allCases
  repeat' first | exact Mn_ret | exact Mn_rz | exact M_X5_allCases_L4 _ _ _ _ _ | refine Mn_nm (fun _ => ?_) | refine Mn_nab (fun _ _ => ?_) | refine Mn_nwb (fun _ _ => ?_) | refine Mn_pw (fun _ => ?_) | refine Mn_pz (fun _ => ?_) | refine Mn_aw (fun _ => ?_) | refine Mn_az (fun _ => ?_) | refine Mn_aq (fun _ => ?_) | refine Mn_bo (fun _ => ?_) | refine Mn_bd ?_ (fun _ _ => ?_) | refine Mn_iv ?_ | refine Mn_bLt ?_ ?_ | refine Mn_bLe ?_ ?_ | refine Mn_bEq ?_ ?_ | refine Mn_bN ?_ ?_ | refine Mn_g3 ?_ | refine Mn_g33 ?_ | refine Mn_g66 ?_ | refine Mn_gD ?_
set_option maxRecDepth 100000 in
set_option maxHeartbeats 4000000 in
theorem T_X5_allCases (l : Launch) (D : va_G) (dA : Nat → ClassId) (b0 : Nat) (jx0 : Int) (σ σE : Hp) (r : Int) (hF : F_X5_allCases jx0 σ = some (r, σE)) : Ct l D dA b0 yX5_allCases cX5_allCases 3 (some .int) 2 42 [(2, jx0)] σ (some (pV 0 r)) σE := by
  refine Ct.of (lv0 := [(0, 2, jx0)]) (by decide) RX5 rfl (Nat.le_of_ble_eq_true rfl) rfl ?_ (M_X5_allCases jx0 σ r σE hF)
  intro p e R s m args below meth c hX hR hnm
  obtain ⟨Q, hQ⟩ : ∃ Q, Q = Qm D dA b0 σ.1 σ.2.1 below args s (some (pV 0 r)) σE := ⟨_, rfl⟩
  rw [← hQ]
  have hE : σE.1 = σE.1 ∧ σE.2.1 = σE.2.1 := ⟨rfl, rfl⟩
  unfold F_X5_allCases at hF
  refine g_iconst hX dX5_allCases_0 ?_
  refine g_istore_n (lv' := [(1, 0, 0), (0, 2, jx0)]) hX dX5_allCases_1 rfl (by decide) rfl ?_
  refine g_iconst hX dX5_allCases_2 ?_
  refine g_istore_n (lv' := [(2, 0, 0), (1, 0, 0), (0, 2, jx0)]) hX dX5_allCases_3 rfl (by decide) rfl ?_
  refine g_lvp (lv' := [(0, 2, jx0), (1, 0, 0), (2, 0, 0)]) [2, 1, 0] rfl ?_
  exact T_X5_allCases_L4 hX hR hnm hQ hE jx0  fu 0 0 σ hF
end

section
variable {p : Program} {l : Launch} {e : Env} {R : Room} {s : State} {m : MethodId} {args : Array Value} {below : List Frame} {meth : Method} {c : Code} {D : va_G} {dA : Nat → ClassId} {b0 n0 m0 nE mE : Nat} {Q : State → Prop}
def F_X5_meanOfCases_B50 (k4 : Int → Int → Hp → Option (Int × Hp)) (jx0 : Int) (jx1 : Int) (jx3 : Int) (σ : Hp) : Option (Int × Hp) :=
  k4 jx1 (jx3 + 1) σ
theorem M_X5_meanOfCases_B50 (k4 : Int → Int → Hp → Option (Int × Hp)) (hk4 : ∀ (jx1 : Int) (jx3 : Int) (σ : Hp), Mn σ (k4 jx1 jx3 σ)) (jx0 : Int) (jx1 : Int) (jx3 : Int) (σ : Hp) : Mn σ (F_X5_meanOfCases_B50 k4 jx0 jx1 jx3 σ) := by
  unfold F_X5_meanOfCases_B50
  repeat' first | exact Mn_ret | exact Mn_rz | exact hk4 _ _  _ | refine Mn_nm (fun _ => ?_) | refine Mn_nab (fun _ _ => ?_) | refine Mn_nwb (fun _ _ => ?_) | refine Mn_pw (fun _ => ?_) | refine Mn_pz (fun _ => ?_) | refine Mn_aw (fun _ => ?_) | refine Mn_az (fun _ => ?_) | refine Mn_aq (fun _ => ?_) | refine Mn_bo (fun _ => ?_) | refine Mn_bd ?_ (fun _ _ => ?_) | refine Mn_iv ?_ | refine Mn_bLt ?_ ?_ | refine Mn_bLe ?_ ?_ | refine Mn_bEq ?_ ?_ | refine Mn_bN ?_ ?_ | refine Mn_g3 ?_ | refine Mn_g33 ?_ | refine Mn_g66 ?_ | refine Mn_gD ?_
set_option maxRecDepth 100000 in
set_option maxHeartbeats 4000000 in
theorem T_X5_meanOfCases_B50 {r : Int} {σE : Hp} (hX : Cx p R s m args meth c D dA b0 n0 m0 5 nE mE cX5_meanOfCases RX5 3 69) (hR : Rx meth (some .long)) (hnm : meth.name = yX5_meanOfCases.name) (hQ : Q = Qm D dA b0 n0 m0 below args s (some (pV 1 r)) σE) (hE : nE = σE.1 ∧ mE = σE.2.1) (k4 : Int → Int → Hp → Option (Int × Hp)) (jx0 : Int) (jx1 : Int) (jx3 : Int) (hk4 : ∀ (jx1 : Int) (jx3 : Int) (σ : Hp), k4 jx1 jx3 σ = some (r, σE) → G p l e R s m args below meth c D dA b0 n0 m0 5 nE mE Q 4 [(0, 2, jx0), (1, 1, jx1), (3, 0, jx3)] [] σ) (σ : Hp) (hF : F_X5_meanOfCases_B50 k4 jx0 jx1 jx3 σ = some (r, σE)) : G p l e R s m args below meth c D dA b0 n0 m0 5 nE mE Q 50 [(0, 2, jx0), (1, 1, jx1), (3, 0, jx3)] [] σ := by
  unfold F_X5_meanOfCases_B50 at hF
  refine g_iinc (lv' := [(3, 0, (jx3 + 1)), (0, 2, jx0), (1, 1, jx1)]) hX 2 dX5_meanOfCases_50 rfl (by decide) rfl ?_
  refine g_goto (tgt := 4) hX dX5_meanOfCases_53 (by decide) ?_
  refine g_lvp (lv' := [(0, 2, jx0), (1, 1, jx1), (3, 0, (jx3 + 1))]) [1, 2, 0] rfl ?_
  exact hk4 jx1 (jx3 + 1) σ hF
def F_X5_meanOfCases_L4 (jx0 : Int) : Nat → Int → Int → Hp → Option (Int × Hp)
  | 0, _, _, _ => none
  | n + 1, jx1, jx3, σ => (rd 6 σ jx0 1).bind fun jv1 => (rd 4 σ jv1 2).bind fun jv2 => bLt jx3 jv2 ((rd 6 σ jx0 1).bind fun jv3 => (rd 4 σ jv3 0).bind fun jv4 => (ar 15 σ jv4 jx3).bind fun jv5 => bd (iv 6 σ jx0 (F_X5_endsCase  jx0 jv5 σ)) fun jv6 σ7 => bEq jv6 0 (F_X5_meanOfCases_B50 (F_X5_meanOfCases_L4 jx0 n) jx0 jx1 jx3  σ7) ((rd 2 σ7 jv5 14).bind fun jv8 => bd (iv 6 σ7 jx0 (F_X5_totalOf  jx0 jv5 σ7)) fun jv9 σ10 => nm ((jx1 + (jv8 * jv9))) fun jv11 => F_X5_meanOfCases_B50 (F_X5_meanOfCases_L4 jx0 n) jx0 jv11 jx3  σ10)) (some (jx1, σ))
theorem M_X5_meanOfCases_L4 (jx0 : Int) : ∀ (n : Nat) (jx1 : Int) (jx3 : Int) (σ : Hp), Mn σ (F_X5_meanOfCases_L4 jx0 n jx1 jx3 σ) := by
  intro n
  induction n with
  | zero => intros; rw [F_X5_meanOfCases_L4]; exact Mn_none
  | succ n hk4 =>
    intros
    rw [F_X5_meanOfCases_L4]
    repeat' first | exact Mn_ret | exact Mn_rz | exact hk4 _ _  _ | exact M_X5_endsCase _ _ _ | exact M_X5_meanOfCases_B50 (F_X5_meanOfCases_L4 jx0 n) hk4 _ _ _  _ | exact M_X5_totalOf _ _ _ | refine Mn_nm (fun _ => ?_) | refine Mn_nab (fun _ _ => ?_) | refine Mn_nwb (fun _ _ => ?_) | refine Mn_pw (fun _ => ?_) | refine Mn_pz (fun _ => ?_) | refine Mn_aw (fun _ => ?_) | refine Mn_az (fun _ => ?_) | refine Mn_aq (fun _ => ?_) | refine Mn_bo (fun _ => ?_) | refine Mn_bd ?_ (fun _ _ => ?_) | refine Mn_iv ?_ | refine Mn_bLt ?_ ?_ | refine Mn_bLe ?_ ?_ | refine Mn_bEq ?_ ?_ | refine Mn_bN ?_ ?_ | refine Mn_g3 ?_ | refine Mn_g33 ?_ | refine Mn_g66 ?_ | refine Mn_gD ?_
set_option maxRecDepth 100000 in
set_option maxHeartbeats 4000000 in
theorem T_X5_meanOfCases_L4 {r : Int} {σE : Hp} (hX : Cx p R s m args meth c D dA b0 n0 m0 5 nE mE cX5_meanOfCases RX5 3 69) (hR : Rx meth (some .long)) (hnm : meth.name = yX5_meanOfCases.name) (hQ : Q = Qm D dA b0 n0 m0 below args s (some (pV 1 r)) σE) (hE : nE = σE.1 ∧ mE = σE.2.1) (jx0 : Int) : ∀ (n : Nat) (jx1 : Int) (jx3 : Int) (σ : Hp), F_X5_meanOfCases_L4 jx0 n jx1 jx3 σ = some (r, σE) → G p l e R s m args below meth c D dA b0 n0 m0 5 nE mE Q 4 [(0, 2, jx0), (1, 1, jx1), (3, 0, jx3)] [] σ := by
  intro n
  induction n with
  | zero =>
    intro jx1 jx3 σ hF
    rw [F_X5_meanOfCases_L4] at hF
    cases hF
  | succ n hk4 =>
    intro jx1 jx3 σ hF
    rw [F_X5_meanOfCases_L4] at hF
    refine g_iload_n hX 2 dX5_meanOfCases_4 rfl rfl ?_
    refine g_aload_n hX 0 dX5_meanOfCases_5 rfl rfl ?_
    refine g_get hX fl_X5_15 (by decide) (by decide) dX5_meanOfCases_6 hF (fun jv1 hF => ?_)
    refine g_get hX fl_X5_19 (by decide) (by decide) dX5_meanOfCases_9 hF (fun jv2 hF => ?_)
    refine g_icmp_ge (tgt := 56) hX dX5_meanOfCases_12 (by decide) hF (fun hc hF => ?_) (fun hc hF => ?_)
    · refine g_aload_n hX 0 dX5_meanOfCases_15 rfl rfl ?_
      refine g_get hX fl_X5_15 (by decide) (by decide) dX5_meanOfCases_16 hF (fun jv3 hF => ?_)
      refine g_get hX fl_X5_25 (by decide) (by decide) dX5_meanOfCases_19 hF (fun jv4 hF => ?_)
      refine g_iload_n hX 2 dX5_meanOfCases_22 rfl rfl ?_
      refine g_aald hX (by decide) dX5_meanOfCases_23 hF (fun jv5 hF => ?_)
      refine g_astore (lv' := [(4, 2, jv5), (0, 2, jx0), (1, 1, jx1), (3, 0, jx3)]) hX dX5_meanOfCases_24 (by decide) rfl ?_
      refine g_aload_n hX 1 dX5_meanOfCases_26 rfl rfl ?_
      refine g_aload hX 0 dX5_meanOfCases_27 rfl ?_
      refine g_callV (t := 0) (ci := 5) (rest := []) [(2, jv5)] hX cw_X5_93 rfl (by decide) (by decide) (fun r σ1 h => T_X5_endsCase l D dA b0  jx0 jv5 σ σ1 r h) ⟨by decide, by decide⟩ rfl rfl (Nat.le_of_ble_eq_true rfl) dX5_meanOfCases_29 hF (fun jv6 σ7 hF => ?_)
      refine g_if_eq (tgt := 50) hX dX5_meanOfCases_32 (by decide) hF (fun hc hF => ?_) (fun hc hF => ?_)
      · refine g_lvp (lv' := [(0, 2, jx0), (1, 1, jx1), (3, 0, jx3)]) [1, 2, 3] rfl ?_
        exact T_X5_meanOfCases_B50 hX hR hnm hQ hE (F_X5_meanOfCases_L4 jx0 n) jx0 jx1 jx3  hk4  σ7 hF
      · refine g_lload_n hX 2 dX5_meanOfCases_35 rfl rfl ?_
        refine g_aload hX 0 dX5_meanOfCases_36 rfl ?_
        refine g_get hX fl_X5_41 (by decide) (by decide) dX5_meanOfCases_38 hF (fun jv8 hF => ?_)
        refine g_aload_n hX 1 dX5_meanOfCases_41 rfl rfl ?_
        refine g_aload hX 0 dX5_meanOfCases_42 rfl ?_
        refine g_callV (t := 1) (ci := 5) (rest := [(1, jv8), (1, jx1)]) [(2, jv5)] hX cw_X5_96 rfl (by decide) (by decide) (fun r σ1 h => T_X5_totalOf l D dA b0  jx0 jv5 σ7 σ1 r h) ⟨by decide, by decide⟩ rfl rfl (Nat.le_of_ble_eq_true rfl) dX5_meanOfCases_44 hF (fun jv9 σ10 hF => ?_)
        refine g_lmul hX dX5_meanOfCases_47 ?_
        refine g_ladd hX dX5_meanOfCases_48 ?_
        refine g_nm hF (fun jv11 hF => ?_)
        refine g_lstore_n (lv' := [(1, 1, jv11), (4, 2, jv5), (0, 2, jx0), (3, 0, jx3)]) hX dX5_meanOfCases_49 rfl (by decide) rfl ?_
        refine g_lvp (lv' := [(0, 2, jx0), (1, 1, jv11), (3, 0, jx3)]) [2, 0, 3] rfl ?_
        exact T_X5_meanOfCases_B50 hX hR hnm hQ hE (F_X5_meanOfCases_L4 jx0 n) jx0 jv11 jx3  hk4  σ10 hF
    · refine g_lload_n hX 1 dX5_meanOfCases_56 rfl rfl ?_
      exact g_lret hX hR hQ hE dX5_meanOfCases_57 hF
def F_X5_meanOfCases (jx0 : Int) (σ : Hp) : Option (Int × Hp) :=
  F_X5_meanOfCases_L4 jx0 fu 0 0 σ
theorem M_X5_meanOfCases (jx0 : Int) (σ : Hp) : Mn σ (F_X5_meanOfCases jx0 σ) := by
  unfold F_X5_meanOfCases
  repeat' first | exact Mn_ret | exact Mn_rz | exact M_X5_meanOfCases_L4 _ _ _ _ _ | refine Mn_nm (fun _ => ?_) | refine Mn_nab (fun _ _ => ?_) | refine Mn_nwb (fun _ _ => ?_) | refine Mn_pw (fun _ => ?_) | refine Mn_pz (fun _ => ?_) | refine Mn_aw (fun _ => ?_) | refine Mn_az (fun _ => ?_) | refine Mn_aq (fun _ => ?_) | refine Mn_bo (fun _ => ?_) | refine Mn_bd ?_ (fun _ _ => ?_) | refine Mn_iv ?_ | refine Mn_bLt ?_ ?_ | refine Mn_bLe ?_ ?_ | refine Mn_bEq ?_ ?_ | refine Mn_bN ?_ ?_ | refine Mn_g3 ?_ | refine Mn_g33 ?_ | refine Mn_g66 ?_ | refine Mn_gD ?_
set_option maxRecDepth 100000 in
set_option maxHeartbeats 4000000 in
theorem T_X5_meanOfCases (l : Launch) (D : va_G) (dA : Nat → ClassId) (b0 : Nat) (jx0 : Int) (σ σE : Hp) (r : Int) (hF : F_X5_meanOfCases jx0 σ = some (r, σE)) : Ct l D dA b0 yX5_meanOfCases cX5_meanOfCases 5 (some .long) 3 69 [(2, jx0)] σ (some (pV 1 r)) σE := by
  refine Ct.of (lv0 := [(0, 2, jx0)]) (by decide) RX5 rfl (Nat.le_of_ble_eq_true rfl) rfl ?_ (M_X5_meanOfCases jx0 σ r σE hF)
  intro p e R s m args below meth c hX hR hnm
  obtain ⟨Q, hQ⟩ : ∃ Q, Q = Qm D dA b0 σ.1 σ.2.1 below args s (some (pV 1 r)) σE := ⟨_, rfl⟩
  rw [← hQ]
  have hE : σE.1 = σE.1 ∧ σE.2.1 = σE.2.1 := ⟨rfl, rfl⟩
  unfold F_X5_meanOfCases at hF
  refine g_lconst (z := 0) hX dX5_meanOfCases_0 rfl ?_
  refine g_lstore_n (lv' := [(1, 1, 0), (0, 2, jx0)]) hX dX5_meanOfCases_1 rfl (by decide) rfl ?_
  refine g_iconst hX dX5_meanOfCases_2 ?_
  refine g_istore_n (lv' := [(3, 0, 0), (1, 1, 0), (0, 2, jx0)]) hX dX5_meanOfCases_3 rfl (by decide) rfl ?_
  refine g_lvp (lv' := [(0, 2, jx0), (1, 1, 0), (3, 0, 0)]) [2, 1, 0] rfl ?_
  exact T_X5_meanOfCases_L4 hX hR hnm hQ hE jx0  fu 0 0 σ hF
end

section
variable {p : Program} {l : Launch} {e : Env} {R : Room} {s : State} {m : MethodId} {args : Array Value} {below : List Frame} {meth : Method} {c : Code} {D : va_G} {dA : Nat → ClassId} {b0 n0 m0 nE mE : Nat} {Q : State → Prop}
def F_X5_leastOfCases_B61 (k6 : Int → Int → Hp → Option (Int × Hp)) (jx0 : Int) (jx1 : Int) (jx3 : Int) (σ : Hp) : Option (Int × Hp) :=
  k6 jx1 (jx3 + 1) σ
theorem M_X5_leastOfCases_B61 (k6 : Int → Int → Hp → Option (Int × Hp)) (hk6 : ∀ (jx1 : Int) (jx3 : Int) (σ : Hp), Mn σ (k6 jx1 jx3 σ)) (jx0 : Int) (jx1 : Int) (jx3 : Int) (σ : Hp) : Mn σ (F_X5_leastOfCases_B61 k6 jx0 jx1 jx3 σ) := by
  unfold F_X5_leastOfCases_B61
  repeat' first | exact Mn_ret | exact Mn_rz | exact hk6 _ _  _ | refine Mn_nm (fun _ => ?_) | refine Mn_nab (fun _ _ => ?_) | refine Mn_nwb (fun _ _ => ?_) | refine Mn_pw (fun _ => ?_) | refine Mn_pz (fun _ => ?_) | refine Mn_aw (fun _ => ?_) | refine Mn_az (fun _ => ?_) | refine Mn_aq (fun _ => ?_) | refine Mn_bo (fun _ => ?_) | refine Mn_bd ?_ (fun _ _ => ?_) | refine Mn_iv ?_ | refine Mn_bLt ?_ ?_ | refine Mn_bLe ?_ ?_ | refine Mn_bEq ?_ ?_ | refine Mn_bN ?_ ?_ | refine Mn_g3 ?_ | refine Mn_g33 ?_ | refine Mn_g66 ?_ | refine Mn_gD ?_
set_option maxRecDepth 100000 in
set_option maxHeartbeats 4000000 in
theorem T_X5_leastOfCases_B61 {r : Int} {σE : Hp} (hX : Cx p R s m args meth c D dA b0 n0 m0 5 nE mE cX5_leastOfCases RX5 3 69) (hR : Rx meth (some .long)) (hnm : meth.name = yX5_leastOfCases.name) (hQ : Q = Qm D dA b0 n0 m0 below args s (some (pV 1 r)) σE) (hE : nE = σE.1 ∧ mE = σE.2.1) (k6 : Int → Int → Hp → Option (Int × Hp)) (jx0 : Int) (jx1 : Int) (jx3 : Int) (hk6 : ∀ (jx1 : Int) (jx3 : Int) (σ : Hp), k6 jx1 jx3 σ = some (r, σE) → G p l e R s m args below meth c D dA b0 n0 m0 5 nE mE Q 6 [(0, 2, jx0), (1, 1, jx1), (3, 0, jx3)] [] σ) (σ : Hp) (hF : F_X5_leastOfCases_B61 k6 jx0 jx1 jx3 σ = some (r, σE)) : G p l e R s m args below meth c D dA b0 n0 m0 5 nE mE Q 61 [(0, 2, jx0), (1, 1, jx1), (3, 0, jx3)] [] σ := by
  unfold F_X5_leastOfCases_B61 at hF
  refine g_iinc (lv' := [(3, 0, (jx3 + 1)), (0, 2, jx0), (1, 1, jx1)]) hX 2 dX5_leastOfCases_61 rfl (by decide) rfl ?_
  refine g_goto (tgt := 6) hX dX5_leastOfCases_64 (by decide) ?_
  refine g_lvp (lv' := [(0, 2, jx0), (1, 1, jx1), (3, 0, (jx3 + 1))]) [1, 2, 0] rfl ?_
  exact hk6 jx1 (jx3 + 1) σ hF
def F_X5_leastOfCases_B54 (k6 : Int → Int → Hp → Option (Int × Hp)) (jx0 : Int) (jx3 : Int) (jx4 : Int) (σ : Hp) : Option (Int × Hp) :=
  bd (iv 6 σ jx0 (F_X5_totalOf  jx0 jx4 σ)) fun jv8 σ9 => F_X5_leastOfCases_B61 k6 jx0 jv8 jx3  σ9
theorem M_X5_leastOfCases_B54 (k6 : Int → Int → Hp → Option (Int × Hp)) (hk6 : ∀ (jx1 : Int) (jx3 : Int) (σ : Hp), Mn σ (k6 jx1 jx3 σ)) (jx0 : Int) (jx3 : Int) (jx4 : Int) (σ : Hp) : Mn σ (F_X5_leastOfCases_B54 k6 jx0 jx3 jx4 σ) := by
  unfold F_X5_leastOfCases_B54
  repeat' first | exact Mn_ret | exact Mn_rz | exact hk6 _ _  _ | exact M_X5_totalOf _ _ _ | exact M_X5_leastOfCases_B61 k6 hk6 _ _ _  _ | refine Mn_nm (fun _ => ?_) | refine Mn_nab (fun _ _ => ?_) | refine Mn_nwb (fun _ _ => ?_) | refine Mn_pw (fun _ => ?_) | refine Mn_pz (fun _ => ?_) | refine Mn_aw (fun _ => ?_) | refine Mn_az (fun _ => ?_) | refine Mn_aq (fun _ => ?_) | refine Mn_bo (fun _ => ?_) | refine Mn_bd ?_ (fun _ _ => ?_) | refine Mn_iv ?_ | refine Mn_bLt ?_ ?_ | refine Mn_bLe ?_ ?_ | refine Mn_bEq ?_ ?_ | refine Mn_bN ?_ ?_ | refine Mn_g3 ?_ | refine Mn_g33 ?_ | refine Mn_g66 ?_ | refine Mn_gD ?_
set_option maxRecDepth 100000 in
set_option maxHeartbeats 4000000 in
theorem T_X5_leastOfCases_B54 {r : Int} {σE : Hp} (hX : Cx p R s m args meth c D dA b0 n0 m0 5 nE mE cX5_leastOfCases RX5 3 69) (hR : Rx meth (some .long)) (hnm : meth.name = yX5_leastOfCases.name) (hQ : Q = Qm D dA b0 n0 m0 below args s (some (pV 1 r)) σE) (hE : nE = σE.1 ∧ mE = σE.2.1) (k6 : Int → Int → Hp → Option (Int × Hp)) (jx0 : Int) (jx3 : Int) (jx4 : Int) (hk6 : ∀ (jx1 : Int) (jx3 : Int) (σ : Hp), k6 jx1 jx3 σ = some (r, σE) → G p l e R s m args below meth c D dA b0 n0 m0 5 nE mE Q 6 [(0, 2, jx0), (1, 1, jx1), (3, 0, jx3)] [] σ) (σ : Hp) (hF : F_X5_leastOfCases_B54 k6 jx0 jx3 jx4 σ = some (r, σE)) : G p l e R s m args below meth c D dA b0 n0 m0 5 nE mE Q 54 [(0, 2, jx0), (3, 0, jx3), (4, 2, jx4)] [] σ := by
  unfold F_X5_leastOfCases_B54 at hF
  refine g_aload_n hX 0 dX5_leastOfCases_54 rfl rfl ?_
  refine g_aload hX 2 dX5_leastOfCases_55 rfl ?_
  refine g_callV (t := 1) (ci := 5) (rest := []) [(2, jx4)] hX cw_X5_96 rfl (by decide) (by decide) (fun r σ1 h => T_X5_totalOf l D dA b0  jx0 jx4 σ σ1 r h) ⟨by decide, by decide⟩ rfl rfl (Nat.le_of_ble_eq_true rfl) dX5_leastOfCases_57 hF (fun jv8 σ9 hF => ?_)
  refine g_lstore_n (lv' := [(1, 1, jv8), (0, 2, jx0), (3, 0, jx3), (4, 2, jx4)]) hX dX5_leastOfCases_60 rfl (by decide) rfl ?_
  refine g_lvp (lv' := [(0, 2, jx0), (1, 1, jv8), (3, 0, jx3)]) [1, 0, 2] rfl ?_
  exact T_X5_leastOfCases_B61 hX hR hnm hQ hE k6 jx0 jv8 jx3  hk6  σ9 hF
def F_X5_leastOfCases_L6 (jx0 : Int) : Nat → Int → Int → Hp → Option (Int × Hp)
  | 0, _, _, _ => none
  | n + 1, jx1, jx3, σ => (rd 6 σ jx0 1).bind fun jv1 => (rd 4 σ jv1 2).bind fun jv2 => bLt jx3 jv2 ((rd 6 σ jx0 1).bind fun jv3 => (rd 4 σ jv3 0).bind fun jv4 => (ar 15 σ jv4 jx3).bind fun jv5 => bd (iv 6 σ jx0 (F_X5_endsCase  jx0 jv5 σ)) fun jv6 σ7 => bEq jv6 0 (F_X5_leastOfCases_B61 (F_X5_leastOfCases_L6 jx0 n) jx0 jx1 jx3  σ7) (g66 jx1 0 (bLt (cmpL jx1 0) 0 (F_X5_leastOfCases_B54 (F_X5_leastOfCases_L6 jx0 n) jx0 jx3 jv5  σ7) (bd (iv 6 σ7 jx0 (F_X5_totalOf  jx0 jv5 σ7)) fun jv10 σ11 => g66 jv10 jx1 (bLt (cmpL jv10 jx1) 0 (F_X5_leastOfCases_B54 (F_X5_leastOfCases_L6 jx0 n) jx0 jx3 jv5  σ11) (F_X5_leastOfCases_B61 (F_X5_leastOfCases_L6 jx0 n) jx0 jx1 jx3  σ11)))))) (some (jx1, σ))
theorem M_X5_leastOfCases_L6 (jx0 : Int) : ∀ (n : Nat) (jx1 : Int) (jx3 : Int) (σ : Hp), Mn σ (F_X5_leastOfCases_L6 jx0 n jx1 jx3 σ) := by
  intro n
  induction n with
  | zero => intros; rw [F_X5_leastOfCases_L6]; exact Mn_none
  | succ n hk6 =>
    intros
    rw [F_X5_leastOfCases_L6]
    repeat' first | exact Mn_ret | exact Mn_rz | exact hk6 _ _  _ | exact M_X5_endsCase _ _ _ | exact M_X5_leastOfCases_B61 (F_X5_leastOfCases_L6 jx0 n) hk6 _ _ _  _ | exact M_X5_leastOfCases_B54 (F_X5_leastOfCases_L6 jx0 n) hk6 _ _ _  _ | exact M_X5_totalOf _ _ _ | refine Mn_nm (fun _ => ?_) | refine Mn_nab (fun _ _ => ?_) | refine Mn_nwb (fun _ _ => ?_) | refine Mn_pw (fun _ => ?_) | refine Mn_pz (fun _ => ?_) | refine Mn_aw (fun _ => ?_) | refine Mn_az (fun _ => ?_) | refine Mn_aq (fun _ => ?_) | refine Mn_bo (fun _ => ?_) | refine Mn_bd ?_ (fun _ _ => ?_) | refine Mn_iv ?_ | refine Mn_bLt ?_ ?_ | refine Mn_bLe ?_ ?_ | refine Mn_bEq ?_ ?_ | refine Mn_bN ?_ ?_ | refine Mn_g3 ?_ | refine Mn_g33 ?_ | refine Mn_g66 ?_ | refine Mn_gD ?_
set_option maxRecDepth 100000 in
set_option maxHeartbeats 4000000 in
theorem T_X5_leastOfCases_L6 {r : Int} {σE : Hp} (hX : Cx p R s m args meth c D dA b0 n0 m0 5 nE mE cX5_leastOfCases RX5 3 69) (hR : Rx meth (some .long)) (hnm : meth.name = yX5_leastOfCases.name) (hQ : Q = Qm D dA b0 n0 m0 below args s (some (pV 1 r)) σE) (hE : nE = σE.1 ∧ mE = σE.2.1) (jx0 : Int) : ∀ (n : Nat) (jx1 : Int) (jx3 : Int) (σ : Hp), F_X5_leastOfCases_L6 jx0 n jx1 jx3 σ = some (r, σE) → G p l e R s m args below meth c D dA b0 n0 m0 5 nE mE Q 6 [(0, 2, jx0), (1, 1, jx1), (3, 0, jx3)] [] σ := by
  intro n
  induction n with
  | zero =>
    intro jx1 jx3 σ hF
    rw [F_X5_leastOfCases_L6] at hF
    cases hF
  | succ n hk6 =>
    intro jx1 jx3 σ hF
    rw [F_X5_leastOfCases_L6] at hF
    refine g_iload_n hX 2 dX5_leastOfCases_6 rfl rfl ?_
    refine g_aload_n hX 0 dX5_leastOfCases_7 rfl rfl ?_
    refine g_get hX fl_X5_15 (by decide) (by decide) dX5_leastOfCases_8 hF (fun jv1 hF => ?_)
    refine g_get hX fl_X5_19 (by decide) (by decide) dX5_leastOfCases_11 hF (fun jv2 hF => ?_)
    refine g_icmp_ge (tgt := 67) hX dX5_leastOfCases_14 (by decide) hF (fun hc hF => ?_) (fun hc hF => ?_)
    · refine g_aload_n hX 0 dX5_leastOfCases_17 rfl rfl ?_
      refine g_get hX fl_X5_15 (by decide) (by decide) dX5_leastOfCases_18 hF (fun jv3 hF => ?_)
      refine g_get hX fl_X5_25 (by decide) (by decide) dX5_leastOfCases_21 hF (fun jv4 hF => ?_)
      refine g_iload_n hX 2 dX5_leastOfCases_24 rfl rfl ?_
      refine g_aald hX (by decide) dX5_leastOfCases_25 hF (fun jv5 hF => ?_)
      refine g_astore (lv' := [(4, 2, jv5), (0, 2, jx0), (1, 1, jx1), (3, 0, jx3)]) hX dX5_leastOfCases_26 (by decide) rfl ?_
      refine g_aload_n hX 1 dX5_leastOfCases_28 rfl rfl ?_
      refine g_aload hX 0 dX5_leastOfCases_29 rfl ?_
      refine g_callV (t := 0) (ci := 5) (rest := []) [(2, jv5)] hX cw_X5_93 rfl (by decide) (by decide) (fun r σ1 h => T_X5_endsCase l D dA b0  jx0 jv5 σ σ1 r h) ⟨by decide, by decide⟩ rfl rfl (Nat.le_of_ble_eq_true rfl) dX5_leastOfCases_31 hF (fun jv6 σ7 hF => ?_)
      refine g_if_eq (tgt := 61) hX dX5_leastOfCases_34 (by decide) hF (fun hc hF => ?_) (fun hc hF => ?_)
      · refine g_lvp (lv' := [(0, 2, jx0), (1, 1, jx1), (3, 0, jx3)]) [1, 2, 3] rfl ?_
        exact T_X5_leastOfCases_B61 hX hR hnm hQ hE (F_X5_leastOfCases_L6 jx0 n) jx0 jx1 jx3  hk6  σ7 hF
      · refine g_lload_n hX 2 dX5_leastOfCases_37 rfl rfl ?_
        refine g_lconst (z := 0) hX dX5_leastOfCases_38 rfl ?_
        refine g_lcmp hX dX5_leastOfCases_39 hF (fun hF => ?_)
        refine g_if_lt (tgt := 54) hX dX5_leastOfCases_40 (by decide) hF (fun hc hF => ?_) (fun hc hF => ?_)
        · refine g_lvp (lv' := [(0, 2, jx0), (3, 0, jx3), (4, 2, jv5)]) [1, 3, 0] rfl ?_
          exact T_X5_leastOfCases_B54 hX hR hnm hQ hE (F_X5_leastOfCases_L6 jx0 n) jx0 jx3 jv5  hk6  σ7 hF
        · refine g_aload_n hX 1 dX5_leastOfCases_43 rfl rfl ?_
          refine g_aload hX 0 dX5_leastOfCases_44 rfl ?_
          refine g_callV (t := 1) (ci := 5) (rest := []) [(2, jv5)] hX cw_X5_96 rfl (by decide) (by decide) (fun r σ1 h => T_X5_totalOf l D dA b0  jx0 jv5 σ7 σ1 r h) ⟨by decide, by decide⟩ rfl rfl (Nat.le_of_ble_eq_true rfl) dX5_leastOfCases_46 hF (fun jv10 σ11 hF => ?_)
          refine g_lload_n hX 2 dX5_leastOfCases_49 rfl rfl ?_
          refine g_lcmp hX dX5_leastOfCases_50 hF (fun hF => ?_)
          refine g_if_ge (tgt := 61) hX dX5_leastOfCases_51 (by decide) hF (fun hc hF => ?_) (fun hc hF => ?_)
          · refine g_lvp (lv' := [(0, 2, jx0), (3, 0, jx3), (4, 2, jv5)]) [1, 3, 0] rfl ?_
            exact T_X5_leastOfCases_B54 hX hR hnm hQ hE (F_X5_leastOfCases_L6 jx0 n) jx0 jx3 jv5  hk6  σ11 hF
          · refine g_lvp (lv' := [(0, 2, jx0), (1, 1, jx1), (3, 0, jx3)]) [1, 2, 3] rfl ?_
            exact T_X5_leastOfCases_B61 hX hR hnm hQ hE (F_X5_leastOfCases_L6 jx0 n) jx0 jx1 jx3  hk6  σ11 hF
    · refine g_lload_n hX 1 dX5_leastOfCases_67 rfl rfl ?_
      exact g_lret hX hR hQ hE dX5_leastOfCases_68 hF
def F_X5_leastOfCases (jx0 : Int) (σ : Hp) : Option (Int × Hp) :=
  F_X5_leastOfCases_L6 jx0 fu (-1) 0 σ
theorem M_X5_leastOfCases (jx0 : Int) (σ : Hp) : Mn σ (F_X5_leastOfCases jx0 σ) := by
  unfold F_X5_leastOfCases
  repeat' first | exact Mn_ret | exact Mn_rz | exact M_X5_leastOfCases_L6 _ _ _ _ _ | refine Mn_nm (fun _ => ?_) | refine Mn_nab (fun _ _ => ?_) | refine Mn_nwb (fun _ _ => ?_) | refine Mn_pw (fun _ => ?_) | refine Mn_pz (fun _ => ?_) | refine Mn_aw (fun _ => ?_) | refine Mn_az (fun _ => ?_) | refine Mn_aq (fun _ => ?_) | refine Mn_bo (fun _ => ?_) | refine Mn_bd ?_ (fun _ _ => ?_) | refine Mn_iv ?_ | refine Mn_bLt ?_ ?_ | refine Mn_bLe ?_ ?_ | refine Mn_bEq ?_ ?_ | refine Mn_bN ?_ ?_ | refine Mn_g3 ?_ | refine Mn_g33 ?_ | refine Mn_g66 ?_ | refine Mn_gD ?_
set_option maxRecDepth 100000 in
set_option maxHeartbeats 4000000 in
theorem T_X5_leastOfCases (l : Launch) (D : va_G) (dA : Nat → ClassId) (b0 : Nat) (jx0 : Int) (σ σE : Hp) (r : Int) (hF : F_X5_leastOfCases jx0 σ = some (r, σE)) : Ct l D dA b0 yX5_leastOfCases cX5_leastOfCases 5 (some .long) 3 69 [(2, jx0)] σ (some (pV 1 r)) σE := by
  refine Ct.of (lv0 := [(0, 2, jx0)]) (by decide) RX5 rfl (Nat.le_of_ble_eq_true rfl) rfl ?_ (M_X5_leastOfCases jx0 σ r σE hF)
  intro p e R s m args below meth c hX hR hnm
  obtain ⟨Q, hQ⟩ : ∃ Q, Q = Qm D dA b0 σ.1 σ.2.1 below args s (some (pV 1 r)) σE := ⟨_, rfl⟩
  rw [← hQ]
  have hE : σE.1 = σE.1 ∧ σE.2.1 = σE.2.1 := ⟨rfl, rfl⟩
  unfold F_X5_leastOfCases at hF
  refine g_ldc2 (z := -1) hX kc_X5_100 (by decide) dX5_leastOfCases_0 ?_
  refine g_lstore_n (lv' := [(1, 1, (-1)), (0, 2, jx0)]) hX dX5_leastOfCases_3 rfl (by decide) rfl ?_
  refine g_iconst hX dX5_leastOfCases_4 ?_
  refine g_istore_n (lv' := [(3, 0, 0), (1, 1, (-1)), (0, 2, jx0)]) hX dX5_leastOfCases_5 rfl (by decide) rfl ?_
  refine g_lvp (lv' := [(0, 2, jx0), (1, 1, (-1)), (3, 0, 0)]) [2, 1, 0] rfl ?_
  exact T_X5_leastOfCases_L6 hX hR hnm hQ hE jx0  fu (-1) 0 σ hF
end

section
variable {p : Program} {l : Launch} {e : Env} {R : Room} {s : State} {m : MethodId} {args : Array Value} {below : List Frame} {meth : Method} {c : Code} {D : va_G} {dA : Nat → ClassId} {b0 n0 m0 nE mE : Nat} {Q : State → Prop}
def F_X5_casesOfLack_B49 (k4 : Int → Int → Hp → Option (Int × Hp)) (jx0 : Int) (jx1 : Int) (jx2 : Int) (σ : Hp) : Option (Int × Hp) :=
  k4 jx1 (jx2 + 1) σ
theorem M_X5_casesOfLack_B49 (k4 : Int → Int → Hp → Option (Int × Hp)) (hk4 : ∀ (jx1 : Int) (jx2 : Int) (σ : Hp), Mn σ (k4 jx1 jx2 σ)) (jx0 : Int) (jx1 : Int) (jx2 : Int) (σ : Hp) : Mn σ (F_X5_casesOfLack_B49 k4 jx0 jx1 jx2 σ) := by
  unfold F_X5_casesOfLack_B49
  repeat' first | exact Mn_ret | exact Mn_rz | exact hk4 _ _  _ | refine Mn_nm (fun _ => ?_) | refine Mn_nab (fun _ _ => ?_) | refine Mn_nwb (fun _ _ => ?_) | refine Mn_pw (fun _ => ?_) | refine Mn_pz (fun _ => ?_) | refine Mn_aw (fun _ => ?_) | refine Mn_az (fun _ => ?_) | refine Mn_aq (fun _ => ?_) | refine Mn_bo (fun _ => ?_) | refine Mn_bd ?_ (fun _ _ => ?_) | refine Mn_iv ?_ | refine Mn_bLt ?_ ?_ | refine Mn_bLe ?_ ?_ | refine Mn_bEq ?_ ?_ | refine Mn_bN ?_ ?_ | refine Mn_g3 ?_ | refine Mn_g33 ?_ | refine Mn_g66 ?_ | refine Mn_gD ?_
set_option maxRecDepth 100000 in
set_option maxHeartbeats 4000000 in
theorem T_X5_casesOfLack_B49 {r : Int} {σE : Hp} (hX : Cx p R s m args meth c D dA b0 n0 m0 3 nE mE cX5_casesOfLack RX5 2 42) (hR : Rx meth (some .int)) (hnm : meth.name = yX5_casesOfLack.name) (hQ : Q = Qm D dA b0 n0 m0 below args s (some (pV 0 r)) σE) (hE : nE = σE.1 ∧ mE = σE.2.1) (k4 : Int → Int → Hp → Option (Int × Hp)) (jx0 : Int) (jx1 : Int) (jx2 : Int) (hk4 : ∀ (jx1 : Int) (jx2 : Int) (σ : Hp), k4 jx1 jx2 σ = some (r, σE) → G p l e R s m args below meth c D dA b0 n0 m0 3 nE mE Q 4 [(0, 2, jx0), (1, 0, jx1), (2, 0, jx2)] [] σ) (σ : Hp) (hF : F_X5_casesOfLack_B49 k4 jx0 jx1 jx2 σ = some (r, σE)) : G p l e R s m args below meth c D dA b0 n0 m0 3 nE mE Q 49 [(0, 2, jx0), (1, 0, jx1), (2, 0, jx2)] [] σ := by
  unfold F_X5_casesOfLack_B49 at hF
  refine g_iinc (lv' := [(2, 0, (jx2 + 1)), (0, 2, jx0), (1, 0, jx1)]) hX 2 dX5_casesOfLack_49 rfl (by decide) rfl ?_
  refine g_goto (tgt := 4) hX dX5_casesOfLack_52 (by decide) ?_
  refine g_lvp (lv' := [(0, 2, jx0), (1, 0, jx1), (2, 0, (jx2 + 1))]) [1, 2, 0] rfl ?_
  exact hk4 jx1 (jx2 + 1) σ hF
def F_X5_casesOfLack_L4 (jx0 : Int) : Nat → Int → Int → Hp → Option (Int × Hp)
  | 0, _, _, _ => none
  | n + 1, jx1, jx2, σ => (rd 6 σ jx0 1).bind fun jv1 => (rd 4 σ jv1 2).bind fun jv2 => bLt jx2 jv2 ((rd 6 σ jx0 1).bind fun jv3 => (rd 4 σ jv3 0).bind fun jv4 => (ar 15 σ jv4 jx2).bind fun jv5 => bd (iv 6 σ jx0 (F_X5_endsCase  jx0 jv5 σ)) fun jv6 σ7 => bEq jv6 0 (F_X5_casesOfLack_B49 (F_X5_casesOfLack_L4 jx0 n) jx0 jx1 jx2  σ7) ((rd 6 σ7 jx0 1).bind fun jv8 => (rd 4 σ7 jv8 0).bind fun jv9 => (ar 15 σ7 jv9 jx2).bind fun jv10 => (rd 2 σ7 jv10 15).bind fun jv11 => bEq jv11 0 (F_X5_casesOfLack_B49 (F_X5_casesOfLack_L4 jx0 n) jx0 jx1 jx2  σ7) (F_X5_casesOfLack_B49 (F_X5_casesOfLack_L4 jx0 n) jx0 (jx1 + 1) jx2  σ7))) (some (jx1, σ))
theorem M_X5_casesOfLack_L4 (jx0 : Int) : ∀ (n : Nat) (jx1 : Int) (jx2 : Int) (σ : Hp), Mn σ (F_X5_casesOfLack_L4 jx0 n jx1 jx2 σ) := by
  intro n
  induction n with
  | zero => intros; rw [F_X5_casesOfLack_L4]; exact Mn_none
  | succ n hk4 =>
    intros
    rw [F_X5_casesOfLack_L4]
    repeat' first | exact Mn_ret | exact Mn_rz | exact hk4 _ _  _ | exact M_X5_endsCase _ _ _ | exact M_X5_casesOfLack_B49 (F_X5_casesOfLack_L4 jx0 n) hk4 _ _ _  _ | refine Mn_nm (fun _ => ?_) | refine Mn_nab (fun _ _ => ?_) | refine Mn_nwb (fun _ _ => ?_) | refine Mn_pw (fun _ => ?_) | refine Mn_pz (fun _ => ?_) | refine Mn_aw (fun _ => ?_) | refine Mn_az (fun _ => ?_) | refine Mn_aq (fun _ => ?_) | refine Mn_bo (fun _ => ?_) | refine Mn_bd ?_ (fun _ _ => ?_) | refine Mn_iv ?_ | refine Mn_bLt ?_ ?_ | refine Mn_bLe ?_ ?_ | refine Mn_bEq ?_ ?_ | refine Mn_bN ?_ ?_ | refine Mn_g3 ?_ | refine Mn_g33 ?_ | refine Mn_g66 ?_ | refine Mn_gD ?_
set_option maxRecDepth 100000 in
set_option maxHeartbeats 4000000 in
theorem T_X5_casesOfLack_L4 {r : Int} {σE : Hp} (hX : Cx p R s m args meth c D dA b0 n0 m0 3 nE mE cX5_casesOfLack RX5 2 42) (hR : Rx meth (some .int)) (hnm : meth.name = yX5_casesOfLack.name) (hQ : Q = Qm D dA b0 n0 m0 below args s (some (pV 0 r)) σE) (hE : nE = σE.1 ∧ mE = σE.2.1) (jx0 : Int) : ∀ (n : Nat) (jx1 : Int) (jx2 : Int) (σ : Hp), F_X5_casesOfLack_L4 jx0 n jx1 jx2 σ = some (r, σE) → G p l e R s m args below meth c D dA b0 n0 m0 3 nE mE Q 4 [(0, 2, jx0), (1, 0, jx1), (2, 0, jx2)] [] σ := by
  intro n
  induction n with
  | zero =>
    intro jx1 jx2 σ hF
    rw [F_X5_casesOfLack_L4] at hF
    cases hF
  | succ n hk4 =>
    intro jx1 jx2 σ hF
    rw [F_X5_casesOfLack_L4] at hF
    refine g_iload_n hX 2 dX5_casesOfLack_4 rfl rfl ?_
    refine g_aload_n hX 0 dX5_casesOfLack_5 rfl rfl ?_
    refine g_get hX fl_X5_15 (by decide) (by decide) dX5_casesOfLack_6 hF (fun jv1 hF => ?_)
    refine g_get hX fl_X5_19 (by decide) (by decide) dX5_casesOfLack_9 hF (fun jv2 hF => ?_)
    refine g_icmp_ge (tgt := 55) hX dX5_casesOfLack_12 (by decide) hF (fun hc hF => ?_) (fun hc hF => ?_)
    · refine g_aload_n hX 0 dX5_casesOfLack_15 rfl rfl ?_
      refine g_aload_n hX 0 dX5_casesOfLack_16 rfl rfl ?_
      refine g_get hX fl_X5_15 (by decide) (by decide) dX5_casesOfLack_17 hF (fun jv3 hF => ?_)
      refine g_get hX fl_X5_25 (by decide) (by decide) dX5_casesOfLack_20 hF (fun jv4 hF => ?_)
      refine g_iload_n hX 2 dX5_casesOfLack_23 rfl rfl ?_
      refine g_aald hX (by decide) dX5_casesOfLack_24 hF (fun jv5 hF => ?_)
      refine g_callV (t := 0) (ci := 5) (rest := []) [(2, jv5)] hX cw_X5_93 rfl (by decide) (by decide) (fun r σ1 h => T_X5_endsCase l D dA b0  jx0 jv5 σ σ1 r h) ⟨by decide, by decide⟩ rfl rfl (Nat.le_of_ble_eq_true rfl) dX5_casesOfLack_25 hF (fun jv6 σ7 hF => ?_)
      refine g_if_eq (tgt := 49) hX dX5_casesOfLack_28 (by decide) hF (fun hc hF => ?_) (fun hc hF => ?_)
      · exact T_X5_casesOfLack_B49 hX hR hnm hQ hE (F_X5_casesOfLack_L4 jx0 n) jx0 jx1 jx2  hk4  σ7 hF
      · refine g_aload_n hX 0 dX5_casesOfLack_31 rfl rfl ?_
        refine g_get hX fl_X5_15 (by decide) (by decide) dX5_casesOfLack_32 hF (fun jv8 hF => ?_)
        refine g_get hX fl_X5_25 (by decide) (by decide) dX5_casesOfLack_35 hF (fun jv9 hF => ?_)
        refine g_iload_n hX 2 dX5_casesOfLack_38 rfl rfl ?_
        refine g_aald hX (by decide) dX5_casesOfLack_39 hF (fun jv10 hF => ?_)
        refine g_get hX fl_X5_45 (by decide) (by decide) dX5_casesOfLack_40 hF (fun jv11 hF => ?_)
        refine g_if_eq (tgt := 49) hX dX5_casesOfLack_43 (by decide) hF (fun hc hF => ?_) (fun hc hF => ?_)
        · exact T_X5_casesOfLack_B49 hX hR hnm hQ hE (F_X5_casesOfLack_L4 jx0 n) jx0 jx1 jx2  hk4  σ7 hF
        · refine g_iinc (lv' := [(1, 0, (jx1 + 1)), (0, 2, jx0), (2, 0, jx2)]) hX 1 dX5_casesOfLack_46 rfl (by decide) rfl ?_
          refine g_lvp (lv' := [(0, 2, jx0), (1, 0, (jx1 + 1)), (2, 0, jx2)]) [1, 0, 2] rfl ?_
          exact T_X5_casesOfLack_B49 hX hR hnm hQ hE (F_X5_casesOfLack_L4 jx0 n) jx0 (jx1 + 1) jx2  hk4  σ7 hF
    · refine g_iload_n hX 1 dX5_casesOfLack_55 rfl rfl ?_
      exact g_iret hX hR hQ hE dX5_casesOfLack_56 hF
def F_X5_casesOfLack (jx0 : Int) (σ : Hp) : Option (Int × Hp) :=
  F_X5_casesOfLack_L4 jx0 fu 0 0 σ
theorem M_X5_casesOfLack (jx0 : Int) (σ : Hp) : Mn σ (F_X5_casesOfLack jx0 σ) := by
  unfold F_X5_casesOfLack
  repeat' first | exact Mn_ret | exact Mn_rz | exact M_X5_casesOfLack_L4 _ _ _ _ _ | refine Mn_nm (fun _ => ?_) | refine Mn_nab (fun _ _ => ?_) | refine Mn_nwb (fun _ _ => ?_) | refine Mn_pw (fun _ => ?_) | refine Mn_pz (fun _ => ?_) | refine Mn_aw (fun _ => ?_) | refine Mn_az (fun _ => ?_) | refine Mn_aq (fun _ => ?_) | refine Mn_bo (fun _ => ?_) | refine Mn_bd ?_ (fun _ _ => ?_) | refine Mn_iv ?_ | refine Mn_bLt ?_ ?_ | refine Mn_bLe ?_ ?_ | refine Mn_bEq ?_ ?_ | refine Mn_bN ?_ ?_ | refine Mn_g3 ?_ | refine Mn_g33 ?_ | refine Mn_g66 ?_ | refine Mn_gD ?_
set_option maxRecDepth 100000 in
set_option maxHeartbeats 4000000 in
theorem T_X5_casesOfLack (l : Launch) (D : va_G) (dA : Nat → ClassId) (b0 : Nat) (jx0 : Int) (σ σE : Hp) (r : Int) (hF : F_X5_casesOfLack jx0 σ = some (r, σE)) : Ct l D dA b0 yX5_casesOfLack cX5_casesOfLack 3 (some .int) 2 42 [(2, jx0)] σ (some (pV 0 r)) σE := by
  refine Ct.of (lv0 := [(0, 2, jx0)]) (by decide) RX5 rfl (Nat.le_of_ble_eq_true rfl) rfl ?_ (M_X5_casesOfLack jx0 σ r σE hF)
  intro p e R s m args below meth c hX hR hnm
  obtain ⟨Q, hQ⟩ : ∃ Q, Q = Qm D dA b0 σ.1 σ.2.1 below args s (some (pV 0 r)) σE := ⟨_, rfl⟩
  rw [← hQ]
  have hE : σE.1 = σE.1 ∧ σE.2.1 = σE.2.1 := ⟨rfl, rfl⟩
  unfold F_X5_casesOfLack at hF
  refine g_iconst hX dX5_casesOfLack_0 ?_
  refine g_istore_n (lv' := [(1, 0, 0), (0, 2, jx0)]) hX dX5_casesOfLack_1 rfl (by decide) rfl ?_
  refine g_iconst hX dX5_casesOfLack_2 ?_
  refine g_istore_n (lv' := [(2, 0, 0), (1, 0, 0), (0, 2, jx0)]) hX dX5_casesOfLack_3 rfl (by decide) rfl ?_
  refine g_lvp (lv' := [(0, 2, jx0), (1, 0, 0), (2, 0, 0)]) [2, 1, 0] rfl ?_
  exact T_X5_casesOfLack_L4 hX hR hnm hQ hE jx0  fu 0 0 σ hF
end

section
variable {p : Program} {l : Launch} {e : Env} {R : Room} {s : State} {m : MethodId} {args : Array Value} {below : List Frame} {meth : Method} {c : Code} {D : va_G} {dA : Nat → ClassId} {b0 n0 m0 nE mE : Nat} {Q : State → Prop}
def F_X5_stoodAbove_B44 (jx0 : Int) (jx2 : Int) (jx3 : Int) (jx5 : Int) (σ : Hp) : Option (Int × Hp) :=
  (rd 6 σ jx0 0).bind fun jv2 => (rd 2 σ jx5 12).bind fun jv3 => bd (iv 5 σ jv2 (F_X4_measureOf  jv2 jv3 jx2 σ)) fun jv4 σ5 => bLe jv4 jx3 (rz 0 σ5) (rz 1 σ5)
theorem M_X5_stoodAbove_B44 (jx0 : Int) (jx2 : Int) (jx3 : Int) (jx5 : Int) (σ : Hp) : Mn σ (F_X5_stoodAbove_B44 jx0 jx2 jx3 jx5 σ) := by
  unfold F_X5_stoodAbove_B44
  repeat' first | exact Mn_ret | exact Mn_rz | exact M_X4_measureOf _ _ _ _ | refine Mn_nm (fun _ => ?_) | refine Mn_nab (fun _ _ => ?_) | refine Mn_nwb (fun _ _ => ?_) | refine Mn_pw (fun _ => ?_) | refine Mn_pz (fun _ => ?_) | refine Mn_aw (fun _ => ?_) | refine Mn_az (fun _ => ?_) | refine Mn_aq (fun _ => ?_) | refine Mn_bo (fun _ => ?_) | refine Mn_bd ?_ (fun _ _ => ?_) | refine Mn_iv ?_ | refine Mn_bLt ?_ ?_ | refine Mn_bLe ?_ ?_ | refine Mn_bEq ?_ ?_ | refine Mn_bN ?_ ?_ | refine Mn_g3 ?_ | refine Mn_g33 ?_ | refine Mn_g66 ?_ | refine Mn_gD ?_
set_option maxRecDepth 100000 in
set_option maxHeartbeats 4000000 in
theorem T_X5_stoodAbove_B44 {r : Int} {σE : Hp} (hX : Cx p R s m args meth c D dA b0 n0 m0 7 nE mE cX5_stoodAbove RX5 1 24) (hR : Rx meth (some .boolean)) (hnm : meth.name = yX5_stoodAbove.name) (hQ : Q = Qm D dA b0 n0 m0 below args s (some (pV 0 r)) σE) (hE : nE = σE.1 ∧ mE = σE.2.1) (jx0 : Int) (jx2 : Int) (jx3 : Int) (jx5 : Int) (σ : Hp) (hF : F_X5_stoodAbove_B44 jx0 jx2 jx3 jx5 σ = some (r, σE)) : G p l e R s m args below meth c D dA b0 n0 m0 7 nE mE Q 44 [(0, 2, jx0), (2, 0, jx2), (3, 0, jx3), (5, 2, jx5)] [] σ := by
  unfold F_X5_stoodAbove_B44 at hF
  refine g_aload_n hX 0 dX5_stoodAbove_44 rfl rfl ?_
  refine g_get hX fl_X5_9 (by decide) (by decide) dX5_stoodAbove_45 hF (fun jv2 hF => ?_)
  refine g_aload hX 3 dX5_stoodAbove_48 rfl ?_
  refine g_get hX fl_X5_35 (by decide) (by decide) dX5_stoodAbove_50 hF (fun jv3 hF => ?_)
  refine g_iload_n hX 1 dX5_stoodAbove_53 rfl rfl ?_
  refine g_callV (t := 0) (ci := 4) (rest := []) [(0, jv3), (0, jx2)] hX cw_X5_109 rfl (by decide) (by decide) (fun r σ1 h => T_X4_measureOf l D dA b0  jv2 jv3 jx2 σ σ1 r h) ⟨by decide, by decide⟩ rfl rfl (Nat.le_of_ble_eq_true rfl) dX5_stoodAbove_54 hF (fun jv4 σ5 hF => ?_)
  refine g_iload_n hX 2 dX5_stoodAbove_57 rfl rfl ?_
  refine g_icmp_le (tgt := 65) hX dX5_stoodAbove_58 (by decide) hF (fun hc hF => ?_) (fun hc hF => ?_)
  · refine g_iconst hX dX5_stoodAbove_65 ?_
    exact g_zret hX hR hQ hE dX5_stoodAbove_66 hF
  · refine g_iconst hX dX5_stoodAbove_61 ?_
    refine g_goto (tgt := 66) hX dX5_stoodAbove_62 (by decide) ?_
    exact g_zret hX hR hQ hE dX5_stoodAbove_66 hF
def F_X5_stoodAbove_L6 (jx0 : Int) (jx2 : Int) (jx3 : Int) (jx4 : Int) : Nat → Int → Int → Hp → Option (Int × Hp)
  | 0, _, _, _ => none
  | n + 1, jx5, jx6, σ => bLt jx6 10 ((rd 2 σ jx5 5).bind fun jv1 => bLe jv1 jx4 (F_X5_stoodAbove_B44 jx0 jx2 jx3 jx5  σ) ((rd 2 σ jx5 3).bind fun jv6 => bN jv6 (F_X5_stoodAbove_B44 jx0 jx2 jx3 jx5  σ) ((rd 2 σ jx5 3).bind fun jv7 => (F_X5_stoodAbove_L6 jx0 jx2 jx3 jx4 n) jv7 (jx6 + 1) σ))) (F_X5_stoodAbove_B44 jx0 jx2 jx3 jx5  σ)
theorem M_X5_stoodAbove_L6 (jx0 : Int) (jx2 : Int) (jx3 : Int) (jx4 : Int) : ∀ (n : Nat) (jx5 : Int) (jx6 : Int) (σ : Hp), Mn σ (F_X5_stoodAbove_L6 jx0 jx2 jx3 jx4 n jx5 jx6 σ) := by
  intro n
  induction n with
  | zero => intros; rw [F_X5_stoodAbove_L6]; exact Mn_none
  | succ n hk6 =>
    intros
    rw [F_X5_stoodAbove_L6]
    repeat' first | exact Mn_ret | exact Mn_rz | exact hk6 _ _  _ | exact M_X5_stoodAbove_B44 _ _ _ _  _ | refine Mn_nm (fun _ => ?_) | refine Mn_nab (fun _ _ => ?_) | refine Mn_nwb (fun _ _ => ?_) | refine Mn_pw (fun _ => ?_) | refine Mn_pz (fun _ => ?_) | refine Mn_aw (fun _ => ?_) | refine Mn_az (fun _ => ?_) | refine Mn_aq (fun _ => ?_) | refine Mn_bo (fun _ => ?_) | refine Mn_bd ?_ (fun _ _ => ?_) | refine Mn_iv ?_ | refine Mn_bLt ?_ ?_ | refine Mn_bLe ?_ ?_ | refine Mn_bEq ?_ ?_ | refine Mn_bN ?_ ?_ | refine Mn_g3 ?_ | refine Mn_g33 ?_ | refine Mn_g66 ?_ | refine Mn_gD ?_
set_option maxRecDepth 100000 in
set_option maxHeartbeats 4000000 in
theorem T_X5_stoodAbove_L6 {r : Int} {σE : Hp} (hX : Cx p R s m args meth c D dA b0 n0 m0 7 nE mE cX5_stoodAbove RX5 1 24) (hR : Rx meth (some .boolean)) (hnm : meth.name = yX5_stoodAbove.name) (hQ : Q = Qm D dA b0 n0 m0 below args s (some (pV 0 r)) σE) (hE : nE = σE.1 ∧ mE = σE.2.1) (jx0 : Int) (jx2 : Int) (jx3 : Int) (jx4 : Int) : ∀ (n : Nat) (jx5 : Int) (jx6 : Int) (σ : Hp), F_X5_stoodAbove_L6 jx0 jx2 jx3 jx4 n jx5 jx6 σ = some (r, σE) → G p l e R s m args below meth c D dA b0 n0 m0 7 nE mE Q 6 [(0, 2, jx0), (2, 0, jx2), (3, 0, jx3), (4, 0, jx4), (5, 2, jx5), (6, 0, jx6)] [] σ := by
  intro n
  induction n with
  | zero =>
    intro jx5 jx6 σ hF
    rw [F_X5_stoodAbove_L6] at hF
    cases hF
  | succ n hk6 =>
    intro jx5 jx6 σ hF
    rw [F_X5_stoodAbove_L6] at hF
    refine g_iload hX 5 dX5_stoodAbove_6 rfl ?_
    refine g_bipush hX dX5_stoodAbove_8 (by decide) ?_
    refine g_icmp_ge (tgt := 44) hX dX5_stoodAbove_10 (by decide) hF (fun hc hF => ?_) (fun hc hF => ?_)
    · refine g_aload hX 4 dX5_stoodAbove_13 rfl ?_
      refine g_get hX fl_X5_106 (by decide) (by decide) dX5_stoodAbove_15 hF (fun jv1 hF => ?_)
      refine g_iload hX 3 dX5_stoodAbove_18 rfl ?_
      refine g_icmp_le (tgt := 44) hX dX5_stoodAbove_20 (by decide) hF (fun hc hF => ?_) (fun hc hF => ?_)
      · refine g_lvp (lv' := [(0, 2, jx0), (2, 0, jx2), (3, 0, jx3), (5, 2, jx5)]) [0, 1, 2, 4] rfl ?_
        exact T_X5_stoodAbove_B44 hX hR hnm hQ hE jx0 jx2 jx3 jx5   σ hF
      · refine g_aload hX 4 dX5_stoodAbove_23 rfl ?_
        refine g_get hX fl_X5_48 (by decide) (by decide) dX5_stoodAbove_25 hF (fun jv6 hF => ?_)
        refine g_ifnull (tgt := 44) hX dX5_stoodAbove_28 (by decide) hF (fun hc hF => ?_) (fun hc hF => ?_)
        · refine g_lvp (lv' := [(0, 2, jx0), (2, 0, jx2), (3, 0, jx3), (5, 2, jx5)]) [0, 1, 2, 4] rfl ?_
          exact T_X5_stoodAbove_B44 hX hR hnm hQ hE jx0 jx2 jx3 jx5   σ hF
        · refine g_aload hX 4 dX5_stoodAbove_31 rfl ?_
          refine g_get hX fl_X5_48 (by decide) (by decide) dX5_stoodAbove_33 hF (fun jv7 hF => ?_)
          refine g_astore (lv' := [(5, 2, jv7), (0, 2, jx0), (2, 0, jx2), (3, 0, jx3), (4, 0, jx4), (6, 0, jx6)]) hX dX5_stoodAbove_36 (by decide) rfl ?_
          refine g_iinc (lv' := [(6, 0, (jx6 + 1)), (5, 2, jv7), (0, 2, jx0), (2, 0, jx2), (3, 0, jx3), (4, 0, jx4)]) hX 5 dX5_stoodAbove_38 rfl (by decide) rfl ?_
          refine g_goto (tgt := 6) hX dX5_stoodAbove_41 (by decide) ?_
          refine g_lvp (lv' := [(0, 2, jx0), (2, 0, jx2), (3, 0, jx3), (4, 0, jx4), (5, 2, jv7), (6, 0, (jx6 + 1))]) [2, 3, 4, 5, 1, 0] rfl ?_
          exact hk6 jv7 (jx6 + 1) σ hF
    · refine g_lvp (lv' := [(0, 2, jx0), (2, 0, jx2), (3, 0, jx3), (5, 2, jx5)]) [0, 1, 2, 4] rfl ?_
      exact T_X5_stoodAbove_B44 hX hR hnm hQ hE jx0 jx2 jx3 jx5   σ hF
def F_X5_stoodAbove (jx0 : Int) (jx1 : Int) (jx2 : Int) (jx3 : Int) (jx4 : Int) (σ : Hp) : Option (Int × Hp) :=
  F_X5_stoodAbove_L6 jx0 jx2 jx3 jx4 fu jx1 0 σ
theorem M_X5_stoodAbove (jx0 : Int) (jx1 : Int) (jx2 : Int) (jx3 : Int) (jx4 : Int) (σ : Hp) : Mn σ (F_X5_stoodAbove jx0 jx1 jx2 jx3 jx4 σ) := by
  unfold F_X5_stoodAbove
  repeat' first | exact Mn_ret | exact Mn_rz | exact M_X5_stoodAbove_L6 _ _ _ _ _ _ _ _ | refine Mn_nm (fun _ => ?_) | refine Mn_nab (fun _ _ => ?_) | refine Mn_nwb (fun _ _ => ?_) | refine Mn_pw (fun _ => ?_) | refine Mn_pz (fun _ => ?_) | refine Mn_aw (fun _ => ?_) | refine Mn_az (fun _ => ?_) | refine Mn_aq (fun _ => ?_) | refine Mn_bo (fun _ => ?_) | refine Mn_bd ?_ (fun _ _ => ?_) | refine Mn_iv ?_ | refine Mn_bLt ?_ ?_ | refine Mn_bLe ?_ ?_ | refine Mn_bEq ?_ ?_ | refine Mn_bN ?_ ?_ | refine Mn_g3 ?_ | refine Mn_g33 ?_ | refine Mn_g66 ?_ | refine Mn_gD ?_
set_option maxRecDepth 100000 in
set_option maxHeartbeats 4000000 in
theorem T_X5_stoodAbove (l : Launch) (D : va_G) (dA : Nat → ClassId) (b0 : Nat) (jx0 : Int) (jx1 : Int) (jx2 : Int) (jx3 : Int) (jx4 : Int) (σ σE : Hp) (r : Int) (hF : F_X5_stoodAbove jx0 jx1 jx2 jx3 jx4 σ = some (r, σE)) : Ct l D dA b0 yX5_stoodAbove cX5_stoodAbove 7 (some .boolean) 1 24 [(2, jx0), (2, jx1), (0, jx2), (0, jx3), (0, jx4)] σ (some (pV 0 r)) σE := by
  refine Ct.of (lv0 := [(0, 2, jx0), (1, 2, jx1), (2, 0, jx2), (3, 0, jx3), (4, 0, jx4)]) (by decide) RX5 rfl (Nat.le_of_ble_eq_true rfl) rfl ?_ (M_X5_stoodAbove jx0 jx1 jx2 jx3 jx4 σ r σE hF)
  intro p e R s m args below meth c hX hR hnm
  obtain ⟨Q, hQ⟩ : ∃ Q, Q = Qm D dA b0 σ.1 σ.2.1 below args s (some (pV 0 r)) σE := ⟨_, rfl⟩
  rw [← hQ]
  have hE : σE.1 = σE.1 ∧ σE.2.1 = σE.2.1 := ⟨rfl, rfl⟩
  unfold F_X5_stoodAbove at hF
  refine g_aload_n hX 1 dX5_stoodAbove_0 rfl rfl ?_
  refine g_astore (lv' := [(5, 2, jx1), (0, 2, jx0), (1, 2, jx1), (2, 0, jx2), (3, 0, jx3), (4, 0, jx4)]) hX dX5_stoodAbove_1 (by decide) rfl ?_
  refine g_iconst hX dX5_stoodAbove_3 ?_
  refine g_istore (lv' := [(6, 0, 0), (5, 2, jx1), (0, 2, jx0), (1, 2, jx1), (2, 0, jx2), (3, 0, jx3), (4, 0, jx4)]) hX dX5_stoodAbove_4 (by decide) rfl ?_
  refine g_lvp (lv' := [(0, 2, jx0), (2, 0, jx2), (3, 0, jx3), (4, 0, jx4), (5, 2, jx1), (6, 0, 0)]) [2, 4, 5, 6, 1, 0] rfl ?_
  exact T_X5_stoodAbove_L6 hX hR hnm hQ hE jx0 jx2 jx3 jx4  fu jx1 0 σ hF
end

section
variable {p : Program} {l : Launch} {e : Env} {R : Room} {s : State} {m : MethodId} {args : Array Value} {below : List Frame} {meth : Method} {c : Code} {D : va_G} {dA : Nat → ClassId} {b0 n0 m0 nE mE : Nat} {Q : State → Prop}
def F_X5_casesOfFlood_B58 (k6 : Int → Int → Hp → Option (Int × Hp)) (jx0 : Int) (jx1 : Int) (jx2 : Int) (jx3 : Int) (jx4 : Int) (jx5 : Int) (σ : Hp) : Option (Int × Hp) :=
  k6 jx4 (jx5 + 1) σ
theorem M_X5_casesOfFlood_B58 (k6 : Int → Int → Hp → Option (Int × Hp)) (hk6 : ∀ (jx4 : Int) (jx5 : Int) (σ : Hp), Mn σ (k6 jx4 jx5 σ)) (jx0 : Int) (jx1 : Int) (jx2 : Int) (jx3 : Int) (jx4 : Int) (jx5 : Int) (σ : Hp) : Mn σ (F_X5_casesOfFlood_B58 k6 jx0 jx1 jx2 jx3 jx4 jx5 σ) := by
  unfold F_X5_casesOfFlood_B58
  repeat' first | exact Mn_ret | exact Mn_rz | exact hk6 _ _  _ | refine Mn_nm (fun _ => ?_) | refine Mn_nab (fun _ _ => ?_) | refine Mn_nwb (fun _ _ => ?_) | refine Mn_pw (fun _ => ?_) | refine Mn_pz (fun _ => ?_) | refine Mn_aw (fun _ => ?_) | refine Mn_az (fun _ => ?_) | refine Mn_aq (fun _ => ?_) | refine Mn_bo (fun _ => ?_) | refine Mn_bd ?_ (fun _ _ => ?_) | refine Mn_iv ?_ | refine Mn_bLt ?_ ?_ | refine Mn_bLe ?_ ?_ | refine Mn_bEq ?_ ?_ | refine Mn_bN ?_ ?_ | refine Mn_g3 ?_ | refine Mn_g33 ?_ | refine Mn_g66 ?_ | refine Mn_gD ?_
set_option maxRecDepth 100000 in
set_option maxHeartbeats 4000000 in
theorem T_X5_casesOfFlood_B58 {r : Int} {σE : Hp} (hX : Cx p R s m args meth c D dA b0 n0 m0 6 nE mE cX5_casesOfFlood RX5 2 50) (hR : Rx meth (some .int)) (hnm : meth.name = yX5_casesOfFlood.name) (hQ : Q = Qm D dA b0 n0 m0 below args s (some (pV 0 r)) σE) (hE : nE = σE.1 ∧ mE = σE.2.1) (k6 : Int → Int → Hp → Option (Int × Hp)) (jx0 : Int) (jx1 : Int) (jx2 : Int) (jx3 : Int) (jx4 : Int) (jx5 : Int) (hk6 : ∀ (jx4 : Int) (jx5 : Int) (σ : Hp), k6 jx4 jx5 σ = some (r, σE) → G p l e R s m args below meth c D dA b0 n0 m0 6 nE mE Q 6 [(0, 2, jx0), (1, 0, jx1), (2, 0, jx2), (3, 0, jx3), (4, 0, jx4), (5, 0, jx5)] [] σ) (σ : Hp) (hF : F_X5_casesOfFlood_B58 k6 jx0 jx1 jx2 jx3 jx4 jx5 σ = some (r, σE)) : G p l e R s m args below meth c D dA b0 n0 m0 6 nE mE Q 58 [(0, 2, jx0), (1, 0, jx1), (2, 0, jx2), (3, 0, jx3), (4, 0, jx4), (5, 0, jx5)] [] σ := by
  unfold F_X5_casesOfFlood_B58 at hF
  refine g_iinc (lv' := [(5, 0, (jx5 + 1)), (0, 2, jx0), (1, 0, jx1), (2, 0, jx2), (3, 0, jx3), (4, 0, jx4)]) hX 5 dX5_casesOfFlood_58 rfl (by decide) rfl ?_
  refine g_goto (tgt := 6) hX dX5_casesOfFlood_61 (by decide) ?_
  refine g_lvp (lv' := [(0, 2, jx0), (1, 0, jx1), (2, 0, jx2), (3, 0, jx3), (4, 0, jx4), (5, 0, (jx5 + 1))]) [1, 2, 3, 4, 5, 0] rfl ?_
  exact hk6 jx4 (jx5 + 1) σ hF
def F_X5_casesOfFlood_L6 (jx0 : Int) (jx1 : Int) (jx2 : Int) (jx3 : Int) : Nat → Int → Int → Hp → Option (Int × Hp)
  | 0, _, _, _ => none
  | n + 1, jx4, jx5, σ => (rd 6 σ jx0 1).bind fun jv1 => (rd 4 σ jv1 2).bind fun jv2 => bLt jx5 jv2 ((rd 6 σ jx0 1).bind fun jv3 => (rd 4 σ jv3 0).bind fun jv4 => (ar 15 σ jv4 jx5).bind fun jv5 => bd (iv 6 σ jx0 (F_X5_endsCase  jx0 jv5 σ)) fun jv6 σ7 => bEq jv6 0 (F_X5_casesOfFlood_B58 (F_X5_casesOfFlood_L6 jx0 jx1 jx2 jx3 n) jx0 jx1 jx2 jx3 jx4 jx5  σ7) ((rd 6 σ7 jx0 1).bind fun jv8 => (rd 4 σ7 jv8 0).bind fun jv9 => (ar 15 σ7 jv9 jx5).bind fun jv10 => bd (iv 6 σ7 jx0 (F_X5_stoodAbove  jx0 jv10 jx1 jx2 jx3 σ7)) fun jv11 σ12 => bEq jv11 0 (F_X5_casesOfFlood_B58 (F_X5_casesOfFlood_L6 jx0 jx1 jx2 jx3 n) jx0 jx1 jx2 jx3 jx4 jx5  σ12) (F_X5_casesOfFlood_B58 (F_X5_casesOfFlood_L6 jx0 jx1 jx2 jx3 n) jx0 jx1 jx2 jx3 (jx4 + 1) jx5  σ12))) (some (jx4, σ))
theorem M_X5_casesOfFlood_L6 (jx0 : Int) (jx1 : Int) (jx2 : Int) (jx3 : Int) : ∀ (n : Nat) (jx4 : Int) (jx5 : Int) (σ : Hp), Mn σ (F_X5_casesOfFlood_L6 jx0 jx1 jx2 jx3 n jx4 jx5 σ) := by
  intro n
  induction n with
  | zero => intros; rw [F_X5_casesOfFlood_L6]; exact Mn_none
  | succ n hk6 =>
    intros
    rw [F_X5_casesOfFlood_L6]
    repeat' first | exact Mn_ret | exact Mn_rz | exact hk6 _ _  _ | exact M_X5_endsCase _ _ _ | exact M_X5_casesOfFlood_B58 (F_X5_casesOfFlood_L6 jx0 jx1 jx2 jx3 n) hk6 _ _ _ _ _ _  _ | exact M_X5_stoodAbove _ _ _ _ _ _ | refine Mn_nm (fun _ => ?_) | refine Mn_nab (fun _ _ => ?_) | refine Mn_nwb (fun _ _ => ?_) | refine Mn_pw (fun _ => ?_) | refine Mn_pz (fun _ => ?_) | refine Mn_aw (fun _ => ?_) | refine Mn_az (fun _ => ?_) | refine Mn_aq (fun _ => ?_) | refine Mn_bo (fun _ => ?_) | refine Mn_bd ?_ (fun _ _ => ?_) | refine Mn_iv ?_ | refine Mn_bLt ?_ ?_ | refine Mn_bLe ?_ ?_ | refine Mn_bEq ?_ ?_ | refine Mn_bN ?_ ?_ | refine Mn_g3 ?_ | refine Mn_g33 ?_ | refine Mn_g66 ?_ | refine Mn_gD ?_
set_option maxRecDepth 100000 in
set_option maxHeartbeats 4000000 in
theorem T_X5_casesOfFlood_L6 {r : Int} {σE : Hp} (hX : Cx p R s m args meth c D dA b0 n0 m0 6 nE mE cX5_casesOfFlood RX5 2 50) (hR : Rx meth (some .int)) (hnm : meth.name = yX5_casesOfFlood.name) (hQ : Q = Qm D dA b0 n0 m0 below args s (some (pV 0 r)) σE) (hE : nE = σE.1 ∧ mE = σE.2.1) (jx0 : Int) (jx1 : Int) (jx2 : Int) (jx3 : Int) : ∀ (n : Nat) (jx4 : Int) (jx5 : Int) (σ : Hp), F_X5_casesOfFlood_L6 jx0 jx1 jx2 jx3 n jx4 jx5 σ = some (r, σE) → G p l e R s m args below meth c D dA b0 n0 m0 6 nE mE Q 6 [(0, 2, jx0), (1, 0, jx1), (2, 0, jx2), (3, 0, jx3), (4, 0, jx4), (5, 0, jx5)] [] σ := by
  intro n
  induction n with
  | zero =>
    intro jx4 jx5 σ hF
    rw [F_X5_casesOfFlood_L6] at hF
    cases hF
  | succ n hk6 =>
    intro jx4 jx5 σ hF
    rw [F_X5_casesOfFlood_L6] at hF
    refine g_iload hX 5 dX5_casesOfFlood_6 rfl ?_
    refine g_aload_n hX 0 dX5_casesOfFlood_8 rfl rfl ?_
    refine g_get hX fl_X5_15 (by decide) (by decide) dX5_casesOfFlood_9 hF (fun jv1 hF => ?_)
    refine g_get hX fl_X5_19 (by decide) (by decide) dX5_casesOfFlood_12 hF (fun jv2 hF => ?_)
    refine g_icmp_ge (tgt := 64) hX dX5_casesOfFlood_15 (by decide) hF (fun hc hF => ?_) (fun hc hF => ?_)
    · refine g_aload_n hX 0 dX5_casesOfFlood_18 rfl rfl ?_
      refine g_aload_n hX 0 dX5_casesOfFlood_19 rfl rfl ?_
      refine g_get hX fl_X5_15 (by decide) (by decide) dX5_casesOfFlood_20 hF (fun jv3 hF => ?_)
      refine g_get hX fl_X5_25 (by decide) (by decide) dX5_casesOfFlood_23 hF (fun jv4 hF => ?_)
      refine g_iload hX 5 dX5_casesOfFlood_26 rfl ?_
      refine g_aald hX (by decide) dX5_casesOfFlood_28 hF (fun jv5 hF => ?_)
      refine g_callV (t := 0) (ci := 5) (rest := []) [(2, jv5)] hX cw_X5_93 rfl (by decide) (by decide) (fun r σ1 h => T_X5_endsCase l D dA b0  jx0 jv5 σ σ1 r h) ⟨by decide, by decide⟩ rfl rfl (Nat.le_of_ble_eq_true rfl) dX5_casesOfFlood_29 hF (fun jv6 σ7 hF => ?_)
      refine g_if_eq (tgt := 58) hX dX5_casesOfFlood_32 (by decide) hF (fun hc hF => ?_) (fun hc hF => ?_)
      · exact T_X5_casesOfFlood_B58 hX hR hnm hQ hE (F_X5_casesOfFlood_L6 jx0 jx1 jx2 jx3 n) jx0 jx1 jx2 jx3 jx4 jx5  hk6  σ7 hF
      · refine g_aload_n hX 0 dX5_casesOfFlood_35 rfl rfl ?_
        refine g_aload_n hX 0 dX5_casesOfFlood_36 rfl rfl ?_
        refine g_get hX fl_X5_15 (by decide) (by decide) dX5_casesOfFlood_37 hF (fun jv8 hF => ?_)
        refine g_get hX fl_X5_25 (by decide) (by decide) dX5_casesOfFlood_40 hF (fun jv9 hF => ?_)
        refine g_iload hX 5 dX5_casesOfFlood_43 rfl ?_
        refine g_aald hX (by decide) dX5_casesOfFlood_45 hF (fun jv10 hF => ?_)
        refine g_iload_n hX 1 dX5_casesOfFlood_46 rfl rfl ?_
        refine g_iload_n hX 2 dX5_casesOfFlood_47 rfl rfl ?_
        refine g_iload_n hX 3 dX5_casesOfFlood_48 rfl rfl ?_
        refine g_callV (t := 0) (ci := 5) (rest := []) [(2, jv10), (0, jx1), (0, jx2), (0, jx3)] hX cw_X5_102 rfl (by decide) (by decide) (fun r σ1 h => T_X5_stoodAbove l D dA b0  jx0 jv10 jx1 jx2 jx3 σ7 σ1 r h) ⟨by decide, by decide⟩ rfl rfl (Nat.le_of_ble_eq_true rfl) dX5_casesOfFlood_49 hF (fun jv11 σ12 hF => ?_)
        refine g_if_eq (tgt := 58) hX dX5_casesOfFlood_52 (by decide) hF (fun hc hF => ?_) (fun hc hF => ?_)
        · exact T_X5_casesOfFlood_B58 hX hR hnm hQ hE (F_X5_casesOfFlood_L6 jx0 jx1 jx2 jx3 n) jx0 jx1 jx2 jx3 jx4 jx5  hk6  σ12 hF
        · refine g_iinc (lv' := [(4, 0, (jx4 + 1)), (0, 2, jx0), (1, 0, jx1), (2, 0, jx2), (3, 0, jx3), (5, 0, jx5)]) hX 4 dX5_casesOfFlood_55 rfl (by decide) rfl ?_
          refine g_lvp (lv' := [(0, 2, jx0), (1, 0, jx1), (2, 0, jx2), (3, 0, jx3), (4, 0, (jx4 + 1)), (5, 0, jx5)]) [1, 2, 3, 4, 0, 5] rfl ?_
          exact T_X5_casesOfFlood_B58 hX hR hnm hQ hE (F_X5_casesOfFlood_L6 jx0 jx1 jx2 jx3 n) jx0 jx1 jx2 jx3 (jx4 + 1) jx5  hk6  σ12 hF
    · refine g_iload hX 4 dX5_casesOfFlood_64 rfl ?_
      exact g_iret hX hR hQ hE dX5_casesOfFlood_66 hF
def F_X5_casesOfFlood (jx0 : Int) (jx1 : Int) (jx2 : Int) (jx3 : Int) (σ : Hp) : Option (Int × Hp) :=
  F_X5_casesOfFlood_L6 jx0 jx1 jx2 jx3 fu 0 0 σ
theorem M_X5_casesOfFlood (jx0 : Int) (jx1 : Int) (jx2 : Int) (jx3 : Int) (σ : Hp) : Mn σ (F_X5_casesOfFlood jx0 jx1 jx2 jx3 σ) := by
  unfold F_X5_casesOfFlood
  repeat' first | exact Mn_ret | exact Mn_rz | exact M_X5_casesOfFlood_L6 _ _ _ _ _ _ _ _ | refine Mn_nm (fun _ => ?_) | refine Mn_nab (fun _ _ => ?_) | refine Mn_nwb (fun _ _ => ?_) | refine Mn_pw (fun _ => ?_) | refine Mn_pz (fun _ => ?_) | refine Mn_aw (fun _ => ?_) | refine Mn_az (fun _ => ?_) | refine Mn_aq (fun _ => ?_) | refine Mn_bo (fun _ => ?_) | refine Mn_bd ?_ (fun _ _ => ?_) | refine Mn_iv ?_ | refine Mn_bLt ?_ ?_ | refine Mn_bLe ?_ ?_ | refine Mn_bEq ?_ ?_ | refine Mn_bN ?_ ?_ | refine Mn_g3 ?_ | refine Mn_g33 ?_ | refine Mn_g66 ?_ | refine Mn_gD ?_
set_option maxRecDepth 100000 in
set_option maxHeartbeats 4000000 in
theorem T_X5_casesOfFlood (l : Launch) (D : va_G) (dA : Nat → ClassId) (b0 : Nat) (jx0 : Int) (jx1 : Int) (jx2 : Int) (jx3 : Int) (σ σE : Hp) (r : Int) (hF : F_X5_casesOfFlood jx0 jx1 jx2 jx3 σ = some (r, σE)) : Ct l D dA b0 yX5_casesOfFlood cX5_casesOfFlood 6 (some .int) 2 50 [(2, jx0), (0, jx1), (0, jx2), (0, jx3)] σ (some (pV 0 r)) σE := by
  refine Ct.of (lv0 := [(0, 2, jx0), (1, 0, jx1), (2, 0, jx2), (3, 0, jx3)]) (by decide) RX5 rfl (Nat.le_of_ble_eq_true rfl) rfl ?_ (M_X5_casesOfFlood jx0 jx1 jx2 jx3 σ r σE hF)
  intro p e R s m args below meth c hX hR hnm
  obtain ⟨Q, hQ⟩ : ∃ Q, Q = Qm D dA b0 σ.1 σ.2.1 below args s (some (pV 0 r)) σE := ⟨_, rfl⟩
  rw [← hQ]
  have hE : σE.1 = σE.1 ∧ σE.2.1 = σE.2.1 := ⟨rfl, rfl⟩
  unfold F_X5_casesOfFlood at hF
  refine g_iconst hX dX5_casesOfFlood_0 ?_
  refine g_istore (lv' := [(4, 0, 0), (0, 2, jx0), (1, 0, jx1), (2, 0, jx2), (3, 0, jx3)]) hX dX5_casesOfFlood_1 (by decide) rfl ?_
  refine g_iconst hX dX5_casesOfFlood_3 ?_
  refine g_istore (lv' := [(5, 0, 0), (4, 0, 0), (0, 2, jx0), (1, 0, jx1), (2, 0, jx2), (3, 0, jx3)]) hX dX5_casesOfFlood_4 (by decide) rfl ?_
  refine g_lvp (lv' := [(0, 2, jx0), (1, 0, jx1), (2, 0, jx2), (3, 0, jx3), (4, 0, 0), (5, 0, 0)]) [2, 3, 4, 5, 1, 0] rfl ?_
  exact T_X5_casesOfFlood_L6 hX hR hnm hQ hE jx0 jx1 jx2 jx3  fu 0 0 σ hF
end
