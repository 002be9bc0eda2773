section
variable {p : Program} {l : Launch} {e : Env} {R : Room} {s : State} {m : MethodId} {args : Array Value} {below : List Frame} {meth : Method} {c : Code} {D : va_G} {dA : Nat → ClassId} {b0 n0 m0 nE mE : Nat} {Q : State → Prop}
def F_X6_init (jx0 : Int) (jx1 : Int) (jx2 : Int) (σ : Hp) : Option (Int × Hp) :=
  iv 7 σ jx0 ((pw 7 σ jx0 2 1).bind fun σ1 => (pw 7 σ1 jx0 0 jx1).bind fun σ2 => (pw 7 σ2 jx0 1 jx2).bind fun σ3 => some (0, σ3))
theorem M_X6_init (jx0 : Int) (jx1 : Int) (jx2 : Int) (σ : Hp) : Mn σ (F_X6_init jx0 jx1 jx2 σ) := by
  unfold F_X6_init
  repeat' first | exact Mn_ret | exact Mn_rz | refine Mn_nm (fun _ => ?_) | refine Mn_nab (fun _ _ => ?_) | refine Mn_nwb (fun _ _ => ?_) | refine Mn_pw (fun _ => ?_) | refine Mn_pz (fun _ => ?_) | refine Mn_aw (fun _ => ?_) | refine Mn_az (fun _ => ?_) | refine Mn_aq (fun _ => ?_) | refine Mn_bo (fun _ => ?_) | refine Mn_bd ?_ (fun _ _ => ?_) | refine Mn_iv ?_ | refine Mn_bLt ?_ ?_ | refine Mn_bLe ?_ ?_ | refine Mn_bEq ?_ ?_ | refine Mn_bN ?_ ?_ | refine Mn_g3 ?_ | refine Mn_g33 ?_ | refine Mn_g66 ?_ | refine Mn_gD ?_
set_option maxRecDepth 100000 in
set_option maxHeartbeats 4000000 in
theorem T_X6_init (l : Launch) (D : va_G) (dA : Nat → ClassId) (b0 : Nat) (jx0 : Int) (jx1 : Int) (jx2 : Int) (σ σE : Hp) (r : Int) (hF : F_X6_init jx0 jx1 jx2 σ = some (r, σE)) : Ct l D dA b0 yX6_init cX6_init 3 none 1 20 [(2, jx0), (2, jx1), (2, jx2)] σ none σE := by
  refine Ct.of (lv0 := [(0, 2, jx0), (1, 2, jx1), (2, 2, jx2)]) (by decide) RX6 rfl (Nat.le_of_ble_eq_true rfl) rfl ?_ (M_X6_init jx0 jx1 jx2 σ r σE hF)
  intro p e R s m args below meth c hX hR hnm
  obtain ⟨Q, hQ⟩ : ∃ Q, Q = Qm D dA b0 σ.1 σ.2.1 below args s none σE := ⟨_, rfl⟩
  rw [← hQ]
  have hE : σE.1 = σE.1 ∧ σE.2.1 = σE.2.1 := ⟨rfl, rfl⟩
  unfold F_X6_init at hF
  refine g_aload_n hX 0 dX6_init_0 rfl rfl ?_
  refine u_objInit hX ow_X6_1 (by decide) (by decide) (Nat.le_of_ble_eq_true rfl) dX6_init_1 hF (fun hF => ?_)
  refine g_aload_n hX 0 dX6_init_4 rfl rfl ?_
  refine g_iconst hX dX6_init_5 ?_
  refine u_put hX fp_X6_7 (by decide) (by decide) dX6_init_6 hF (fun σ1 hF => ?_)
  refine g_aload_n hX 0 dX6_init_9 rfl rfl ?_
  refine g_aload_n hX 1 dX6_init_10 rfl rfl ?_
  refine u_putF hX fp_X6_13 hnm (by decide) (by decide) dX6_init_11 hF (fun σ2 hF => ?_)
  refine g_aload_n hX 0 dX6_init_14 rfl rfl ?_
  refine g_aload_n hX 2 dX6_init_15 rfl rfl ?_
  refine u_putF hX fp_X6_17 hnm (by decide) (by decide) dX6_init_16 hF (fun σ3 hF => ?_)
  exact g_vret hX hR hQ hE dX6_init_19 hF
end

section
variable {p : Program} {l : Launch} {e : Env} {R : Room} {s : State} {m : MethodId} {args : Array Value} {below : List Frame} {meth : Method} {c : Code} {D : va_G} {dA : Nat → ClassId} {b0 n0 m0 nE mE : Nat} {Q : State → Prop}
def F_X6_forget (jx0 : Int) (σ : Hp) : Option (Int × Hp) :=
  (rd 7 σ jx0 2).bind fun jv1 => (pw 7 σ jx0 2 (jv1 + 1)).bind fun σ2 => some (0, σ2)
theorem M_X6_forget (jx0 : Int) (σ : Hp) : Mn σ (F_X6_forget jx0 σ) := by
  unfold F_X6_forget
  repeat' first | exact Mn_ret | exact Mn_rz | refine Mn_nm (fun _ => ?_) | refine Mn_nab (fun _ _ => ?_) | refine Mn_nwb (fun _ _ => ?_) | refine Mn_pw (fun _ => ?_) | refine Mn_pz (fun _ => ?_) | refine Mn_aw (fun _ => ?_) | refine Mn_az (fun _ => ?_) | refine Mn_aq (fun _ => ?_) | refine Mn_bo (fun _ => ?_) | refine Mn_bd ?_ (fun _ _ => ?_) | refine Mn_iv ?_ | refine Mn_bLt ?_ ?_ | refine Mn_bLe ?_ ?_ | refine Mn_bEq ?_ ?_ | refine Mn_bN ?_ ?_ | refine Mn_g3 ?_ | refine Mn_g33 ?_ | refine Mn_g66 ?_ | refine Mn_gD ?_
set_option maxRecDepth 100000 in
set_option maxHeartbeats 4000000 in
theorem T_X6_forget (l : Launch) (D : va_G) (dA : Nat → ClassId) (b0 : Nat) (jx0 : Int) (σ σE : Hp) (r : Int) (hF : F_X6_forget jx0 σ = some (r, σE)) : Ct l D dA b0 yX6_forget cX6_forget 1 none 0 0 [(2, jx0)] σ none σE := by
  refine Ct.of (lv0 := [(0, 2, jx0)]) (by decide) RX6 rfl (Nat.le_of_ble_eq_true rfl) rfl ?_ (M_X6_forget jx0 σ r σE hF)
  intro p e R s m args below meth c hX hR hnm
  obtain ⟨Q, hQ⟩ : ∃ Q, Q = Qm D dA b0 σ.1 σ.2.1 below args s none σE := ⟨_, rfl⟩
  rw [← hQ]
  have hE : σE.1 = σE.1 ∧ σE.2.1 = σE.2.1 := ⟨rfl, rfl⟩
  unfold F_X6_forget at hF
  refine g_aload_n hX 0 dX6_forget_0 rfl rfl ?_
  refine g_dup hX dX6_forget_1 (by decide) ?_
  refine g_get hX fl_X6_7 (by decide) (by decide) dX6_forget_2 hF (fun jv1 hF => ?_)
  refine g_iconst hX dX6_forget_5 ?_
  refine g_iadd hX dX6_forget_6 ?_
  refine u_put hX fp_X6_7 (by decide) (by decide) dX6_forget_7 hF (fun σ2 hF => ?_)
  exact g_vret hX hR hQ hE dX6_forget_10 hF
end

section
variable {p : Program} {l : Launch} {e : Env} {R : Room} {s : State} {m : MethodId} {args : Array Value} {below : List Frame} {meth : Method} {c : Code} {D : va_G} {dA : Nat → ClassId} {b0 n0 m0 nE mE : Nat} {Q : State → Prop}
def F_X6_refresh_B81 (jx0 : Int) (jx1 : Int) (σ : Hp) : Option (Int × Hp) :=
  (rd 2 σ jx1 8).bind fun jv15 => bd (F_J7_fill_d0a16 jv15 (-1) σ) fun jv16 σ17 => (rd 2 σ17 jx1 9).bind fun jv18 => bd (F_J7_fill_d0a16 jv18 (-1) σ17) fun jv19 σ20 => (rd 7 σ20 jx0 2).bind fun jv21 => (pw 2 σ20 jx1 10 jv21).bind fun σ22 => some (0, σ22)
theorem M_X6_refresh_B81 (jx0 : Int) (jx1 : Int) (σ : Hp) : Mn σ (F_X6_refresh_B81 jx0 jx1 σ) := by
  unfold F_X6_refresh_B81
  repeat' first | exact Mn_ret | exact Mn_rz | exact M_J7_fill_d0a16 _ _ _ | refine Mn_nm (fun _ => ?_) | refine Mn_nab (fun _ _ => ?_) | refine Mn_nwb (fun _ _ => ?_) | refine Mn_pw (fun _ => ?_) | refine Mn_pz (fun _ => ?_) | refine Mn_aw (fun _ => ?_) | refine Mn_az (fun _ => ?_) | refine Mn_aq (fun _ => ?_) | refine Mn_bo (fun _ => ?_) | refine Mn_bd ?_ (fun _ _ => ?_) | refine Mn_iv ?_ | refine Mn_bLt ?_ ?_ | refine Mn_bLe ?_ ?_ | refine Mn_bEq ?_ ?_ | refine Mn_bN ?_ ?_ | refine Mn_g3 ?_ | refine Mn_g33 ?_ | refine Mn_g66 ?_ | refine Mn_gD ?_
set_option maxRecDepth 100000 in
set_option maxHeartbeats 4000000 in
theorem T_X6_refresh_B81 {r : Int} {σE : Hp} (hX : Cx p R s m args meth c D dA b0 n0 m0 2 nE mE cX6_refresh RX6 1 24) (hR : Rx meth none) (hnm : meth.name = yX6_refresh.name) (hQ : Q = Qm D dA b0 n0 m0 below args s none σE) (hE : nE = σE.1 ∧ mE = σE.2.1) (jx0 : Int) (jx1 : Int) (σ : Hp) (hF : F_X6_refresh_B81 jx0 jx1 σ = some (r, σE)) : G p l e R s m args below meth c D dA b0 n0 m0 2 nE mE Q 81 [(0, 2, jx0), (1, 2, jx1)] [] σ := by
  unfold F_X6_refresh_B81 at hF
  refine g_aload_n hX 1 dX6_refresh_81 rfl rfl ?_
  refine g_get hX fl_X6_47 (by decide) (by decide) dX6_refresh_82 hF (fun jv15 hF => ?_)
  refine g_ldc2 (z := -1) hX kc_X6_53 (by decide) dX6_refresh_85 ?_
  refine g_callSv (rest := []) [(2, jv15), (1, (-1))] hX cw_X6_64 (fun r σ1 h => T_J7_fill_d0a16 l D dA b0 jv15 (-1) σ σ1 r h) ⟨by decide, by decide⟩ rfl rfl (Nat.le_of_ble_eq_true rfl) dX6_refresh_88 hF (fun jv16 σ17 hF => ?_)
  refine g_aload_n hX 1 dX6_refresh_91 rfl rfl ?_
  refine g_get hX fl_X6_58 (by decide) (by decide) dX6_refresh_92 hF (fun jv18 hF => ?_)
  refine g_ldc2 (z := -1) hX kc_X6_53 (by decide) dX6_refresh_95 ?_
  refine g_callSv (rest := []) [(2, jv18), (1, (-1))] hX cw_X6_64 (fun r σ1 h => T_J7_fill_d0a16 l D dA b0 jv18 (-1) σ17 σ1 r h) ⟨by decide, by decide⟩ rfl rfl (Nat.le_of_ble_eq_true rfl) dX6_refresh_98 hF (fun jv19 σ20 hF => ?_)
  refine g_aload_n hX 1 dX6_refresh_101 rfl rfl ?_
  refine g_aload_n hX 0 dX6_refresh_102 rfl rfl ?_
  refine g_get hX fl_X6_7 (by decide) (by decide) dX6_refresh_103 hF (fun jv21 hF => ?_)
  refine u_put hX fp_X6_55 (by decide) (by decide) dX6_refresh_106 hF (fun σ22 hF => ?_)
  exact g_vret hX hR hQ hE dX6_refresh_109 hF
def F_X6_refresh_B55 (jx0 : Int) (jx1 : Int) (σ : Hp) : Option (Int × Hp) :=
  (rd 7 σ jx0 0).bind fun jv5 => (rd 5 σ jv5 2).bind fun jv6 => nab 12 σ jv6 0 fun ja7 σ8 => (pw 2 σ8 jx1 8 ja7).bind fun σ9 => (rd 7 σ9 jx0 0).bind fun jv10 => (rd 5 σ9 jv10 2).bind fun jv11 => nab 12 σ9 jv11 0 fun ja12 σ13 => (pw 2 σ13 jx1 9 ja12).bind fun σ14 => F_X6_refresh_B81 jx0 jx1  σ14
theorem M_X6_refresh_B55 (jx0 : Int) (jx1 : Int) (σ : Hp) : Mn σ (F_X6_refresh_B55 jx0 jx1 σ) := by
  unfold F_X6_refresh_B55
  repeat' first | exact Mn_ret | exact Mn_rz | exact M_X6_refresh_B81 _ _  _ | refine Mn_nm (fun _ => ?_) | refine Mn_nab (fun _ _ => ?_) | refine Mn_nwb (fun _ _ => ?_) | refine Mn_pw (fun _ => ?_) | refine Mn_pz (fun _ => ?_) | refine Mn_aw (fun _ => ?_) | refine Mn_az (fun _ => ?_) | refine Mn_aq (fun _ => ?_) | refine Mn_bo (fun _ => ?_) | refine Mn_bd ?_ (fun _ _ => ?_) | refine Mn_iv ?_ | refine Mn_bLt ?_ ?_ | refine Mn_bLe ?_ ?_ | refine Mn_bEq ?_ ?_ | refine Mn_bN ?_ ?_ | refine Mn_g3 ?_ | refine Mn_g33 ?_ | refine Mn_g66 ?_ | refine Mn_gD ?_
set_option maxRecDepth 100000 in
set_option maxHeartbeats 4000000 in
theorem T_X6_refresh_B55 {r : Int} {σE : Hp} (hX : Cx p R s m args meth c D dA b0 n0 m0 2 nE mE cX6_refresh RX6 1 24) (hR : Rx meth none) (hnm : meth.name = yX6_refresh.name) (hQ : Q = Qm D dA b0 n0 m0 below args s none σE) (hE : nE = σE.1 ∧ mE = σE.2.1) (jx0 : Int) (jx1 : Int) (σ : Hp) (hF : F_X6_refresh_B55 jx0 jx1 σ = some (r, σE)) : G p l e R s m args below meth c D dA b0 n0 m0 2 nE mE Q 55 [(0, 2, jx0), (1, 2, jx1)] [] σ := by
  unfold F_X6_refresh_B55 at hF
  refine g_aload_n hX 1 dX6_refresh_55 rfl rfl ?_
  refine g_aload_n hX 0 dX6_refresh_56 rfl rfl ?_
  refine g_get hX fl_X6_13 (by decide) (by decide) dX6_refresh_57 hF (fun jv5 hF => ?_)
  refine g_get hX fl_X6_61 (by decide) (by decide) dX6_refresh_60 hF (fun jv6 hF => ?_)
  refine u_newa (atype := .long) (ty := .long) hX rfl (Or.inr (Or.inl ⟨rfl, rfl⟩)) ac_long dX6_refresh_63 hF (fun ja7 σ8 hja7 hF => ?_)
  refine u_put hX fp_X6_47 (by decide) (by decide) dX6_refresh_65 hF (fun σ9 hF => ?_)
  refine g_aload_n hX 1 dX6_refresh_68 rfl rfl ?_
  refine g_aload_n hX 0 dX6_refresh_69 rfl rfl ?_
  refine g_get hX fl_X6_13 (by decide) (by decide) dX6_refresh_70 hF (fun jv10 hF => ?_)
  refine g_get hX fl_X6_61 (by decide) (by decide) dX6_refresh_73 hF (fun jv11 hF => ?_)
  refine u_newa (atype := .long) (ty := .long) hX rfl (Or.inr (Or.inl ⟨rfl, rfl⟩)) ac_long dX6_refresh_76 hF (fun ja12 σ13 hja12 hF => ?_)
  refine u_put hX fp_X6_58 (by decide) (by decide) dX6_refresh_78 hF (fun σ14 hF => ?_)
  exact T_X6_refresh_B81 hX hR hnm hQ hE jx0 jx1   σ14 hF
def F_X6_refresh_B26 (jx0 : Int) (jx1 : Int) (σ : Hp) : Option (Int × Hp) :=
  (rd 2 σ jx1 8).bind fun jv4 => bN jv4 (F_X6_refresh_B55 jx0 jx1  σ) ((rd 2 σ jx1 9).bind fun jv23 => bN jv23 (F_X6_refresh_B55 jx0 jx1  σ) ((rd 2 σ jx1 8).bind fun jv24 => (al 12 σ jv24).bind fun jv25 => (rd 7 σ jx0 0).bind fun jv26 => (rd 5 σ jv26 2).bind fun jv27 => bEq jv25 jv27 (F_X6_refresh_B81 jx0 jx1  σ) (F_X6_refresh_B55 jx0 jx1  σ)))
theorem M_X6_refresh_B26 (jx0 : Int) (jx1 : Int) (σ : Hp) : Mn σ (F_X6_refresh_B26 jx0 jx1 σ) := by
  unfold F_X6_refresh_B26
  repeat' first | exact Mn_ret | exact Mn_rz | exact M_X6_refresh_B55 _ _  _ | exact M_X6_refresh_B81 _ _  _ | refine Mn_nm (fun _ => ?_) | refine Mn_nab (fun _ _ => ?_) | refine Mn_nwb (fun _ _ => ?_) | refine Mn_pw (fun _ => ?_) | refine Mn_pz (fun _ => ?_) | refine Mn_aw (fun _ => ?_) | refine Mn_az (fun _ => ?_) | refine Mn_aq (fun _ => ?_) | refine Mn_bo (fun _ => ?_) | refine Mn_bd ?_ (fun _ _ => ?_) | refine Mn_iv ?_ | refine Mn_bLt ?_ ?_ | refine Mn_bLe ?_ ?_ | refine Mn_bEq ?_ ?_ | refine Mn_bN ?_ ?_ | refine Mn_g3 ?_ | refine Mn_g33 ?_ | refine Mn_g66 ?_ | refine Mn_gD ?_
set_option maxRecDepth 100000 in
set_option maxHeartbeats 4000000 in
theorem T_X6_refresh_B26 {r : Int} {σE : Hp} (hX : Cx p R s m args meth c D dA b0 n0 m0 2 nE mE cX6_refresh RX6 1 24) (hR : Rx meth none) (hnm : meth.name = yX6_refresh.name) (hQ : Q = Qm D dA b0 n0 m0 below args s none σE) (hE : nE = σE.1 ∧ mE = σE.2.1) (jx0 : Int) (jx1 : Int) (σ : Hp) (hF : F_X6_refresh_B26 jx0 jx1 σ = some (r, σE)) : G p l e R s m args below meth c D dA b0 n0 m0 2 nE mE Q 26 [(0, 2, jx0), (1, 2, jx1)] [] σ := by
  unfold F_X6_refresh_B26 at hF
  refine g_aload_n hX 1 dX6_refresh_26 rfl rfl ?_
  refine g_get hX fl_X6_47 (by decide) (by decide) dX6_refresh_27 hF (fun jv4 hF => ?_)
  refine g_ifnull (tgt := 55) hX dX6_refresh_30 (by decide) hF (fun hc hF => ?_) (fun hc hF => ?_)
  · exact T_X6_refresh_B55 hX hR hnm hQ hE jx0 jx1   σ hF
  · refine g_aload_n hX 1 dX6_refresh_33 rfl rfl ?_
    refine g_get hX fl_X6_58 (by decide) (by decide) dX6_refresh_34 hF (fun jv23 hF => ?_)
    refine g_ifnull (tgt := 55) hX dX6_refresh_37 (by decide) hF (fun hc hF => ?_) (fun hc hF => ?_)
    · exact T_X6_refresh_B55 hX hR hnm hQ hE jx0 jx1   σ hF
    · refine g_aload_n hX 1 dX6_refresh_40 rfl rfl ?_
      refine g_get hX fl_X6_47 (by decide) (by decide) dX6_refresh_41 hF (fun jv24 hF => ?_)
      refine g_alen hX (by decide) dX6_refresh_44 hF (fun jv25 hF => ?_)
      refine g_aload_n hX 0 dX6_refresh_45 rfl rfl ?_
      refine g_get hX fl_X6_13 (by decide) (by decide) dX6_refresh_46 hF (fun jv26 hF => ?_)
      refine g_get hX fl_X6_61 (by decide) (by decide) dX6_refresh_49 hF (fun jv27 hF => ?_)
      refine g_icmp_eq (tgt := 81) hX dX6_refresh_52 (by decide) hF (fun hc hF => ?_) (fun hc hF => ?_)
      · exact T_X6_refresh_B81 hX hR hnm hQ hE jx0 jx1   σ hF
      · exact T_X6_refresh_B55 hX hR hnm hQ hE jx0 jx1   σ hF
def F_X6_refresh (jx0 : Int) (jx1 : Int) (σ : Hp) : Option (Int × Hp) :=
  (rd 2 σ jx1 10).bind fun jv1 => (rd 7 σ jx0 2).bind fun jv2 => bEq jv1 jv2 ((rd 2 σ jx1 8).bind fun jv3 => bN jv3 (F_X6_refresh_B26 jx0 jx1  σ) ((rd 2 σ jx1 9).bind fun jv28 => bN jv28 (F_X6_refresh_B26 jx0 jx1  σ) (some (0, σ)))) (F_X6_refresh_B26 jx0 jx1  σ)
theorem M_X6_refresh (jx0 : Int) (jx1 : Int) (σ : Hp) : Mn σ (F_X6_refresh jx0 jx1 σ) := by
  unfold F_X6_refresh
  repeat' first | exact Mn_ret | exact Mn_rz | exact M_X6_refresh_B26 _ _  _ | refine Mn_nm (fun _ => ?_) | refine Mn_nab (fun _ _ => ?_) | refine Mn_nwb (fun _ _ => ?_) | refine Mn_pw (fun _ => ?_) | refine Mn_pz (fun _ => ?_) | refine Mn_aw (fun _ => ?_) | refine Mn_az (fun _ => ?_) | refine Mn_aq (fun _ => ?_) | refine Mn_bo (fun _ => ?_) | refine Mn_bd ?_ (fun _ _ => ?_) | refine Mn_iv ?_ | refine Mn_bLt ?_ ?_ | refine Mn_bLe ?_ ?_ | refine Mn_bEq ?_ ?_ | refine Mn_bN ?_ ?_ | refine Mn_g3 ?_ | refine Mn_g33 ?_ | refine Mn_g66 ?_ | refine Mn_gD ?_
set_option maxRecDepth 100000 in
set_option maxHeartbeats 4000000 in
theorem T_X6_refresh (l : Launch) (D : va_G) (dA : Nat → ClassId) (b0 : Nat) (jx0 : Int) (jx1 : Int) (σ σE : Hp) (r : Int) (hF : F_X6_refresh jx0 jx1 σ = some (r, σE)) : Ct l D dA b0 yX6_refresh cX6_refresh 2 none 1 24 [(2, jx0), (2, jx1)] σ none σE := by
  refine Ct.of (lv0 := [(0, 2, jx0), (1, 2, jx1)]) (by decide) RX6 rfl (Nat.le_of_ble_eq_true rfl) rfl ?_ (M_X6_refresh jx0 jx1 σ r σE hF)
  intro p e R s m args below meth c hX hR hnm
  obtain ⟨Q, hQ⟩ : ∃ Q, Q = Qm D dA b0 σ.1 σ.2.1 below args s none σE := ⟨_, rfl⟩
  rw [← hQ]
  have hE : σE.1 = σE.1 ∧ σE.2.1 = σE.2.1 := ⟨rfl, rfl⟩
  unfold F_X6_refresh at hF
  refine g_aload_n hX 1 dX6_refresh_0 rfl rfl ?_
  refine g_get hX fl_X6_55 (by decide) (by decide) dX6_refresh_1 hF (fun jv1 hF => ?_)
  refine g_aload_n hX 0 dX6_refresh_4 rfl rfl ?_
  refine g_get hX fl_X6_7 (by decide) (by decide) dX6_refresh_5 hF (fun jv2 hF => ?_)
  refine g_icmp_ne (tgt := 26) hX dX6_refresh_8 (by decide) hF (fun hc hF => ?_) (fun hc hF => ?_)
  · refine g_aload_n hX 1 dX6_refresh_11 rfl rfl ?_
    refine g_get hX fl_X6_47 (by decide) (by decide) dX6_refresh_12 hF (fun jv3 hF => ?_)
    refine g_ifnull (tgt := 26) hX dX6_refresh_15 (by decide) hF (fun hc hF => ?_) (fun hc hF => ?_)
    · exact T_X6_refresh_B26 hX hR hnm hQ hE jx0 jx1   σ hF
    · refine g_aload_n hX 1 dX6_refresh_18 rfl rfl ?_
      refine g_get hX fl_X6_58 (by decide) (by decide) dX6_refresh_19 hF (fun jv28 hF => ?_)
      refine g_ifnull (tgt := 26) hX dX6_refresh_22 (by decide) hF (fun hc hF => ?_) (fun hc hF => ?_)
      · exact T_X6_refresh_B26 hX hR hnm hQ hE jx0 jx1   σ hF
      · exact g_vret hX hR hQ hE dX6_refresh_25 hF
  · exact T_X6_refresh_B26 hX hR hnm hQ hE jx0 jx1   σ hF
end

section
variable {p : Program} {l : Launch} {e : Env} {R : Room} {s : State} {m : MethodId} {args : Array Value} {below : List Frame} {meth : Method} {c : Code} {D : va_G} {dA : Nat → ClassId} {b0 n0 m0 nE mE : Nat} {Q : State → Prop}
def F_X6_meanOfChildren_B66 (rec : Int → Int → Int → Int → Hp → Option (Int × Hp)) (k6 : Int → Int → Hp → Option (Int × Hp)) (jx0 : Int) (jx1 : Int) (jx2 : Int) (jx3 : Int) (jx4 : Int) (jx6 : Int) (σ : Hp) : Option (Int × Hp) :=
  k6 jx4 (jx6 + 1) σ
theorem M_X6_meanOfChildren_B66 (rec : Int → Int → Int → Int → Hp → Option (Int × Hp)) (hrec : ∀ (x0 x1 x2 x3 : Int) (σ : Hp), Mn σ (rec x0 x1 x2 x3 σ)) (k6 : Int → Int → Hp → Option (Int × Hp)) (hk6 : ∀ (jx4 : Int) (jx6 : Int) (σ : Hp), Mn σ (k6 jx4 jx6 σ)) (jx0 : Int) (jx1 : Int) (jx2 : Int) (jx3 : Int) (jx4 : Int) (jx6 : Int) (σ : Hp) : Mn σ (F_X6_meanOfChildren_B66 rec k6 jx0 jx1 jx2 jx3 jx4 jx6 σ) := by
  unfold F_X6_meanOfChildren_B66
  repeat' first | exact Mn_ret | exact Mn_rz | exact hk6 _ _  _ | exact hrec _ _ _ _ _ | refine Mn_nm (fun _ => ?_) | refine Mn_nab (fun _ _ => ?_) | refine Mn_nwb (fun _ _ => ?_) | refine Mn_pw (fun _ => ?_) | refine Mn_pz (fun _ => ?_) | refine Mn_aw (fun _ => ?_) | refine Mn_az (fun _ => ?_) | refine Mn_aq (fun _ => ?_) | refine Mn_bo (fun _ => ?_) | refine Mn_bd ?_ (fun _ _ => ?_) | refine Mn_iv ?_ | refine Mn_bLt ?_ ?_ | refine Mn_bLe ?_ ?_ | refine Mn_bEq ?_ ?_ | refine Mn_bN ?_ ?_ | refine Mn_g3 ?_ | refine Mn_g33 ?_ | refine Mn_g66 ?_ | refine Mn_gD ?_
set_option maxRecDepth 100000 in
set_option maxHeartbeats 4000000 in
theorem T_X6_meanOfChildren_B66 (rec : Int → Int → Int → Int → Hp → Option (Int × Hp)) (fw lw : Nat) (hrec : ∀ (x0 x1 x2 x3 : Int) (σ σ1 : Hp) (r : Int), rec x0 x1 x2 x3 σ = some (r, σ1) → Ct l D dA b0 yX6_worthOf cX6_worthOf 5 (some .long) fw lw [(2, x0), (2, x1), (0, x2), (0, x3)] σ (some (pV 1 r)) σ1) (hrecM : ∀ (x0 x1 x2 x3 : Int) (σ : Hp), Mn σ (rec x0 x1 x2 x3 σ)) {r : Int} {σE : Hp} (hX : Cx p R s m args meth c D dA b0 n0 m0 8 nE mE cX6_meanOfChildren RX6 (fw + 20) (lw + 400)) (hR : Rx meth (some .long)) (hnm : meth.name = yX6_meanOfChildren.name) (hQ : Q = Qm D dA b0 n0 m0 below args s (some (pV 1 r)) σE) (hE : nE = σE.1 ∧ mE = σE.2.1) (k6 : Int → Int → Hp → Option (Int × Hp)) (jx0 : Int) (jx1 : Int) (jx2 : Int) (jx3 : Int) (jx4 : Int) (jx6 : Int) (hk6 : ∀ (jx4 : Int) (jx6 : Int) (σ : Hp), k6 jx4 jx6 σ = some (r, σE) → G p l e R s m args below meth c D dA b0 n0 m0 8 nE mE Q 6 [(0, 2, jx0), (1, 2, jx1), (2, 0, jx2), (3, 0, jx3), (4, 1, jx4), (6, 0, jx6)] [] σ) (σ : Hp) (hF : F_X6_meanOfChildren_B66 rec k6 jx0 jx1 jx2 jx3 jx4 jx6 σ = some (r, σE)) : G p l e R s m args below meth c D dA b0 n0 m0 8 nE mE Q 66 [(0, 2, jx0), (1, 2, jx1), (2, 0, jx2), (3, 0, jx3), (4, 1, jx4), (6, 0, jx6)] [] σ := by
  unfold F_X6_meanOfChildren_B66 at hF
  refine g_iinc (lv' := [(6, 0, (jx6 + 1)), (0, 2, jx0), (1, 2, jx1), (2, 0, jx2), (3, 0, jx3), (4, 1, jx4)]) hX 5 dX6_meanOfChildren_66 rfl (by decide) rfl ?_
  refine g_goto (tgt := 6) hX dX6_meanOfChildren_69 (by decide) ?_
  refine g_lvp (lv' := [(0, 2, jx0), (1, 2, jx1), (2, 0, jx2), (3, 0, jx3), (4, 1, jx4), (6, 0, (jx6 + 1))]) [1, 2, 3, 4, 5, 0] rfl ?_
  exact hk6 jx4 (jx6 + 1) σ hF
def F_X6_meanOfChildren_L6 (rec : Int → Int → Int → Int → Hp → Option (Int × Hp)) (jx0 : Int) (jx1 : Int) (jx2 : Int) (jx3 : Int) : Nat → Int → Int → Hp → Option (Int × Hp)
  | 0, _, _, _ => none
  | n + 1, jx4, jx6, σ => (rd 2 σ jx1 6).bind fun jv1 => bLt jx6 jv1 (bd (iv 2 σ jx1 (F_X1_childAt  jx1 jx6 σ)) fun jv2 σ3 => bN jv2 (F_X6_meanOfChildren_B66 rec (F_X6_meanOfChildren_L6 rec jx0 jx1 jx2 jx3 n) jx0 jx1 jx2 jx3 jx4 jx6  σ3) ((rd 2 σ3 jv2 4).bind fun jv4 => g3 jv4 ((rd 7 σ3 jx0 0).bind fun jv5 => (rd 2 σ3 jv2 1).bind fun jv6 => bd (iv 5 σ3 jv5 (F_X4_flow  jv5 jx2 0 jv6 σ3)) fun jv7 σ8 => bd (iv 7 σ8 jx0 (rec jx0 jv2 jv7 (jx3 - 1) σ8)) fun jv9 σ10 => nm ((jx4 + (jv4 * jv9))) fun jv11 => F_X6_meanOfChildren_B66 rec (F_X6_meanOfChildren_L6 rec jx0 jx1 jx2 jx3 n) jx0 jx1 jx2 jx3 jv11 jx6  σ10))) (some (jx4, σ))
theorem M_X6_meanOfChildren_L6 (rec : Int → Int → Int → Int → Hp → Option (Int × Hp)) (hrec : ∀ (x0 x1 x2 x3 : Int) (σ : Hp), Mn σ (rec x0 x1 x2 x3 σ)) (jx0 : Int) (jx1 : Int) (jx2 : Int) (jx3 : Int) : ∀ (n : Nat) (jx4 : Int) (jx6 : Int) (σ : Hp), Mn σ (F_X6_meanOfChildren_L6 rec jx0 jx1 jx2 jx3 n jx4 jx6 σ) := by
  intro n
  induction n with
  | zero => intros; rw [F_X6_meanOfChildren_L6]; exact Mn_none
  | succ n hk6 =>
    intros
    rw [F_X6_meanOfChildren_L6]
    repeat' first | exact Mn_ret | exact Mn_rz | exact hk6 _ _  _ | exact hrec _ _ _ _ _ | exact M_X1_childAt _ _ _ | exact M_X6_meanOfChildren_B66 rec hrec (F_X6_meanOfChildren_L6 rec jx0 jx1 jx2 jx3 n) hk6 _ _ _ _ _ _  _ | exact M_X4_flow _ _ _ _ _ | refine Mn_nm (fun _ => ?_) | refine Mn_nab (fun _ _ => ?_) | refine Mn_nwb (fun _ _ => ?_) | refine Mn_pw (fun _ => ?_) | refine Mn_pz (fun _ => ?_) | refine Mn_aw (fun _ => ?_) | refine Mn_az (fun _ => ?_) | refine Mn_aq (fun _ => ?_) | refine Mn_bo (fun _ => ?_) | refine Mn_bd ?_ (fun _ _ => ?_) | refine Mn_iv ?_ | refine Mn_bLt ?_ ?_ | refine Mn_bLe ?_ ?_ | refine Mn_bEq ?_ ?_ | refine Mn_bN ?_ ?_ | refine Mn_g3 ?_ | refine Mn_g33 ?_ | refine Mn_g66 ?_ | refine Mn_gD ?_
set_option maxRecDepth 100000 in
set_option maxHeartbeats 4000000 in
theorem T_X6_meanOfChildren_L6 (rec : Int → Int → Int → Int → Hp → Option (Int × Hp)) (fw lw : Nat) (hrec : ∀ (x0 x1 x2 x3 : Int) (σ σ1 : Hp) (r : Int), rec x0 x1 x2 x3 σ = some (r, σ1) → Ct l D dA b0 yX6_worthOf cX6_worthOf 5 (some .long) fw lw [(2, x0), (2, x1), (0, x2), (0, x3)] σ (some (pV 1 r)) σ1) (hrecM : ∀ (x0 x1 x2 x3 : Int) (σ : Hp), Mn σ (rec x0 x1 x2 x3 σ)) {r : Int} {σE : Hp} (hX : Cx p R s m args meth c D dA b0 n0 m0 8 nE mE cX6_meanOfChildren RX6 (fw + 20) (lw + 400)) (hR : Rx meth (some .long)) (hnm : meth.name = yX6_meanOfChildren.name) (hQ : Q = Qm D dA b0 n0 m0 below args s (some (pV 1 r)) σE) (hE : nE = σE.1 ∧ mE = σE.2.1) (jx0 : Int) (jx1 : Int) (jx2 : Int) (jx3 : Int) : ∀ (n : Nat) (jx4 : Int) (jx6 : Int) (σ : Hp), F_X6_meanOfChildren_L6 rec jx0 jx1 jx2 jx3 n jx4 jx6 σ = some (r, σE) → G p l e R s m args below meth c D dA b0 n0 m0 8 nE mE Q 6 [(0, 2, jx0), (1, 2, jx1), (2, 0, jx2), (3, 0, jx3), (4, 1, jx4), (6, 0, jx6)] [] σ := by
  intro n
  induction n with
  | zero =>
    intro jx4 jx6 σ hF
    rw [F_X6_meanOfChildren_L6] at hF
    cases hF
  | succ n hk6 =>
    intro jx4 jx6 σ hF
    rw [F_X6_meanOfChildren_L6] at hF
    refine g_iload hX 5 dX6_meanOfChildren_6 rfl ?_
    refine g_aload_n hX 1 dX6_meanOfChildren_8 rfl rfl ?_
    refine g_get hX fl_X6_113 (by decide) (by decide) dX6_meanOfChildren_9 hF (fun jv1 hF => ?_)
    refine g_icmp_ge (tgt := 72) hX dX6_meanOfChildren_12 (by decide) hF (fun hc hF => ?_) (fun hc hF => ?_)
    · refine g_aload_n hX 1 dX6_meanOfChildren_15 rfl rfl ?_
      refine g_iload hX 5 dX6_meanOfChildren_16 rfl ?_
      refine g_callV (t := 2) (ci := 1) (rest := []) [(0, jx6)] hX cw_X6_116 rfl (by decide) (by decide) (fun r σ1 h => T_X1_childAt l D dA b0  jx1 jx6 σ σ1 r h) ⟨by omega, by omega⟩ rfl rfl (Nat.le_of_ble_eq_true rfl) dX6_meanOfChildren_18 hF (fun jv2 σ3 hF => ?_)
      refine g_astore (lv' := [(7, 2, jv2), (0, 2, jx0), (1, 2, jx1), (2, 0, jx2), (3, 0, jx3), (4, 1, jx4), (6, 0, jx6)]) hX dX6_meanOfChildren_21 (by decide) rfl ?_
      refine g_aload hX 0 dX6_meanOfChildren_23 rfl ?_
      refine g_ifnonnull (tgt := 31) hX dX6_meanOfChildren_25 (by decide) hF (fun hc hF => ?_) (fun hc hF => ?_)
      · refine g_goto (tgt := 66) hX dX6_meanOfChildren_28 (by decide) ?_
        refine g_lvp (lv' := [(0, 2, jx0), (1, 2, jx1), (2, 0, jx2), (3, 0, jx3), (4, 1, jx4), (6, 0, jx6)]) [1, 2, 3, 4, 5, 6] rfl ?_
        exact T_X6_meanOfChildren_B66 rec fw lw hrec hrecM hX hR hnm hQ hE (F_X6_meanOfChildren_L6 rec jx0 jx1 jx2 jx3 n) jx0 jx1 jx2 jx3 jx4 jx6  hk6  σ3 hF
      · refine g_lload hX 5 dX6_meanOfChildren_31 rfl ?_
        refine g_aload hX 0 dX6_meanOfChildren_33 rfl ?_
        refine g_get hX fl_X6_120 (by decide) (by decide) dX6_meanOfChildren_35 hF (fun jv4 hF => ?_)
        refine g_i2l hX dX6_meanOfChildren_38 hF (fun hF => ?_)
        refine g_aload_n hX 1 dX6_meanOfChildren_39 rfl rfl ?_
        refine g_aload hX 0 dX6_meanOfChildren_40 rfl ?_
        refine g_aload_n hX 1 dX6_meanOfChildren_42 rfl rfl ?_
        refine g_get hX fl_X6_13 (by decide) (by decide) dX6_meanOfChildren_43 hF (fun jv5 hF => ?_)
        refine g_iload_n hX 3 dX6_meanOfChildren_46 rfl rfl ?_
        refine g_iconst hX dX6_meanOfChildren_47 ?_
        refine g_aload hX 0 dX6_meanOfChildren_48 rfl ?_
        refine g_get hX fl_X6_123 (by decide) (by decide) dX6_meanOfChildren_50 hF (fun jv6 hF => ?_)
        refine g_callV (t := 0) (ci := 4) (rest := [(2, jv2), (2, jx0), (1, jv4), (1, jx4)]) [(0, jx2), (0, 0), (2, jv6)] hX cw_X6_127 rfl (by decide) (by decide) (fun r σ1 h => T_X4_flow l D dA b0  jv5 jx2 0 jv6 σ3 σ1 r h) ⟨by omega, by omega⟩ rfl rfl (Nat.le_of_ble_eq_true rfl) dX6_meanOfChildren_53 hF (fun jv7 σ8 hF => ?_)
        refine g_iload_n hX 4 dX6_meanOfChildren_56 rfl rfl ?_
        refine g_iconst hX dX6_meanOfChildren_57 ?_
        refine g_isub hX dX6_meanOfChildren_58 ?_
        refine g_callV (t := 1) (ci := 6) (rest := [(1, jv4), (1, jx4)]) [(2, jv2), (0, jv7), (0, (jx3 - 1))] hX cw_X6_38 rfl (by decide) (by decide) (fun r σ1 h => hrec jx0 jv2 jv7 (jx3 - 1) σ8 σ1 r h) ⟨by omega, by omega⟩ rfl rfl (Nat.le_of_ble_eq_true rfl) dX6_meanOfChildren_59 hF (fun jv9 σ10 hF => ?_)
        refine g_lmul hX dX6_meanOfChildren_62 ?_
        refine g_ladd hX dX6_meanOfChildren_63 ?_
        refine g_nm hF (fun jv11 hF => ?_)
        refine g_lstore (lv' := [(4, 1, jv11), (7, 2, jv2), (0, 2, jx0), (1, 2, jx1), (2, 0, jx2), (3, 0, jx3), (6, 0, jx6)]) hX dX6_meanOfChildren_64 (by decide) rfl ?_
        refine g_lvp (lv' := [(0, 2, jx0), (1, 2, jx1), (2, 0, jx2), (3, 0, jx3), (4, 1, jv11), (6, 0, jx6)]) [2, 3, 4, 5, 0, 6] rfl ?_
        exact T_X6_meanOfChildren_B66 rec fw lw hrec hrecM hX hR hnm hQ hE (F_X6_meanOfChildren_L6 rec jx0 jx1 jx2 jx3 n) jx0 jx1 jx2 jx3 jv11 jx6  hk6  σ10 hF
    · refine g_lload hX 4 dX6_meanOfChildren_72 rfl ?_
      exact g_lret hX hR hQ hE dX6_meanOfChildren_74 hF
def F_X6_meanOfChildren (rec : Int → Int → Int → Int → Hp → Option (Int × Hp)) (jx0 : Int) (jx1 : Int) (jx2 : Int) (jx3 : Int) (σ : Hp) : Option (Int × Hp) :=
  F_X6_meanOfChildren_L6 rec jx0 jx1 jx2 jx3 fu 0 0 σ
theorem M_X6_meanOfChildren (rec : Int → Int → Int → Int → Hp → Option (Int × Hp)) (hrec : ∀ (x0 x1 x2 x3 : Int) (σ : Hp), Mn σ (rec x0 x1 x2 x3 σ)) (jx0 : Int) (jx1 : Int) (jx2 : Int) (jx3 : Int) (σ : Hp) : Mn σ (F_X6_meanOfChildren rec jx0 jx1 jx2 jx3 σ) := by
  unfold F_X6_meanOfChildren
  repeat' first | exact Mn_ret | exact Mn_rz | exact hrec _ _ _ _ _ | exact M_X6_meanOfChildren_L6 rec hrec _ _ _ _ _ _ _ _ | refine Mn_nm (fun _ => ?_) | refine Mn_nab (fun _ _ => ?_) | refine Mn_nwb (fun _ _ => ?_) | refine Mn_pw (fun _ => ?_) | refine Mn_pz (fun _ => ?_) | refine Mn_aw (fun _ => ?_) | refine Mn_az (fun _ => ?_) | refine Mn_aq (fun _ => ?_) | refine Mn_bo (fun _ => ?_) | refine Mn_bd ?_ (fun _ _ => ?_) | refine Mn_iv ?_ | refine Mn_bLt ?_ ?_ | refine Mn_bLe ?_ ?_ | refine Mn_bEq ?_ ?_ | refine Mn_bN ?_ ?_ | refine Mn_g3 ?_ | refine Mn_g33 ?_ | refine Mn_g66 ?_ | refine Mn_gD ?_
set_option maxRecDepth 100000 in
set_option maxHeartbeats 4000000 in
theorem T_X6_meanOfChildren (l : Launch) (D : va_G) (dA : Nat → ClassId) (b0 : Nat) (rec : Int → Int → Int → Int → Hp → Option (Int × Hp)) (fw lw : Nat) (hrec : ∀ (x0 x1 x2 x3 : Int) (σ σ1 : Hp) (r : Int), rec x0 x1 x2 x3 σ = some (r, σ1) → Ct l D dA b0 yX6_worthOf cX6_worthOf 5 (some .long) fw lw [(2, x0), (2, x1), (0, x2), (0, x3)] σ (some (pV 1 r)) σ1) (hrecM : ∀ (x0 x1 x2 x3 : Int) (σ : Hp), Mn σ (rec x0 x1 x2 x3 σ)) (jx0 : Int) (jx1 : Int) (jx2 : Int) (jx3 : Int) (σ σE : Hp) (r : Int) (hF : F_X6_meanOfChildren rec jx0 jx1 jx2 jx3 σ = some (r, σE)) : Ct l D dA b0 yX6_meanOfChildren cX6_meanOfChildren 8 (some .long) (fw + 20) (lw + 400) [(2, jx0), (2, jx1), (0, jx2), (0, jx3)] σ (some (pV 1 r)) σE := by
  refine Ct.of (lv0 := [(0, 2, jx0), (1, 2, jx1), (2, 0, jx2), (3, 0, jx3)]) (by decide) RX6 rfl (Nat.le_of_ble_eq_true rfl) rfl ?_ (M_X6_meanOfChildren rec hrecM jx0 jx1 jx2 jx3 σ r σE hF)
  intro p e R s m args below meth c hX hR hnm
  obtain ⟨Q, hQ⟩ : ∃ Q, Q = Qm D dA b0 σ.1 σ.2.1 below args s (some (pV 1 r)) σE := ⟨_, rfl⟩
  rw [← hQ]
  have hE : σE.1 = σE.1 ∧ σE.2.1 = σE.2.1 := ⟨rfl, rfl⟩
  unfold F_X6_meanOfChildren at hF
  refine g_lconst (z := 0) hX dX6_meanOfChildren_0 rfl ?_
  refine g_lstore (lv' := [(4, 1, 0), (0, 2, jx0), (1, 2, jx1), (2, 0, jx2), (3, 0, jx3)]) hX dX6_meanOfChildren_1 (by decide) rfl ?_
  refine g_iconst hX dX6_meanOfChildren_3 ?_
  refine g_istore (lv' := [(6, 0, 0), (4, 1, 0), (0, 2, jx0), (1, 2, jx1), (2, 0, jx2), (3, 0, jx3)]) hX dX6_meanOfChildren_4 (by decide) rfl ?_
  refine g_lvp (lv' := [(0, 2, jx0), (1, 2, jx1), (2, 0, jx2), (3, 0, jx3), (4, 1, 0), (6, 0, 0)]) [2, 3, 4, 5, 1, 0] rfl ?_
  exact T_X6_meanOfChildren_L6 rec fw lw hrec hrecM hX hR hnm hQ hE jx0 jx1 jx2 jx3  fu 0 0 σ hF
end

section
variable {p : Program} {l : Launch} {e : Env} {R : Room} {s : State} {m : MethodId} {args : Array Value} {below : List Frame} {meth : Method} {c : Code} {D : va_G} {dA : Nat → ClassId} {b0 n0 m0 nE mE : Nat} {Q : State → Prop}
def F_X6_meanFrom_B46 (rec : Int → Int → Int → Int → Hp → Option (Int × Hp)) (jx2 : Int) (jx4 : Int) (σ : Hp) : Option (Int × Hp) :=
  (ar 12 σ jx4 jx2).bind fun jv7 => some (jv7, σ)
theorem M_X6_meanFrom_B46 (rec : Int → Int → Int → Int → Hp → Option (Int × Hp)) (hrec : ∀ (x0 x1 x2 x3 : Int) (σ : Hp), Mn σ (rec x0 x1 x2 x3 σ)) (jx2 : Int) (jx4 : Int) (σ : Hp) : Mn σ (F_X6_meanFrom_B46 rec jx2 jx4 σ) := by
  unfold F_X6_meanFrom_B46
  repeat' first | exact Mn_ret | exact Mn_rz | exact hrec _ _ _ _ _ | refine Mn_nm (fun _ => ?_) | refine Mn_nab (fun _ _ => ?_) | refine Mn_nwb (fun _ _ => ?_) | refine Mn_pw (fun _ => ?_) | refine Mn_pz (fun _ => ?_) | refine Mn_aw (fun _ => ?_) | refine Mn_az (fun _ => ?_) | refine Mn_aq (fun _ => ?_) | refine Mn_bo (fun _ => ?_) | refine Mn_bd ?_ (fun _ _ => ?_) | refine Mn_iv ?_ | refine Mn_bLt ?_ ?_ | refine Mn_bLe ?_ ?_ | refine Mn_bEq ?_ ?_ | refine Mn_bN ?_ ?_ | refine Mn_g3 ?_ | refine Mn_g33 ?_ | refine Mn_g66 ?_ | refine Mn_gD ?_
set_option maxRecDepth 100000 in
set_option maxHeartbeats 4000000 in
theorem T_X6_meanFrom_B46 (rec : Int → Int → Int → Int → Hp → Option (Int × Hp)) (fw lw : Nat) (hrec : ∀ (x0 x1 x2 x3 : Int) (σ σ1 : Hp) (r : Int), rec x0 x1 x2 x3 σ = some (r, σ1) → Ct l D dA b0 yX6_worthOf cX6_worthOf 5 (some .long) fw lw [(2, x0), (2, x1), (0, x2), (0, x3)] σ (some (pV 1 r)) σ1) (hrecM : ∀ (x0 x1 x2 x3 : Int) (σ : Hp), Mn σ (rec x0 x1 x2 x3 σ)) {r : Int} {σE : Hp} (hX : Cx p R s m args meth c D dA b0 n0 m0 5 nE mE cX6_meanFrom RX6 (fw + 21) (lw + 500)) (hR : Rx meth (some .long)) (hnm : meth.name = yX6_meanFrom.name) (hQ : Q = Qm D dA b0 n0 m0 below args s (some (pV 1 r)) σE) (hE : nE = σE.1 ∧ mE = σE.2.1) (jx2 : Int) (jx4 : Int) (σ : Hp) (hF : F_X6_meanFrom_B46 rec jx2 jx4 σ = some (r, σE)) : G p l e R s m args below meth c D dA b0 n0 m0 5 nE mE Q 46 [(2, 0, jx2), (4, 2, jx4)] [] σ := by
  unfold F_X6_meanFrom_B46 at hF
  refine g_aload hX 1 dX6_meanFrom_46 rfl ?_
  refine g_iload_n hX 0 dX6_meanFrom_48 rfl rfl ?_
  refine g_lald hX dX6_meanFrom_49 hF (fun jv7 hF => ?_)
  exact g_lret hX hR hQ hE dX6_meanFrom_50 hF
def F_X6_meanFrom (rec : Int → Int → Int → Int → Hp → Option (Int × Hp)) (jx0 : Int) (jx1 : Int) (jx2 : Int) (jx3 : Int) (σ : Hp) : Option (Int × Hp) :=
  (rd 2 σ jx1 9).bind fun jv1 => bN jv1 (some (0, σ)) (bLt jx2 0 (some (0, σ)) ((al 12 σ jv1).bind fun jv2 => bLt jx2 jv2 ((ar 12 σ jv1 jx2).bind fun jv3 => g66 jv3 (-1) (bEq (cmpL jv3 (-1)) 0 (bd (iv 7 σ jx0 (F_X6_meanOfChildren rec  jx0 jx1 jx2 jx3 σ)) fun jv4 σ5 => (aw 12 σ5 jv1 jx2 jv4).bind fun σ6 => F_X6_meanFrom_B46 rec jx2 jv1  σ6) (F_X6_meanFrom_B46 rec jx2 jv1  σ))) (some (0, σ))))
theorem M_X6_meanFrom (rec : Int → Int → Int → Int → Hp → Option (Int × Hp)) (hrec : ∀ (x0 x1 x2 x3 : Int) (σ : Hp), Mn σ (rec x0 x1 x2 x3 σ)) (jx0 : Int) (jx1 : Int) (jx2 : Int) (jx3 : Int) (σ : Hp) : Mn σ (F_X6_meanFrom rec jx0 jx1 jx2 jx3 σ) := by
  unfold F_X6_meanFrom
  repeat' first | exact Mn_ret | exact Mn_rz | exact hrec _ _ _ _ _ | exact M_X6_meanOfChildren rec hrec _ _ _ _ _ | exact M_X6_meanFrom_B46 rec hrec _ _  _ | refine Mn_nm (fun _ => ?_) | refine Mn_nab (fun _ _ => ?_) | refine Mn_nwb (fun _ _ => ?_) | refine Mn_pw (fun _ => ?_) | refine Mn_pz (fun _ => ?_) | refine Mn_aw (fun _ => ?_) | refine Mn_az (fun _ => ?_) | refine Mn_aq (fun _ => ?_) | refine Mn_bo (fun _ => ?_) | refine Mn_bd ?_ (fun _ _ => ?_) | refine Mn_iv ?_ | refine Mn_bLt ?_ ?_ | refine Mn_bLe ?_ ?_ | refine Mn_bEq ?_ ?_ | refine Mn_bN ?_ ?_ | refine Mn_g3 ?_ | refine Mn_g33 ?_ | refine Mn_g66 ?_ | refine Mn_gD ?_
set_option maxRecDepth 100000 in
set_option maxHeartbeats 4000000 in
theorem T_X6_meanFrom (l : Launch) (D : va_G) (dA : Nat → ClassId) (b0 : Nat) (rec : Int → Int → Int → Int → Hp → Option (Int × Hp)) (fw lw : Nat) (hrec : ∀ (x0 x1 x2 x3 : Int) (σ σ1 : Hp) (r : Int), rec x0 x1 x2 x3 σ = some (r, σ1) → Ct l D dA b0 yX6_worthOf cX6_worthOf 5 (some .long) fw lw [(2, x0), (2, x1), (0, x2), (0, x3)] σ (some (pV 1 r)) σ1) (hrecM : ∀ (x0 x1 x2 x3 : Int) (σ : Hp), Mn σ (rec x0 x1 x2 x3 σ)) (jx0 : Int) (jx1 : Int) (jx2 : Int) (jx3 : Int) (σ σE : Hp) (r : Int) (hF : F_X6_meanFrom rec jx0 jx1 jx2 jx3 σ = some (r, σE)) : Ct l D dA b0 yX6_meanFrom cX6_meanFrom 5 (some .long) (fw + 21) (lw + 500) [(2, jx0), (2, jx1), (0, jx2), (0, jx3)] σ (some (pV 1 r)) σE := by
  refine Ct.of (lv0 := [(0, 2, jx0), (1, 2, jx1), (2, 0, jx2), (3, 0, jx3)]) (by decide) RX6 rfl (Nat.le_of_ble_eq_true rfl) rfl ?_ (M_X6_meanFrom rec hrecM jx0 jx1 jx2 jx3 σ r σE hF)
  intro p e R s m args below meth c hX hR hnm
  obtain ⟨Q, hQ⟩ : ∃ Q, Q = Qm D dA b0 σ.1 σ.2.1 below args s (some (pV 1 r)) σE := ⟨_, rfl⟩
  rw [← hQ]
  have hE : σE.1 = σE.1 ∧ σE.2.1 = σE.2.1 := ⟨rfl, rfl⟩
  unfold F_X6_meanFrom at hF
  refine g_aload_n hX 1 dX6_meanFrom_0 rfl rfl ?_
  refine g_get hX fl_X6_58 (by decide) (by decide) dX6_meanFrom_1 hF (fun jv1 hF => ?_)
  refine g_astore (lv' := [(4, 2, jv1), (0, 2, jx0), (1, 2, jx1), (2, 0, jx2), (3, 0, jx3)]) hX dX6_meanFrom_4 (by decide) rfl ?_
  refine g_aload hX 0 dX6_meanFrom_6 rfl ?_
  refine g_ifnull (tgt := 22) hX dX6_meanFrom_8 (by decide) hF (fun hc hF => ?_) (fun hc hF => ?_)
  · refine g_lconst (z := 0) hX dX6_meanFrom_22 rfl ?_
    exact g_lret hX hR hQ hE dX6_meanFrom_23 hF
  · refine g_iload_n hX 3 dX6_meanFrom_11 rfl rfl ?_
    refine g_if_lt (tgt := 22) hX dX6_meanFrom_12 (by decide) hF (fun hc hF => ?_) (fun hc hF => ?_)
    · refine g_lconst (z := 0) hX dX6_meanFrom_22 rfl ?_
      exact g_lret hX hR hQ hE dX6_meanFrom_23 hF
    · refine g_iload_n hX 3 dX6_meanFrom_15 rfl rfl ?_
      refine g_aload hX 0 dX6_meanFrom_16 rfl ?_
      refine g_alen hX (by decide) dX6_meanFrom_18 hF (fun jv2 hF => ?_)
      refine g_icmp_lt (tgt := 24) hX dX6_meanFrom_19 (by decide) hF (fun hc hF => ?_) (fun hc hF => ?_)
      · refine g_aload hX 0 dX6_meanFrom_24 rfl ?_
        refine g_iload_n hX 3 dX6_meanFrom_26 rfl rfl ?_
        refine g_lald hX dX6_meanFrom_27 hF (fun jv3 hF => ?_)
        refine g_ldc2 (z := -1) hX kc_X6_53 (by decide) dX6_meanFrom_28 ?_
        refine g_lcmp hX dX6_meanFrom_31 hF (fun hF => ?_)
        refine g_if_ne (tgt := 46) hX dX6_meanFrom_32 (by decide) hF (fun hc hF => ?_) (fun hc hF => ?_)
        · refine g_aload hX 0 dX6_meanFrom_35 rfl ?_
          refine g_iload_n hX 3 dX6_meanFrom_37 rfl rfl ?_
          refine g_aload_n hX 1 dX6_meanFrom_38 rfl rfl ?_
          refine g_aload_n hX 2 dX6_meanFrom_39 rfl rfl ?_
          refine g_iload_n hX 3 dX6_meanFrom_40 rfl rfl ?_
          refine g_iload_n hX 4 dX6_meanFrom_41 rfl rfl ?_
          refine g_callV (t := 1) (ci := 6) (rest := [(0, jx2), (2, jv1)]) [(2, jx1), (0, jx2), (0, jx3)] hX cw_X6_110 rfl (by decide) (by decide) (fun r σ1 h => T_X6_meanOfChildren l D dA b0 rec fw lw hrec hrecM  jx0 jx1 jx2 jx3 σ σ1 r h) ⟨by omega, by omega⟩ rfl rfl (Nat.le_of_ble_eq_true rfl) dX6_meanFrom_42 hF (fun jv4 σ5 hF => ?_)
          refine u_last hX dX6_meanFrom_45 hF (fun σ6 hF => ?_)
          refine g_lvp (lv' := [(2, 0, jx2), (4, 2, jv1)]) [3, 0] rfl ?_
          exact T_X6_meanFrom_B46 rec fw lw hrec hrecM hX hR hnm hQ hE jx2 jv1   σ6 hF
        · refine g_lvp (lv' := [(2, 0, jx2), (4, 2, jv1)]) [3, 0] rfl ?_
          exact T_X6_meanFrom_B46 rec fw lw hrec hrecM hX hR hnm hQ hE jx2 jv1   σ hF
      · refine g_lconst (z := 0) hX dX6_meanFrom_22 rfl ?_
        exact g_lret hX hR hQ hE dX6_meanFrom_23 hF
end

section
variable {p : Program} {l : Launch} {e : Env} {R : Room} {s : State} {m : MethodId} {args : Array Value} {below : List Frame} {meth : Method} {c : Code} {D : va_G} {dA : Nat → ClassId} {b0 n0 m0 nE mE : Nat} {Q : State → Prop}
def F_X6_searchBest_B355 (rec : Int → Int → Int → Int → Hp → Option (Int × Hp)) (k187 : Int → Int → Int → Hp → Option (Int × Hp)) (k198 : Int → Int → Int → Hp → Option (Int × Hp)) (k277 : Int → Int → Int → Hp → Option (Int × Hp)) (jx0 : Int) (jx1 : Int) (jx3 : Int) (jx4 : Int) (jx5 : Int) (jx6 : Int) (jx7 : Int) (jx8 : Int) (jx9 : Int) (jx12 : Int) (jx14 : Int) (jx16 : Int) (jx18 : Int) (jx19 : Int) (jx20 : Int) (jx21 : Int) (jx22 : Int) (jx23 : Int) (jx25 : Int) (jx26 : Int) (jx27 : Int) (jx29 : Int) (jx30 : Int) (jx31 : Int) (jx33 : Int) (σ : Hp) : Option (Int × Hp) :=
  k277 jx23 jx25 (jx33 + 1) σ
theorem M_X6_searchBest_B355 (rec : Int → Int → Int → Int → Hp → Option (Int × Hp)) (hrec : ∀ (x0 x1 x2 x3 : Int) (σ : Hp), Mn σ (rec x0 x1 x2 x3 σ)) (k187 : Int → Int → Int → Hp → Option (Int × Hp)) (k198 : Int → Int → Int → Hp → Option (Int × Hp)) (k277 : Int → Int → Int → Hp → Option (Int × Hp)) (hk187 : ∀ (jx23 : Int) (jx25 : Int) (jx26 : Int) (σ : Hp), Mn σ (k187 jx23 jx25 jx26 σ)) (hk198 : ∀ (jx23 : Int) (jx25 : Int) (jx27 : Int) (σ : Hp), Mn σ (k198 jx23 jx25 jx27 σ)) (hk277 : ∀ (jx23 : Int) (jx25 : Int) (jx33 : Int) (σ : Hp), Mn σ (k277 jx23 jx25 jx33 σ)) (jx0 : Int) (jx1 : Int) (jx3 : Int) (jx4 : Int) (jx5 : Int) (jx6 : Int) (jx7 : Int) (jx8 : Int) (jx9 : Int) (jx12 : Int) (jx14 : Int) (jx16 : Int) (jx18 : Int) (jx19 : Int) (jx20 : Int) (jx21 : Int) (jx22 : Int) (jx23 : Int) (jx25 : Int) (jx26 : Int) (jx27 : Int) (jx29 : Int) (jx30 : Int) (jx31 : Int) (jx33 : Int) (σ : Hp) : Mn σ (F_X6_searchBest_B355 rec k187 k198 k277 jx0 jx1 jx3 jx4 jx5 jx6 jx7 jx8 jx9 jx12 jx14 jx16 jx18 jx19 jx20 jx21 jx22 jx23 jx25 jx26 jx27 jx29 jx30 jx31 jx33 σ) := by
  unfold F_X6_searchBest_B355
  repeat' first | exact Mn_ret | exact Mn_rz | exact hk187 _ _ _  _ | exact hk198 _ _ _  _ | exact hk277 _ _ _  _ | exact hrec _ _ _ _ _ | refine Mn_nm (fun _ => ?_) | refine Mn_nab (fun _ _ => ?_) | refine Mn_nwb (fun _ _ => ?_) | refine Mn_pw (fun _ => ?_) | refine Mn_pz (fun _ => ?_) | refine Mn_aw (fun _ => ?_) | refine Mn_az (fun _ => ?_) | refine Mn_aq (fun _ => ?_) | refine Mn_bo (fun _ => ?_) | refine Mn_bd ?_ (fun _ _ => ?_) | refine Mn_iv ?_ | refine Mn_bLt ?_ ?_ | refine Mn_bLe ?_ ?_ | refine Mn_bEq ?_ ?_ | refine Mn_bN ?_ ?_ | refine Mn_g3 ?_ | refine Mn_g33 ?_ | refine Mn_g66 ?_ | refine Mn_gD ?_
set_option maxRecDepth 100000 in
set_option maxHeartbeats 4000000 in
theorem T_X6_searchBest_B355 (rec : Int → Int → Int → Int → Hp → Option (Int × Hp)) (fw lw : Nat) (hrec : ∀ (x0 x1 x2 x3 : Int) (σ σ1 : Hp) (r : Int), rec x0 x1 x2 x3 σ = some (r, σ1) → Ct l D dA b0 yX6_worthOf cX6_worthOf 5 (some .long) fw lw [(2, x0), (2, x1), (0, x2), (0, x3)] σ (some (pV 1 r)) σ1) (hrecM : ∀ (x0 x1 x2 x3 : Int) (σ : Hp), Mn σ (rec x0 x1 x2 x3 σ)) {r : Int} {σE : Hp} (hX : Cx p R s m args meth c D dA b0 n0 m0 37 nE mE cX6_searchBest RX6 (fw + 22) (lw + 700)) (hR : Rx meth (some .long)) (hnm : meth.name = yX6_searchBest.name) (hQ : Q = Qm D dA b0 n0 m0 below args s (some (pV 1 r)) σE) (hE : nE = σE.1 ∧ mE = σE.2.1) (k187 : Int → Int → Int → Hp → Option (Int × Hp)) (k198 : Int → Int → Int → Hp → Option (Int × Hp)) (k277 : Int → Int → Int → Hp → Option (Int × Hp)) (jx0 : Int) (jx1 : Int) (jx3 : Int) (jx4 : Int) (jx5 : Int) (jx6 : Int) (jx7 : Int) (jx8 : Int) (jx9 : Int) (jx12 : Int) (jx14 : Int) (jx16 : Int) (jx18 : Int) (jx19 : Int) (jx20 : Int) (jx21 : Int) (jx22 : Int) (jx23 : Int) (jx25 : Int) (jx26 : Int) (jx27 : Int) (jx29 : Int) (jx30 : Int) (jx31 : Int) (jx33 : Int) (hk187 : ∀ (jx23 : Int) (jx25 : Int) (jx26 : Int) (σ : Hp), k187 jx23 jx25 jx26 σ = some (r, σE) → G p l e R s m args below meth c D dA b0 n0 m0 37 nE mE Q 187 [(0, 2, jx0), (1, 2, jx1), (3, 0, jx3), (4, 2, jx4), (5, 2, jx5), (6, 2, jx6), (7, 0, jx7), (8, 0, jx8), (9, 0, jx9), (12, 1, jx12), (14, 1, jx14), (16, 1, jx16), (18, 0, jx18), (19, 0, jx19), (20, 0, jx20), (21, 0, jx21), (22, 0, jx22), (23, 1, jx23), (25, 0, jx25), (26, 0, jx26)] [] σ) (hk198 : ∀ (jx23 : Int) (jx25 : Int) (jx27 : Int) (σ : Hp), k198 jx23 jx25 jx27 σ = some (r, σE) → G p l e R s m args below meth c D dA b0 n0 m0 37 nE mE Q 198 [(0, 2, jx0), (1, 2, jx1), (3, 0, jx3), (4, 2, jx4), (5, 2, jx5), (6, 2, jx6), (7, 0, jx7), (8, 0, jx8), (9, 0, jx9), (12, 1, jx12), (14, 1, jx14), (16, 1, jx16), (18, 0, jx18), (19, 0, jx19), (20, 0, jx20), (21, 0, jx21), (22, 0, jx22), (23, 1, jx23), (25, 0, jx25), (26, 0, jx26), (27, 0, jx27)] [] σ) (hk277 : ∀ (jx23 : Int) (jx25 : Int) (jx33 : Int) (σ : Hp), k277 jx23 jx25 jx33 σ = some (r, σE) → G p l e R s m args below meth c D dA b0 n0 m0 37 nE mE Q 277 [(0, 2, jx0), (1, 2, jx1), (3, 0, jx3), (4, 2, jx4), (5, 2, jx5), (6, 2, jx6), (7, 0, jx7), (8, 0, jx8), (9, 0, jx9), (12, 1, jx12), (14, 1, jx14), (16, 1, jx16), (18, 0, jx18), (19, 0, jx19), (20, 0, jx20), (21, 0, jx21), (22, 0, jx22), (23, 1, jx23), (25, 0, jx25), (26, 0, jx26), (27, 0, jx27), (29, 0, jx29), (30, 0, jx30), (31, 1, jx31), (33, 0, jx33)] [] σ) (σ : Hp) (hF : F_X6_searchBest_B355 rec k187 k198 k277 jx0 jx1 jx3 jx4 jx5 jx6 jx7 jx8 jx9 jx12 jx14 jx16 jx18 jx19 jx20 jx21 jx22 jx23 jx25 jx26 jx27 jx29 jx30 jx31 jx33 σ = some (r, σE)) : G p l e R s m args below meth c D dA b0 n0 m0 37 nE mE Q 355 [(0, 2, jx0), (1, 2, jx1), (3, 0, jx3), (4, 2, jx4), (5, 2, jx5), (6, 2, jx6), (7, 0, jx7), (8, 0, jx8), (9, 0, jx9), (12, 1, jx12), (14, 1, jx14), (16, 1, jx16), (18, 0, jx18), (19, 0, jx19), (20, 0, jx20), (21, 0, jx21), (22, 0, jx22), (23, 1, jx23), (25, 0, jx25), (26, 0, jx26), (27, 0, jx27), (29, 0, jx29), (30, 0, jx30), (31, 1, jx31), (33, 0, jx33)] [] σ := by
  unfold F_X6_searchBest_B355 at hF
  refine g_iinc (lv' := [(33, 0, (jx33 + 1)), (0, 2, jx0), (1, 2, jx1), (3, 0, jx3), (4, 2, jx4), (5, 2, jx5), (6, 2, jx6), (7, 0, jx7), (8, 0, jx8), (9, 0, jx9), (12, 1, jx12), (14, 1, jx14), (16, 1, jx16), (18, 0, jx18), (19, 0, jx19), (20, 0, jx20), (21, 0, jx21), (22, 0, jx22), (23, 1, jx23), (25, 0, jx25), (26, 0, jx26), (27, 0, jx27), (29, 0, jx29), (30, 0, jx30), (31, 1, jx31)]) hX 24 dX6_searchBest_355 rfl (by decide) rfl ?_
  refine g_goto (tgt := 277) hX dX6_searchBest_358 (by decide) ?_
  refine g_lvp (lv' := [(0, 2, jx0), (1, 2, jx1), (3, 0, jx3), (4, 2, jx4), (5, 2, jx5), (6, 2, jx6), (7, 0, jx7), (8, 0, jx8), (9, 0, jx9), (12, 1, jx12), (14, 1, jx14), (16, 1, jx16), (18, 0, jx18), (19, 0, jx19), (20, 0, jx20), (21, 0, jx21), (22, 0, jx22), (23, 1, jx23), (25, 0, jx25), (26, 0, jx26), (27, 0, jx27), (29, 0, jx29), (30, 0, jx30), (31, 1, jx31), (33, 0, (jx33 + 1))]) [1, 2, 3, 4, 5, 6, 7, 8, 9, 10, 11, 12, 13, 14, 15, 16, 17, 18, 19, 20, 21, 22, 23, 24, 0] rfl ?_
  exact hk277 jx23 jx25 (jx33 + 1) σ hF
def F_X6_searchBest_L277 (rec : Int → Int → Int → Int → Hp → Option (Int × Hp)) (k187 : Int → Int → Int → Hp → Option (Int × Hp)) (k198 : Int → Int → Int → Hp → Option (Int × Hp)) (jx0 : Int) (jx1 : Int) (jx3 : Int) (jx4 : Int) (jx5 : Int) (jx6 : Int) (jx7 : Int) (jx8 : Int) (jx9 : Int) (jx12 : Int) (jx14 : Int) (jx16 : Int) (jx18 : Int) (jx19 : Int) (jx20 : Int) (jx21 : Int) (jx22 : Int) (jx26 : Int) (jx27 : Int) (jx29 : Int) (jx30 : Int) (jx31 : Int) : Nat → Int → Int → Int → Hp → Option (Int × Hp)
  | 0, _, _, _, _ => none
  | n + 1, jx23, jx25, jx33, σ => bLe jx33 jx20 ((rd 1 σ jx6 2).bind fun jv54 => g33 (((jx9 - jx33) + jx27) + jx29) jv54 (nm ((min (((jx9 - jx33) + jx27) + jx29) jv54)) fun jv55 => g3 jx33 (bd (iv 7 σ jx0 (F_X6_meanFrom rec  jx0 jx1 (jx30 + jv55) jx3 σ)) fun jv56 σ57 => nm (((jx31 + (jx16 * jx33)) + jv56)) fun jv58 => g66 jv58 jx23 (bLe (cmpL jv58 jx23) 0 (F_X6_searchBest_B355 rec k187 k198 (F_X6_searchBest_L277 rec k187 k198 jx0 jx1 jx3 jx4 jx5 jx6 jx7 jx8 jx9 jx12 jx14 jx16 jx18 jx19 jx20 jx21 jx22 jx26 jx27 jx29 jx30 jx31 n) jx0 jx1 jx3 jx4 jx5 jx6 jx7 jx8 jx9 jx12 jx14 jx16 jx18 jx19 jx20 jx21 jx22 jx23 jx25 jx26 jx27 jx29 jx30 jx31 jx33  σ57) (nm ((orI (orI (shlI jx26 8) (shlI jx27 4)) jx33)) fun jv59 => F_X6_searchBest_B355 rec k187 k198 (F_X6_searchBest_L277 rec k187 k198 jx0 jx1 jx3 jx4 jx5 jx6 jx7 jx8 jx9 jx12 jx14 jx16 jx18 jx19 jx20 jx21 jx22 jx26 jx27 jx29 jx30 jx31 n) jx0 jx1 jx3 jx4 jx5 jx6 jx7 jx8 jx9 jx12 jx14 jx16 jx18 jx19 jx20 jx21 jx22 jv58 jv59 jx26 jx27 jx29 jx30 jx31 jx33  σ57))))) (k198 jx23 jx25 (jx27 + 1) σ)
theorem M_X6_searchBest_L277 (rec : Int → Int → Int → Int → Hp → Option (Int × Hp)) (hrec : ∀ (x0 x1 x2 x3 : Int) (σ : Hp), Mn σ (rec x0 x1 x2 x3 σ)) (k187 : Int → Int → Int → Hp → Option (Int × Hp)) (k198 : Int → Int → Int → Hp → Option (Int × Hp)) (hk187 : ∀ (jx23 : Int) (jx25 : Int) (jx26 : Int) (σ : Hp), Mn σ (k187 jx23 jx25 jx26 σ)) (hk198 : ∀ (jx23 : Int) (jx25 : Int) (jx27 : Int) (σ : Hp), Mn σ (k198 jx23 jx25 jx27 σ)) (jx0 : Int) (jx1 : Int) (jx3 : Int) (jx4 : Int) (jx5 : Int) (jx6 : Int) (jx7 : Int) (jx8 : Int) (jx9 : Int) (jx12 : Int) (jx14 : Int) (jx16 : Int) (jx18 : Int) (jx19 : Int) (jx20 : Int) (jx21 : Int) (jx22 : Int) (jx26 : Int) (jx27 : Int) (jx29 : Int) (jx30 : Int) (jx31 : Int) : ∀ (n : Nat) (jx23 : Int) (jx25 : Int) (jx33 : Int) (σ : Hp), Mn σ (F_X6_searchBest_L277 rec k187 k198 jx0 jx1 jx3 jx4 jx5 jx6 jx7 jx8 jx9 jx12 jx14 jx16 jx18 jx19 jx20 jx21 jx22 jx26 jx27 jx29 jx30 jx31 n jx23 jx25 jx33 σ) := by
  intro n
  induction n with
  | zero => intros; rw [F_X6_searchBest_L277]; exact Mn_none
  | succ n hk277 =>
    intros
    rw [F_X6_searchBest_L277]
    repeat' first | exact Mn_ret | exact Mn_rz | exact hk187 _ _ _  _ | exact hk198 _ _ _  _ | exact hk277 _ _ _  _ | exact hrec _ _ _ _ _ | exact M_X6_meanFrom rec hrec _ _ _ _ _ | exact M_X6_searchBest_B355 rec hrec k187 k198 (F_X6_searchBest_L277 rec k187 k198 jx0 jx1 jx3 jx4 jx5 jx6 jx7 jx8 jx9 jx12 jx14 jx16 jx18 jx19 jx20 jx21 jx22 jx26 jx27 jx29 jx30 jx31 n) hk187 hk198 hk277 _ _ _ _ _ _ _ _ _ _ _ _ _ _ _ _ _ _ _ _ _ _ _ _ _  _ | refine Mn_nm (fun _ => ?_) | refine Mn_nab (fun _ _ => ?_) | refine Mn_nwb (fun _ _ => ?_) | refine Mn_pw (fun _ => ?_) | refine Mn_pz (fun _ => ?_) | refine Mn_aw (fun _ => ?_) | refine Mn_az (fun _ => ?_) | refine Mn_aq (fun _ => ?_) | refine Mn_bo (fun _ => ?_) | refine Mn_bd ?_ (fun _ _ => ?_) | refine Mn_iv ?_ | refine Mn_bLt ?_ ?_ | refine Mn_bLe ?_ ?_ | refine Mn_bEq ?_ ?_ | refine Mn_bN ?_ ?_ | refine Mn_g3 ?_ | refine Mn_g33 ?_ | refine Mn_g66 ?_ | refine Mn_gD ?_
set_option maxRecDepth 100000 in
set_option maxHeartbeats 4000000 in
theorem T_X6_searchBest_L277 (rec : Int → Int → Int → Int → Hp → Option (Int × Hp)) (fw lw : Nat) (hrec : ∀ (x0 x1 x2 x3 : Int) (σ σ1 : Hp) (r : Int), rec x0 x1 x2 x3 σ = some (r, σ1) → Ct l D dA b0 yX6_worthOf cX6_worthOf 5 (some .long) fw lw [(2, x0), (2, x1), (0, x2), (0, x3)] σ (some (pV 1 r)) σ1) (hrecM : ∀ (x0 x1 x2 x3 : Int) (σ : Hp), Mn σ (rec x0 x1 x2 x3 σ)) {r : Int} {σE : Hp} (hX : Cx p R s m args meth c D dA b0 n0 m0 37 nE mE cX6_searchBest RX6 (fw + 22) (lw + 700)) (hR : Rx meth (some .long)) (hnm : meth.name = yX6_searchBest.name) (hQ : Q = Qm D dA b0 n0 m0 below args s (some (pV 1 r)) σE) (hE : nE = σE.1 ∧ mE = σE.2.1) (k187 : Int → Int → Int → Hp → Option (Int × Hp)) (k198 : Int → Int → Int → Hp → Option (Int × Hp)) (jx0 : Int) (jx1 : Int) (jx3 : Int) (jx4 : Int) (jx5 : Int) (jx6 : Int) (jx7 : Int) (jx8 : Int) (jx9 : Int) (jx12 : Int) (jx14 : Int) (jx16 : Int) (jx18 : Int) (jx19 : Int) (jx20 : Int) (jx21 : Int) (jx22 : Int) (jx26 : Int) (jx27 : Int) (jx29 : Int) (jx30 : Int) (jx31 : Int) (hk187 : ∀ (jx23 : Int) (jx25 : Int) (jx26 : Int) (σ : Hp), k187 jx23 jx25 jx26 σ = some (r, σE) → G p l e R s m args below meth c D dA b0 n0 m0 37 nE mE Q 187 [(0, 2, jx0), (1, 2, jx1), (3, 0, jx3), (4, 2, jx4), (5, 2, jx5), (6, 2, jx6), (7, 0, jx7), (8, 0, jx8), (9, 0, jx9), (12, 1, jx12), (14, 1, jx14), (16, 1, jx16), (18, 0, jx18), (19, 0, jx19), (20, 0, jx20), (21, 0, jx21), (22, 0, jx22), (23, 1, jx23), (25, 0, jx25), (26, 0, jx26)] [] σ) (hk198 : ∀ (jx23 : Int) (jx25 : Int) (jx27 : Int) (σ : Hp), k198 jx23 jx25 jx27 σ = some (r, σE) → G p l e R s m args below meth c D dA b0 n0 m0 37 nE mE Q 198 [(0, 2, jx0), (1, 2, jx1), (3, 0, jx3), (4, 2, jx4), (5, 2, jx5), (6, 2, jx6), (7, 0, jx7), (8, 0, jx8), (9, 0, jx9), (12, 1, jx12), (14, 1, jx14), (16, 1, jx16), (18, 0, jx18), (19, 0, jx19), (20, 0, jx20), (21, 0, jx21), (22, 0, jx22), (23, 1, jx23), (25, 0, jx25), (26, 0, jx26), (27, 0, jx27)] [] σ) : ∀ (n : Nat) (jx23 : Int) (jx25 : Int) (jx33 : Int) (σ : Hp), F_X6_searchBest_L277 rec k187 k198 jx0 jx1 jx3 jx4 jx5 jx6 jx7 jx8 jx9 jx12 jx14 jx16 jx18 jx19 jx20 jx21 jx22 jx26 jx27 jx29 jx30 jx31 n jx23 jx25 jx33 σ = some (r, σE) → G p l e R s m args below meth c D dA b0 n0 m0 37 nE mE Q 277 [(0, 2, jx0), (1, 2, jx1), (3, 0, jx3), (4, 2, jx4), (5, 2, jx5), (6, 2, jx6), (7, 0, jx7), (8, 0, jx8), (9, 0, jx9), (12, 1, jx12), (14, 1, jx14), (16, 1, jx16), (18, 0, jx18), (19, 0, jx19), (20, 0, jx20), (21, 0, jx21), (22, 0, jx22), (23, 1, jx23), (25, 0, jx25), (26, 0, jx26), (27, 0, jx27), (29, 0, jx29), (30, 0, jx30), (31, 1, jx31), (33, 0, jx33)] [] σ := by
  intro n
  induction n with
  | zero =>
    intro jx23 jx25 jx33 σ hF
    rw [F_X6_searchBest_L277] at hF
    cases hF
  | succ n hk277 =>
    intro jx23 jx25 jx33 σ hF
    rw [F_X6_searchBest_L277] at hF
    refine g_iload hX 24 dX6_searchBest_277 rfl ?_
    refine g_iload hX 14 dX6_searchBest_279 rfl ?_
    refine g_icmp_gt (tgt := 361) hX dX6_searchBest_281 (by decide) hF (fun hc hF => ?_) (fun hc hF => ?_)
    · refine g_iload hX 8 dX6_searchBest_284 rfl ?_
      refine g_iload hX 24 dX6_searchBest_286 rfl ?_
      refine g_isub hX dX6_searchBest_288 ?_
      refine g_iload hX 20 dX6_searchBest_289 rfl ?_
      refine g_iadd hX dX6_searchBest_291 ?_
      refine g_iload hX 21 dX6_searchBest_292 rfl ?_
      refine g_iadd hX dX6_searchBest_294 ?_
      refine g_aload hX 5 dX6_searchBest_295 rfl ?_
      refine g_get hX fl_X6_96 (by decide) (by decide) dX6_searchBest_297 hF (fun jv54 hF => ?_)
      refine g_min hX mw_X6_99 (by omega) (by have : ws8 [] ≤ 8 := Nat.le_of_ble_eq_true rfl; omega) dX6_searchBest_300 hF (fun hF => ?_)
      refine g_nm hF (fun jv55 hF => ?_)
      refine g_istore (lv' := [(34, 0, jv55), (0, 2, jx0), (1, 2, jx1), (3, 0, jx3), (4, 2, jx4), (5, 2, jx5), (6, 2, jx6), (7, 0, jx7), (8, 0, jx8), (9, 0, jx9), (12, 1, jx12), (14, 1, jx14), (16, 1, jx16), (18, 0, jx18), (19, 0, jx19), (20, 0, jx20), (21, 0, jx21), (22, 0, jx22), (23, 1, jx23), (25, 0, jx25), (26, 0, jx26), (27, 0, jx27), (29, 0, jx29), (30, 0, jx30), (31, 1, jx31), (33, 0, jx33)]) hX dX6_searchBest_303 (by decide) rfl ?_
      refine g_lload hX 24 dX6_searchBest_305 rfl ?_
      refine g_lload hX 12 dX6_searchBest_307 rfl ?_
      refine g_iload hX 25 dX6_searchBest_309 rfl ?_
      refine g_i2l hX dX6_searchBest_311 hF (fun hF => ?_)
      refine g_lmul hX dX6_searchBest_312 ?_
      refine g_ladd hX dX6_searchBest_313 ?_
      refine g_aload_n hX 1 dX6_searchBest_314 rfl rfl ?_
      refine g_aload_n hX 2 dX6_searchBest_315 rfl rfl ?_
      refine g_iload hX 23 dX6_searchBest_316 rfl ?_
      refine g_iload hX 0 dX6_searchBest_318 rfl ?_
      refine g_iadd hX dX6_searchBest_320 ?_
      refine g_iload_n hX 3 dX6_searchBest_321 rfl rfl ?_
      refine g_callV (t := 1) (ci := 6) (rest := [(1, (jx31 + (jx16 * jx33)))]) [(2, jx1), (0, (jx30 + jv55)), (0, jx3)] hX cw_X6_107 rfl (by decide) (by decide) (fun r σ1 h => T_X6_meanFrom l D dA b0 rec fw lw hrec hrecM  jx0 jx1 (jx30 + jv55) jx3 σ σ1 r h) ⟨by omega, by omega⟩ rfl rfl (Nat.le_of_ble_eq_true rfl) dX6_searchBest_322 hF (fun jv56 σ57 hF => ?_)
      refine g_ladd hX dX6_searchBest_325 ?_
      refine g_nm hF (fun jv58 hF => ?_)
      refine g_lstore (lv' := [(35, 1, jv58), (34, 0, jv55), (0, 2, jx0), (1, 2, jx1), (3, 0, jx3), (4, 2, jx4), (5, 2, jx5), (6, 2, jx6), (7, 0, jx7), (8, 0, jx8), (9, 0, jx9), (12, 1, jx12), (14, 1, jx14), (16, 1, jx16), (18, 0, jx18), (19, 0, jx19), (20, 0, jx20), (21, 0, jx21), (22, 0, jx22), (23, 1, jx23), (25, 0, jx25), (26, 0, jx26), (27, 0, jx27), (29, 0, jx29), (30, 0, jx30), (31, 1, jx31), (33, 0, jx33)]) hX dX6_searchBest_326 (by decide) rfl ?_
      refine g_lload hX 0 dX6_searchBest_328 rfl ?_
      refine g_lload hX 19 dX6_searchBest_330 rfl ?_
      refine g_lcmp hX dX6_searchBest_332 hF (fun hF => ?_)
      refine g_if_le (tgt := 355) hX dX6_searchBest_333 (by decide) hF (fun hc hF => ?_) (fun hc hF => ?_)
      · refine g_lvp (lv' := [(0, 2, jx0), (1, 2, jx1), (3, 0, jx3), (4, 2, jx4), (5, 2, jx5), (6, 2, jx6), (7, 0, jx7), (8, 0, jx8), (9, 0, jx9), (12, 1, jx12), (14, 1, jx14), (16, 1, jx16), (18, 0, jx18), (19, 0, jx19), (20, 0, jx20), (21, 0, jx21), (22, 0, jx22), (23, 1, jx23), (25, 0, jx25), (26, 0, jx26), (27, 0, jx27), (29, 0, jx29), (30, 0, jx30), (31, 1, jx31), (33, 0, jx33)]) [2, 3, 4, 5, 6, 7, 8, 9, 10, 11, 12, 13, 14, 15, 16, 17, 18, 19, 20, 21, 22, 23, 24, 25, 26] rfl ?_
        exact T_X6_searchBest_B355 rec fw lw hrec hrecM hX hR hnm hQ hE k187 k198 (F_X6_searchBest_L277 rec k187 k198 jx0 jx1 jx3 jx4 jx5 jx6 jx7 jx8 jx9 jx12 jx14 jx16 jx18 jx19 jx20 jx21 jx22 jx26 jx27 jx29 jx30 jx31 n) jx0 jx1 jx3 jx4 jx5 jx6 jx7 jx8 jx9 jx12 jx14 jx16 jx18 jx19 jx20 jx21 jx22 jx23 jx25 jx26 jx27 jx29 jx30 jx31 jx33  hk187 hk198 hk277  σ57 hF
      · refine g_lload hX 0 dX6_searchBest_336 rfl ?_
        refine g_lstore (lv' := [(23, 1, jv58), (35, 1, jv58), (34, 0, jv55), (0, 2, jx0), (1, 2, jx1), (3, 0, jx3), (4, 2, jx4), (5, 2, jx5), (6, 2, jx6), (7, 0, jx7), (8, 0, jx8), (9, 0, jx9), (12, 1, jx12), (14, 1, jx14), (16, 1, jx16), (18, 0, jx18), (19, 0, jx19), (20, 0, jx20), (21, 0, jx21), (22, 0, jx22), (25, 0, jx25), (26, 0, jx26), (27, 0, jx27), (29, 0, jx29), (30, 0, jx30), (31, 1, jx31), (33, 0, jx33)]) hX dX6_searchBest_338 (by decide) rfl ?_
        refine g_iload hX 21 dX6_searchBest_340 rfl ?_
        refine g_bipush hX dX6_searchBest_342 (by decide) ?_
        refine g_ishl hX dX6_searchBest_344 ?_
        refine g_iload hX 22 dX6_searchBest_345 rfl ?_
        refine g_iconst hX dX6_searchBest_347 ?_
        refine g_ishl hX dX6_searchBest_348 ?_
        refine g_ior hX dX6_searchBest_349 ?_
        refine g_iload hX 26 dX6_searchBest_350 rfl ?_
        refine g_ior hX dX6_searchBest_352 ?_
        refine g_nm hF (fun jv59 hF => ?_)
        refine g_istore (lv' := [(25, 0, jv59), (23, 1, jv58), (35, 1, jv58), (34, 0, jv55), (0, 2, jx0), (1, 2, jx1), (3, 0, jx3), (4, 2, jx4), (5, 2, jx5), (6, 2, jx6), (7, 0, jx7), (8, 0, jx8), (9, 0, jx9), (12, 1, jx12), (14, 1, jx14), (16, 1, jx16), (18, 0, jx18), (19, 0, jx19), (20, 0, jx20), (21, 0, jx21), (22, 0, jx22), (26, 0, jx26), (27, 0, jx27), (29, 0, jx29), (30, 0, jx30), (31, 1, jx31), (33, 0, jx33)]) hX dX6_searchBest_353 (by decide) rfl ?_
        refine g_lvp (lv' := [(0, 2, jx0), (1, 2, jx1), (3, 0, jx3), (4, 2, jx4), (5, 2, jx5), (6, 2, jx6), (7, 0, jx7), (8, 0, jx8), (9, 0, jx9), (12, 1, jx12), (14, 1, jx14), (16, 1, jx16), (18, 0, jx18), (19, 0, jx19), (20, 0, jx20), (21, 0, jx21), (22, 0, jx22), (23, 1, jv58), (25, 0, jv59), (26, 0, jx26), (27, 0, jx27), (29, 0, jx29), (30, 0, jx30), (31, 1, jx31), (33, 0, jx33)]) [4, 5, 6, 7, 8, 9, 10, 11, 12, 13, 14, 15, 16, 17, 18, 19, 20, 1, 0, 21, 22, 23, 24, 25, 26] rfl ?_
        exact T_X6_searchBest_B355 rec fw lw hrec hrecM hX hR hnm hQ hE k187 k198 (F_X6_searchBest_L277 rec k187 k198 jx0 jx1 jx3 jx4 jx5 jx6 jx7 jx8 jx9 jx12 jx14 jx16 jx18 jx19 jx20 jx21 jx22 jx26 jx27 jx29 jx30 jx31 n) jx0 jx1 jx3 jx4 jx5 jx6 jx7 jx8 jx9 jx12 jx14 jx16 jx18 jx19 jx20 jx21 jx22 jv58 jv59 jx26 jx27 jx29 jx30 jx31 jx33  hk187 hk198 hk277  σ57 hF
    · refine g_iinc (lv' := [(27, 0, (jx27 + 1)), (0, 2, jx0), (1, 2, jx1), (3, 0, jx3), (4, 2, jx4), (5, 2, jx5), (6, 2, jx6), (7, 0, jx7), (8, 0, jx8), (9, 0, jx9), (12, 1, jx12), (14, 1, jx14), (16, 1, jx16), (18, 0, jx18), (19, 0, jx19), (20, 0, jx20), (21, 0, jx21), (22, 0, jx22), (23, 1, jx23), (25, 0, jx25), (26, 0, jx26), (29, 0, jx29), (30, 0, jx30), (31, 1, jx31), (33, 0, jx33)]) hX 20 dX6_searchBest_361 rfl (by decide) rfl ?_
      refine g_goto (tgt := 198) hX dX6_searchBest_364 (by decide) ?_
      refine g_lvp (lv' := [(0, 2, jx0), (1, 2, jx1), (3, 0, jx3), (4, 2, jx4), (5, 2, jx5), (6, 2, jx6), (7, 0, jx7), (8, 0, jx8), (9, 0, jx9), (12, 1, jx12), (14, 1, jx14), (16, 1, jx16), (18, 0, jx18), (19, 0, jx19), (20, 0, jx20), (21, 0, jx21), (22, 0, jx22), (23, 1, jx23), (25, 0, jx25), (26, 0, jx26), (27, 0, (jx27 + 1))]) [1, 2, 3, 4, 5, 6, 7, 8, 9, 10, 11, 12, 13, 14, 15, 16, 17, 18, 19, 20, 0] rfl ?_
      exact hk198 jx23 jx25 (jx27 + 1) σ hF
def F_X6_searchBest_L198 (rec : Int → Int → Int → Int → Hp → Option (Int × Hp)) (k187 : Int → Int → Int → Hp → Option (Int × Hp)) (jx0 : Int) (jx1 : Int) (jx3 : Int) (jx4 : Int) (jx5 : Int) (jx6 : Int) (jx7 : Int) (jx8 : Int) (jx9 : Int) (jx12 : Int) (jx14 : Int) (jx16 : Int) (jx18 : Int) (jx19 : Int) (jx20 : Int) (jx21 : Int) (jx22 : Int) (jx26 : Int) : Nat → Int → Int → Int → Hp → Option (Int × Hp)
  | 0, _, _, _, _ => none
  | n + 1, jx23, jx25, jx27, σ => bLe jx27 jx19 ((rd 1 σ jx5 2).bind fun jv47 => g33 ((jx8 - jx27) + jx26) jv47 (nm ((min ((jx8 - jx27) + jx26) jv47)) fun jv48 => nm ((((jx8 - jx27) + jx26) - jv48)) fun jv49 => (rd 1 σ jx4 8).bind fun jv50 => (rd 1 σ jx5 8).bind fun jv51 => nm ((((jx7 - jx26) * jv50) + (jv48 * jv51))) fun jv52 => g3 jx26 (g3 jx27 (nm (((jx12 * jx26) + (jx14 * jx27))) fun jv53 => F_X6_searchBest_L277 rec k187 (F_X6_searchBest_L198 rec k187 jx0 jx1 jx3 jx4 jx5 jx6 jx7 jx8 jx9 jx12 jx14 jx16 jx18 jx19 jx20 jx21 jx22 jx26 n) jx0 jx1 jx3 jx4 jx5 jx6 jx7 jx8 jx9 jx12 jx14 jx16 jx18 jx19 jx20 jx21 jx22 jx26 jx27 jv49 jv52 jv53 fu jx23 jx25 jx22 σ)))) (k187 jx23 jx25 (jx26 + 1) σ)
theorem M_X6_searchBest_L198 (rec : Int → Int → Int → Int → Hp → Option (Int × Hp)) (hrec : ∀ (x0 x1 x2 x3 : Int) (σ : Hp), Mn σ (rec x0 x1 x2 x3 σ)) (k187 : Int → Int → Int → Hp → Option (Int × Hp)) (hk187 : ∀ (jx23 : Int) (jx25 : Int) (jx26 : Int) (σ : Hp), Mn σ (k187 jx23 jx25 jx26 σ)) (jx0 : Int) (jx1 : Int) (jx3 : Int) (jx4 : Int) (jx5 : Int) (jx6 : Int) (jx7 : Int) (jx8 : Int) (jx9 : Int) (jx12 : Int) (jx14 : Int) (jx16 : Int) (jx18 : Int) (jx19 : Int) (jx20 : Int) (jx21 : Int) (jx22 : Int) (jx26 : Int) : ∀ (n : Nat) (jx23 : Int) (jx25 : Int) (jx27 : Int) (σ : Hp), Mn σ (F_X6_searchBest_L198 rec k187 jx0 jx1 jx3 jx4 jx5 jx6 jx7 jx8 jx9 jx12 jx14 jx16 jx18 jx19 jx20 jx21 jx22 jx26 n jx23 jx25 jx27 σ) := by
  intro n
  induction n with
  | zero => intros; rw [F_X6_searchBest_L198]; exact Mn_none
  | succ n hk198 =>
    intros
    rw [F_X6_searchBest_L198]
    repeat' first | exact Mn_ret | exact Mn_rz | exact hk187 _ _ _  _ | exact hk198 _ _ _  _ | exact hrec _ _ _ _ _ | exact M_X6_searchBest_L277 rec hrec k187 (F_X6_searchBest_L198 rec k187 jx0 jx1 jx3 jx4 jx5 jx6 jx7 jx8 jx9 jx12 jx14 jx16 jx18 jx19 jx20 jx21 jx22 jx26 n) hk187 hk198 _ _ _ _ _ _ _ _ _ _ _ _ _ _ _ _ _ _ _ _ _ _ _ _ _ _ _ | refine Mn_nm (fun _ => ?_) | refine Mn_nab (fun _ _ => ?_) | refine Mn_nwb (fun _ _ => ?_) | refine Mn_pw (fun _ => ?_) | refine Mn_pz (fun _ => ?_) | refine Mn_aw (fun _ => ?_) | refine Mn_az (fun _ => ?_) | refine Mn_aq (fun _ => ?_) | refine Mn_bo (fun _ => ?_) | refine Mn_bd ?_ (fun _ _ => ?_) | refine Mn_iv ?_ | refine Mn_bLt ?_ ?_ | refine Mn_bLe ?_ ?_ | refine Mn_bEq ?_ ?_ | refine Mn_bN ?_ ?_ | refine Mn_g3 ?_ | refine Mn_g33 ?_ | refine Mn_g66 ?_ | refine Mn_gD ?_
set_option maxRecDepth 100000 in
set_option maxHeartbeats 4000000 in
theorem T_X6_searchBest_L198 (rec : Int → Int → Int → Int → Hp → Option (Int × Hp)) (fw lw : Nat) (hrec : ∀ (x0 x1 x2 x3 : Int) (σ σ1 : Hp) (r : Int), rec x0 x1 x2 x3 σ = some (r, σ1) → Ct l D dA b0 yX6_worthOf cX6_worthOf 5 (some .long) fw lw [(2, x0), (2, x1), (0, x2), (0, x3)] σ (some (pV 1 r)) σ1) (hrecM : ∀ (x0 x1 x2 x3 : Int) (σ : Hp), Mn σ (rec x0 x1 x2 x3 σ)) {r : Int} {σE : Hp} (hX : Cx p R s m args meth c D dA b0 n0 m0 37 nE mE cX6_searchBest RX6 (fw + 22) (lw + 700)) (hR : Rx meth (some .long)) (hnm : meth.name = yX6_searchBest.name) (hQ : Q = Qm D dA b0 n0 m0 below args s (some (pV 1 r)) σE) (hE : nE = σE.1 ∧ mE = σE.2.1) (k187 : Int → Int → Int → Hp → Option (Int × Hp)) (jx0 : Int) (jx1 : Int) (jx3 : Int) (jx4 : Int) (jx5 : Int) (jx6 : Int) (jx7 : Int) (jx8 : Int) (jx9 : Int) (jx12 : Int) (jx14 : Int) (jx16 : Int) (jx18 : Int) (jx19 : Int) (jx20 : Int) (jx21 : Int) (jx22 : Int) (jx26 : Int) (hk187 : ∀ (jx23 : Int) (jx25 : Int) (jx26 : Int) (σ : Hp), k187 jx23 jx25 jx26 σ = some (r, σE) → G p l e R s m args below meth c D dA b0 n0 m0 37 nE mE Q 187 [(0, 2, jx0), (1, 2, jx1), (3, 0, jx3), (4, 2, jx4), (5, 2, jx5), (6, 2, jx6), (7, 0, jx7), (8, 0, jx8), (9, 0, jx9), (12, 1, jx12), (14, 1, jx14), (16, 1, jx16), (18, 0, jx18), (19, 0, jx19), (20, 0, jx20), (21, 0, jx21), (22, 0, jx22), (23, 1, jx23), (25, 0, jx25), (26, 0, jx26)] [] σ) : ∀ (n : Nat) (jx23 : Int) (jx25 : Int) (jx27 : Int) (σ : Hp), F_X6_searchBest_L198 rec k187 jx0 jx1 jx3 jx4 jx5 jx6 jx7 jx8 jx9 jx12 jx14 jx16 jx18 jx19 jx20 jx21 jx22 jx26 n jx23 jx25 jx27 σ = some (r, σE) → G p l e R s m args below meth c D dA b0 n0 m0 37 nE mE Q 198 [(0, 2, jx0), (1, 2, jx1), (3, 0, jx3), (4, 2, jx4), (5, 2, jx5), (6, 2, jx6), (7, 0, jx7), (8, 0, jx8), (9, 0, jx9), (12, 1, jx12), (14, 1, jx14), (16, 1, jx16), (18, 0, jx18), (19, 0, jx19), (20, 0, jx20), (21, 0, jx21), (22, 0, jx22), (23, 1, jx23), (25, 0, jx25), (26, 0, jx26), (27, 0, jx27)] [] σ := by
  intro n
  induction n with
  | zero =>
    intro jx23 jx25 jx27 σ hF
    rw [F_X6_searchBest_L198] at hF
    cases hF
  | succ n hk198 =>
    intro jx23 jx25 jx27 σ hF
    rw [F_X6_searchBest_L198] at hF
    refine g_iload hX 20 dX6_searchBest_198 rfl ?_
    refine g_iload hX 13 dX6_searchBest_200 rfl ?_
    refine g_icmp_gt (tgt := 367) hX dX6_searchBest_202 (by decide) hF (fun hc hF => ?_) (fun hc hF => ?_)
    · refine g_iload hX 7 dX6_searchBest_205 rfl ?_
      refine g_iload hX 20 dX6_searchBest_207 rfl ?_
      refine g_isub hX dX6_searchBest_209 ?_
      refine g_iload hX 19 dX6_searchBest_210 rfl ?_
      refine g_iadd hX dX6_searchBest_212 ?_
      refine g_aload hX 4 dX6_searchBest_213 rfl ?_
      refine g_get hX fl_X6_96 (by decide) (by decide) dX6_searchBest_215 hF (fun jv47 hF => ?_)
      refine g_min hX mw_X6_99 (by omega) (by have : ws8 [] ≤ 8 := Nat.le_of_ble_eq_true rfl; omega) dX6_searchBest_218 hF (fun hF => ?_)
      refine g_nm hF (fun jv48 hF => ?_)
      refine g_istore (lv' := [(28, 0, jv48), (0, 2, jx0), (1, 2, jx1), (3, 0, jx3), (4, 2, jx4), (5, 2, jx5), (6, 2, jx6), (7, 0, jx7), (8, 0, jx8), (9, 0, jx9), (12, 1, jx12), (14, 1, jx14), (16, 1, jx16), (18, 0, jx18), (19, 0, jx19), (20, 0, jx20), (21, 0, jx21), (22, 0, jx22), (23, 1, jx23), (25, 0, jx25), (26, 0, jx26), (27, 0, jx27)]) hX dX6_searchBest_221 (by decide) rfl ?_
      refine g_iload hX 8 dX6_searchBest_223 rfl ?_
      refine g_iload hX 21 dX6_searchBest_225 rfl ?_
      refine g_isub hX dX6_searchBest_227 ?_
      refine g_iload hX 20 dX6_searchBest_228 rfl ?_
      refine g_iadd hX dX6_searchBest_230 ?_
      refine g_iload hX 0 dX6_searchBest_231 rfl ?_
      refine g_isub hX dX6_searchBest_233 ?_
      refine g_nm hF (fun jv49 hF => ?_)
      refine g_istore (lv' := [(29, 0, jv49), (28, 0, jv48), (0, 2, jx0), (1, 2, jx1), (3, 0, jx3), (4, 2, jx4), (5, 2, jx5), (6, 2, jx6), (7, 0, jx7), (8, 0, jx8), (9, 0, jx9), (12, 1, jx12), (14, 1, jx14), (16, 1, jx16), (18, 0, jx18), (19, 0, jx19), (20, 0, jx20), (21, 0, jx21), (22, 0, jx22), (23, 1, jx23), (25, 0, jx25), (26, 0, jx26), (27, 0, jx27)]) hX dX6_searchBest_234 (by decide) rfl ?_
      refine g_iload hX 8 dX6_searchBest_236 rfl ?_
      refine g_iload hX 21 dX6_searchBest_238 rfl ?_
      refine g_isub hX dX6_searchBest_240 ?_
      refine g_aload hX 5 dX6_searchBest_241 rfl ?_
      refine g_get hX fl_X6_104 (by decide) (by decide) dX6_searchBest_243 hF (fun jv50 hF => ?_)
      refine g_imul hX dX6_searchBest_246 ?_
      refine g_iload hX 1 dX6_searchBest_247 rfl ?_
      refine g_aload hX 6 dX6_searchBest_249 rfl ?_
      refine g_get hX fl_X6_104 (by decide) (by decide) dX6_searchBest_251 hF (fun jv51 hF => ?_)
      refine g_imul hX dX6_searchBest_254 ?_
      refine g_iadd hX dX6_searchBest_255 ?_
      refine g_nm hF (fun jv52 hF => ?_)
      refine g_istore (lv' := [(30, 0, jv52), (29, 0, jv49), (28, 0, jv48), (0, 2, jx0), (1, 2, jx1), (3, 0, jx3), (4, 2, jx4), (5, 2, jx5), (6, 2, jx6), (7, 0, jx7), (8, 0, jx8), (9, 0, jx9), (12, 1, jx12), (14, 1, jx14), (16, 1, jx16), (18, 0, jx18), (19, 0, jx19), (20, 0, jx20), (21, 0, jx21), (22, 0, jx22), (23, 1, jx23), (25, 0, jx25), (26, 0, jx26), (27, 0, jx27)]) hX dX6_searchBest_256 (by decide) rfl ?_
      refine g_lload hX 12 dX6_searchBest_258 rfl ?_
      refine g_iload hX 22 dX6_searchBest_260 rfl ?_
      refine g_i2l hX dX6_searchBest_262 hF (fun hF => ?_)
      refine g_lmul hX dX6_searchBest_263 ?_
      refine g_lload hX 13 dX6_searchBest_264 rfl ?_
      refine g_iload hX 23 dX6_searchBest_266 rfl ?_
      refine g_i2l hX dX6_searchBest_268 hF (fun hF => ?_)
      refine g_lmul hX dX6_searchBest_269 ?_
      refine g_ladd hX dX6_searchBest_270 ?_
      refine g_nm hF (fun jv53 hF => ?_)
      refine g_lstore (lv' := [(31, 1, jv53), (30, 0, jv52), (29, 0, jv49), (28, 0, jv48), (0, 2, jx0), (1, 2, jx1), (3, 0, jx3), (4, 2, jx4), (5, 2, jx5), (6, 2, jx6), (7, 0, jx7), (8, 0, jx8), (9, 0, jx9), (12, 1, jx12), (14, 1, jx14), (16, 1, jx16), (18, 0, jx18), (19, 0, jx19), (20, 0, jx20), (21, 0, jx21), (22, 0, jx22), (23, 1, jx23), (25, 0, jx25), (26, 0, jx26), (27, 0, jx27)]) hX dX6_searchBest_271 (by decide) rfl ?_
      refine g_iload hX 20 dX6_searchBest_273 rfl ?_
      refine g_istore (lv' := [(33, 0, jx22), (31, 1, jv53), (30, 0, jv52), (29, 0, jv49), (28, 0, jv48), (0, 2, jx0), (1, 2, jx1), (3, 0, jx3), (4, 2, jx4), (5, 2, jx5), (6, 2, jx6), (7, 0, jx7), (8, 0, jx8), (9, 0, jx9), (12, 1, jx12), (14, 1, jx14), (16, 1, jx16), (18, 0, jx18), (19, 0, jx19), (20, 0, jx20), (21, 0, jx21), (22, 0, jx22), (23, 1, jx23), (25, 0, jx25), (26, 0, jx26), (27, 0, jx27)]) hX dX6_searchBest_275 (by decide) rfl ?_
      refine g_lvp (lv' := [(0, 2, jx0), (1, 2, jx1), (3, 0, jx3), (4, 2, jx4), (5, 2, jx5), (6, 2, jx6), (7, 0, jx7), (8, 0, jx8), (9, 0, jx9), (12, 1, jx12), (14, 1, jx14), (16, 1, jx16), (18, 0, jx18), (19, 0, jx19), (20, 0, jx20), (21, 0, jx21), (22, 0, jx22), (23, 1, jx23), (25, 0, jx25), (26, 0, jx26), (27, 0, jx27), (29, 0, jv49), (30, 0, jv52), (31, 1, jv53), (33, 0, jx22)]) [5, 6, 7, 8, 9, 10, 11, 12, 13, 14, 15, 16, 17, 18, 19, 20, 21, 22, 23, 24, 25, 3, 2, 1, 0] rfl ?_
      exact T_X6_searchBest_L277 rec fw lw hrec hrecM hX hR hnm hQ hE k187 (F_X6_searchBest_L198 rec k187 jx0 jx1 jx3 jx4 jx5 jx6 jx7 jx8 jx9 jx12 jx14 jx16 jx18 jx19 jx20 jx21 jx22 jx26 n) jx0 jx1 jx3 jx4 jx5 jx6 jx7 jx8 jx9 jx12 jx14 jx16 jx18 jx19 jx20 jx21 jx22 jx26 jx27 jv49 jv52 jv53 hk187 hk198  fu jx23 jx25 jx22 σ hF
    · refine g_iinc (lv' := [(26, 0, (jx26 + 1)), (0, 2, jx0), (1, 2, jx1), (3, 0, jx3), (4, 2, jx4), (5, 2, jx5), (6, 2, jx6), (7, 0, jx7), (8, 0, jx8), (9, 0, jx9), (12, 1, jx12), (14, 1, jx14), (16, 1, jx16), (18, 0, jx18), (19, 0, jx19), (20, 0, jx20), (21, 0, jx21), (22, 0, jx22), (23, 1, jx23), (25, 0, jx25), (27, 0, jx27)]) hX 19 dX6_searchBest_367 rfl (by decide) rfl ?_
      refine g_goto (tgt := 187) hX dX6_searchBest_370 (by decide) ?_
      refine g_lvp (lv' := [(0, 2, jx0), (1, 2, jx1), (3, 0, jx3), (4, 2, jx4), (5, 2, jx5), (6, 2, jx6), (7, 0, jx7), (8, 0, jx8), (9, 0, jx9), (12, 1, jx12), (14, 1, jx14), (16, 1, jx16), (18, 0, jx18), (19, 0, jx19), (20, 0, jx20), (21, 0, jx21), (22, 0, jx22), (23, 1, jx23), (25, 0, jx25), (26, 0, (jx26 + 1))]) [1, 2, 3, 4, 5, 6, 7, 8, 9, 10, 11, 12, 13, 14, 15, 16, 17, 18, 19, 0] rfl ?_
      exact hk187 jx23 jx25 (jx26 + 1) σ hF
def F_X6_searchBest_L187 (rec : Int → Int → Int → Int → Hp → Option (Int × Hp)) (jx0 : Int) (jx1 : Int) (jx3 : Int) (jx4 : Int) (jx5 : Int) (jx6 : Int) (jx7 : Int) (jx8 : Int) (jx9 : Int) (jx12 : Int) (jx14 : Int) (jx16 : Int) (jx18 : Int) (jx19 : Int) (jx20 : Int) (jx21 : Int) (jx22 : Int) : Nat → Int → Int → Int → Hp → Option (Int × Hp)
  | 0, _, _, _, _ => none
  | n + 1, jx23, jx25, jx26, σ => bLe jx26 jx18 (F_X6_searchBest_L198 rec (F_X6_searchBest_L187 rec jx0 jx1 jx3 jx4 jx5 jx6 jx7 jx8 jx9 jx12 jx14 jx16 jx18 jx19 jx20 jx21 jx22 n) jx0 jx1 jx3 jx4 jx5 jx6 jx7 jx8 jx9 jx12 jx14 jx16 jx18 jx19 jx20 jx21 jx22 jx26 fu jx23 jx25 jx21 σ) ((pw 7 σ jx0 3 jx25).bind fun σ60 => some (jx23, σ60))
theorem M_X6_searchBest_L187 (rec : Int → Int → Int → Int → Hp → Option (Int × Hp)) (hrec : ∀ (x0 x1 x2 x3 : Int) (σ : Hp), Mn σ (rec x0 x1 x2 x3 σ)) (jx0 : Int) (jx1 : Int) (jx3 : Int) (jx4 : Int) (jx5 : Int) (jx6 : Int) (jx7 : Int) (jx8 : Int) (jx9 : Int) (jx12 : Int) (jx14 : Int) (jx16 : Int) (jx18 : Int) (jx19 : Int) (jx20 : Int) (jx21 : Int) (jx22 : Int) : ∀ (n : Nat) (jx23 : Int) (jx25 : Int) (jx26 : Int) (σ : Hp), Mn σ (F_X6_searchBest_L187 rec jx0 jx1 jx3 jx4 jx5 jx6 jx7 jx8 jx9 jx12 jx14 jx16 jx18 jx19 jx20 jx21 jx22 n jx23 jx25 jx26 σ) := by
  intro n
  induction n with
  | zero => intros; rw [F_X6_searchBest_L187]; exact Mn_none
  | succ n hk187 =>
    intros
    rw [F_X6_searchBest_L187]
    repeat' first | exact Mn_ret | exact Mn_rz | exact hk187 _ _ _  _ | exact hrec _ _ _ _ _ | exact M_X6_searchBest_L198 rec hrec (F_X6_searchBest_L187 rec jx0 jx1 jx3 jx4 jx5 jx6 jx7 jx8 jx9 jx12 jx14 jx16 jx18 jx19 jx20 jx21 jx22 n) hk187 _ _ _ _ _ _ _ _ _ _ _ _ _ _ _ _ _ _ _ _ _ _ _ | refine Mn_nm (fun _ => ?_) | refine Mn_nab (fun _ _ => ?_) | refine Mn_nwb (fun _ _ => ?_) | refine Mn_pw (fun _ => ?_) | refine Mn_pz (fun _ => ?_) | refine Mn_aw (fun _ => ?_) | refine Mn_az (fun _ => ?_) | refine Mn_aq (fun _ => ?_) | refine Mn_bo (fun _ => ?_) | refine Mn_bd ?_ (fun _ _ => ?_) | refine Mn_iv ?_ | refine Mn_bLt ?_ ?_ | refine Mn_bLe ?_ ?_ | refine Mn_bEq ?_ ?_ | refine Mn_bN ?_ ?_ | refine Mn_g3 ?_ | refine Mn_g33 ?_ | refine Mn_g66 ?_ | refine Mn_gD ?_
set_option maxRecDepth 100000 in
set_option maxHeartbeats 4000000 in
theorem T_X6_searchBest_L187 (rec : Int → Int → Int → Int → Hp → Option (Int × Hp)) (fw lw : Nat) (hrec : ∀ (x0 x1 x2 x3 : Int) (σ σ1 : Hp) (r : Int), rec x0 x1 x2 x3 σ = some (r, σ1) → Ct l D dA b0 yX6_worthOf cX6_worthOf 5 (some .long) fw lw [(2, x0), (2, x1), (0, x2), (0, x3)] σ (some (pV 1 r)) σ1) (hrecM : ∀ (x0 x1 x2 x3 : Int) (σ : Hp), Mn σ (rec x0 x1 x2 x3 σ)) {r : Int} {σE : Hp} (hX : Cx p R s m args meth c D dA b0 n0 m0 37 nE mE cX6_searchBest RX6 (fw + 22) (lw + 700)) (hR : Rx meth (some .long)) (hnm : meth.name = yX6_searchBest.name) (hQ : Q = Qm D dA b0 n0 m0 below args s (some (pV 1 r)) σE) (hE : nE = σE.1 ∧ mE = σE.2.1) (jx0 : Int) (jx1 : Int) (jx3 : Int) (jx4 : Int) (jx5 : Int) (jx6 : Int) (jx7 : Int) (jx8 : Int) (jx9 : Int) (jx12 : Int) (jx14 : Int) (jx16 : Int) (jx18 : Int) (jx19 : Int) (jx20 : Int) (jx21 : Int) (jx22 : Int) : ∀ (n : Nat) (jx23 : Int) (jx25 : Int) (jx26 : Int) (σ : Hp), F_X6_searchBest_L187 rec jx0 jx1 jx3 jx4 jx5 jx6 jx7 jx8 jx9 jx12 jx14 jx16 jx18 jx19 jx20 jx21 jx22 n jx23 jx25 jx26 σ = some (r, σE) → G p l e R s m args below meth c D dA b0 n0 m0 37 nE mE Q 187 [(0, 2, jx0), (1, 2, jx1), (3, 0, jx3), (4, 2, jx4), (5, 2, jx5), (6, 2, jx6), (7, 0, jx7), (8, 0, jx8), (9, 0, jx9), (12, 1, jx12), (14, 1, jx14), (16, 1, jx16), (18, 0, jx18), (19, 0, jx19), (20, 0, jx20), (21, 0, jx21), (22, 0, jx22), (23, 1, jx23), (25, 0, jx25), (26, 0, jx26)] [] σ := by
  intro n
  induction n with
  | zero =>
    intro jx23 jx25 jx26 σ hF
    rw [F_X6_searchBest_L187] at hF
    cases hF
  | succ n hk187 =>
    intro jx23 jx25 jx26 σ hF
    rw [F_X6_searchBest_L187] at hF
    refine g_iload hX 19 dX6_searchBest_187 rfl ?_
    refine g_iload hX 12 dX6_searchBest_189 rfl ?_
    refine g_icmp_gt (tgt := 373) hX dX6_searchBest_191 (by decide) hF (fun hc hF => ?_) (fun hc hF => ?_)
    · refine g_iload hX 15 dX6_searchBest_194 rfl ?_
      refine g_istore (lv' := [(27, 0, jx21), (0, 2, jx0), (1, 2, jx1), (3, 0, jx3), (4, 2, jx4), (5, 2, jx5), (6, 2, jx6), (7, 0, jx7), (8, 0, jx8), (9, 0, jx9), (12, 1, jx12), (14, 1, jx14), (16, 1, jx16), (18, 0, jx18), (19, 0, jx19), (20, 0, jx20), (21, 0, jx21), (22, 0, jx22), (23, 1, jx23), (25, 0, jx25), (26, 0, jx26)]) hX dX6_searchBest_196 (by decide) rfl ?_
      refine g_lvp (lv' := [(0, 2, jx0), (1, 2, jx1), (3, 0, jx3), (4, 2, jx4), (5, 2, jx5), (6, 2, jx6), (7, 0, jx7), (8, 0, jx8), (9, 0, jx9), (12, 1, jx12), (14, 1, jx14), (16, 1, jx16), (18, 0, jx18), (19, 0, jx19), (20, 0, jx20), (21, 0, jx21), (22, 0, jx22), (23, 1, jx23), (25, 0, jx25), (26, 0, jx26), (27, 0, jx21)]) [1, 2, 3, 4, 5, 6, 7, 8, 9, 10, 11, 12, 13, 14, 15, 16, 17, 18, 19, 20, 0] rfl ?_
      exact T_X6_searchBest_L198 rec fw lw hrec hrecM hX hR hnm hQ hE (F_X6_searchBest_L187 rec jx0 jx1 jx3 jx4 jx5 jx6 jx7 jx8 jx9 jx12 jx14 jx16 jx18 jx19 jx20 jx21 jx22 n) jx0 jx1 jx3 jx4 jx5 jx6 jx7 jx8 jx9 jx12 jx14 jx16 jx18 jx19 jx20 jx21 jx22 jx26 hk187  fu jx23 jx25 jx21 σ hF
    · refine g_aload_n hX 0 dX6_searchBest_373 rfl rfl ?_
      refine g_iload hX 18 dX6_searchBest_374 rfl ?_
      refine u_put hX fp_X6_35 (by decide) (by decide) dX6_searchBest_376 hF (fun σ60 hF => ?_)
      refine g_lload hX 17 dX6_searchBest_379 rfl ?_
      exact g_lret hX hR hQ hE dX6_searchBest_381 hF
def F_X6_searchBest (rec : Int → Int → Int → Int → Hp → Option (Int × Hp)) (jx0 : Int) (jx1 : Int) (jx2 : Int) (jx3 : Int) (σ : Hp) : Option (Int × Hp) :=
  (rd 7 σ jx0 0).bind fun jv1 => (rd 5 σ jv1 0).bind fun jv2 => (ar 14 σ jv2 0).bind fun jv3 => (rd 7 σ jx0 0).bind fun jv4 => (rd 5 σ jv4 0).bind fun jv5 => (ar 14 σ jv5 1).bind fun jv6 => (rd 7 σ jx0 0).bind fun jv7 => (rd 5 σ jv7 0).bind fun jv8 => (ar 14 σ jv8 2).bind fun jv9 => (rd 7 σ jx0 0).bind fun jv10 => bd (iv 5 σ jv10 (F_X4_measureOf  jv10 jx2 0 σ)) fun jv11 σ12 => (rd 7 σ12 jx0 0).bind fun jv13 => bd (iv 5 σ12 jv13 (F_X4_measureOf  jv13 jx2 1 σ12)) fun jv14 σ15 => (rd 7 σ15 jx0 0).bind fun jv16 => bd (iv 5 σ15 jv16 (F_X4_measureOf  jv16 jx2 2 σ15)) fun jv17 σ18 => (rd 7 σ18 jx0 1).bind fun jv19 => bd (iv 4 σ18 jv19 (F_X3_scaleOf  jv19 jx3 σ18)) fun jv20 σ21 => (rd 7 σ21 jx0 1).bind fun jv22 => bd (iv 4 σ21 jv22 (F_X3_priceFrom  jv22 jx1 σ21)) fun jv23 σ24 => g3 jv23 (nm ((jv20 * jv23)) fun jv25 => bd (iv 1 σ24 jv3 (F_X0_headAt  jv3 jv11 σ24)) fun jv26 σ27 => g3 jv26 (nm ((jv25 * jv26)) fun jv28 => bd (iv 1 σ27 jv6 (F_X0_headAt  jv6 jv14 σ27)) fun jv29 σ30 => g3 jv29 (nm ((jv25 * jv29)) fun jv31 => bd (iv 1 σ30 jv9 (F_X0_headAt  jv9 jv17 σ30)) fun jv32 σ33 => g3 jv32 (nm ((jv25 * jv32)) fun jv34 => bd (iv 1 σ33 jv3 (F_X0_mostLet  jv3 jv11 σ33)) fun jv35 σ36 => bd (iv 1 σ36 jv6 (F_X0_mostLet  jv6 jv14 σ36)) fun jv37 σ38 => bd (iv 1 σ38 jv9 (F_X0_mostLet  jv9 jv17 σ38)) fun jv39 σ40 => bd (iv 1 σ40 jv6 (F_X0_leastLet  jv6 jv14 σ40)) fun jv41 σ42 => bd (iv 1 σ42 jv9 (F_X0_leastLet  jv9 jv17 σ42)) fun jv43 σ44 => bd (iv 1 σ44 jv3 (F_X0_leastLet  jv3 jv11 σ44)) fun jv45 σ46 => F_X6_searchBest_L187 rec jx0 jx1 jx3 jv3 jv6 jv9 jv11 jv14 jv17 jv28 jv31 jv34 jv35 jv37 jv39 jv41 jv43 fu (-1) 0 jv45 σ46))))
theorem M_X6_searchBest (rec : Int → Int → Int → Int → Hp → Option (Int × Hp)) (hrec : ∀ (x0 x1 x2 x3 : Int) (σ : Hp), Mn σ (rec x0 x1 x2 x3 σ)) (jx0 : Int) (jx1 : Int) (jx2 : Int) (jx3 : Int) (σ : Hp) : Mn σ (F_X6_searchBest rec jx0 jx1 jx2 jx3 σ) := by
  unfold F_X6_searchBest
  repeat' first | exact Mn_ret | exact Mn_rz | exact hrec _ _ _ _ _ | exact M_X4_measureOf _ _ _ _ | exact M_X3_scaleOf _ _ _ | exact M_X3_priceFrom _ _ _ | exact M_X0_headAt _ _ _ | exact M_X0_mostLet _ _ _ | exact M_X0_leastLet _ _ _ | exact M_X6_searchBest_L187 rec hrec _ _ _ _ _ _ _ _ _ _ _ _ _ _ _ _ _ _ _ _ _ _ | refine Mn_nm (fun _ => ?_) | refine Mn_nab (fun _ _ => ?_) | refine Mn_nwb (fun _ _ => ?_) | refine Mn_pw (fun _ => ?_) | refine Mn_pz (fun _ => ?_) | refine Mn_aw (fun _ => ?_) | refine Mn_az (fun _ => ?_) | refine Mn_aq (fun _ => ?_) | refine Mn_bo (fun _ => ?_) | refine Mn_bd ?_ (fun _ _ => ?_) | refine Mn_iv ?_ | refine Mn_bLt ?_ ?_ | refine Mn_bLe ?_ ?_ | refine Mn_bEq ?_ ?_ | refine Mn_bN ?_ ?_ | refine Mn_g3 ?_ | refine Mn_g33 ?_ | refine Mn_g66 ?_ | refine Mn_gD ?_
set_option maxRecDepth 100000 in
set_option maxHeartbeats 4000000 in
theorem T_X6_searchBest (l : Launch) (D : va_G) (dA : Nat → ClassId) (b0 : Nat) (rec : Int → Int → Int → Int → Hp → Option (Int × Hp)) (fw lw : Nat) (hrec : ∀ (x0 x1 x2 x3 : Int) (σ σ1 : Hp) (r : Int), rec x0 x1 x2 x3 σ = some (r, σ1) → Ct l D dA b0 yX6_worthOf cX6_worthOf 5 (some .long) fw lw [(2, x0), (2, x1), (0, x2), (0, x3)] σ (some (pV 1 r)) σ1) (hrecM : ∀ (x0 x1 x2 x3 : Int) (σ : Hp), Mn σ (rec x0 x1 x2 x3 σ)) (jx0 : Int) (jx1 : Int) (jx2 : Int) (jx3 : Int) (σ σE : Hp) (r : Int) (hF : F_X6_searchBest rec jx0 jx1 jx2 jx3 σ = some (r, σE)) : Ct l D dA b0 yX6_searchBest cX6_searchBest 37 (some .long) (fw + 22) (lw + 700) [(2, jx0), (2, jx1), (0, jx2), (0, jx3)] σ (some (pV 1 r)) σE := by
  refine Ct.of (lv0 := [(0, 2, jx0), (1, 2, jx1), (2, 0, jx2), (3, 0, jx3)]) (by decide) RX6 rfl (Nat.le_of_ble_eq_true rfl) rfl ?_ (M_X6_searchBest rec hrecM jx0 jx1 jx2 jx3 σ r σE hF)
  intro p e R s m args below meth c hX hR hnm
  obtain ⟨Q, hQ⟩ : ∃ Q, Q = Qm D dA b0 σ.1 σ.2.1 below args s (some (pV 1 r)) σE := ⟨_, rfl⟩
  rw [← hQ]
  have hE : σE.1 = σE.1 ∧ σE.2.1 = σE.2.1 := ⟨rfl, rfl⟩
  unfold F_X6_searchBest at hF
  refine g_aload_n hX 0 dX6_searchBest_0 rfl rfl ?_
  refine g_get hX fl_X6_13 (by decide) (by decide) dX6_searchBest_1 hF (fun jv1 hF => ?_)
  refine g_get hX fl_X6_70 (by decide) (by decide) dX6_searchBest_4 hF (fun jv2 hF => ?_)
  refine g_iconst hX dX6_searchBest_7 ?_
  refine g_aald hX (by decide) dX6_searchBest_8 hF (fun jv3 hF => ?_)
  refine g_astore (lv' := [(4, 2, jv3), (0, 2, jx0), (1, 2, jx1), (2, 0, jx2), (3, 0, jx3)]) hX dX6_searchBest_9 (by decide) rfl ?_
  refine g_aload_n hX 1 dX6_searchBest_11 rfl rfl ?_
  refine g_get hX fl_X6_13 (by decide) (by decide) dX6_searchBest_12 hF (fun jv4 hF => ?_)
  refine g_get hX fl_X6_70 (by decide) (by decide) dX6_searchBest_15 hF (fun jv5 hF => ?_)
  refine g_iconst hX dX6_searchBest_18 ?_
  refine g_aald hX (by decide) dX6_searchBest_19 hF (fun jv6 hF => ?_)
  refine g_astore (lv' := [(5, 2, jv6), (4, 2, jv3), (0, 2, jx0), (1, 2, jx1), (2, 0, jx2), (3, 0, jx3)]) hX dX6_searchBest_20 (by decide) rfl ?_
  refine g_aload_n hX 2 dX6_searchBest_22 rfl rfl ?_
  refine g_get hX fl_X6_13 (by decide) (by decide) dX6_searchBest_23 hF (fun jv7 hF => ?_)
  refine g_get hX fl_X6_70 (by decide) (by decide) dX6_searchBest_26 hF (fun jv8 hF => ?_)
  refine g_iconst hX dX6_searchBest_29 ?_
  refine g_aald hX (by decide) dX6_searchBest_30 hF (fun jv9 hF => ?_)
  refine g_astore (lv' := [(6, 2, jv9), (5, 2, jv6), (4, 2, jv3), (0, 2, jx0), (1, 2, jx1), (2, 0, jx2), (3, 0, jx3)]) hX dX6_searchBest_31 (by decide) rfl ?_
  refine g_aload_n hX 3 dX6_searchBest_33 rfl rfl ?_
  refine g_get hX fl_X6_13 (by decide) (by decide) dX6_searchBest_34 hF (fun jv10 hF => ?_)
  refine g_iload_n hX 5 dX6_searchBest_37 rfl rfl ?_
  refine g_iconst hX dX6_searchBest_38 ?_
  refine g_callV (t := 0) (ci := 4) (rest := []) [(0, jx2), (0, 0)] hX cw_X6_74 rfl (by decide) (by decide) (fun r σ1 h => T_X4_measureOf l D dA b0  jv10 jx2 0 σ σ1 r h) ⟨by omega, by omega⟩ rfl rfl (Nat.le_of_ble_eq_true rfl) dX6_searchBest_39 hF (fun jv11 σ12 hF => ?_)
  refine g_istore (lv' := [(7, 0, jv11), (6, 2, jv9), (5, 2, jv6), (4, 2, jv3), (0, 2, jx0), (1, 2, jx1), (2, 0, jx2), (3, 0, jx3)]) hX dX6_searchBest_42 (by decide) rfl ?_
  refine g_aload_n hX 4 dX6_searchBest_44 rfl rfl ?_
  refine g_get hX fl_X6_13 (by decide) (by decide) dX6_searchBest_45 hF (fun jv13 hF => ?_)
  refine g_iload_n hX 6 dX6_searchBest_48 rfl rfl ?_
  refine g_iconst hX dX6_searchBest_49 ?_
  refine g_callV (t := 0) (ci := 4) (rest := []) [(0, jx2), (0, 1)] hX cw_X6_74 rfl (by decide) (by decide) (fun r σ1 h => T_X4_measureOf l D dA b0  jv13 jx2 1 σ12 σ1 r h) ⟨by omega, by omega⟩ rfl rfl (Nat.le_of_ble_eq_true rfl) dX6_searchBest_50 hF (fun jv14 σ15 hF => ?_)
  refine g_istore (lv' := [(8, 0, jv14), (7, 0, jv11), (6, 2, jv9), (5, 2, jv6), (4, 2, jv3), (0, 2, jx0), (1, 2, jx1), (2, 0, jx2), (3, 0, jx3)]) hX dX6_searchBest_53 (by decide) rfl ?_
  refine g_aload_n hX 5 dX6_searchBest_55 rfl rfl ?_
  refine g_get hX fl_X6_13 (by decide) (by decide) dX6_searchBest_56 hF (fun jv16 hF => ?_)
  refine g_iload_n hX 7 dX6_searchBest_59 rfl rfl ?_
  refine g_iconst hX dX6_searchBest_60 ?_
  refine g_callV (t := 0) (ci := 4) (rest := []) [(0, jx2), (0, 2)] hX cw_X6_74 rfl (by decide) (by decide) (fun r σ1 h => T_X4_measureOf l D dA b0  jv16 jx2 2 σ15 σ1 r h) ⟨by omega, by omega⟩ rfl rfl (Nat.le_of_ble_eq_true rfl) dX6_searchBest_61 hF (fun jv17 σ18 hF => ?_)
  refine g_istore (lv' := [(9, 0, jv17), (8, 0, jv14), (7, 0, jv11), (6, 2, jv9), (5, 2, jv6), (4, 2, jv3), (0, 2, jx0), (1, 2, jx1), (2, 0, jx2), (3, 0, jx3)]) hX dX6_searchBest_64 (by decide) rfl ?_
  refine g_aload_n hX 6 dX6_searchBest_66 rfl rfl ?_
  refine g_get hX fl_X6_17 (by decide) (by decide) dX6_searchBest_67 hF (fun jv19 hF => ?_)
  refine g_iload_n hX 9 dX6_searchBest_70 rfl rfl ?_
  refine g_callV (t := 1) (ci := 3) (rest := []) [(0, jx3)] hX cw_X6_78 rfl (by decide) (by decide) (fun r σ1 h => T_X3_scaleOf l D dA b0  jv19 jx3 σ18 σ1 r h) ⟨by omega, by omega⟩ rfl rfl (Nat.le_of_ble_eq_true rfl) dX6_searchBest_71 hF (fun jv20 σ21 hF => ?_)
  refine g_aload_n hX 6 dX6_searchBest_74 rfl rfl ?_
  refine g_get hX fl_X6_17 (by decide) (by decide) dX6_searchBest_75 hF (fun jv22 hF => ?_)
  refine g_aload_n hX 7 dX6_searchBest_78 rfl rfl ?_
  refine g_callV (t := 0) (ci := 3) (rest := [(1, jv20)]) [(2, jx1)] hX cw_X6_81 rfl (by decide) (by decide) (fun r σ1 h => T_X3_priceFrom l D dA b0  jv22 jx1 σ21 σ1 r h) ⟨by omega, by omega⟩ rfl rfl (Nat.le_of_ble_eq_true rfl) dX6_searchBest_79 hF (fun jv23 σ24 hF => ?_)
  refine g_i2l hX dX6_searchBest_82 hF (fun hF => ?_)
  refine g_lmul hX dX6_searchBest_83 ?_
  refine g_nm hF (fun jv25 hF => ?_)
  refine g_lstore (lv' := [(10, 1, jv25), (9, 0, jv17), (8, 0, jv14), (7, 0, jv11), (6, 2, jv9), (5, 2, jv6), (4, 2, jv3), (0, 2, jx0), (1, 2, jx1), (2, 0, jx2), (3, 0, jx3)]) hX dX6_searchBest_84 (by decide) rfl ?_
  refine g_lload hX 0 dX6_searchBest_86 rfl ?_
  refine g_aload hX 6 dX6_searchBest_88 rfl ?_
  refine g_iload hX 3 dX6_searchBest_90 rfl ?_
  refine g_callV (t := 0) (ci := 0) (rest := [(1, jv25)]) [(0, jv11)] hX cw_X6_84 rfl (by decide) (by decide) (fun r σ1 h => T_X0_headAt l D dA b0  jv3 jv11 σ24 σ1 r h) ⟨by omega, by omega⟩ rfl rfl (Nat.le_of_ble_eq_true rfl) dX6_searchBest_92 hF (fun jv26 σ27 hF => ?_)
  refine g_i2l hX dX6_searchBest_95 hF (fun hF => ?_)
  refine g_lmul hX dX6_searchBest_96 ?_
  refine g_nm hF (fun jv28 hF => ?_)
  refine g_lstore (lv' := [(12, 1, jv28), (10, 1, jv25), (9, 0, jv17), (8, 0, jv14), (7, 0, jv11), (6, 2, jv9), (5, 2, jv6), (4, 2, jv3), (0, 2, jx0), (1, 2, jx1), (2, 0, jx2), (3, 0, jx3)]) hX dX6_searchBest_97 (by decide) rfl ?_
  refine g_lload hX 1 dX6_searchBest_99 rfl ?_
  refine g_aload hX 6 dX6_searchBest_101 rfl ?_
  refine g_iload hX 3 dX6_searchBest_103 rfl ?_
  refine g_callV (t := 0) (ci := 0) (rest := [(1, jv25)]) [(0, jv14)] hX cw_X6_84 rfl (by decide) (by decide) (fun r σ1 h => T_X0_headAt l D dA b0  jv6 jv14 σ27 σ1 r h) ⟨by omega, by omega⟩ rfl rfl (Nat.le_of_ble_eq_true rfl) dX6_searchBest_105 hF (fun jv29 σ30 hF => ?_)
  refine g_i2l hX dX6_searchBest_108 hF (fun hF => ?_)
  refine g_lmul hX dX6_searchBest_109 ?_
  refine g_nm hF (fun jv31 hF => ?_)
  refine g_lstore (lv' := [(14, 1, jv31), (12, 1, jv28), (10, 1, jv25), (9, 0, jv17), (8, 0, jv14), (7, 0, jv11), (6, 2, jv9), (5, 2, jv6), (4, 2, jv3), (0, 2, jx0), (1, 2, jx1), (2, 0, jx2), (3, 0, jx3)]) hX dX6_searchBest_110 (by decide) rfl ?_
  refine g_lload hX 2 dX6_searchBest_112 rfl ?_
  refine g_aload hX 6 dX6_searchBest_114 rfl ?_
  refine g_iload hX 3 dX6_searchBest_116 rfl ?_
  refine g_callV (t := 0) (ci := 0) (rest := [(1, jv25)]) [(0, jv17)] hX cw_X6_84 rfl (by decide) (by decide) (fun r σ1 h => T_X0_headAt l D dA b0  jv9 jv17 σ30 σ1 r h) ⟨by omega, by omega⟩ rfl rfl (Nat.le_of_ble_eq_true rfl) dX6_searchBest_118 hF (fun jv32 σ33 hF => ?_)
  refine g_i2l hX dX6_searchBest_121 hF (fun hF => ?_)
  refine g_lmul hX dX6_searchBest_122 ?_
  refine g_nm hF (fun jv34 hF => ?_)
  refine g_lstore (lv' := [(16, 1, jv34), (14, 1, jv31), (12, 1, jv28), (10, 1, jv25), (9, 0, jv17), (8, 0, jv14), (7, 0, jv11), (6, 2, jv9), (5, 2, jv6), (4, 2, jv3), (0, 2, jx0), (1, 2, jx1), (2, 0, jx2), (3, 0, jx3)]) hX dX6_searchBest_123 (by decide) rfl ?_
  refine g_aload hX 9 dX6_searchBest_125 rfl ?_
  refine g_iload hX 6 dX6_searchBest_127 rfl ?_
  refine g_callV (t := 0) (ci := 0) (rest := []) [(0, jv11)] hX cw_X6_90 rfl (by decide) (by decide) (fun r σ1 h => T_X0_mostLet l D dA b0  jv3 jv11 σ33 σ1 r h) ⟨by omega, by omega⟩ rfl rfl (Nat.le_of_ble_eq_true rfl) dX6_searchBest_129 hF (fun jv35 σ36 hF => ?_)
  refine g_istore (lv' := [(18, 0, jv35), (16, 1, jv34), (14, 1, jv31), (12, 1, jv28), (10, 1, jv25), (9, 0, jv17), (8, 0, jv14), (7, 0, jv11), (6, 2, jv9), (5, 2, jv6), (4, 2, jv3), (0, 2, jx0), (1, 2, jx1), (2, 0, jx2), (3, 0, jx3)]) hX dX6_searchBest_132 (by decide) rfl ?_
  refine g_aload hX 9 dX6_searchBest_134 rfl ?_
  refine g_iload hX 6 dX6_searchBest_136 rfl ?_
  refine g_callV (t := 0) (ci := 0) (rest := []) [(0, jv14)] hX cw_X6_90 rfl (by decide) (by decide) (fun r σ1 h => T_X0_mostLet l D dA b0  jv6 jv14 σ36 σ1 r h) ⟨by omega, by omega⟩ rfl rfl (Nat.le_of_ble_eq_true rfl) dX6_searchBest_138 hF (fun jv37 σ38 hF => ?_)
  refine g_istore (lv' := [(19, 0, jv37), (18, 0, jv35), (16, 1, jv34), (14, 1, jv31), (12, 1, jv28), (10, 1, jv25), (9, 0, jv17), (8, 0, jv14), (7, 0, jv11), (6, 2, jv9), (5, 2, jv6), (4, 2, jv3), (0, 2, jx0), (1, 2, jx1), (2, 0, jx2), (3, 0, jx3)]) hX dX6_searchBest_141 (by decide) rfl ?_
  refine g_aload hX 9 dX6_searchBest_143 rfl ?_
  refine g_iload hX 6 dX6_searchBest_145 rfl ?_
  refine g_callV (t := 0) (ci := 0) (rest := []) [(0, jv17)] hX cw_X6_90 rfl (by decide) (by decide) (fun r σ1 h => T_X0_mostLet l D dA b0  jv9 jv17 σ38 σ1 r h) ⟨by omega, by omega⟩ rfl rfl (Nat.le_of_ble_eq_true rfl) dX6_searchBest_147 hF (fun jv39 σ40 hF => ?_)
  refine g_istore (lv' := [(20, 0, jv39), (19, 0, jv37), (18, 0, jv35), (16, 1, jv34), (14, 1, jv31), (12, 1, jv28), (10, 1, jv25), (9, 0, jv17), (8, 0, jv14), (7, 0, jv11), (6, 2, jv9), (5, 2, jv6), (4, 2, jv3), (0, 2, jx0), (1, 2, jx1), (2, 0, jx2), (3, 0, jx3)]) hX dX6_searchBest_150 (by decide) rfl ?_
  refine g_aload hX 11 dX6_searchBest_152 rfl ?_
  refine g_iload hX 8 dX6_searchBest_154 rfl ?_
  refine g_callV (t := 0) (ci := 0) (rest := []) [(0, jv14)] hX cw_X6_93 rfl (by decide) (by decide) (fun r σ1 h => T_X0_leastLet l D dA b0  jv6 jv14 σ40 σ1 r h) ⟨by omega, by omega⟩ rfl rfl (Nat.le_of_ble_eq_true rfl) dX6_searchBest_156 hF (fun jv41 σ42 hF => ?_)
  refine g_istore (lv' := [(21, 0, jv41), (20, 0, jv39), (19, 0, jv37), (18, 0, jv35), (16, 1, jv34), (14, 1, jv31), (12, 1, jv28), (10, 1, jv25), (9, 0, jv17), (8, 0, jv14), (7, 0, jv11), (6, 2, jv9), (5, 2, jv6), (4, 2, jv3), (0, 2, jx0), (1, 2, jx1), (2, 0, jx2), (3, 0, jx3)]) hX dX6_searchBest_159 (by decide) rfl ?_
  refine g_aload hX 11 dX6_searchBest_161 rfl ?_
  refine g_iload hX 8 dX6_searchBest_163 rfl ?_
  refine g_callV (t := 0) (ci := 0) (rest := []) [(0, jv17)] hX cw_X6_93 rfl (by decide) (by decide) (fun r σ1 h => T_X0_leastLet l D dA b0  jv9 jv17 σ42 σ1 r h) ⟨by omega, by omega⟩ rfl rfl (Nat.le_of_ble_eq_true rfl) dX6_searchBest_165 hF (fun jv43 σ44 hF => ?_)
  refine g_istore (lv' := [(22, 0, jv43), (21, 0, jv41), (20, 0, jv39), (19, 0, jv37), (18, 0, jv35), (16, 1, jv34), (14, 1, jv31), (12, 1, jv28), (10, 1, jv25), (9, 0, jv17), (8, 0, jv14), (7, 0, jv11), (6, 2, jv9), (5, 2, jv6), (4, 2, jv3), (0, 2, jx0), (1, 2, jx1), (2, 0, jx2), (3, 0, jx3)]) hX dX6_searchBest_168 (by decide) rfl ?_
  refine g_ldc2 (z := -1) hX kc_X6_53 (by decide) dX6_searchBest_170 ?_
  refine g_lstore (lv' := [(23, 1, (-1)), (22, 0, jv43), (21, 0, jv41), (20, 0, jv39), (19, 0, jv37), (18, 0, jv35), (16, 1, jv34), (14, 1, jv31), (12, 1, jv28), (10, 1, jv25), (9, 0, jv17), (8, 0, jv14), (7, 0, jv11), (6, 2, jv9), (5, 2, jv6), (4, 2, jv3), (0, 2, jx0), (1, 2, jx1), (2, 0, jx2), (3, 0, jx3)]) hX dX6_searchBest_173 (by decide) rfl ?_
  refine g_iconst hX dX6_searchBest_175 ?_
  refine g_istore (lv' := [(25, 0, 0), (23, 1, (-1)), (22, 0, jv43), (21, 0, jv41), (20, 0, jv39), (19, 0, jv37), (18, 0, jv35), (16, 1, jv34), (14, 1, jv31), (12, 1, jv28), (10, 1, jv25), (9, 0, jv17), (8, 0, jv14), (7, 0, jv11), (6, 2, jv9), (5, 2, jv6), (4, 2, jv3), (0, 2, jx0), (1, 2, jx1), (2, 0, jx2), (3, 0, jx3)]) hX dX6_searchBest_176 (by decide) rfl ?_
  refine g_aload hX 16 dX6_searchBest_178 rfl ?_
  refine g_iload hX 13 dX6_searchBest_180 rfl ?_
  refine g_callV (t := 0) (ci := 0) (rest := []) [(0, jv11)] hX cw_X6_93 rfl (by decide) (by decide) (fun r σ1 h => T_X0_leastLet l D dA b0  jv3 jv11 σ44 σ1 r h) ⟨by omega, by omega⟩ rfl rfl (Nat.le_of_ble_eq_true rfl) dX6_searchBest_182 hF (fun jv45 σ46 hF => ?_)
  refine g_istore (lv' := [(26, 0, jv45), (25, 0, 0), (23, 1, (-1)), (22, 0, jv43), (21, 0, jv41), (20, 0, jv39), (19, 0, jv37), (18, 0, jv35), (16, 1, jv34), (14, 1, jv31), (12, 1, jv28), (10, 1, jv25), (9, 0, jv17), (8, 0, jv14), (7, 0, jv11), (6, 2, jv9), (5, 2, jv6), (4, 2, jv3), (0, 2, jx0), (1, 2, jx1), (2, 0, jx2), (3, 0, jx3)]) hX dX6_searchBest_185 (by decide) rfl ?_
  refine g_lvp (lv' := [(0, 2, jx0), (1, 2, jx1), (3, 0, jx3), (4, 2, jv3), (5, 2, jv6), (6, 2, jv9), (7, 0, jv11), (8, 0, jv14), (9, 0, jv17), (12, 1, jv28), (14, 1, jv31), (16, 1, jv34), (18, 0, jv35), (19, 0, jv37), (20, 0, jv39), (21, 0, jv41), (22, 0, jv43), (23, 1, (-1)), (25, 0, 0), (26, 0, jv45)]) [18, 19, 21, 17, 16, 15, 14, 13, 12, 10, 9, 8, 7, 6, 5, 4, 3, 2, 1, 0] rfl ?_
  exact T_X6_searchBest_L187 rec fw lw hrec hrecM hX hR hnm hQ hE jx0 jx1 jx3 jv3 jv6 jv9 jv11 jv14 jv17 jv28 jv31 jv34 jv35 jv37 jv39 jv41 jv43  fu (-1) 0 jv45 σ46 hF
end

section
variable {p : Program} {l : Launch} {e : Env} {R : Room} {s : State} {m : MethodId} {args : Array Value} {below : List Frame} {meth : Method} {c : Code} {D : va_G} {dA : Nat → ClassId} {b0 n0 m0 nE mE : Nat} {Q : State → Prop}
def F_X6_worthOf_B64 (rec : Int → Int → Int → Int → Hp → Option (Int × Hp)) (jx2 : Int) (jx4 : Int) (σ : Hp) : Option (Int × Hp) :=
  (ar 12 σ jx4 jx2).bind fun jv12 => some (jv12, σ)
theorem M_X6_worthOf_B64 (rec : Int → Int → Int → Int → Hp → Option (Int × Hp)) (hrec : ∀ (x0 x1 x2 x3 : Int) (σ : Hp), Mn σ (rec x0 x1 x2 x3 σ)) (jx2 : Int) (jx4 : Int) (σ : Hp) : Mn σ (F_X6_worthOf_B64 rec jx2 jx4 σ) := by
  unfold F_X6_worthOf_B64
  repeat' first | exact Mn_ret | exact Mn_rz | exact hrec _ _ _ _ _ | refine Mn_nm (fun _ => ?_) | refine Mn_nab (fun _ _ => ?_) | refine Mn_nwb (fun _ _ => ?_) | refine Mn_pw (fun _ => ?_) | refine Mn_pz (fun _ => ?_) | refine Mn_aw (fun _ => ?_) | refine Mn_az (fun _ => ?_) | refine Mn_aq (fun _ => ?_) | refine Mn_bo (fun _ => ?_) | refine Mn_bd ?_ (fun _ _ => ?_) | refine Mn_iv ?_ | refine Mn_bLt ?_ ?_ | refine Mn_bLe ?_ ?_ | refine Mn_bEq ?_ ?_ | refine Mn_bN ?_ ?_ | refine Mn_g3 ?_ | refine Mn_g33 ?_ | refine Mn_g66 ?_ | refine Mn_gD ?_
set_option maxRecDepth 100000 in
set_option maxHeartbeats 4000000 in
theorem T_X6_worthOf_B64 (rec : Int → Int → Int → Int → Hp → Option (Int × Hp)) (fw lw : Nat) (hrec : ∀ (x0 x1 x2 x3 : Int) (σ σ1 : Hp) (r : Int), rec x0 x1 x2 x3 σ = some (r, σ1) → Ct l D dA b0 yX6_worthOf cX6_worthOf 5 (some .long) fw lw [(2, x0), (2, x1), (0, x2), (0, x3)] σ (some (pV 1 r)) σ1) (hrecM : ∀ (x0 x1 x2 x3 : Int) (σ : Hp), Mn σ (rec x0 x1 x2 x3 σ)) {r : Int} {σE : Hp} (hX : Cx p R s m args meth c D dA b0 n0 m0 5 nE mE cX6_worthOf RX6 (fw + 23) (lw + 900)) (hR : Rx meth (some .long)) (hnm : meth.name = yX6_worthOf.name) (hQ : Q = Qm D dA b0 n0 m0 below args s (some (pV 1 r)) σE) (hE : nE = σE.1 ∧ mE = σE.2.1) (jx2 : Int) (jx4 : Int) (σ : Hp) (hF : F_X6_worthOf_B64 rec jx2 jx4 σ = some (r, σE)) : G p l e R s m args below meth c D dA b0 n0 m0 5 nE mE Q 64 [(2, 0, jx2), (4, 2, jx4)] [] σ := by
  unfold F_X6_worthOf_B64 at hF
  refine g_aload hX 1 dX6_worthOf_64 rfl ?_
  refine g_iload_n hX 0 dX6_worthOf_66 rfl rfl ?_
  refine g_lald hX dX6_worthOf_67 hF (fun jv12 hF => ?_)
  exact g_lret hX hR hQ hE dX6_worthOf_68 hF
def F_X6_worthOf (rec : Int → Int → Int → Int → Hp → Option (Int × Hp)) (jx0 : Int) (jx1 : Int) (jx2 : Int) (jx3 : Int) (σ : Hp) : Option (Int × Hp) :=
  bLe jx3 0 ((rd 7 σ jx0 0).bind fun jv1 => bd (iv 5 σ jv1 (F_X4_endWorth  jv1 jx2 σ)) fun jv2 σ3 => some (jv2, σ3)) (bd (iv 7 σ jx0 (F_X6_refresh  jx0 jx1 σ)) fun jv4 σ5 => (rd 2 σ5 jx1 8).bind fun jv6 => bN jv6 (some (0, σ5)) (bLt jx2 0 (some (0, σ5)) ((al 12 σ5 jv6).bind fun jv7 => bLt jx2 jv7 ((ar 12 σ5 jv6 jx2).bind fun jv8 => g66 jv8 (-1) (bEq (cmpL jv8 (-1)) 0 (bd (iv 7 σ5 jx0 (F_X6_searchBest rec  jx0 jx1 jx2 jx3 σ5)) fun jv9 σ10 => (aw 12 σ10 jv6 jx2 jv9).bind fun σ11 => F_X6_worthOf_B64 rec jx2 jv6  σ11) (F_X6_worthOf_B64 rec jx2 jv6  σ5))) (some (0, σ5)))))
theorem M_X6_worthOf (rec : Int → Int → Int → Int → Hp → Option (Int × Hp)) (hrec : ∀ (x0 x1 x2 x3 : Int) (σ : Hp), Mn σ (rec x0 x1 x2 x3 σ)) (jx0 : Int) (jx1 : Int) (jx2 : Int) (jx3 : Int) (σ : Hp) : Mn σ (F_X6_worthOf rec jx0 jx1 jx2 jx3 σ) := by
  unfold F_X6_worthOf
  repeat' first | exact Mn_ret | exact Mn_rz | exact hrec _ _ _ _ _ | exact M_X4_endWorth _ _ _ | exact M_X6_refresh _ _ _ | exact M_X6_searchBest rec hrec _ _ _ _ _ | exact M_X6_worthOf_B64 rec hrec _ _  _ | refine Mn_nm (fun _ => ?_) | refine Mn_nab (fun _ _ => ?_) | refine Mn_nwb (fun _ _ => ?_) | refine Mn_pw (fun _ => ?_) | refine Mn_pz (fun _ => ?_) | refine Mn_aw (fun _ => ?_) | refine Mn_az (fun _ => ?_) | refine Mn_aq (fun _ => ?_) | refine Mn_bo (fun _ => ?_) | refine Mn_bd ?_ (fun _ _ => ?_) | refine Mn_iv ?_ | refine Mn_bLt ?_ ?_ | refine Mn_bLe ?_ ?_ | refine Mn_bEq ?_ ?_ | refine Mn_bN ?_ ?_ | refine Mn_g3 ?_ | refine Mn_g33 ?_ | refine Mn_g66 ?_ | refine Mn_gD ?_
set_option maxRecDepth 100000 in
set_option maxHeartbeats 4000000 in
theorem T_X6_worthOf (l : Launch) (D : va_G) (dA : Nat → ClassId) (b0 : Nat) (rec : Int → Int → Int → Int → Hp → Option (Int × Hp)) (fw lw : Nat) (hrec : ∀ (x0 x1 x2 x3 : Int) (σ σ1 : Hp) (r : Int), rec x0 x1 x2 x3 σ = some (r, σ1) → Ct l D dA b0 yX6_worthOf cX6_worthOf 5 (some .long) fw lw [(2, x0), (2, x1), (0, x2), (0, x3)] σ (some (pV 1 r)) σ1) (hrecM : ∀ (x0 x1 x2 x3 : Int) (σ : Hp), Mn σ (rec x0 x1 x2 x3 σ)) (jx0 : Int) (jx1 : Int) (jx2 : Int) (jx3 : Int) (σ σE : Hp) (r : Int) (hF : F_X6_worthOf rec jx0 jx1 jx2 jx3 σ = some (r, σE)) : Ct l D dA b0 yX6_worthOf cX6_worthOf 5 (some .long) (fw + 23) (lw + 900) [(2, jx0), (2, jx1), (0, jx2), (0, jx3)] σ (some (pV 1 r)) σE := by
  refine Ct.of (lv0 := [(0, 2, jx0), (1, 2, jx1), (2, 0, jx2), (3, 0, jx3)]) (by decide) RX6 rfl (Nat.le_of_ble_eq_true rfl) rfl ?_ (M_X6_worthOf rec hrecM jx0 jx1 jx2 jx3 σ r σE hF)
  intro p e R s m args below meth c hX hR hnm
  obtain ⟨Q, hQ⟩ : ∃ Q, Q = Qm D dA b0 σ.1 σ.2.1 below args s (some (pV 1 r)) σE := ⟨_, rfl⟩
  rw [← hQ]
  have hE : σE.1 = σE.1 ∧ σE.2.1 = σE.2.1 := ⟨rfl, rfl⟩
  unfold F_X6_worthOf at hF
  refine g_iload_n hX 3 dX6_worthOf_0 rfl rfl ?_
  refine g_if_gt (tgt := 13) hX dX6_worthOf_1 (by decide) hF (fun hc hF => ?_) (fun hc hF => ?_)
  · refine g_aload_n hX 0 dX6_worthOf_4 rfl rfl ?_
    refine g_get hX fl_X6_13 (by decide) (by decide) dX6_worthOf_5 hF (fun jv1 hF => ?_)
    refine g_iload_n hX 2 dX6_worthOf_8 rfl rfl ?_
    refine g_callV (t := 1) (ci := 4) (rest := []) [(0, jx2)] hX cw_X6_41 rfl (by decide) (by decide) (fun r σ1 h => T_X4_endWorth l D dA b0  jv1 jx2 σ σ1 r h) ⟨by omega, by omega⟩ rfl rfl (Nat.le_of_ble_eq_true rfl) dX6_worthOf_9 hF (fun jv2 σ3 hF => ?_)
    exact g_lret hX hR hQ hE dX6_worthOf_12 hF
  · refine g_aload_n hX 0 dX6_worthOf_13 rfl rfl ?_
    refine g_aload_n hX 1 dX6_worthOf_14 rfl rfl ?_
    refine g_callVv (ci := 6) (rest := []) [(2, jx1)] hX cw_X6_21 rfl (by decide) (by decide) (fun r σ1 h => T_X6_refresh l D dA b0  jx0 jx1 σ σ1 r h) ⟨by omega, by omega⟩ rfl rfl (Nat.le_of_ble_eq_true rfl) dX6_worthOf_15 hF (fun jv4 σ5 hF => ?_)
    refine g_aload_n hX 1 dX6_worthOf_18 rfl rfl ?_
    refine g_get hX fl_X6_47 (by decide) (by decide) dX6_worthOf_19 hF (fun jv6 hF => ?_)
    refine g_astore (lv' := [(4, 2, jv6), (0, 2, jx0), (1, 2, jx1), (2, 0, jx2), (3, 0, jx3)]) hX dX6_worthOf_22 (by decide) rfl ?_
    refine g_aload hX 0 dX6_worthOf_24 rfl ?_
    refine g_ifnull (tgt := 40) hX dX6_worthOf_26 (by decide) hF (fun hc hF => ?_) (fun hc hF => ?_)
    · refine g_lconst (z := 0) hX dX6_worthOf_40 rfl ?_
      exact g_lret hX hR hQ hE dX6_worthOf_41 hF
    · refine g_iload_n hX 3 dX6_worthOf_29 rfl rfl ?_
      refine g_if_lt (tgt := 40) hX dX6_worthOf_30 (by decide) hF (fun hc hF => ?_) (fun hc hF => ?_)
      · refine g_lconst (z := 0) hX dX6_worthOf_40 rfl ?_
        exact g_lret hX hR hQ hE dX6_worthOf_41 hF
      · refine g_iload_n hX 3 dX6_worthOf_33 rfl rfl ?_
        refine g_aload hX 0 dX6_worthOf_34 rfl ?_
        refine g_alen hX (by decide) dX6_worthOf_36 hF (fun jv7 hF => ?_)
        refine g_icmp_lt (tgt := 42) hX dX6_worthOf_37 (by decide) hF (fun hc hF => ?_) (fun hc hF => ?_)
        · refine g_aload hX 0 dX6_worthOf_42 rfl ?_
          refine g_iload_n hX 3 dX6_worthOf_44 rfl rfl ?_
          refine g_lald hX dX6_worthOf_45 hF (fun jv8 hF => ?_)
          refine g_ldc2 (z := -1) hX kc_X6_53 (by decide) dX6_worthOf_46 ?_
          refine g_lcmp hX dX6_worthOf_49 hF (fun hF => ?_)
          refine g_if_ne (tgt := 64) hX dX6_worthOf_50 (by decide) hF (fun hc hF => ?_) (fun hc hF => ?_)
          · refine g_aload hX 0 dX6_worthOf_53 rfl ?_
            refine g_iload_n hX 3 dX6_worthOf_55 rfl rfl ?_
            refine g_aload_n hX 1 dX6_worthOf_56 rfl rfl ?_
            refine g_aload_n hX 2 dX6_worthOf_57 rfl rfl ?_
            refine g_iload_n hX 3 dX6_worthOf_58 rfl rfl ?_
            refine g_iload_n hX 4 dX6_worthOf_59 rfl rfl ?_
            refine g_callV (t := 1) (ci := 6) (rest := [(0, jx2), (2, jv6)]) [(2, jx1), (0, jx2), (0, jx3)] hX cw_X6_31 rfl (by decide) (by decide) (fun r σ1 h => T_X6_searchBest l D dA b0 rec fw lw hrec hrecM  jx0 jx1 jx2 jx3 σ5 σ1 r h) ⟨by omega, by omega⟩ rfl rfl (Nat.le_of_ble_eq_true rfl) dX6_worthOf_60 hF (fun jv9 σ10 hF => ?_)
            refine u_last hX dX6_worthOf_63 hF (fun σ11 hF => ?_)
            refine g_lvp (lv' := [(2, 0, jx2), (4, 2, jv6)]) [3, 0] rfl ?_
            exact T_X6_worthOf_B64 rec fw lw hrec hrecM hX hR hnm hQ hE jx2 jv6   σ11 hF
          · refine g_lvp (lv' := [(2, 0, jx2), (4, 2, jv6)]) [3, 0] rfl ?_
            exact T_X6_worthOf_B64 rec fw lw hrec hrecM hX hR hnm hQ hE jx2 jv6   σ5 hF
        · refine g_lconst (z := 0) hX dX6_worthOf_40 rfl ?_
          exact g_lret hX hR hQ hE dX6_worthOf_41 hF
end
