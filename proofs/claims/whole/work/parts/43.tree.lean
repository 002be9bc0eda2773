section
variable {p : Program} {l : Launch} {e : Env} {R : Room} {s : State} {m : MethodId} {args : Array Value} {below : List Frame} {meth : Method} {c : Code} {D : va_G} {dA : Nat → ClassId} {b0 n0 m0 nE mE : Nat} {Q : State → Prop}
def F_X3_init (jx0 : Int) (σ : Hp) : Option (Int × Hp) :=
  iv 4 σ jx0 (nab 15 σ 81 (-1) fun ja1 σ2 => (pw 4 σ2 jx0 0 ja1).bind fun σ3 => nab 11 σ3 10 0 fun ja4 σ5 => (pw 4 σ5 jx0 1 ja4).bind fun σ6 => (pw 4 σ6 jx0 2 1).bind fun σ7 => (pw 4 σ7 jx0 3 1).bind fun σ8 => (pw 4 σ8 jx0 4 1).bind fun σ9 => (rd 4 σ9 jx0 0).bind fun jv10 => nwb 2 σ9 16 1 fun ja11 σ12 => bd (F_X1_init ja11 0 σ12) fun jv13 σ14 => (aq 15 2 σ14 jv10 0 ja11).bind fun σ15 => (rd 4 σ15 jx0 1).bind fun jv16 => bd (F_J7_fill_53178 jv16 1 σ15) fun jv17 σ18 => some (0, σ18))
theorem M_X3_init (jx0 : Int) (σ : Hp) : Mn σ (F_X3_init jx0 σ) := by
  unfold F_X3_init
  repeat' first | exact Mn_ret | exact Mn_rz | exact M_X1_init _ _ _ | exact M_J7_fill_53178 _ _ _ | refine Mn_nm (fun _ => ?_) | refine Mn_nab (fun _ _ => ?_) | refine Mn_nwb (fun _ _ => ?_) | refine Mn_pw (fun _ => ?_) | refine Mn_pz (fun _ => ?_) | refine Mn_aw (fun _ => ?_) | refine Mn_az (fun _ => ?_) | refine Mn_aq (fun _ => ?_) | refine Mn_bo (fun _ => ?_) | refine Mn_bd ?_ (fun _ _ => ?_) | refine Mn_iv ?_ | refine Mn_bLt ?_ ?_ | refine Mn_bLe ?_ ?_ | refine Mn_bEq ?_ ?_ | refine Mn_bN ?_ ?_ | refine Mn_g3 ?_ | refine Mn_g33 ?_ | refine Mn_g66 ?_ | refine Mn_gD ?_
set_option maxRecDepth 100000 in
set_option maxHeartbeats 4000000 in
theorem T_X3_init (l : Launch) (D : va_G) (dA : Nat → ClassId) (b0 : Nat) (jx0 : Int) (σ σE : Hp) (r : Int) (hF : F_X3_init jx0 σ = some (r, σE)) : Ct l D dA b0 yX3_init cX3_init 1 none 2 41 [(2, jx0)] σ none σE := by
  refine Ct.of (lv0 := [(0, 2, jx0)]) (by decide) RX3 rfl (Nat.le_of_ble_eq_true rfl) rfl ?_ (M_X3_init jx0 σ r σE hF)
  intro p e R s m args below meth c hX hR hnm
  obtain ⟨Q, hQ⟩ : ∃ Q, Q = Qm D dA b0 σ.1 σ.2.1 below args s none σE := ⟨_, rfl⟩
  rw [← hQ]
  have hE : σE.1 = σE.1 ∧ σE.2.1 = σE.2.1 := ⟨rfl, rfl⟩
  unfold F_X3_init at hF
  refine g_aload_n hX 0 dX3_init_0 rfl rfl ?_
  refine u_objInit hX ow_X3_3 (by decide) (by decide) (Nat.le_of_ble_eq_true rfl) dX3_init_1 hF (fun hF => ?_)
  refine g_aload_n hX 0 dX3_init_4 rfl rfl ?_
  refine g_bipush hX dX3_init_5 (by decide) ?_
  refine u_anew hX (Or.inr ⟨rfl, rfl⟩) kl_X3_9 dX3_init_7 hF (fun ja1 σ2 hja1 hF => ?_)
  refine u_putF hX fp_X3_11 hnm (by decide) (by decide) dX3_init_10 hF (fun σ3 hF => ?_)
  refine g_aload_n hX 0 dX3_init_13 rfl rfl ?_
  refine g_bipush hX dX3_init_14 (by decide) ?_
  refine u_newa (atype := .int) (ty := .int) hX rfl (Or.inl ⟨rfl, rfl⟩) ac_int dX3_init_16 hF (fun ja4 σ5 hja4 hF => ?_)
  refine u_putF hX fp_X3_17 hnm (by decide) (by decide) dX3_init_18 hF (fun σ6 hF => ?_)
  refine g_aload_n hX 0 dX3_init_21 rfl rfl ?_
  refine g_iconst hX dX3_init_22 ?_
  refine u_put hX fp_X3_21 (by decide) (by decide) dX3_init_23 hF (fun σ7 hF => ?_)
  refine g_aload_n hX 0 dX3_init_26 rfl rfl ?_
  refine g_iconst hX dX3_init_27 ?_
  refine u_put hX fp_X3_25 (by decide) (by decide) dX3_init_28 hF (fun σ8 hF => ?_)
  refine g_aload_n hX 0 dX3_init_31 rfl rfl ?_
  refine g_iconst hX dX3_init_32 ?_
  refine u_put hX fp_X3_28 (by decide) (by decide) dX3_init_33 hF (fun σ9 hF => ?_)
  refine g_aload_n hX 0 dX3_init_36 rfl rfl ?_
  refine g_get hX fl_X3_11 (by decide) (by decide) dX3_init_37 hF (fun jv10 hF => ?_)
  refine g_iconst hX dX3_init_40 ?_
  refine u_new hX nw_X3_9 (by decide) rfl dX3_init_41 hF (fun ja11 σ12 hja11 hF => ?_)
  refine g_dup hX dX3_init_44 (by decide) ?_
  refine g_iconst hX dX3_init_45 ?_
  refine g_callI (K := 0) (rest := [(2, ja11), (0, 0), (2, jv10)]) [(0, 0)] hX cw_X3_31 hja11 (fun r σ1 h => T_X1_init l D dA b0 ja11 0 σ12 σ1 r h) ⟨by decide, by decide⟩ rfl rfl (Nat.le_of_ble_eq_true rfl) dX3_init_46 hF (fun jv13 σ14 hF => ?_)
  refine u_aast hX (by decide) dX3_init_49 hF (fun σ15 hF => ?_)
  refine g_aload_n hX 0 dX3_init_50 rfl rfl ?_
  refine g_get hX fl_X3_17 (by decide) (by decide) dX3_init_51 hF (fun jv16 hF => ?_)
  refine g_iconst hX dX3_init_54 ?_
  refine g_callSv (rest := []) [(2, jv16), (0, 1)] hX cw_X3_34 (fun r σ1 h => T_J7_fill_53178 l D dA b0 jv16 1 σ15 σ1 r h) ⟨by decide, by decide⟩ rfl rfl (Nat.le_of_ble_eq_true rfl) dX3_init_55 hF (fun jv17 σ18 hF => ?_)
  exact g_vret hX hR hQ hE dX3_init_58 hF
end

section
variable {p : Program} {l : Launch} {e : Env} {R : Room} {s : State} {m : MethodId} {args : Array Value} {below : List Frame} {meth : Method} {c : Code} {D : va_G} {dA : Nat → ClassId} {b0 n0 m0 nE mE : Nat} {Q : State → Prop}
def F_X3_clear (jx0 : Int) (jx1 : Int) (jx2 : Int) (σ : Hp) : Option (Int × Hp) :=
  (pw 4 σ jx0 3 jx1).bind fun σ1 => (pw 4 σ1 jx0 4 jx2).bind fun σ2 => (pw 4 σ2 jx0 2 1).bind fun σ3 => (rd 4 σ3 jx0 0).bind fun jv4 => (ar 15 σ3 jv4 0).bind fun jv5 => bd (iv 2 σ3 jv5 (F_X1_dropChildren  jv5  σ3)) fun jv6 σ7 => some (0, σ7)
theorem M_X3_clear (jx0 : Int) (jx1 : Int) (jx2 : Int) (σ : Hp) : Mn σ (F_X3_clear jx0 jx1 jx2 σ) := by
  unfold F_X3_clear
  repeat' first | exact Mn_ret | exact Mn_rz | exact M_X1_dropChildren _ _ | refine Mn_nm (fun _ => ?_) | refine Mn_nab (fun _ _ => ?_) | refine Mn_nwb (fun _ _ => ?_) | refine Mn_pw (fun _ => ?_) | refine Mn_pz (fun _ => ?_) | refine Mn_aw (fun _ => ?_) | refine Mn_az (fun _ => ?_) | refine Mn_aq (fun _ => ?_) | refine Mn_bo (fun _ => ?_) | refine Mn_bd ?_ (fun _ _ => ?_) | refine Mn_iv ?_ | refine Mn_bLt ?_ ?_ | refine Mn_bLe ?_ ?_ | refine Mn_bEq ?_ ?_ | refine Mn_bN ?_ ?_ | refine Mn_g3 ?_ | refine Mn_g33 ?_ | refine Mn_g66 ?_ | refine Mn_gD ?_
set_option maxRecDepth 100000 in
set_option maxHeartbeats 4000000 in
theorem T_X3_clear (l : Launch) (D : va_G) (dA : Nat → ClassId) (b0 : Nat) (jx0 : Int) (jx1 : Int) (jx2 : Int) (σ σE : Hp) (r : Int) (hF : F_X3_clear jx0 jx1 jx2 σ = some (r, σE)) : Ct l D dA b0 yX3_clear cX3_clear 3 none 1 20 [(2, jx0), (0, jx1), (0, jx2)] σ none σE := by
  refine Ct.of (lv0 := [(0, 2, jx0), (1, 0, jx1), (2, 0, jx2)]) (by decide) RX3 rfl (Nat.le_of_ble_eq_true rfl) rfl ?_ (M_X3_clear jx0 jx1 jx2 σ r σE hF)
  intro p e R s m args below meth c hX hR hnm
  obtain ⟨Q, hQ⟩ : ∃ Q, Q = Qm D dA b0 σ.1 σ.2.1 below args s none σE := ⟨_, rfl⟩
  rw [← hQ]
  have hE : σE.1 = σE.1 ∧ σE.2.1 = σE.2.1 := ⟨rfl, rfl⟩
  unfold F_X3_clear at hF
  refine g_aload_n hX 0 dX3_clear_0 rfl rfl ?_
  refine g_iload_n hX 1 dX3_clear_1 rfl rfl ?_
  refine u_put hX fp_X3_25 (by decide) (by decide) dX3_clear_2 hF (fun σ1 hF => ?_)
  refine g_aload_n hX 0 dX3_clear_5 rfl rfl ?_
  refine g_iload_n hX 2 dX3_clear_6 rfl rfl ?_
  refine u_put hX fp_X3_28 (by decide) (by decide) dX3_clear_7 hF (fun σ2 hF => ?_)
  refine g_aload_n hX 0 dX3_clear_10 rfl rfl ?_
  refine g_iconst hX dX3_clear_11 ?_
  refine u_put hX fp_X3_21 (by decide) (by decide) dX3_clear_12 hF (fun σ3 hF => ?_)
  refine g_aload_n hX 0 dX3_clear_15 rfl rfl ?_
  refine g_get hX fl_X3_11 (by decide) (by decide) dX3_clear_16 hF (fun jv4 hF => ?_)
  refine g_iconst hX dX3_clear_19 ?_
  refine g_aald hX (by decide) dX3_clear_20 hF (fun jv5 hF => ?_)
  refine g_callVv (ci := 1) (rest := []) [] hX cw_X3_40 rfl (by decide) (by decide) (fun r σ1 h => T_X1_dropChildren l D dA b0  jv5  σ3 σ1 r h) ⟨by decide, by decide⟩ rfl rfl (Nat.le_of_ble_eq_true rfl) dX3_clear_21 hF (fun jv6 σ7 hF => ?_)
  exact g_vret hX hR hQ hE dX3_clear_24 hF
end

section
variable {p : Program} {l : Launch} {e : Env} {R : Room} {s : State} {m : MethodId} {args : Array Value} {below : List Frame} {meth : Method} {c : Code} {D : va_G} {dA : Nat → ClassId} {b0 n0 m0 nE mE : Nat} {Q : State → Prop}
def F_X3_nodeAt (jx0 : Int) (jx1 : Int) (σ : Hp) : Option (Int × Hp) :=
  bLt jx1 0 (some ((-1), σ)) ((rd 4 σ jx0 2).bind fun jv1 => bLt jx1 jv1 ((rd 4 σ jx0 0).bind fun jv2 => (al 15 σ jv2).bind fun jv3 => bLt jx1 jv3 ((rd 4 σ jx0 0).bind fun jv4 => (ar 15 σ jv4 jx1).bind fun jv5 => some (jv5, σ)) (some ((-1), σ))) (some ((-1), σ)))
theorem M_X3_nodeAt (jx0 : Int) (jx1 : Int) (σ : Hp) : Mn σ (F_X3_nodeAt jx0 jx1 σ) := by
  unfold F_X3_nodeAt
  repeat' first | exact Mn_ret | exact Mn_rz | refine Mn_nm (fun _ => ?_) | refine Mn_nab (fun _ _ => ?_) | refine Mn_nwb (fun _ _ => ?_) | refine Mn_pw (fun _ => ?_) | refine Mn_pz (fun _ => ?_) | refine Mn_aw (fun _ => ?_) | refine Mn_az (fun _ => ?_) | refine Mn_aq (fun _ => ?_) | refine Mn_bo (fun _ => ?_) | refine Mn_bd ?_ (fun _ _ => ?_) | refine Mn_iv ?_ | refine Mn_bLt ?_ ?_ | refine Mn_bLe ?_ ?_ | refine Mn_bEq ?_ ?_ | refine Mn_bN ?_ ?_ | refine Mn_g3 ?_ | refine Mn_g33 ?_ | refine Mn_g66 ?_ | refine Mn_gD ?_
set_option maxRecDepth 100000 in
set_option maxHeartbeats 4000000 in
theorem T_X3_nodeAt (l : Launch) (D : va_G) (dA : Nat → ClassId) (b0 : Nat) (jx0 : Int) (jx1 : Int) (σ σE : Hp) (r : Int) (hF : F_X3_nodeAt jx0 jx1 σ = some (r, σE)) : Ct l D dA b0 yX3_nodeAt cX3_nodeAt 2 (some (.object "LakeChain$Node")) 0 0 [(2, jx0), (0, jx1)] σ (some (pV 2 r)) σE := by
  refine Ct.of (lv0 := [(0, 2, jx0), (1, 0, jx1)]) (by decide) RX3 rfl (Nat.le_of_ble_eq_true rfl) rfl ?_ (M_X3_nodeAt jx0 jx1 σ r σE hF)
  intro p e R s m args below meth c hX hR hnm
  obtain ⟨Q, hQ⟩ : ∃ Q, Q = Qm D dA b0 σ.1 σ.2.1 below args s (some (pV 2 r)) σE := ⟨_, rfl⟩
  rw [← hQ]
  have hE : σE.1 = σE.1 ∧ σE.2.1 = σE.2.1 := ⟨rfl, rfl⟩
  unfold F_X3_nodeAt at hF
  refine g_iload_n hX 1 dX3_nodeAt_0 rfl rfl ?_
  refine g_if_lt (tgt := 30) hX dX3_nodeAt_1 (by decide) hF (fun hc hF => ?_) (fun hc hF => ?_)
  · refine g_null hX dX3_nodeAt_30 ?_
    exact g_aret hX hR hQ hE dX3_nodeAt_31 hF
  · refine g_iload_n hX 1 dX3_nodeAt_4 rfl rfl ?_
    refine g_aload_n hX 0 dX3_nodeAt_5 rfl rfl ?_
    refine g_get hX fl_X3_21 (by decide) (by decide) dX3_nodeAt_6 hF (fun jv1 hF => ?_)
    refine g_icmp_ge (tgt := 30) hX dX3_nodeAt_9 (by decide) hF (fun hc hF => ?_) (fun hc hF => ?_)
    · refine g_iload_n hX 1 dX3_nodeAt_12 rfl rfl ?_
      refine g_aload_n hX 0 dX3_nodeAt_13 rfl rfl ?_
      refine g_get hX fl_X3_11 (by decide) (by decide) dX3_nodeAt_14 hF (fun jv2 hF => ?_)
      refine g_alen hX (by decide) dX3_nodeAt_17 hF (fun jv3 hF => ?_)
      refine g_icmp_ge (tgt := 30) hX dX3_nodeAt_18 (by decide) hF (fun hc hF => ?_) (fun hc hF => ?_)
      · refine g_aload_n hX 0 dX3_nodeAt_21 rfl rfl ?_
        refine g_get hX fl_X3_11 (by decide) (by decide) dX3_nodeAt_22 hF (fun jv4 hF => ?_)
        refine g_iload_n hX 1 dX3_nodeAt_25 rfl rfl ?_
        refine g_aald hX (by decide) dX3_nodeAt_26 hF (fun jv5 hF => ?_)
        refine g_goto (tgt := 31) hX dX3_nodeAt_27 (by decide) ?_
        exact g_aret hX hR hQ hE dX3_nodeAt_31 hF
      · refine g_null hX dX3_nodeAt_30 ?_
        exact g_aret hX hR hQ hE dX3_nodeAt_31 hF
    · refine g_null hX dX3_nodeAt_30 ?_
      exact g_aret hX hR hQ hE dX3_nodeAt_31 hF
end

section
variable {p : Program} {l : Launch} {e : Env} {R : Room} {s : State} {m : MethodId} {args : Array Value} {below : List Frame} {meth : Method} {c : Code} {D : va_G} {dA : Nat → ClassId} {b0 n0 m0 nE mE : Nat} {Q : State → Prop}
def F_X3_addNode_B46 (jx0 : Int) (jx1 : Int) (jx2 : Int) (σ : Hp) : Option (Int × Hp) :=
  (rd 4 σ jx0 0).bind fun jv15 => (rd 4 σ jx0 2).bind fun jv16 => (ar 15 σ jv15 jv16).bind fun jv17 => bd (iv 2 σ jv17 (F_X1_dropChildren  jv17  σ)) fun jv18 σ19 => (pw 2 σ19 jv17 3 jx1).bind fun σ20 => (pw 2 σ20 jv17 4 jx2).bind fun σ21 => (rd 2 σ21 jx1 5).bind fun jv22 => (pw 2 σ21 jv17 5 (jv22 + 1)).bind fun σ23 => bd (iv 2 σ23 jx1 (F_X1_addChild  jx1 jv17 σ23)) fun jv24 σ25 => (rd 4 σ25 jx0 2).bind fun jv26 => (pw 4 σ25 jx0 2 (jv26 + 1)).bind fun σ27 => some (jv17, σ27)
theorem M_X3_addNode_B46 (jx0 : Int) (jx1 : Int) (jx2 : Int) (σ : Hp) : Mn σ (F_X3_addNode_B46 jx0 jx1 jx2 σ) := by
  unfold F_X3_addNode_B46
  repeat' first | exact Mn_ret | exact Mn_rz | exact M_X1_dropChildren _ _ | exact M_X1_addChild _ _ _ | refine Mn_nm (fun _ => ?_) | refine Mn_nab (fun _ _ => ?_) | refine Mn_nwb (fun _ _ => ?_) | refine Mn_pw (fun _ => ?_) | refine Mn_pz (fun _ => ?_) | refine Mn_aw (fun _ => ?_) | refine Mn_az (fun _ => ?_) | refine Mn_aq (fun _ => ?_) | refine Mn_bo (fun _ => ?_) | refine Mn_bd ?_ (fun _ _ => ?_) | refine Mn_iv ?_ | refine Mn_bLt ?_ ?_ | refine Mn_bLe ?_ ?_ | refine Mn_bEq ?_ ?_ | refine Mn_bN ?_ ?_ | refine Mn_g3 ?_ | refine Mn_g33 ?_ | refine Mn_g66 ?_ | refine Mn_gD ?_
set_option maxRecDepth 100000 in
set_option maxHeartbeats 4000000 in
theorem T_X3_addNode_B46 {r : Int} {σE : Hp} (hX : Cx p R s m args meth c D dA b0 n0 m0 4 nE mE cX3_addNode RX3 2 41) (hR : Rx meth (some (.object "LakeChain$Node"))) (hnm : meth.name = yX3_addNode.name) (hQ : Q = Qm D dA b0 n0 m0 below args s (some (pV 2 r)) σE) (hE : nE = σE.1 ∧ mE = σE.2.1) (jx0 : Int) (jx1 : Int) (jx2 : Int) (σ : Hp) (hF : F_X3_addNode_B46 jx0 jx1 jx2 σ = some (r, σE)) : G p l e R s m args below meth c D dA b0 n0 m0 4 nE mE Q 46 [(0, 2, jx0), (1, 2, jx1), (2, 0, jx2)] [] σ := by
  unfold F_X3_addNode_B46 at hF
  refine g_aload_n hX 0 dX3_addNode_46 rfl rfl ?_
  refine g_get hX fl_X3_11 (by decide) (by decide) dX3_addNode_47 hF (fun jv15 hF => ?_)
  refine g_aload_n hX 0 dX3_addNode_50 rfl rfl ?_
  refine g_get hX fl_X3_21 (by decide) (by decide) dX3_addNode_51 hF (fun jv16 hF => ?_)
  refine g_aald hX (by decide) dX3_addNode_54 hF (fun jv17 hF => ?_)
  refine g_astore_n (lv' := [(3, 2, jv17), (0, 2, jx0), (1, 2, jx1), (2, 0, jx2)]) hX dX3_addNode_55 rfl (by decide) rfl ?_
  refine g_aload_n hX 0 dX3_addNode_56 rfl rfl ?_
  refine g_callVv (ci := 1) (rest := []) [] hX cw_X3_40 rfl (by decide) (by decide) (fun r σ1 h => T_X1_dropChildren l D dA b0  jv17  σ σ1 r h) ⟨by decide, by decide⟩ rfl rfl (Nat.le_of_ble_eq_true rfl) dX3_addNode_57 hF (fun jv18 σ19 hF => ?_)
  refine g_aload_n hX 0 dX3_addNode_60 rfl rfl ?_
  refine g_aload_n hX 2 dX3_addNode_61 rfl rfl ?_
  refine u_put hX fp_X3_43 (by decide) (by decide) dX3_addNode_62 hF (fun σ20 hF => ?_)
  refine g_aload_n hX 0 dX3_addNode_65 rfl rfl ?_
  refine g_iload_n hX 3 dX3_addNode_66 rfl rfl ?_
  refine u_put hX fp_X3_47 (by decide) (by decide) dX3_addNode_67 hF (fun σ21 hF => ?_)
  refine g_aload_n hX 0 dX3_addNode_70 rfl rfl ?_
  refine g_aload_n hX 2 dX3_addNode_71 rfl rfl ?_
  refine g_get hX fl_X3_50 (by decide) (by decide) dX3_addNode_72 hF (fun jv22 hF => ?_)
  refine g_iconst hX dX3_addNode_75 ?_
  refine g_iadd hX dX3_addNode_76 ?_
  refine u_put hX fp_X3_50 (by decide) (by decide) dX3_addNode_77 hF (fun σ23 hF => ?_)
  refine g_aload_n hX 2 dX3_addNode_80 rfl rfl ?_
  refine g_aload_n hX 0 dX3_addNode_81 rfl rfl ?_
  refine g_callVv (ci := 1) (rest := []) [(2, jv17)] hX cw_X3_53 rfl (by decide) (by decide) (fun r σ1 h => T_X1_addChild l D dA b0  jx1 jv17 σ23 σ1 r h) ⟨by decide, by decide⟩ rfl rfl (Nat.le_of_ble_eq_true rfl) dX3_addNode_82 hF (fun jv24 σ25 hF => ?_)
  refine g_aload_n hX 1 dX3_addNode_85 rfl rfl ?_
  refine g_dup hX dX3_addNode_86 (by decide) ?_
  refine g_get hX fl_X3_21 (by decide) (by decide) dX3_addNode_87 hF (fun jv26 hF => ?_)
  refine g_iconst hX dX3_addNode_90 ?_
  refine g_iadd hX dX3_addNode_91 ?_
  refine u_put hX fp_X3_21 (by decide) (by decide) dX3_addNode_92 hF (fun σ27 hF => ?_)
  refine g_aload_n hX 0 dX3_addNode_95 rfl rfl ?_
  exact g_aret hX hR hQ hE dX3_addNode_96 hF
def F_X3_addNode (jx0 : Int) (jx1 : Int) (jx2 : Int) (σ : Hp) : Option (Int × Hp) :=
  (rd 4 σ jx0 2).bind fun jv1 => (rd 4 σ jx0 0).bind fun jv2 => (al 15 σ jv2).bind fun jv3 => bLt jv1 jv3 ((rd 4 σ jx0 0).bind fun jv4 => (rd 4 σ jx0 2).bind fun jv5 => (ar 15 σ jv4 jv5).bind fun jv6 => bN jv6 ((rd 4 σ jx0 0).bind fun jv7 => (rd 4 σ jx0 2).bind fun jv8 => nwb 2 σ 16 1 fun ja9 σ10 => (rd 4 σ10 jx0 2).bind fun jv11 => bd (F_X1_init ja9 jv11 σ10) fun jv12 σ13 => (aq 15 2 σ13 jv7 jv8 ja9).bind fun σ14 => F_X3_addNode_B46 jx0 jx1 jx2  σ14) (F_X3_addNode_B46 jx0 jx1 jx2  σ)) (some ((-1), σ))
theorem M_X3_addNode (jx0 : Int) (jx1 : Int) (jx2 : Int) (σ : Hp) : Mn σ (F_X3_addNode jx0 jx1 jx2 σ) := by
  unfold F_X3_addNode
  repeat' first | exact Mn_ret | exact Mn_rz | exact M_X1_init _ _ _ | exact M_X3_addNode_B46 _ _ _  _ | refine Mn_nm (fun _ => ?_) | refine Mn_nab (fun _ _ => ?_) | refine Mn_nwb (fun _ _ => ?_) | refine Mn_pw (fun _ => ?_) | refine Mn_pz (fun _ => ?_) | refine Mn_aw (fun _ => ?_) | refine Mn_az (fun _ => ?_) | refine Mn_aq (fun _ => ?_) | refine Mn_bo (fun _ => ?_) | refine Mn_bd ?_ (fun _ _ => ?_) | refine Mn_iv ?_ | refine Mn_bLt ?_ ?_ | refine Mn_bLe ?_ ?_ | refine Mn_bEq ?_ ?_ | refine Mn_bN ?_ ?_ | refine Mn_g3 ?_ | refine Mn_g33 ?_ | refine Mn_g66 ?_ | refine Mn_gD ?_
set_option maxRecDepth 100000 in
set_option maxHeartbeats 4000000 in
theorem T_X3_addNode (l : Launch) (D : va_G) (dA : Nat → ClassId) (b0 : Nat) (jx0 : Int) (jx1 : Int) (jx2 : Int) (σ σE : Hp) (r : Int) (hF : F_X3_addNode jx0 jx1 jx2 σ = some (r, σE)) : Ct l D dA b0 yX3_addNode cX3_addNode 4 (some (.object "LakeChain$Node")) 2 41 [(2, jx0), (2, jx1), (0, jx2)] σ (some (pV 2 r)) σE := by
  refine Ct.of (lv0 := [(0, 2, jx0), (1, 2, jx1), (2, 0, jx2)]) (by decide) RX3 rfl (Nat.le_of_ble_eq_true rfl) rfl ?_ (M_X3_addNode jx0 jx1 jx2 σ r σE hF)
  intro p e R s m args below meth c hX hR hnm
  obtain ⟨Q, hQ⟩ : ∃ Q, Q = Qm D dA b0 σ.1 σ.2.1 below args s (some (pV 2 r)) σE := ⟨_, rfl⟩
  rw [← hQ]
  have hE : σE.1 = σE.1 ∧ σE.2.1 = σE.2.1 := ⟨rfl, rfl⟩
  unfold F_X3_addNode at hF
  refine g_aload_n hX 0 dX3_addNode_0 rfl rfl ?_
  refine g_get hX fl_X3_21 (by decide) (by decide) dX3_addNode_1 hF (fun jv1 hF => ?_)
  refine g_aload_n hX 0 dX3_addNode_4 rfl rfl ?_
  refine g_get hX fl_X3_11 (by decide) (by decide) dX3_addNode_5 hF (fun jv2 hF => ?_)
  refine g_alen hX (by decide) dX3_addNode_8 hF (fun jv3 hF => ?_)
  refine g_icmp_lt (tgt := 14) hX dX3_addNode_9 (by decide) hF (fun hc hF => ?_) (fun hc hF => ?_)
  · refine g_aload_n hX 0 dX3_addNode_14 rfl rfl ?_
    refine g_get hX fl_X3_11 (by decide) (by decide) dX3_addNode_15 hF (fun jv4 hF => ?_)
    refine g_aload_n hX 0 dX3_addNode_18 rfl rfl ?_
    refine g_get hX fl_X3_21 (by decide) (by decide) dX3_addNode_19 hF (fun jv5 hF => ?_)
    refine g_aald hX (by decide) dX3_addNode_22 hF (fun jv6 hF => ?_)
    refine g_ifnonnull (tgt := 46) hX dX3_addNode_23 (by decide) hF (fun hc hF => ?_) (fun hc hF => ?_)
    · refine g_aload_n hX 0 dX3_addNode_26 rfl rfl ?_
      refine g_get hX fl_X3_11 (by decide) (by decide) dX3_addNode_27 hF (fun jv7 hF => ?_)
      refine g_aload_n hX 0 dX3_addNode_30 rfl rfl ?_
      refine g_get hX fl_X3_21 (by decide) (by decide) dX3_addNode_31 hF (fun jv8 hF => ?_)
      refine u_new hX nw_X3_9 (by decide) rfl dX3_addNode_34 hF (fun ja9 σ10 hja9 hF => ?_)
      refine g_dup hX dX3_addNode_37 (by decide) ?_
      refine g_aload_n hX 0 dX3_addNode_38 rfl rfl ?_
      refine g_get hX fl_X3_21 (by decide) (by decide) dX3_addNode_39 hF (fun jv11 hF => ?_)
      refine g_callI (K := 0) (rest := [(2, ja9), (0, jv8), (2, jv7)]) [(0, jv11)] hX cw_X3_31 hja9 (fun r σ1 h => T_X1_init l D dA b0 ja9 jv11 σ10 σ1 r h) ⟨by decide, by decide⟩ rfl rfl (Nat.le_of_ble_eq_true rfl) dX3_addNode_42 hF (fun jv12 σ13 hF => ?_)
      refine u_aast hX (by decide) dX3_addNode_45 hF (fun σ14 hF => ?_)
      exact T_X3_addNode_B46 hX hR hnm hQ hE jx0 jx1 jx2   σ14 hF
    · exact T_X3_addNode_B46 hX hR hnm hQ hE jx0 jx1 jx2   σ hF
  · refine g_null hX dX3_addNode_12 ?_
    exact g_aret hX hR hQ hE dX3_addNode_13 hF
end

section
variable {p : Program} {l : Launch} {e : Env} {R : Room} {s : State} {m : MethodId} {args : Array Value} {below : List Frame} {meth : Method} {c : Code} {D : va_G} {dA : Nat → ClassId} {b0 n0 m0 nE mE : Nat} {Q : State → Prop}
def F_X3_isLast (jx0 : Int) (jx1 : Int) (σ : Hp) : Option (Int × Hp) :=
  (rd 2 σ jx1 5).bind fun jv1 => (rd 4 σ jx0 3).bind fun jv2 => bLt jv1 (jv2 - 1) (rz 0 σ) (rz 1 σ)
theorem M_X3_isLast (jx0 : Int) (jx1 : Int) (σ : Hp) : Mn σ (F_X3_isLast jx0 jx1 σ) := by
  unfold F_X3_isLast
  repeat' first | exact Mn_ret | exact Mn_rz | refine Mn_nm (fun _ => ?_) | refine Mn_nab (fun _ _ => ?_) | refine Mn_nwb (fun _ _ => ?_) | refine Mn_pw (fun _ => ?_) | refine Mn_pz (fun _ => ?_) | refine Mn_aw (fun _ => ?_) | refine Mn_az (fun _ => ?_) | refine Mn_aq (fun _ => ?_) | refine Mn_bo (fun _ => ?_) | refine Mn_bd ?_ (fun _ _ => ?_) | refine Mn_iv ?_ | refine Mn_bLt ?_ ?_ | refine Mn_bLe ?_ ?_ | refine Mn_bEq ?_ ?_ | refine Mn_bN ?_ ?_ | refine Mn_g3 ?_ | refine Mn_g33 ?_ | refine Mn_g66 ?_ | refine Mn_gD ?_
set_option maxRecDepth 100000 in
set_option maxHeartbeats 4000000 in
theorem T_X3_isLast (l : Launch) (D : va_G) (dA : Nat → ClassId) (b0 : Nat) (jx0 : Int) (jx1 : Int) (σ σE : Hp) (r : Int) (hF : F_X3_isLast jx0 jx1 σ = some (r, σE)) : Ct l D dA b0 yX3_isLast cX3_isLast 2 (some .boolean) 0 0 [(2, jx0), (2, jx1)] σ (some (pV 0 r)) σE := by
  refine Ct.of (lv0 := [(0, 2, jx0), (1, 2, jx1)]) (by decide) RX3 rfl (Nat.le_of_ble_eq_true rfl) rfl ?_ (M_X3_isLast jx0 jx1 σ r σE hF)
  intro p e R s m args below meth c hX hR hnm
  obtain ⟨Q, hQ⟩ : ∃ Q, Q = Qm D dA b0 σ.1 σ.2.1 below args s (some (pV 0 r)) σE := ⟨_, rfl⟩
  rw [← hQ]
  have hE : σE.1 = σE.1 ∧ σE.2.1 = σE.2.1 := ⟨rfl, rfl⟩
  unfold F_X3_isLast at hF
  refine g_aload_n hX 1 dX3_isLast_0 rfl rfl ?_
  refine g_get hX fl_X3_50 (by decide) (by decide) dX3_isLast_1 hF (fun jv1 hF => ?_)
  refine g_aload_n hX 0 dX3_isLast_4 rfl rfl ?_
  refine g_get hX fl_X3_25 (by decide) (by decide) dX3_isLast_5 hF (fun jv2 hF => ?_)
  refine g_iconst hX dX3_isLast_8 ?_
  refine g_isub hX dX3_isLast_9 ?_
  refine g_icmp_lt (tgt := 17) hX dX3_isLast_10 (by decide) hF (fun hc hF => ?_) (fun hc hF => ?_)
  · refine g_iconst hX dX3_isLast_17 ?_
    exact g_zret hX hR hQ hE dX3_isLast_18 hF
  · refine g_iconst hX dX3_isLast_13 ?_
    refine g_goto (tgt := 18) hX dX3_isLast_14 (by decide) ?_
    exact g_zret hX hR hQ hE dX3_isLast_18 hF
end

section
variable {p : Program} {l : Launch} {e : Env} {R : Room} {s : State} {m : MethodId} {args : Array Value} {below : List Frame} {meth : Method} {c : Code} {D : va_G} {dA : Nat → ClassId} {b0 n0 m0 nE mE : Nat} {Q : State → Prop}
def F_X3_weeksLeft (jx0 : Int) (jx1 : Int) (σ : Hp) : Option (Int × Hp) :=
  (rd 4 σ jx0 3).bind fun jv1 => (rd 2 σ jx1 5).bind fun jv2 => some (((jv1 - 1) - jv2), σ)
theorem M_X3_weeksLeft (jx0 : Int) (jx1 : Int) (σ : Hp) : Mn σ (F_X3_weeksLeft jx0 jx1 σ) := by
  unfold F_X3_weeksLeft
  repeat' first | exact Mn_ret | exact Mn_rz | refine Mn_nm (fun _ => ?_) | refine Mn_nab (fun _ _ => ?_) | refine Mn_nwb (fun _ _ => ?_) | refine Mn_pw (fun _ => ?_) | refine Mn_pz (fun _ => ?_) | refine Mn_aw (fun _ => ?_) | refine Mn_az (fun _ => ?_) | refine Mn_aq (fun _ => ?_) | refine Mn_bo (fun _ => ?_) | refine Mn_bd ?_ (fun _ _ => ?_) | refine Mn_iv ?_ | refine Mn_bLt ?_ ?_ | refine Mn_bLe ?_ ?_ | refine Mn_bEq ?_ ?_ | refine Mn_bN ?_ ?_ | refine Mn_g3 ?_ | refine Mn_g33 ?_ | refine Mn_g66 ?_ | refine Mn_gD ?_
set_option maxRecDepth 100000 in
set_option maxHeartbeats 4000000 in
theorem T_X3_weeksLeft (l : Launch) (D : va_G) (dA : Nat → ClassId) (b0 : Nat) (jx0 : Int) (jx1 : Int) (σ σE : Hp) (r : Int) (hF : F_X3_weeksLeft jx0 jx1 σ = some (r, σE)) : Ct l D dA b0 yX3_weeksLeft cX3_weeksLeft 2 (some .int) 0 0 [(2, jx0), (2, jx1)] σ (some (pV 0 r)) σE := by
  refine Ct.of (lv0 := [(0, 2, jx0), (1, 2, jx1)]) (by decide) RX3 rfl (Nat.le_of_ble_eq_true rfl) rfl ?_ (M_X3_weeksLeft jx0 jx1 σ r σE hF)
  intro p e R s m args below meth c hX hR hnm
  obtain ⟨Q, hQ⟩ : ∃ Q, Q = Qm D dA b0 σ.1 σ.2.1 below args s (some (pV 0 r)) σE := ⟨_, rfl⟩
  rw [← hQ]
  have hE : σE.1 = σE.1 ∧ σE.2.1 = σE.2.1 := ⟨rfl, rfl⟩
  unfold F_X3_weeksLeft at hF
  refine g_aload_n hX 0 dX3_weeksLeft_0 rfl rfl ?_
  refine g_get hX fl_X3_25 (by decide) (by decide) dX3_weeksLeft_1 hF (fun jv1 hF => ?_)
  refine g_iconst hX dX3_weeksLeft_4 ?_
  refine g_isub hX dX3_weeksLeft_5 ?_
  refine g_aload_n hX 1 dX3_weeksLeft_6 rfl rfl ?_
  refine g_get hX fl_X3_50 (by decide) (by decide) dX3_weeksLeft_7 hF (fun jv2 hF => ?_)
  refine g_isub hX dX3_weeksLeft_10 ?_
  exact g_iret hX hR hQ hE dX3_weeksLeft_11 hF
end

section
variable {p : Program} {l : Launch} {e : Env} {R : Room} {s : State} {m : MethodId} {args : Array Value} {below : List Frame} {meth : Method} {c : Code} {D : va_G} {dA : Nat → ClassId} {b0 n0 m0 nE mE : Nat} {Q : State → Prop}
def F_X3_priceFrom (jx0 : Int) (jx1 : Int) (σ : Hp) : Option (Int × Hp) :=
  (rd 2 σ jx1 5).bind fun jv1 => bLt (jv1 + 1) 0 (some (0, σ)) ((rd 4 σ jx0 1).bind fun jv2 => (al 11 σ jv2).bind fun jv3 => bLt (jv1 + 1) jv3 ((rd 4 σ jx0 1).bind fun jv4 => (ar 11 σ jv4 (jv1 + 1)).bind fun jv5 => some (jv5, σ)) (some (0, σ)))
theorem M_X3_priceFrom (jx0 : Int) (jx1 : Int) (σ : Hp) : Mn σ (F_X3_priceFrom jx0 jx1 σ) := by
  unfold F_X3_priceFrom
  repeat' first | exact Mn_ret | exact Mn_rz | refine Mn_nm (fun _ => ?_) | refine Mn_nab (fun _ _ => ?_) | refine Mn_nwb (fun _ _ => ?_) | refine Mn_pw (fun _ => ?_) | refine Mn_pz (fun _ => ?_) | refine Mn_aw (fun _ => ?_) | refine Mn_az (fun _ => ?_) | refine Mn_aq (fun _ => ?_) | refine Mn_bo (fun _ => ?_) | refine Mn_bd ?_ (fun _ _ => ?_) | refine Mn_iv ?_ | refine Mn_bLt ?_ ?_ | refine Mn_bLe ?_ ?_ | refine Mn_bEq ?_ ?_ | refine Mn_bN ?_ ?_ | refine Mn_g3 ?_ | refine Mn_g33 ?_ | refine Mn_g66 ?_ | refine Mn_gD ?_
set_option maxRecDepth 100000 in
set_option maxHeartbeats 4000000 in
theorem T_X3_priceFrom (l : Launch) (D : va_G) (dA : Nat → ClassId) (b0 : Nat) (jx0 : Int) (jx1 : Int) (σ σE : Hp) (r : Int) (hF : F_X3_priceFrom jx0 jx1 σ = some (r, σE)) : Ct l D dA b0 yX3_priceFrom cX3_priceFrom 3 (some .int) 0 0 [(2, jx0), (2, jx1)] σ (some (pV 0 r)) σE := by
  refine Ct.of (lv0 := [(0, 2, jx0), (1, 2, jx1)]) (by decide) RX3 rfl (Nat.le_of_ble_eq_true rfl) rfl ?_ (M_X3_priceFrom jx0 jx1 σ r σE hF)
  intro p e R s m args below meth c hX hR hnm
  obtain ⟨Q, hQ⟩ : ∃ Q, Q = Qm D dA b0 σ.1 σ.2.1 below args s (some (pV 0 r)) σE := ⟨_, rfl⟩
  rw [← hQ]
  have hE : σE.1 = σE.1 ∧ σE.2.1 = σE.2.1 := ⟨rfl, rfl⟩
  unfold F_X3_priceFrom at hF
  refine g_aload_n hX 1 dX3_priceFrom_0 rfl rfl ?_
  refine g_get hX fl_X3_50 (by decide) (by decide) dX3_priceFrom_1 hF (fun jv1 hF => ?_)
  refine g_iconst hX dX3_priceFrom_4 ?_
  refine g_iadd hX dX3_priceFrom_5 ?_
  refine g_istore_n (lv' := [(2, 0, (jv1 + 1)), (0, 2, jx0), (1, 2, jx1)]) hX dX3_priceFrom_6 rfl (by decide) rfl ?_
  refine g_iload_n hX 0 dX3_priceFrom_7 rfl rfl ?_
  refine g_if_lt (tgt := 29) hX dX3_priceFrom_8 (by decide) hF (fun hc hF => ?_) (fun hc hF => ?_)
  · refine g_iconst hX dX3_priceFrom_29 ?_
    exact g_iret hX hR hQ hE dX3_priceFrom_30 hF
  · refine g_iload_n hX 0 dX3_priceFrom_11 rfl rfl ?_
    refine g_aload_n hX 1 dX3_priceFrom_12 rfl rfl ?_
    refine g_get hX fl_X3_17 (by decide) (by decide) dX3_priceFrom_13 hF (fun jv2 hF => ?_)
    refine g_alen hX (by decide) dX3_priceFrom_16 hF (fun jv3 hF => ?_)
    refine g_icmp_ge (tgt := 29) hX dX3_priceFrom_17 (by decide) hF (fun hc hF => ?_) (fun hc hF => ?_)
    · refine g_aload_n hX 1 dX3_priceFrom_20 rfl rfl ?_
      refine g_get hX fl_X3_17 (by decide) (by decide) dX3_priceFrom_21 hF (fun jv4 hF => ?_)
      refine g_iload_n hX 0 dX3_priceFrom_24 rfl rfl ?_
      refine g_iald hX dX3_priceFrom_25 hF (fun jv5 hF => ?_)
      refine g_goto (tgt := 30) hX dX3_priceFrom_26 (by decide) ?_
      exact g_iret hX hR hQ hE dX3_priceFrom_30 hF
    · refine g_iconst hX dX3_priceFrom_29 ?_
      exact g_iret hX hR hQ hE dX3_priceFrom_30 hF
end

section
variable {p : Program} {l : Launch} {e : Env} {R : Room} {s : State} {m : MethodId} {args : Array Value} {below : List Frame} {meth : Method} {c : Code} {D : va_G} {dA : Nat → ClassId} {b0 n0 m0 nE mE : Nat} {Q : State → Prop}
def F_X3_isFilled_B41 (k2 : Int → Hp → Option (Int × Hp)) (jx0 : Int) (jx1 : Int) (σ : Hp) : Option (Int × Hp) :=
  k2 (jx1 + 1) σ
theorem M_X3_isFilled_B41 (k2 : Int → Hp → Option (Int × Hp)) (hk2 : ∀ (jx1 : Int) (σ : Hp), Mn σ (k2 jx1 σ)) (jx0 : Int) (jx1 : Int) (σ : Hp) : Mn σ (F_X3_isFilled_B41 k2 jx0 jx1 σ) := by
  unfold F_X3_isFilled_B41
  repeat' first | exact Mn_ret | exact Mn_rz | exact hk2 _  _ | refine Mn_nm (fun _ => ?_) | refine Mn_nab (fun _ _ => ?_) | refine Mn_nwb (fun _ _ => ?_) | refine Mn_pw (fun _ => ?_) | refine Mn_pz (fun _ => ?_) | refine Mn_aw (fun _ => ?_) | refine Mn_az (fun _ => ?_) | refine Mn_aq (fun _ => ?_) | refine Mn_bo (fun _ => ?_) | refine Mn_bd ?_ (fun _ _ => ?_) | refine Mn_iv ?_ | refine Mn_bLt ?_ ?_ | refine Mn_bLe ?_ ?_ | refine Mn_bEq ?_ ?_ | refine Mn_bN ?_ ?_ | refine Mn_g3 ?_ | refine Mn_g33 ?_ | refine Mn_g66 ?_ | refine Mn_gD ?_
set_option maxRecDepth 100000 in
set_option maxHeartbeats 4000000 in
theorem T_X3_isFilled_B41 {r : Int} {σE : Hp} (hX : Cx p R s m args meth c D dA b0 n0 m0 2 nE mE cX3_isFilled RX3 1 21) (hR : Rx meth (some .boolean)) (hnm : meth.name = yX3_isFilled.name) (hQ : Q = Qm D dA b0 n0 m0 below args s (some (pV 0 r)) σE) (hE : nE = σE.1 ∧ mE = σE.2.1) (k2 : Int → Hp → Option (Int × Hp)) (jx0 : Int) (jx1 : Int) (hk2 : ∀ (jx1 : Int) (σ : Hp), k2 jx1 σ = some (r, σE) → G p l e R s m args below meth c D dA b0 n0 m0 2 nE mE Q 2 [(0, 2, jx0), (1, 0, jx1)] [] σ) (σ : Hp) (hF : F_X3_isFilled_B41 k2 jx0 jx1 σ = some (r, σE)) : G p l e R s m args below meth c D dA b0 n0 m0 2 nE mE Q 41 [(0, 2, jx0), (1, 0, jx1)] [] σ := by
  unfold F_X3_isFilled_B41 at hF
  refine g_iinc (lv' := [(1, 0, (jx1 + 1)), (0, 2, jx0)]) hX 1 dX3_isFilled_41 rfl (by decide) rfl ?_
  refine g_goto (tgt := 2) hX dX3_isFilled_44 (by decide) ?_
  refine g_lvp (lv' := [(0, 2, jx0), (1, 0, (jx1 + 1))]) [1, 0] rfl ?_
  exact hk2 (jx1 + 1) σ hF
def F_X3_isFilled_L2 (jx0 : Int) : Nat → Int → Hp → Option (Int × Hp)
  | 0, _, _ => none
  | n + 1, jx1, σ => (rd 4 σ jx0 2).bind fun jv1 => bLt jx1 jv1 ((rd 4 σ jx0 0).bind fun jv2 => (ar 15 σ jv2 jx1).bind fun jv3 => bd (iv 4 σ jx0 (F_X3_isLast  jx0 jv3 σ)) fun jv4 σ5 => bEq jv4 0 ((rd 4 σ5 jx0 0).bind fun jv6 => (ar 15 σ5 jv6 jx1).bind fun jv7 => (rd 2 σ5 jv7 7).bind fun jv8 => (rd 4 σ5 jx0 4).bind fun jv9 => bEq jv8 jv9 (F_X3_isFilled_B41 (F_X3_isFilled_L2 jx0 n) jx0 jx1  σ5) (rz 0 σ5)) (F_X3_isFilled_B41 (F_X3_isFilled_L2 jx0 n) jx0 jx1  σ5)) (rz 1 σ)
theorem M_X3_isFilled_L2 (jx0 : Int) : ∀ (n : Nat) (jx1 : Int) (σ : Hp), Mn σ (F_X3_isFilled_L2 jx0 n jx1 σ) := by
  intro n
  induction n with
  | zero => intros; rw [F_X3_isFilled_L2]; exact Mn_none
  | succ n hk2 =>
    intros
    rw [F_X3_isFilled_L2]
    repeat' first | exact Mn_ret | exact Mn_rz | exact hk2 _  _ | exact M_X3_isLast _ _ _ | exact M_X3_isFilled_B41 (F_X3_isFilled_L2 jx0 n) hk2 _ _  _ | refine Mn_nm (fun _ => ?_) | refine Mn_nab (fun _ _ => ?_) | refine Mn_nwb (fun _ _ => ?_) | refine Mn_pw (fun _ => ?_) | refine Mn_pz (fun _ => ?_) | refine Mn_aw (fun _ => ?_) | refine Mn_az (fun _ => ?_) | refine Mn_aq (fun _ => ?_) | refine Mn_bo (fun _ => ?_) | refine Mn_bd ?_ (fun _ _ => ?_) | refine Mn_iv ?_ | refine Mn_bLt ?_ ?_ | refine Mn_bLe ?_ ?_ | refine Mn_bEq ?_ ?_ | refine Mn_bN ?_ ?_ | refine Mn_g3 ?_ | refine Mn_g33 ?_ | refine Mn_g66 ?_ | refine Mn_gD ?_
set_option maxRecDepth 100000 in
set_option maxHeartbeats 4000000 in
theorem T_X3_isFilled_L2 {r : Int} {σE : Hp} (hX : Cx p R s m args meth c D dA b0 n0 m0 2 nE mE cX3_isFilled RX3 1 21) (hR : Rx meth (some .boolean)) (hnm : meth.name = yX3_isFilled.name) (hQ : Q = Qm D dA b0 n0 m0 below args s (some (pV 0 r)) σE) (hE : nE = σE.1 ∧ mE = σE.2.1) (jx0 : Int) : ∀ (n : Nat) (jx1 : Int) (σ : Hp), F_X3_isFilled_L2 jx0 n jx1 σ = some (r, σE) → G p l e R s m args below meth c D dA b0 n0 m0 2 nE mE Q 2 [(0, 2, jx0), (1, 0, jx1)] [] σ := by
  intro n
  induction n with
  | zero =>
    intro jx1 σ hF
    rw [F_X3_isFilled_L2] at hF
    cases hF
  | succ n hk2 =>
    intro jx1 σ hF
    rw [F_X3_isFilled_L2] at hF
    refine g_iload_n hX 1 dX3_isFilled_2 rfl rfl ?_
    refine g_aload_n hX 0 dX3_isFilled_3 rfl rfl ?_
    refine g_get hX fl_X3_21 (by decide) (by decide) dX3_isFilled_4 hF (fun jv1 hF => ?_)
    refine g_icmp_ge (tgt := 47) hX dX3_isFilled_7 (by decide) hF (fun hc hF => ?_) (fun hc hF => ?_)
    · refine g_aload_n hX 0 dX3_isFilled_10 rfl rfl ?_
      refine g_aload_n hX 0 dX3_isFilled_11 rfl rfl ?_
      refine g_get hX fl_X3_11 (by decide) (by decide) dX3_isFilled_12 hF (fun jv2 hF => ?_)
      refine g_iload_n hX 1 dX3_isFilled_15 rfl rfl ?_
      refine g_aald hX (by decide) dX3_isFilled_16 hF (fun jv3 hF => ?_)
      refine g_callV (t := 0) (ci := 3) (rest := []) [(2, jv3)] hX cw_X3_57 rfl (by decide) (by decide) (fun r σ1 h => T_X3_isLast l D dA b0  jx0 jv3 σ σ1 r h) ⟨by decide, by decide⟩ rfl rfl (Nat.le_of_ble_eq_true rfl) dX3_isFilled_17 hF (fun jv4 σ5 hF => ?_)
      refine g_if_ne (tgt := 41) hX dX3_isFilled_20 (by decide) hF (fun hc hF => ?_) (fun hc hF => ?_)
      · refine g_aload_n hX 0 dX3_isFilled_23 rfl rfl ?_
        refine g_get hX fl_X3_11 (by decide) (by decide) dX3_isFilled_24 hF (fun jv6 hF => ?_)
        refine g_iload_n hX 1 dX3_isFilled_27 rfl rfl ?_
        refine g_aald hX (by decide) dX3_isFilled_28 hF (fun jv7 hF => ?_)
        refine g_get hX fl_X3_61 (by decide) (by decide) dX3_isFilled_29 hF (fun jv8 hF => ?_)
        refine g_aload_n hX 0 dX3_isFilled_32 rfl rfl ?_
        refine g_get hX fl_X3_28 (by decide) (by decide) dX3_isFilled_33 hF (fun jv9 hF => ?_)
        refine g_icmp_eq (tgt := 41) hX dX3_isFilled_36 (by decide) hF (fun hc hF => ?_) (fun hc hF => ?_)
        · exact T_X3_isFilled_B41 hX hR hnm hQ hE (F_X3_isFilled_L2 jx0 n) jx0 jx1  hk2  σ5 hF
        · refine g_iconst hX dX3_isFilled_39 ?_
          exact g_zret hX hR hQ hE dX3_isFilled_40 hF
      · exact T_X3_isFilled_B41 hX hR hnm hQ hE (F_X3_isFilled_L2 jx0 n) jx0 jx1  hk2  σ5 hF
    · refine g_iconst hX dX3_isFilled_47 ?_
      exact g_zret hX hR hQ hE dX3_isFilled_48 hF
def F_X3_isFilled (jx0 : Int) (σ : Hp) : Option (Int × Hp) :=
  F_X3_isFilled_L2 jx0 fu 0 σ
theorem M_X3_isFilled (jx0 : Int) (σ : Hp) : Mn σ (F_X3_isFilled jx0 σ) := by
  unfold F_X3_isFilled
  repeat' first | exact Mn_ret | exact Mn_rz | exact M_X3_isFilled_L2 _ _ _ _ | refine Mn_nm (fun _ => ?_) | refine Mn_nab (fun _ _ => ?_) | refine Mn_nwb (fun _ _ => ?_) | refine Mn_pw (fun _ => ?_) | refine Mn_pz (fun _ => ?_) | refine Mn_aw (fun _ => ?_) | refine Mn_az (fun _ => ?_) | refine Mn_aq (fun _ => ?_) | refine Mn_bo (fun _ => ?_) | refine Mn_bd ?_ (fun _ _ => ?_) | refine Mn_iv ?_ | refine Mn_bLt ?_ ?_ | refine Mn_bLe ?_ ?_ | refine Mn_bEq ?_ ?_ | refine Mn_bN ?_ ?_ | refine Mn_g3 ?_ | refine Mn_g33 ?_ | refine Mn_g66 ?_ | refine Mn_gD ?_
set_option maxRecDepth 100000 in
set_option maxHeartbeats 4000000 in
theorem T_X3_isFilled (l : Launch) (D : va_G) (dA : Nat → ClassId) (b0 : Nat) (jx0 : Int) (σ σE : Hp) (r : Int) (hF : F_X3_isFilled jx0 σ = some (r, σE)) : Ct l D dA b0 yX3_isFilled cX3_isFilled 2 (some .boolean) 1 21 [(2, jx0)] σ (some (pV 0 r)) σE := by
  refine Ct.of (lv0 := [(0, 2, jx0)]) (by decide) RX3 rfl (Nat.le_of_ble_eq_true rfl) rfl ?_ (M_X3_isFilled jx0 σ r σE hF)
  intro p e R s m args below meth c hX hR hnm
  obtain ⟨Q, hQ⟩ : ∃ Q, Q = Qm D dA b0 σ.1 σ.2.1 below args s (some (pV 0 r)) σE := ⟨_, rfl⟩
  rw [← hQ]
  have hE : σE.1 = σE.1 ∧ σE.2.1 = σE.2.1 := ⟨rfl, rfl⟩
  unfold F_X3_isFilled at hF
  refine g_iconst hX dX3_isFilled_0 ?_
  refine g_istore_n (lv' := [(1, 0, 0), (0, 2, jx0)]) hX dX3_isFilled_1 rfl (by decide) rfl ?_
  refine g_lvp (lv' := [(0, 2, jx0), (1, 0, 0)]) [1, 0] rfl ?_
  exact T_X3_isFilled_L2 hX hR hnm hQ hE jx0  fu 0 σ hF
end

section
variable {p : Program} {l : Launch} {e : Env} {R : Room} {s : State} {m : MethodId} {args : Array Value} {below : List Frame} {meth : Method} {c : Code} {D : va_G} {dA : Nat → ClassId} {b0 n0 m0 nE mE : Nat} {Q : State → Prop}
def F_X3_scaleOf_L5 (jx0 : Int) (jx1 : Int) : Nat → Int → Int → Hp → Option (Int × Hp)
  | 0, _, _, _ => none
  | n + 1, jx2, jx4, σ => bLt jx4 jx1 ((rd 4 σ jx0 4).bind fun jv1 => g3 jv1 (nm ((jx2 * jv1)) fun jv2 => (F_X3_scaleOf_L5 jx0 jx1 n) jv2 (jx4 + 1) σ)) (some (jx2, σ))
theorem M_X3_scaleOf_L5 (jx0 : Int) (jx1 : Int) : ∀ (n : Nat) (jx2 : Int) (jx4 : Int) (σ : Hp), Mn σ (F_X3_scaleOf_L5 jx0 jx1 n jx2 jx4 σ) := by
  intro n
  induction n with
  | zero => intros; rw [F_X3_scaleOf_L5]; exact Mn_none
  | succ n hk5 =>
    intros
    rw [F_X3_scaleOf_L5]
    repeat' first | exact Mn_ret | exact Mn_rz | exact hk5 _ _  _ | refine Mn_nm (fun _ => ?_) | refine Mn_nab (fun _ _ => ?_) | refine Mn_nwb (fun _ _ => ?_) | refine Mn_pw (fun _ => ?_) | refine Mn_pz (fun _ => ?_) | refine Mn_aw (fun _ => ?_) | refine Mn_az (fun _ => ?_) | refine Mn_aq (fun _ => ?_) | refine Mn_bo (fun _ => ?_) | refine Mn_bd ?_ (fun _ _ => ?_) | refine Mn_iv ?_ | refine Mn_bLt ?_ ?_ | refine Mn_bLe ?_ ?_ | refine Mn_bEq ?_ ?_ | refine Mn_bN ?_ ?_ | refine Mn_g3 ?_ | refine Mn_g33 ?_ | refine Mn_g66 ?_ | refine Mn_gD ?_
set_option maxRecDepth 100000 in
set_option maxHeartbeats 4000000 in
theorem T_X3_scaleOf_L5 {r : Int} {σE : Hp} (hX : Cx p R s m args meth c D dA b0 n0 m0 5 nE mE cX3_scaleOf RX3 0 0) (hR : Rx meth (some .long)) (hnm : meth.name = yX3_scaleOf.name) (hQ : Q = Qm D dA b0 n0 m0 below args s (some (pV 1 r)) σE) (hE : nE = σE.1 ∧ mE = σE.2.1) (jx0 : Int) (jx1 : Int) : ∀ (n : Nat) (jx2 : Int) (jx4 : Int) (σ : Hp), F_X3_scaleOf_L5 jx0 jx1 n jx2 jx4 σ = some (r, σE) → G p l e R s m args below meth c D dA b0 n0 m0 5 nE mE Q 5 [(0, 2, jx0), (1, 0, jx1), (2, 1, jx2), (4, 0, jx4)] [] σ := by
  intro n
  induction n with
  | zero =>
    intro jx2 jx4 σ hF
    rw [F_X3_scaleOf_L5] at hF
    cases hF
  | succ n hk5 =>
    intro jx2 jx4 σ hF
    rw [F_X3_scaleOf_L5] at hF
    refine g_iload hX 3 dX3_scaleOf_5 rfl ?_
    refine g_iload_n hX 1 dX3_scaleOf_7 rfl rfl ?_
    refine g_icmp_ge (tgt := 25) hX dX3_scaleOf_8 (by decide) hF (fun hc hF => ?_) (fun hc hF => ?_)
    · refine g_lload_n hX 2 dX3_scaleOf_11 rfl rfl ?_
      refine g_aload_n hX 0 dX3_scaleOf_12 rfl rfl ?_
      refine g_get hX fl_X3_28 (by decide) (by decide) dX3_scaleOf_13 hF (fun jv1 hF => ?_)
      refine g_i2l hX dX3_scaleOf_16 hF (fun hF => ?_)
      refine g_lmul hX dX3_scaleOf_17 ?_
      refine g_nm hF (fun jv2 hF => ?_)
      refine g_lstore_n (lv' := [(2, 1, jv2), (0, 2, jx0), (1, 0, jx1), (4, 0, jx4)]) hX dX3_scaleOf_18 rfl (by decide) rfl ?_
      refine g_iinc (lv' := [(4, 0, (jx4 + 1)), (2, 1, jv2), (0, 2, jx0), (1, 0, jx1)]) hX 3 dX3_scaleOf_19 rfl (by decide) rfl ?_
      refine g_goto (tgt := 5) hX dX3_scaleOf_22 (by decide) ?_
      refine g_lvp (lv' := [(0, 2, jx0), (1, 0, jx1), (2, 1, jv2), (4, 0, (jx4 + 1))]) [2, 3, 1, 0] rfl ?_
      exact hk5 jv2 (jx4 + 1) σ hF
    · refine g_lload_n hX 2 dX3_scaleOf_25 rfl rfl ?_
      exact g_lret hX hR hQ hE dX3_scaleOf_26 hF
def F_X3_scaleOf (jx0 : Int) (jx1 : Int) (σ : Hp) : Option (Int × Hp) :=
  F_X3_scaleOf_L5 jx0 jx1 fu 1 0 σ
theorem M_X3_scaleOf (jx0 : Int) (jx1 : Int) (σ : Hp) : Mn σ (F_X3_scaleOf jx0 jx1 σ) := by
  unfold F_X3_scaleOf
  repeat' first | exact Mn_ret | exact Mn_rz | exact M_X3_scaleOf_L5 _ _ _ _ _ _ | refine Mn_nm (fun _ => ?_) | refine Mn_nab (fun _ _ => ?_) | refine Mn_nwb (fun _ _ => ?_) | refine Mn_pw (fun _ => ?_) | refine Mn_pz (fun _ => ?_) | refine Mn_aw (fun _ => ?_) | refine Mn_az (fun _ => ?_) | refine Mn_aq (fun _ => ?_) | refine Mn_bo (fun _ => ?_) | refine Mn_bd ?_ (fun _ _ => ?_) | refine Mn_iv ?_ | refine Mn_bLt ?_ ?_ | refine Mn_bLe ?_ ?_ | refine Mn_bEq ?_ ?_ | refine Mn_bN ?_ ?_ | refine Mn_g3 ?_ | refine Mn_g33 ?_ | refine Mn_g66 ?_ | refine Mn_gD ?_
set_option maxRecDepth 100000 in
set_option maxHeartbeats 4000000 in
theorem T_X3_scaleOf (l : Launch) (D : va_G) (dA : Nat → ClassId) (b0 : Nat) (jx0 : Int) (jx1 : Int) (σ σE : Hp) (r : Int) (hF : F_X3_scaleOf jx0 jx1 σ = some (r, σE)) : Ct l D dA b0 yX3_scaleOf cX3_scaleOf 5 (some .long) 0 0 [(2, jx0), (0, jx1)] σ (some (pV 1 r)) σE := by
  refine Ct.of (lv0 := [(0, 2, jx0), (1, 0, jx1)]) (by decide) RX3 rfl (Nat.le_of_ble_eq_true rfl) rfl ?_ (M_X3_scaleOf jx0 jx1 σ r σE hF)
  intro p e R s m args below meth c hX hR hnm
  obtain ⟨Q, hQ⟩ : ∃ Q, Q = Qm D dA b0 σ.1 σ.2.1 below args s (some (pV 1 r)) σE := ⟨_, rfl⟩
  rw [← hQ]
  have hE : σE.1 = σE.1 ∧ σE.2.1 = σE.2.1 := ⟨rfl, rfl⟩
  unfold F_X3_scaleOf at hF
  refine g_lconst (z := 1) hX dX3_scaleOf_0 rfl ?_
  refine g_lstore_n (lv' := [(2, 1, 1), (0, 2, jx0), (1, 0, jx1)]) hX dX3_scaleOf_1 rfl (by decide) rfl ?_
  refine g_iconst hX dX3_scaleOf_2 ?_
  refine g_istore (lv' := [(4, 0, 0), (2, 1, 1), (0, 2, jx0), (1, 0, jx1)]) hX dX3_scaleOf_3 (by decide) rfl ?_
  refine g_lvp (lv' := [(0, 2, jx0), (1, 0, jx1), (2, 1, 1), (4, 0, 0)]) [2, 3, 1, 0] rfl ?_
  exact T_X3_scaleOf_L5 hX hR hnm hQ hE jx0 jx1  fu 1 0 σ hF
end
