section
variable {p : Program} {l : Launch} {e : Env} {R : Room} {s : State} {m : MethodId} {args : Array Value} {below : List Frame} {meth : Method} {c : Code} {D : va_G} {dA : Nat → ClassId} {b0 n0 m0 nE mE : Nat} {Q : State → Prop}
def F_X7_mean (jx0 : Int) (jx1 : Int) (jx2 : Int) (σ : Hp) : Option (Int × Hp) :=
  (rd 8 σ jx0 1).bind fun jv1 => bd (iv 4 σ jv1 (F_X3_nodeAt  jv1 jx1 σ)) fun jv2 σ3 => bN jv2 (some ((-9000000000000000000), σ3)) ((rd 8 σ3 jx0 0).bind fun jv4 => bd (iv 5 σ3 jv4 (F_X4_hasState  jv4 jx2 σ3)) fun jv5 σ6 => bEq jv5 0 (some ((-9000000000000000000), σ6)) (bd (iv 8 σ6 jx0 (F_X7_isWhole  jx0  σ6)) fun jv7 σ8 => bEq jv7 0 (some ((-9000000000000000000), σ8)) ((rd 8 σ8 jx0 3).bind fun jv9 => bd (iv 6 σ8 jv9 (F_X5_go  jv9 jv2 jx2 σ8)) fun jv10 σ11 => (rd 8 σ11 jx0 3).bind fun jv12 => bd (iv 6 σ11 jv12 (F_X5_meanOfCases  jv12  σ11)) fun jv13 σ14 => some (jv13, σ14))))
theorem M_X7_mean (jx0 : Int) (jx1 : Int) (jx2 : Int) (σ : Hp) : Mn σ (F_X7_mean jx0 jx1 jx2 σ) := by
  unfold F_X7_mean
  repeat' first | exact Mn_ret | exact Mn_rz | exact M_X3_nodeAt _ _ _ | exact M_X4_hasState _ _ _ | exact M_X7_isWhole _ _ | exact M_X5_go _ _ _ _ | exact M_X5_meanOfCases _ _ | refine Mn_nm (fun _ => ?_) | refine Mn_nab (fun _ _ => ?_) | refine Mn_nwb (fun _ _ => ?_) | refine Mn_pw (fun _ => ?_) | refine Mn_pz (fun _ => ?_) | refine Mn_aw (fun _ => ?_) | refine Mn_az (fun _ => ?_) | refine Mn_aq (fun _ => ?_) | refine Mn_bo (fun _ => ?_) | refine Mn_bd ?_ (fun _ _ => ?_) | refine Mn_iv ?_ | refine Mn_bLt ?_ ?_ | refine Mn_bLe ?_ ?_ | refine Mn_bEq ?_ ?_ | refine Mn_bN ?_ ?_ | refine Mn_g3 ?_ | refine Mn_g33 ?_ | refine Mn_g66 ?_ | refine Mn_gD ?_
set_option maxRecDepth 100000 in
set_option maxHeartbeats 4000000 in
theorem T_X7_mean (l : Launch) (D : va_G) (dA : Nat → ClassId) (b0 : Nat) (jx0 : Int) (jx1 : Int) (jx2 : Int) (σ σE : Hp) (r : Int) (hF : F_X7_mean jx0 jx1 jx2 σ = some (r, σE)) : Ct l D dA b0 yX7_mean cX7_mean 4 (some .long) 7 155 [(2, jx0), (0, jx1), (0, jx2)] σ (some (pV 1 r)) σE := by
  refine Ct.of (lv0 := [(0, 2, jx0), (1, 0, jx1), (2, 0, jx2)]) (by decide) RX7 rfl (Nat.le_of_ble_eq_true rfl) rfl ?_ (M_X7_mean jx0 jx1 jx2 σ r σE hF)
  intro p e R s m args below meth c hX hR hnm
  obtain ⟨Q, hQ⟩ : ∃ Q, Q = Qm D dA b0 σ.1 σ.2.1 below args s (some (pV 1 r)) σE := ⟨_, rfl⟩
  rw [← hQ]
  have hE : σE.1 = σE.1 ∧ σE.2.1 = σE.2.1 := ⟨rfl, rfl⟩
  unfold F_X7_mean at hF
  refine g_aload_n hX 0 dX7_mean_0 rfl rfl ?_
  refine g_get hX fl_X7_19 (by decide) (by decide) dX7_mean_1 hF (fun jv1 hF => ?_)
  refine g_iload_n hX 1 dX7_mean_4 rfl rfl ?_
  refine g_callV (t := 2) (ci := 3) (rest := []) [(0, jx1)] hX cw_X7_99 rfl (by decide) (by decide) (fun r σ1 h => T_X3_nodeAt l D dA b0  jv1 jx1 σ σ1 r h) ⟨by decide, by decide⟩ rfl rfl (Nat.le_of_ble_eq_true rfl) dX7_mean_5 hF (fun jv2 σ3 hF => ?_)
  refine g_astore_n (lv' := [(3, 2, jv2), (0, 2, jx0), (1, 0, jx1), (2, 0, jx2)]) hX dX7_mean_8 rfl (by decide) rfl ?_
  refine g_aload_n hX 0 dX7_mean_9 rfl rfl ?_
  refine g_ifnull (tgt := 31) hX dX7_mean_10 (by decide) hF (fun hc hF => ?_) (fun hc hF => ?_)
  · refine g_ldc2 (z := -9000000000000000000) hX kc_X7_157 (by decide) dX7_mean_31 ?_
    exact g_lret hX hR hQ hE dX7_mean_34 hF
  · refine g_aload_n hX 1 dX7_mean_13 rfl rfl ?_
    refine g_get hX fl_X7_10 (by decide) (by decide) dX7_mean_14 hF (fun jv4 hF => ?_)
    refine g_iload_n hX 3 dX7_mean_17 rfl rfl ?_
    refine g_callV (t := 0) (ci := 4) (rest := []) [(0, jx2)] hX cw_X7_153 rfl (by decide) (by decide) (fun r σ1 h => T_X4_hasState l D dA b0  jv4 jx2 σ3 σ1 r h) ⟨by decide, by decide⟩ rfl rfl (Nat.le_of_ble_eq_true rfl) dX7_mean_18 hF (fun jv5 σ6 hF => ?_)
    refine g_if_eq (tgt := 31) hX dX7_mean_21 (by decide) hF (fun hc hF => ?_) (fun hc hF => ?_)
    · refine g_ldc2 (z := -9000000000000000000) hX kc_X7_157 (by decide) dX7_mean_31 ?_
      exact g_lret hX hR hQ hE dX7_mean_34 hF
    · refine g_aload_n hX 1 dX7_mean_24 rfl rfl ?_
      refine g_callV (t := 0) (ci := 7) (rest := []) [] hX cw_X7_149 rfl (by decide) (by decide) (fun r σ1 h => T_X7_isWhole l D dA b0  jx0  σ6 σ1 r h) ⟨by decide, by decide⟩ rfl rfl (Nat.le_of_ble_eq_true rfl) dX7_mean_25 hF (fun jv7 σ8 hF => ?_)
      refine g_if_ne (tgt := 35) hX dX7_mean_28 (by decide) hF (fun hc hF => ?_) (fun hc hF => ?_)
      · refine g_ldc2 (z := -9000000000000000000) hX kc_X7_157 (by decide) dX7_mean_31 ?_
        exact g_lret hX hR hQ hE dX7_mean_34 hF
      · refine g_aload_n hX 1 dX7_mean_35 rfl rfl ?_
        refine g_get hX fl_X7_35 (by decide) (by decide) dX7_mean_36 hF (fun jv9 hF => ?_)
        refine g_aload_n hX 0 dX7_mean_39 rfl rfl ?_
        refine g_iload_n hX 3 dX7_mean_40 rfl rfl ?_
        refine g_callVv (ci := 5) (rest := []) [(2, jv2), (0, jx2)] hX cw_X7_186 rfl (by decide) (by decide) (fun r σ1 h => T_X5_go l D dA b0  jv9 jv2 jx2 σ8 σ1 r h) ⟨by decide, by decide⟩ rfl rfl (Nat.le_of_ble_eq_true rfl) dX7_mean_41 hF (fun jv10 σ11 hF => ?_)
        refine g_aload_n hX 1 dX7_mean_44 rfl rfl ?_
        refine g_get hX fl_X7_35 (by decide) (by decide) dX7_mean_45 hF (fun jv12 hF => ?_)
        refine g_callV (t := 1) (ci := 5) (rest := []) [] hX cw_X7_190 rfl (by decide) (by decide) (fun r σ1 h => T_X5_meanOfCases l D dA b0  jv12  σ11 σ1 r h) ⟨by decide, by decide⟩ rfl rfl (Nat.le_of_ble_eq_true rfl) dX7_mean_48 hF (fun jv13 σ14 hF => ?_)
        exact g_lret hX hR hQ hE dX7_mean_51 hF
end

section
variable {p : Program} {l : Launch} {e : Env} {R : Room} {s : State} {m : MethodId} {args : Array Value} {below : List Frame} {meth : Method} {c : Code} {D : va_G} {dA : Nat → ClassId} {b0 n0 m0 nE mE : Nat} {Q : State → Prop}
def F_X7_worst (jx0 : Int) (jx1 : Int) (jx2 : Int) (σ : Hp) : Option (Int × Hp) :=
  (rd 8 σ jx0 1).bind fun jv1 => bd (iv 4 σ jv1 (F_X3_nodeAt  jv1 jx1 σ)) fun jv2 σ3 => bN jv2 (some ((-9000000000000000000), σ3)) ((rd 8 σ3 jx0 0).bind fun jv4 => bd (iv 5 σ3 jv4 (F_X4_hasState  jv4 jx2 σ3)) fun jv5 σ6 => bEq jv5 0 (some ((-9000000000000000000), σ6)) (bd (iv 8 σ6 jx0 (F_X7_isWhole  jx0  σ6)) fun jv7 σ8 => bEq jv7 0 (some ((-9000000000000000000), σ8)) ((rd 8 σ8 jx0 3).bind fun jv9 => bd (iv 6 σ8 jv9 (F_X5_go  jv9 jv2 jx2 σ8)) fun jv10 σ11 => (rd 8 σ11 jx0 3).bind fun jv12 => bd (iv 6 σ11 jv12 (F_X5_leastOfCases  jv12  σ11)) fun jv13 σ14 => some (jv13, σ14))))
theorem M_X7_worst (jx0 : Int) (jx1 : Int) (jx2 : Int) (σ : Hp) : Mn σ (F_X7_worst jx0 jx1 jx2 σ) := by
  unfold F_X7_worst
  repeat' first | exact Mn_ret | exact Mn_rz | exact M_X3_nodeAt _ _ _ | exact M_X4_hasState _ _ _ | exact M_X7_isWhole _ _ | exact M_X5_go _ _ _ _ | exact M_X5_leastOfCases _ _ | refine Mn_nm (fun _ => ?_) | refine Mn_nab (fun _ _ => ?_) | refine Mn_nwb (fun _ _ => ?_) | refine Mn_pw (fun _ => ?_) | refine Mn_pz (fun _ => ?_) | refine Mn_aw (fun _ => ?_) | refine Mn_az (fun _ => ?_) | refine Mn_aq (fun _ => ?_) | refine Mn_bo (fun _ => ?_) | refine Mn_bd ?_ (fun _ _ => ?_) | refine Mn_iv ?_ | refine Mn_bLt ?_ ?_ | refine Mn_bLe ?_ ?_ | refine Mn_bEq ?_ ?_ | refine Mn_bN ?_ ?_ | refine Mn_g3 ?_ | refine Mn_g33 ?_ | refine Mn_g66 ?_ | refine Mn_gD ?_
set_option maxRecDepth 100000 in
set_option maxHeartbeats 4000000 in
theorem T_X7_worst (l : Launch) (D : va_G) (dA : Nat → ClassId) (b0 : Nat) (jx0 : Int) (jx1 : Int) (jx2 : Int) (σ σE : Hp) (r : Int) (hF : F_X7_worst jx0 jx1 jx2 σ = some (r, σE)) : Ct l D dA b0 yX7_worst cX7_worst 4 (some .long) 7 155 [(2, jx0), (0, jx1), (0, jx2)] σ (some (pV 1 r)) σE := by
  refine Ct.of (lv0 := [(0, 2, jx0), (1, 0, jx1), (2, 0, jx2)]) (by decide) RX7 rfl (Nat.le_of_ble_eq_true rfl) rfl ?_ (M_X7_worst jx0 jx1 jx2 σ r σE hF)
  intro p e R s m args below meth c hX hR hnm
  obtain ⟨Q, hQ⟩ : ∃ Q, Q = Qm D dA b0 σ.1 σ.2.1 below args s (some (pV 1 r)) σE := ⟨_, rfl⟩
  rw [← hQ]
  have hE : σE.1 = σE.1 ∧ σE.2.1 = σE.2.1 := ⟨rfl, rfl⟩
  unfold F_X7_worst at hF
  refine g_aload_n hX 0 dX7_worst_0 rfl rfl ?_
  refine g_get hX fl_X7_19 (by decide) (by decide) dX7_worst_1 hF (fun jv1 hF => ?_)
  refine g_iload_n hX 1 dX7_worst_4 rfl rfl ?_
  refine g_callV (t := 2) (ci := 3) (rest := []) [(0, jx1)] hX cw_X7_99 rfl (by decide) (by decide) (fun r σ1 h => T_X3_nodeAt l D dA b0  jv1 jx1 σ σ1 r h) ⟨by decide, by decide⟩ rfl rfl (Nat.le_of_ble_eq_true rfl) dX7_worst_5 hF (fun jv2 σ3 hF => ?_)
  refine g_astore_n (lv' := [(3, 2, jv2), (0, 2, jx0), (1, 0, jx1), (2, 0, jx2)]) hX dX7_worst_8 rfl (by decide) rfl ?_
  refine g_aload_n hX 0 dX7_worst_9 rfl rfl ?_
  refine g_ifnull (tgt := 31) hX dX7_worst_10 (by decide) hF (fun hc hF => ?_) (fun hc hF => ?_)
  · refine g_ldc2 (z := -9000000000000000000) hX kc_X7_157 (by decide) dX7_worst_31 ?_
    exact g_lret hX hR hQ hE dX7_worst_34 hF
  · refine g_aload_n hX 1 dX7_worst_13 rfl rfl ?_
    refine g_get hX fl_X7_10 (by decide) (by decide) dX7_worst_14 hF (fun jv4 hF => ?_)
    refine g_iload_n hX 3 dX7_worst_17 rfl rfl ?_
    refine g_callV (t := 0) (ci := 4) (rest := []) [(0, jx2)] hX cw_X7_153 rfl (by decide) (by decide) (fun r σ1 h => T_X4_hasState l D dA b0  jv4 jx2 σ3 σ1 r h) ⟨by decide, by decide⟩ rfl rfl (Nat.le_of_ble_eq_true rfl) dX7_worst_18 hF (fun jv5 σ6 hF => ?_)
    refine g_if_eq (tgt := 31) hX dX7_worst_21 (by decide) hF (fun hc hF => ?_) (fun hc hF => ?_)
    · refine g_ldc2 (z := -9000000000000000000) hX kc_X7_157 (by decide) dX7_worst_31 ?_
      exact g_lret hX hR hQ hE dX7_worst_34 hF
    · refine g_aload_n hX 1 dX7_worst_24 rfl rfl ?_
      refine g_callV (t := 0) (ci := 7) (rest := []) [] hX cw_X7_149 rfl (by decide) (by decide) (fun r σ1 h => T_X7_isWhole l D dA b0  jx0  σ6 σ1 r h) ⟨by decide, by decide⟩ rfl rfl (Nat.le_of_ble_eq_true rfl) dX7_worst_25 hF (fun jv7 σ8 hF => ?_)
      refine g_if_ne (tgt := 35) hX dX7_worst_28 (by decide) hF (fun hc hF => ?_) (fun hc hF => ?_)
      · refine g_ldc2 (z := -9000000000000000000) hX kc_X7_157 (by decide) dX7_worst_31 ?_
        exact g_lret hX hR hQ hE dX7_worst_34 hF
      · refine g_aload_n hX 1 dX7_worst_35 rfl rfl ?_
        refine g_get hX fl_X7_35 (by decide) (by decide) dX7_worst_36 hF (fun jv9 hF => ?_)
        refine g_aload_n hX 0 dX7_worst_39 rfl rfl ?_
        refine g_iload_n hX 3 dX7_worst_40 rfl rfl ?_
        refine g_callVv (ci := 5) (rest := []) [(2, jv2), (0, jx2)] hX cw_X7_186 rfl (by decide) (by decide) (fun r σ1 h => T_X5_go l D dA b0  jv9 jv2 jx2 σ8 σ1 r h) ⟨by decide, by decide⟩ rfl rfl (Nat.le_of_ble_eq_true rfl) dX7_worst_41 hF (fun jv10 σ11 hF => ?_)
        refine g_aload_n hX 1 dX7_worst_44 rfl rfl ?_
        refine g_get hX fl_X7_35 (by decide) (by decide) dX7_worst_45 hF (fun jv12 hF => ?_)
        refine g_callV (t := 1) (ci := 5) (rest := []) [] hX cw_X7_194 rfl (by decide) (by decide) (fun r σ1 h => T_X5_leastOfCases l D dA b0  jv12  σ11 σ1 r h) ⟨by decide, by decide⟩ rfl rfl (Nat.le_of_ble_eq_true rfl) dX7_worst_48 hF (fun jv13 σ14 hF => ?_)
        exact g_lret hX hR hQ hE dX7_worst_51 hF
end

section
variable {p : Program} {l : Launch} {e : Env} {R : Room} {s : State} {m : MethodId} {args : Array Value} {below : List Frame} {meth : Method} {c : Code} {D : va_G} {dA : Nat → ClassId} {b0 n0 m0 nE mE : Nat} {Q : State → Prop}
def F_X7_lack (jx0 : Int) (jx1 : Int) (jx2 : Int) (σ : Hp) : Option (Int × Hp) :=
  (rd 8 σ jx0 1).bind fun jv1 => bd (iv 4 σ jv1 (F_X3_nodeAt  jv1 jx1 σ)) fun jv2 σ3 => bN jv2 (some ((-1), σ3)) ((rd 8 σ3 jx0 0).bind fun jv4 => bd (iv 5 σ3 jv4 (F_X4_hasState  jv4 jx2 σ3)) fun jv5 σ6 => bEq jv5 0 (some ((-1), σ6)) (bd (iv 8 σ6 jx0 (F_X7_isWhole  jx0  σ6)) fun jv7 σ8 => bEq jv7 0 (some ((-3), σ8)) ((rd 8 σ8 jx0 3).bind fun jv9 => bd (iv 6 σ8 jv9 (F_X5_go  jv9 jv2 jx2 σ8)) fun jv10 σ11 => (rd 8 σ11 jx0 3).bind fun jv12 => bd (iv 6 σ11 jv12 (F_X5_casesOfLack  jv12  σ11)) fun jv13 σ14 => some (jv13, σ14))))
theorem M_X7_lack (jx0 : Int) (jx1 : Int) (jx2 : Int) (σ : Hp) : Mn σ (F_X7_lack jx0 jx1 jx2 σ) := by
  unfold F_X7_lack
  repeat' first | exact Mn_ret | exact Mn_rz | exact M_X3_nodeAt _ _ _ | exact M_X4_hasState _ _ _ | exact M_X7_isWhole _ _ | exact M_X5_go _ _ _ _ | exact M_X5_casesOfLack _ _ | refine Mn_nm (fun _ => ?_) | refine Mn_nab (fun _ _ => ?_) | refine Mn_nwb (fun _ _ => ?_) | refine Mn_pw (fun _ => ?_) | refine Mn_pz (fun _ => ?_) | refine Mn_aw (fun _ => ?_) | refine Mn_az (fun _ => ?_) | refine Mn_aq (fun _ => ?_) | refine Mn_bo (fun _ => ?_) | refine Mn_bd ?_ (fun _ _ => ?_) | refine Mn_iv ?_ | refine Mn_bLt ?_ ?_ | refine Mn_bLe ?_ ?_ | refine Mn_bEq ?_ ?_ | refine Mn_bN ?_ ?_ | refine Mn_g3 ?_ | refine Mn_g33 ?_ | refine Mn_g66 ?_ | refine Mn_gD ?_
set_option maxRecDepth 100000 in
set_option maxHeartbeats 4000000 in
theorem T_X7_lack (l : Launch) (D : va_G) (dA : Nat → ClassId) (b0 : Nat) (jx0 : Int) (jx1 : Int) (jx2 : Int) (σ σE : Hp) (r : Int) (hF : F_X7_lack jx0 jx1 jx2 σ = some (r, σE)) : Ct l D dA b0 yX7_lack cX7_lack 4 (some .int) 7 155 [(2, jx0), (0, jx1), (0, jx2)] σ (some (pV 0 r)) σE := by
  refine Ct.of (lv0 := [(0, 2, jx0), (1, 0, jx1), (2, 0, jx2)]) (by decide) RX7 rfl (Nat.le_of_ble_eq_true rfl) rfl ?_ (M_X7_lack jx0 jx1 jx2 σ r σE hF)
  intro p e R s m args below meth c hX hR hnm
  obtain ⟨Q, hQ⟩ : ∃ Q, Q = Qm D dA b0 σ.1 σ.2.1 below args s (some (pV 0 r)) σE := ⟨_, rfl⟩
  rw [← hQ]
  have hE : σE.1 = σE.1 ∧ σE.2.1 = σE.2.1 := ⟨rfl, rfl⟩
  unfold F_X7_lack at hF
  refine g_aload_n hX 0 dX7_lack_0 rfl rfl ?_
  refine g_get hX fl_X7_19 (by decide) (by decide) dX7_lack_1 hF (fun jv1 hF => ?_)
  refine g_iload_n hX 1 dX7_lack_4 rfl rfl ?_
  refine g_callV (t := 2) (ci := 3) (rest := []) [(0, jx1)] hX cw_X7_99 rfl (by decide) (by decide) (fun r σ1 h => T_X3_nodeAt l D dA b0  jv1 jx1 σ σ1 r h) ⟨by decide, by decide⟩ rfl rfl (Nat.le_of_ble_eq_true rfl) dX7_lack_5 hF (fun jv2 σ3 hF => ?_)
  refine g_astore_n (lv' := [(3, 2, jv2), (0, 2, jx0), (1, 0, jx1), (2, 0, jx2)]) hX dX7_lack_8 rfl (by decide) rfl ?_
  refine g_aload_n hX 0 dX7_lack_9 rfl rfl ?_
  refine g_ifnull (tgt := 24) hX dX7_lack_10 (by decide) hF (fun hc hF => ?_) (fun hc hF => ?_)
  · refine g_iconst hX dX7_lack_24 ?_
    exact g_iret hX hR hQ hE dX7_lack_25 hF
  · refine g_aload_n hX 1 dX7_lack_13 rfl rfl ?_
    refine g_get hX fl_X7_10 (by decide) (by decide) dX7_lack_14 hF (fun jv4 hF => ?_)
    refine g_iload_n hX 3 dX7_lack_17 rfl rfl ?_
    refine g_callV (t := 0) (ci := 4) (rest := []) [(0, jx2)] hX cw_X7_153 rfl (by decide) (by decide) (fun r σ1 h => T_X4_hasState l D dA b0  jv4 jx2 σ3 σ1 r h) ⟨by decide, by decide⟩ rfl rfl (Nat.le_of_ble_eq_true rfl) dX7_lack_18 hF (fun jv5 σ6 hF => ?_)
    refine g_if_ne (tgt := 26) hX dX7_lack_21 (by decide) hF (fun hc hF => ?_) (fun hc hF => ?_)
    · refine g_iconst hX dX7_lack_24 ?_
      exact g_iret hX hR hQ hE dX7_lack_25 hF
    · refine g_aload_n hX 1 dX7_lack_26 rfl rfl ?_
      refine g_callV (t := 0) (ci := 7) (rest := []) [] hX cw_X7_149 rfl (by decide) (by decide) (fun r σ1 h => T_X7_isWhole l D dA b0  jx0  σ6 σ1 r h) ⟨by decide, by decide⟩ rfl rfl (Nat.le_of_ble_eq_true rfl) dX7_lack_27 hF (fun jv7 σ8 hF => ?_)
      refine g_if_ne (tgt := 36) hX dX7_lack_30 (by decide) hF (fun hc hF => ?_) (fun hc hF => ?_)
      · refine g_bipush hX dX7_lack_33 (by decide) ?_
        exact g_iret hX hR hQ hE dX7_lack_35 hF
      · refine g_aload_n hX 1 dX7_lack_36 rfl rfl ?_
        refine g_get hX fl_X7_35 (by decide) (by decide) dX7_lack_37 hF (fun jv9 hF => ?_)
        refine g_aload_n hX 0 dX7_lack_40 rfl rfl ?_
        refine g_iload_n hX 3 dX7_lack_41 rfl rfl ?_
        refine g_callVv (ci := 5) (rest := []) [(2, jv2), (0, jx2)] hX cw_X7_186 rfl (by decide) (by decide) (fun r σ1 h => T_X5_go l D dA b0  jv9 jv2 jx2 σ8 σ1 r h) ⟨by decide, by decide⟩ rfl rfl (Nat.le_of_ble_eq_true rfl) dX7_lack_42 hF (fun jv10 σ11 hF => ?_)
        refine g_aload_n hX 1 dX7_lack_45 rfl rfl ?_
        refine g_get hX fl_X7_35 (by decide) (by decide) dX7_lack_46 hF (fun jv12 hF => ?_)
        refine g_callV (t := 0) (ci := 5) (rest := []) [] hX cw_X7_197 rfl (by decide) (by decide) (fun r σ1 h => T_X5_casesOfLack l D dA b0  jv12  σ11 σ1 r h) ⟨by decide, by decide⟩ rfl rfl (Nat.le_of_ble_eq_true rfl) dX7_lack_49 hF (fun jv13 σ14 hF => ?_)
        exact g_iret hX hR hQ hE dX7_lack_52 hF
end

section
variable {p : Program} {l : Launch} {e : Env} {R : Room} {s : State} {m : MethodId} {args : Array Value} {below : List Frame} {meth : Method} {c : Code} {D : va_G} {dA : Nat → ClassId} {b0 n0 m0 nE mE : Nat} {Q : State → Prop}
def F_X7_flood (jx0 : Int) (jx1 : Int) (jx2 : Int) (jx3 : Int) (jx4 : Int) (σ : Hp) : Option (Int × Hp) :=
  (rd 8 σ jx0 0).bind fun jv1 => bd (iv 5 σ jv1 (F_X4_lakeAt  jv1 jx2 σ)) fun jv2 σ3 => bN jv2 (some ((-1), σ3)) ((rd 8 σ3 jx0 0).bind fun jv4 => bd (iv 5 σ3 jv4 (F_X4_hasState  jv4 jx1 σ3)) fun jv5 σ6 => bEq jv5 0 (some ((-1), σ6)) ((rd 1 σ6 jv2 2).bind fun jv7 => bd (F_X7_isWithin jx3 jv7 σ6) fun jv8 σ9 => bEq jv8 0 (some ((-1), σ9)) ((rd 8 σ9 jx0 1).bind fun jv10 => (rd 4 σ9 jv10 3).bind fun jv11 => bd (F_X7_isWithin jx4 (jv11 - 1) σ9) fun jv12 σ13 => bEq jv12 0 (some ((-1), σ13)) (bd (iv 8 σ13 jx0 (F_X7_isWhole  jx0  σ13)) fun jv14 σ15 => bEq jv14 0 (some ((-3), σ15)) ((rd 8 σ15 jx0 3).bind fun jv16 => (rd 8 σ15 jx0 1).bind fun jv17 => bd (iv 4 σ15 jv17 (F_X3_nodeAt  jv17 0 σ15)) fun jv18 σ19 => bd (iv 6 σ19 jv16 (F_X5_go  jv16 jv18 jx1 σ19)) fun jv20 σ21 => (rd 8 σ21 jx0 3).bind fun jv22 => bd (iv 6 σ21 jv22 (F_X5_casesOfFlood  jv22 jx2 jx3 jx4 σ21)) fun jv23 σ24 => some (jv23, σ24))))))
theorem M_X7_flood (jx0 : Int) (jx1 : Int) (jx2 : Int) (jx3 : Int) (jx4 : Int) (σ : Hp) : Mn σ (F_X7_flood jx0 jx1 jx2 jx3 jx4 σ) := by
  unfold F_X7_flood
  repeat' first | exact Mn_ret | exact Mn_rz | exact M_X4_lakeAt _ _ _ | exact M_X4_hasState _ _ _ | exact M_X7_isWithin _ _ _ | exact M_X7_isWhole _ _ | exact M_X3_nodeAt _ _ _ | exact M_X5_go _ _ _ _ | exact M_X5_casesOfFlood _ _ _ _ _ | refine Mn_nm (fun _ => ?_) | refine Mn_nab (fun _ _ => ?_) | refine Mn_nwb (fun _ _ => ?_) | refine Mn_pw (fun _ => ?_) | refine Mn_pz (fun _ => ?_) | refine Mn_aw (fun _ => ?_) | refine Mn_az (fun _ => ?_) | refine Mn_aq (fun _ => ?_) | refine Mn_bo (fun _ => ?_) | refine Mn_bd ?_ (fun _ _ => ?_) | refine Mn_iv ?_ | refine Mn_bLt ?_ ?_ | refine Mn_bLe ?_ ?_ | refine Mn_bEq ?_ ?_ | refine Mn_bN ?_ ?_ | refine Mn_g3 ?_ | refine Mn_g33 ?_ | refine Mn_g66 ?_ | refine Mn_gD ?_
set_option maxRecDepth 100000 in
set_option maxHeartbeats 4000000 in
theorem T_X7_flood (l : Launch) (D : va_G) (dA : Nat → ClassId) (b0 : Nat) (jx0 : Int) (jx1 : Int) (jx2 : Int) (jx3 : Int) (jx4 : Int) (σ σE : Hp) (r : Int) (hF : F_X7_flood jx0 jx1 jx2 jx3 jx4 σ = some (r, σE)) : Ct l D dA b0 yX7_flood cX7_flood 6 (some .int) 7 155 [(2, jx0), (0, jx1), (0, jx2), (0, jx3), (0, jx4)] σ (some (pV 0 r)) σE := by
  refine Ct.of (lv0 := [(0, 2, jx0), (1, 0, jx1), (2, 0, jx2), (3, 0, jx3), (4, 0, jx4)]) (by decide) RX7 rfl (Nat.le_of_ble_eq_true rfl) rfl ?_ (M_X7_flood jx0 jx1 jx2 jx3 jx4 σ r σE hF)
  intro p e R s m args below meth c hX hR hnm
  obtain ⟨Q, hQ⟩ : ∃ Q, Q = Qm D dA b0 σ.1 σ.2.1 below args s (some (pV 0 r)) σE := ⟨_, rfl⟩
  rw [← hQ]
  have hE : σE.1 = σE.1 ∧ σE.2.1 = σE.2.1 := ⟨rfl, rfl⟩
  unfold F_X7_flood at hF
  refine g_aload_n hX 0 dX7_flood_0 rfl rfl ?_
  refine g_get hX fl_X7_10 (by decide) (by decide) dX7_flood_1 hF (fun jv1 hF => ?_)
  refine g_iload_n hX 2 dX7_flood_4 rfl rfl ?_
  refine g_callV (t := 2) (ci := 4) (rest := []) [(0, jx2)] hX cw_X7_69 rfl (by decide) (by decide) (fun r σ1 h => T_X4_lakeAt l D dA b0  jv1 jx2 σ σ1 r h) ⟨by decide, by decide⟩ rfl rfl (Nat.le_of_ble_eq_true rfl) dX7_flood_5 hF (fun jv2 σ3 hF => ?_)
  refine g_astore (lv' := [(5, 2, jv2), (0, 2, jx0), (1, 0, jx1), (2, 0, jx2), (3, 0, jx3), (4, 0, jx4)]) hX dX7_flood_8 (by decide) rfl ?_
  refine g_aload hX 0 dX7_flood_10 rfl ?_
  refine g_ifnull (tgt := 26) hX dX7_flood_12 (by decide) hF (fun hc hF => ?_) (fun hc hF => ?_)
  · refine g_iconst hX dX7_flood_26 ?_
    exact g_iret hX hR hQ hE dX7_flood_27 hF
  · refine g_aload_n hX 1 dX7_flood_15 rfl rfl ?_
    refine g_get hX fl_X7_10 (by decide) (by decide) dX7_flood_16 hF (fun jv4 hF => ?_)
    refine g_iload_n hX 2 dX7_flood_19 rfl rfl ?_
    refine g_callV (t := 0) (ci := 4) (rest := []) [(0, jx1)] hX cw_X7_153 rfl (by decide) (by decide) (fun r σ1 h => T_X4_hasState l D dA b0  jv4 jx1 σ3 σ1 r h) ⟨by decide, by decide⟩ rfl rfl (Nat.le_of_ble_eq_true rfl) dX7_flood_20 hF (fun jv5 σ6 hF => ?_)
    refine g_if_ne (tgt := 28) hX dX7_flood_23 (by decide) hF (fun hc hF => ?_) (fun hc hF => ?_)
    · refine g_iconst hX dX7_flood_26 ?_
      exact g_iret hX hR hQ hE dX7_flood_27 hF
    · refine g_iload_n hX 4 dX7_flood_28 rfl rfl ?_
      refine g_aload hX 0 dX7_flood_29 rfl ?_
      refine g_get hX fl_X7_73 (by decide) (by decide) dX7_flood_31 hF (fun jv7 hF => ?_)
      refine g_callS (t := 0) (rest := []) [(0, jx3), (0, jv7)] hX cw_X7_46 (fun r σ1 h => T_X7_isWithin l D dA b0 jx3 jv7 σ6 σ1 r h) ⟨by decide, by decide⟩ rfl rfl (Nat.le_of_ble_eq_true rfl) dX7_flood_34 hF (fun jv8 σ9 hF => ?_)
      refine g_if_eq (tgt := 57) hX dX7_flood_37 (by decide) hF (fun hc hF => ?_) (fun hc hF => ?_)
      · refine g_iconst hX dX7_flood_57 ?_
        exact g_iret hX hR hQ hE dX7_flood_58 hF
      · refine g_iload hX 5 dX7_flood_40 rfl ?_
        refine g_aload_n hX 1 dX7_flood_42 rfl rfl ?_
        refine g_get hX fl_X7_19 (by decide) (by decide) dX7_flood_43 hF (fun jv10 hF => ?_)
        refine g_get hX fl_X7_146 (by decide) (by decide) dX7_flood_46 hF (fun jv11 hF => ?_)
        refine g_iconst hX dX7_flood_49 ?_
        refine g_isub hX dX7_flood_50 ?_
        refine g_callS (t := 0) (rest := []) [(0, jx4), (0, (jv11 - 1))] hX cw_X7_46 (fun r σ1 h => T_X7_isWithin l D dA b0 jx4 (jv11 - 1) σ9 σ1 r h) ⟨by decide, by decide⟩ rfl rfl (Nat.le_of_ble_eq_true rfl) dX7_flood_51 hF (fun jv12 σ13 hF => ?_)
        refine g_if_ne (tgt := 59) hX dX7_flood_54 (by decide) hF (fun hc hF => ?_) (fun hc hF => ?_)
        · refine g_iconst hX dX7_flood_57 ?_
          exact g_iret hX hR hQ hE dX7_flood_58 hF
        · refine g_aload_n hX 1 dX7_flood_59 rfl rfl ?_
          refine g_callV (t := 0) (ci := 7) (rest := []) [] hX cw_X7_149 rfl (by decide) (by decide) (fun r σ1 h => T_X7_isWhole l D dA b0  jx0  σ13 σ1 r h) ⟨by decide, by decide⟩ rfl rfl (Nat.le_of_ble_eq_true rfl) dX7_flood_60 hF (fun jv14 σ15 hF => ?_)
          refine g_if_ne (tgt := 69) hX dX7_flood_63 (by decide) hF (fun hc hF => ?_) (fun hc hF => ?_)
          · refine g_bipush hX dX7_flood_66 (by decide) ?_
            exact g_iret hX hR hQ hE dX7_flood_68 hF
          · refine g_aload_n hX 1 dX7_flood_69 rfl rfl ?_
            refine g_get hX fl_X7_35 (by decide) (by decide) dX7_flood_70 hF (fun jv16 hF => ?_)
            refine g_aload_n hX 1 dX7_flood_73 rfl rfl ?_
            refine g_get hX fl_X7_19 (by decide) (by decide) dX7_flood_74 hF (fun jv17 hF => ?_)
            refine g_iconst hX dX7_flood_77 ?_
            refine g_callV (t := 2) (ci := 3) (rest := [(2, jv16)]) [(0, 0)] hX cw_X7_99 rfl (by decide) (by decide) (fun r σ1 h => T_X3_nodeAt l D dA b0  jv17 0 σ15 σ1 r h) ⟨by decide, by decide⟩ rfl rfl (Nat.le_of_ble_eq_true rfl) dX7_flood_78 hF (fun jv18 σ19 hF => ?_)
            refine g_iload_n hX 2 dX7_flood_81 rfl rfl ?_
            refine g_callVv (ci := 5) (rest := []) [(2, jv18), (0, jx1)] hX cw_X7_186 rfl (by decide) (by decide) (fun r σ1 h => T_X5_go l D dA b0  jv16 jv18 jx1 σ19 σ1 r h) ⟨by decide, by decide⟩ rfl rfl (Nat.le_of_ble_eq_true rfl) dX7_flood_82 hF (fun jv20 σ21 hF => ?_)
            refine g_aload_n hX 1 dX7_flood_85 rfl rfl ?_
            refine g_get hX fl_X7_35 (by decide) (by decide) dX7_flood_86 hF (fun jv22 hF => ?_)
            refine g_iload_n hX 3 dX7_flood_89 rfl rfl ?_
            refine g_iload_n hX 4 dX7_flood_90 rfl rfl ?_
            refine g_iload hX 5 dX7_flood_91 rfl ?_
            refine g_callV (t := 0) (ci := 5) (rest := []) [(0, jx2), (0, jx3), (0, jx4)] hX cw_X7_200 rfl (by decide) (by decide) (fun r σ1 h => T_X5_casesOfFlood l D dA b0  jv22 jx2 jx3 jx4 σ21 σ1 r h) ⟨by decide, by decide⟩ rfl rfl (Nat.le_of_ble_eq_true rfl) dX7_flood_93 hF (fun jv23 σ24 hF => ?_)
            exact g_iret hX hR hQ hE dX7_flood_96 hF
end

section
variable {p : Program} {l : Launch} {e : Env} {R : Room} {s : State} {m : MethodId} {args : Array Value} {below : List Frame} {meth : Method} {c : Code} {D : va_G} {dA : Nat → ClassId} {b0 n0 m0 nE mE : Nat} {Q : State → Prop}
def F_X7_cases (jx0 : Int) (jx1 : Int) (σ : Hp) : Option (Int × Hp) :=
  (rd 8 σ jx0 1).bind fun jv1 => bd (iv 4 σ jv1 (F_X3_nodeAt  jv1 jx1 σ)) fun jv2 σ3 => bN jv2 (some ((-1), σ3)) (bd (iv 8 σ3 jx0 (F_X7_isWhole  jx0  σ3)) fun jv4 σ5 => bEq jv4 0 (some ((-3), σ5)) ((rd 8 σ5 jx0 3).bind fun jv6 => bd (iv 6 σ5 jv6 (F_X5_go  jv6 jv2 0 σ5)) fun jv7 σ8 => (rd 8 σ8 jx0 3).bind fun jv9 => bd (iv 6 σ8 jv9 (F_X5_allCases  jv9  σ8)) fun jv10 σ11 => some (jv10, σ11)))
theorem M_X7_cases (jx0 : Int) (jx1 : Int) (σ : Hp) : Mn σ (F_X7_cases jx0 jx1 σ) := by
  unfold F_X7_cases
  repeat' first | exact Mn_ret | exact Mn_rz | exact M_X3_nodeAt _ _ _ | exact M_X7_isWhole _ _ | exact M_X5_go _ _ _ _ | exact M_X5_allCases _ _ | refine Mn_nm (fun _ => ?_) | refine Mn_nab (fun _ _ => ?_) | refine Mn_nwb (fun _ _ => ?_) | refine Mn_pw (fun _ => ?_) | refine Mn_pz (fun _ => ?_) | refine Mn_aw (fun _ => ?_) | refine Mn_az (fun _ => ?_) | refine Mn_aq (fun _ => ?_) | refine Mn_bo (fun _ => ?_) | refine Mn_bd ?_ (fun _ _ => ?_) | refine Mn_iv ?_ | refine Mn_bLt ?_ ?_ | refine Mn_bLe ?_ ?_ | refine Mn_bEq ?_ ?_ | refine Mn_bN ?_ ?_ | refine Mn_g3 ?_ | refine Mn_g33 ?_ | refine Mn_g66 ?_ | refine Mn_gD ?_
set_option maxRecDepth 100000 in
set_option maxHeartbeats 4000000 in
theorem T_X7_cases (l : Launch) (D : va_G) (dA : Nat → ClassId) (b0 : Nat) (jx0 : Int) (jx1 : Int) (σ σE : Hp) (r : Int) (hF : F_X7_cases jx0 jx1 σ = some (r, σE)) : Ct l D dA b0 yX7_cases cX7_cases 3 (some .int) 7 155 [(2, jx0), (0, jx1)] σ (some (pV 0 r)) σE := by
  refine Ct.of (lv0 := [(0, 2, jx0), (1, 0, jx1)]) (by decide) RX7 rfl (Nat.le_of_ble_eq_true rfl) rfl ?_ (M_X7_cases jx0 jx1 σ r σE hF)
  intro p e R s m args below meth c hX hR hnm
  obtain ⟨Q, hQ⟩ : ∃ Q, Q = Qm D dA b0 σ.1 σ.2.1 below args s (some (pV 0 r)) σE := ⟨_, rfl⟩
  rw [← hQ]
  have hE : σE.1 = σE.1 ∧ σE.2.1 = σE.2.1 := ⟨rfl, rfl⟩
  unfold F_X7_cases at hF
  refine g_aload_n hX 0 dX7_cases_0 rfl rfl ?_
  refine g_get hX fl_X7_19 (by decide) (by decide) dX7_cases_1 hF (fun jv1 hF => ?_)
  refine g_iload_n hX 1 dX7_cases_4 rfl rfl ?_
  refine g_callV (t := 2) (ci := 3) (rest := []) [(0, jx1)] hX cw_X7_99 rfl (by decide) (by decide) (fun r σ1 h => T_X3_nodeAt l D dA b0  jv1 jx1 σ σ1 r h) ⟨by decide, by decide⟩ rfl rfl (Nat.le_of_ble_eq_true rfl) dX7_cases_5 hF (fun jv2 σ3 hF => ?_)
  refine g_astore_n (lv' := [(2, 2, jv2), (0, 2, jx0), (1, 0, jx1)]) hX dX7_cases_8 rfl (by decide) rfl ?_
  refine g_aload_n hX 0 dX7_cases_9 rfl rfl ?_
  refine g_ifnonnull (tgt := 15) hX dX7_cases_10 (by decide) hF (fun hc hF => ?_) (fun hc hF => ?_)
  · refine g_iconst hX dX7_cases_13 ?_
    exact g_iret hX hR hQ hE dX7_cases_14 hF
  · refine g_aload_n hX 1 dX7_cases_15 rfl rfl ?_
    refine g_callV (t := 0) (ci := 7) (rest := []) [] hX cw_X7_149 rfl (by decide) (by decide) (fun r σ1 h => T_X7_isWhole l D dA b0  jx0  σ3 σ1 r h) ⟨by decide, by decide⟩ rfl rfl (Nat.le_of_ble_eq_true rfl) dX7_cases_16 hF (fun jv4 σ5 hF => ?_)
    refine g_if_ne (tgt := 25) hX dX7_cases_19 (by decide) hF (fun hc hF => ?_) (fun hc hF => ?_)
    · refine g_bipush hX dX7_cases_22 (by decide) ?_
      exact g_iret hX hR hQ hE dX7_cases_24 hF
    · refine g_aload_n hX 1 dX7_cases_25 rfl rfl ?_
      refine g_get hX fl_X7_35 (by decide) (by decide) dX7_cases_26 hF (fun jv6 hF => ?_)
      refine g_aload_n hX 0 dX7_cases_29 rfl rfl ?_
      refine g_iconst hX dX7_cases_30 ?_
      refine g_callVv (ci := 5) (rest := []) [(2, jv2), (0, 0)] hX cw_X7_186 rfl (by decide) (by decide) (fun r σ1 h => T_X5_go l D dA b0  jv6 jv2 0 σ5 σ1 r h) ⟨by decide, by decide⟩ rfl rfl (Nat.le_of_ble_eq_true rfl) dX7_cases_31 hF (fun jv7 σ8 hF => ?_)
      refine g_aload_n hX 1 dX7_cases_34 rfl rfl ?_
      refine g_get hX fl_X7_35 (by decide) (by decide) dX7_cases_35 hF (fun jv9 hF => ?_)
      refine g_callV (t := 0) (ci := 5) (rest := []) [] hX cw_X7_204 rfl (by decide) (by decide) (fun r σ1 h => T_X5_allCases l D dA b0  jv9  σ8 σ1 r h) ⟨by decide, by decide⟩ rfl rfl (Nat.le_of_ble_eq_true rfl) dX7_cases_38 hF (fun jv10 σ11 hF => ?_)
      exact g_iret hX hR hQ hE dX7_cases_41 hF
end

section
variable {p : Program} {l : Launch} {e : Env} {R : Room} {s : State} {m : MethodId} {args : Array Value} {below : List Frame} {meth : Method} {c : Code} {D : va_G} {dA : Nat → ClassId} {b0 n0 m0 nE mE : Nat} {Q : State → Prop}
def F_X7_begin (jx0 : Int) (jx1 : Int) (σ : Hp) : Option (Int × Hp) :=
  (rd 8 σ jx0 0).bind fun jv1 => bd (iv 5 σ jv1 (F_X4_hasState  jv1 jx1 σ)) fun jv2 σ3 => bEq jv2 0 (some ((-1), σ3)) (bd (iv 8 σ3 jx0 (F_X7_isWhole  jx0  σ3)) fun jv4 σ5 => bEq jv4 0 (some ((-3), σ5)) ((rd 8 σ5 jx0 4).bind fun jv6 => (rd 8 σ5 jx0 1).bind fun jv7 => bd (iv 4 σ5 jv7 (F_X3_nodeAt  jv7 0 σ5)) fun jv8 σ9 => bd (iv 3 σ9 jv6 (F_X2_startAt  jv6 jv8 jx1 σ9)) fun jv10 σ11 => some (1, σ11)))
theorem M_X7_begin (jx0 : Int) (jx1 : Int) (σ : Hp) : Mn σ (F_X7_begin jx0 jx1 σ) := by
  unfold F_X7_begin
  repeat' first | exact Mn_ret | exact Mn_rz | exact M_X4_hasState _ _ _ | exact M_X7_isWhole _ _ | exact M_X3_nodeAt _ _ _ | exact M_X2_startAt _ _ _ _ | refine Mn_nm (fun _ => ?_) | refine Mn_nab (fun _ _ => ?_) | refine Mn_nwb (fun _ _ => ?_) | refine Mn_pw (fun _ => ?_) | refine Mn_pz (fun _ => ?_) | refine Mn_aw (fun _ => ?_) | refine Mn_az (fun _ => ?_) | refine Mn_aq (fun _ => ?_) | refine Mn_bo (fun _ => ?_) | refine Mn_bd ?_ (fun _ _ => ?_) | refine Mn_iv ?_ | refine Mn_bLt ?_ ?_ | refine Mn_bLe ?_ ?_ | refine Mn_bEq ?_ ?_ | refine Mn_bN ?_ ?_ | refine Mn_g3 ?_ | refine Mn_g33 ?_ | refine Mn_g66 ?_ | refine Mn_gD ?_
set_option maxRecDepth 100000 in
set_option maxHeartbeats 4000000 in
theorem T_X7_begin (l : Launch) (D : va_G) (dA : Nat → ClassId) (b0 : Nat) (jx0 : Int) (jx1 : Int) (σ σE : Hp) (r : Int) (hF : F_X7_begin jx0 jx1 σ = some (r, σE)) : Ct l D dA b0 yX7_begin cX7_begin 2 (some .int) 3 62 [(2, jx0), (0, jx1)] σ (some (pV 0 r)) σE := by
  refine Ct.of (lv0 := [(0, 2, jx0), (1, 0, jx1)]) (by decide) RX7 rfl (Nat.le_of_ble_eq_true rfl) rfl ?_ (M_X7_begin jx0 jx1 σ r σE hF)
  intro p e R s m args below meth c hX hR hnm
  obtain ⟨Q, hQ⟩ : ∃ Q, Q = Qm D dA b0 σ.1 σ.2.1 below args s (some (pV 0 r)) σE := ⟨_, rfl⟩
  rw [← hQ]
  have hE : σE.1 = σE.1 ∧ σE.2.1 = σE.2.1 := ⟨rfl, rfl⟩
  unfold F_X7_begin at hF
  refine g_aload_n hX 0 dX7_begin_0 rfl rfl ?_
  refine g_get hX fl_X7_10 (by decide) (by decide) dX7_begin_1 hF (fun jv1 hF => ?_)
  refine g_iload_n hX 1 dX7_begin_4 rfl rfl ?_
  refine g_callV (t := 0) (ci := 4) (rest := []) [(0, jx1)] hX cw_X7_153 rfl (by decide) (by decide) (fun r σ1 h => T_X4_hasState l D dA b0  jv1 jx1 σ σ1 r h) ⟨by decide, by decide⟩ rfl rfl (Nat.le_of_ble_eq_true rfl) dX7_begin_5 hF (fun jv2 σ3 hF => ?_)
  refine g_if_ne (tgt := 13) hX dX7_begin_8 (by decide) hF (fun hc hF => ?_) (fun hc hF => ?_)
  · refine g_iconst hX dX7_begin_11 ?_
    exact g_iret hX hR hQ hE dX7_begin_12 hF
  · refine g_aload_n hX 0 dX7_begin_13 rfl rfl ?_
    refine g_callV (t := 0) (ci := 7) (rest := []) [] hX cw_X7_149 rfl (by decide) (by decide) (fun r σ1 h => T_X7_isWhole l D dA b0  jx0  σ3 σ1 r h) ⟨by decide, by decide⟩ rfl rfl (Nat.le_of_ble_eq_true rfl) dX7_begin_14 hF (fun jv4 σ5 hF => ?_)
    refine g_if_ne (tgt := 23) hX dX7_begin_17 (by decide) hF (fun hc hF => ?_) (fun hc hF => ?_)
    · refine g_bipush hX dX7_begin_20 (by decide) ?_
      exact g_iret hX hR hQ hE dX7_begin_22 hF
    · refine g_aload_n hX 0 dX7_begin_23 rfl rfl ?_
      refine g_get hX fl_X7_42 (by decide) (by decide) dX7_begin_24 hF (fun jv6 hF => ?_)
      refine g_aload_n hX 0 dX7_begin_27 rfl rfl ?_
      refine g_get hX fl_X7_19 (by decide) (by decide) dX7_begin_28 hF (fun jv7 hF => ?_)
      refine g_iconst hX dX7_begin_31 ?_
      refine g_callV (t := 2) (ci := 3) (rest := [(2, jv6)]) [(0, 0)] hX cw_X7_99 rfl (by decide) (by decide) (fun r σ1 h => T_X3_nodeAt l D dA b0  jv7 0 σ5 σ1 r h) ⟨by decide, by decide⟩ rfl rfl (Nat.le_of_ble_eq_true rfl) dX7_begin_32 hF (fun jv8 σ9 hF => ?_)
      refine g_iload_n hX 1 dX7_begin_35 rfl rfl ?_
      refine g_callVv (ci := 2) (rest := []) [(2, jv8), (0, jx1)] hX cw_X7_207 rfl (by decide) (by decide) (fun r σ1 h => T_X2_startAt l D dA b0  jv6 jv8 jx1 σ9 σ1 r h) ⟨by decide, by decide⟩ rfl rfl (Nat.le_of_ble_eq_true rfl) dX7_begin_36 hF (fun jv10 σ11 hF => ?_)
      refine g_iconst hX dX7_begin_39 ?_
      exact g_iret hX hR hQ hE dX7_begin_40 hF
end

section
variable {p : Program} {l : Launch} {e : Env} {R : Room} {s : State} {m : MethodId} {args : Array Value} {below : List Frame} {meth : Method} {c : Code} {D : va_G} {dA : Nat → ClassId} {b0 n0 m0 nE mE : Nat} {Q : State → Prop}
def F_X7_refusalOfWeek (jx0 : Int) (jx1 : Int) (σ : Hp) : Option (Int × Hp) :=
  (rd 8 σ jx0 4).bind fun jv1 => (rd 3 σ jv1 5).bind fun jv2 => bEq jv2 0 (some ((-6), σ)) ((rd 8 σ jx0 4).bind fun jv3 => (rd 3 σ jv3 7).bind fun jv4 => bN jv4 (some ((-6), σ)) ((rd 8 σ jx0 1).bind fun jv5 => (rd 8 σ jx0 4).bind fun jv6 => (rd 3 σ jv6 7).bind fun jv7 => bd (iv 4 σ jv5 (F_X3_isLast  jv5 jv7 σ)) fun jv8 σ9 => bEq jv8 0 ((rd 8 σ9 jx0 4).bind fun jv10 => (rd 3 σ9 jv10 7).bind fun jv11 => bd (iv 2 σ9 jv11 (F_X1_childAt  jv11 jx1 σ9)) fun jv12 σ13 => bN jv12 (some ((-1), σ13)) (some (0, σ13))) (some ((-4), σ9))))
theorem M_X7_refusalOfWeek (jx0 : Int) (jx1 : Int) (σ : Hp) : Mn σ (F_X7_refusalOfWeek jx0 jx1 σ) := by
  unfold F_X7_refusalOfWeek
  repeat' first | exact Mn_ret | exact Mn_rz | exact M_X3_isLast _ _ _ | exact M_X1_childAt _ _ _ | refine Mn_nm (fun _ => ?_) | refine Mn_nab (fun _ _ => ?_) | refine Mn_nwb (fun _ _ => ?_) | refine Mn_pw (fun _ => ?_) | refine Mn_pz (fun _ => ?_) | refine Mn_aw (fun _ => ?_) | refine Mn_az (fun _ => ?_) | refine Mn_aq (fun _ => ?_) | refine Mn_bo (fun _ => ?_) | refine Mn_bd ?_ (fun _ _ => ?_) | refine Mn_iv ?_ | refine Mn_bLt ?_ ?_ | refine Mn_bLe ?_ ?_ | refine Mn_bEq ?_ ?_ | refine Mn_bN ?_ ?_ | refine Mn_g3 ?_ | refine Mn_g33 ?_ | refine Mn_g66 ?_ | refine Mn_gD ?_
set_option maxRecDepth 100000 in
set_option maxHeartbeats 4000000 in
theorem T_X7_refusalOfWeek (l : Launch) (D : va_G) (dA : Nat → ClassId) (b0 : Nat) (jx0 : Int) (jx1 : Int) (σ σE : Hp) (r : Int) (hF : F_X7_refusalOfWeek jx0 jx1 σ = some (r, σE)) : Ct l D dA b0 yX7_refusalOfWeek cX7_refusalOfWeek 2 (some .int) 1 21 [(2, jx0), (0, jx1)] σ (some (pV 0 r)) σE := by
  refine Ct.of (lv0 := [(0, 2, jx0), (1, 0, jx1)]) (by decide) RX7 rfl (Nat.le_of_ble_eq_true rfl) rfl ?_ (M_X7_refusalOfWeek jx0 jx1 σ r σE hF)
  intro p e R s m args below meth c hX hR hnm
  obtain ⟨Q, hQ⟩ : ∃ Q, Q = Qm D dA b0 σ.1 σ.2.1 below args s (some (pV 0 r)) σE := ⟨_, rfl⟩
  rw [← hQ]
  have hE : σE.1 = σE.1 ∧ σE.2.1 = σE.2.1 := ⟨rfl, rfl⟩
  unfold F_X7_refusalOfWeek at hF
  refine g_aload_n hX 0 dX7_refusalOfWeek_0 rfl rfl ?_
  refine g_get hX fl_X7_42 (by decide) (by decide) dX7_refusalOfWeek_1 hF (fun jv1 hF => ?_)
  refine g_get hX fl_X7_57 (by decide) (by decide) dX7_refusalOfWeek_4 hF (fun jv2 hF => ?_)
  refine g_if_eq (tgt := 20) hX dX7_refusalOfWeek_7 (by decide) hF (fun hc hF => ?_) (fun hc hF => ?_)
  · refine g_bipush hX dX7_refusalOfWeek_20 (by decide) ?_
    exact g_iret hX hR hQ hE dX7_refusalOfWeek_22 hF
  · refine g_aload_n hX 0 dX7_refusalOfWeek_10 rfl rfl ?_
    refine g_get hX fl_X7_42 (by decide) (by decide) dX7_refusalOfWeek_11 hF (fun jv3 hF => ?_)
    refine g_get hX fl_X7_228 (by decide) (by decide) dX7_refusalOfWeek_14 hF (fun jv4 hF => ?_)
    refine g_ifnonnull (tgt := 23) hX dX7_refusalOfWeek_17 (by decide) hF (fun hc hF => ?_) (fun hc hF => ?_)
    · refine g_bipush hX dX7_refusalOfWeek_20 (by decide) ?_
      exact g_iret hX hR hQ hE dX7_refusalOfWeek_22 hF
    · refine g_aload_n hX 0 dX7_refusalOfWeek_23 rfl rfl ?_
      refine g_get hX fl_X7_19 (by decide) (by decide) dX7_refusalOfWeek_24 hF (fun jv5 hF => ?_)
      refine g_aload_n hX 0 dX7_refusalOfWeek_27 rfl rfl ?_
      refine g_get hX fl_X7_42 (by decide) (by decide) dX7_refusalOfWeek_28 hF (fun jv6 hF => ?_)
      refine g_get hX fl_X7_228 (by decide) (by decide) dX7_refusalOfWeek_31 hF (fun jv7 hF => ?_)
      refine g_callV (t := 0) (ci := 3) (rest := []) [(2, jv7)] hX cw_X7_103 rfl (by decide) (by decide) (fun r σ1 h => T_X3_isLast l D dA b0  jv5 jv7 σ σ1 r h) ⟨by decide, by decide⟩ rfl rfl (Nat.le_of_ble_eq_true rfl) dX7_refusalOfWeek_34 hF (fun jv8 σ9 hF => ?_)
      refine g_if_eq (tgt := 43) hX dX7_refusalOfWeek_37 (by decide) hF (fun hc hF => ?_) (fun hc hF => ?_)
      · refine g_aload_n hX 0 dX7_refusalOfWeek_43 rfl rfl ?_
        refine g_get hX fl_X7_42 (by decide) (by decide) dX7_refusalOfWeek_44 hF (fun jv10 hF => ?_)
        refine g_get hX fl_X7_228 (by decide) (by decide) dX7_refusalOfWeek_47 hF (fun jv11 hF => ?_)
        refine g_iload_n hX 1 dX7_refusalOfWeek_50 rfl rfl ?_
        refine g_callV (t := 2) (ci := 1) (rest := []) [(0, jx1)] hX cw_X7_256 rfl (by decide) (by decide) (fun r σ1 h => T_X1_childAt l D dA b0  jv11 jx1 σ9 σ1 r h) ⟨by decide, by decide⟩ rfl rfl (Nat.le_of_ble_eq_true rfl) dX7_refusalOfWeek_51 hF (fun jv12 σ13 hF => ?_)
        refine g_ifnonnull (tgt := 61) hX dX7_refusalOfWeek_54 (by decide) hF (fun hc hF => ?_) (fun hc hF => ?_)
        · refine g_iconst hX dX7_refusalOfWeek_57 ?_
          refine g_goto (tgt := 62) hX dX7_refusalOfWeek_58 (by decide) ?_
          exact g_iret hX hR hQ hE dX7_refusalOfWeek_62 hF
        · refine g_iconst hX dX7_refusalOfWeek_61 ?_
          exact g_iret hX hR hQ hE dX7_refusalOfWeek_62 hF
      · refine g_bipush hX dX7_refusalOfWeek_40 (by decide) ?_
        exact g_iret hX hR hQ hE dX7_refusalOfWeek_42 hF
end

section
variable {p : Program} {l : Launch} {e : Env} {R : Room} {s : State} {m : MethodId} {args : Array Value} {below : List Frame} {meth : Method} {c : Code} {D : va_G} {dA : Nat → ClassId} {b0 n0 m0 nE mE : Nat} {Q : State → Prop}
def F_X7_letWeek_B25 (jx0 : Int) (jx1 : Int) (js0 : Int) (σ : Hp) : Option (Int × Hp) :=
  bN js0 (some ((-1), σ)) ((rd 8 σ jx0 1).bind fun jv3 => (rd 8 σ jx0 4).bind fun jv4 => (rd 3 σ jv4 7).bind fun jv5 => bd (iv 4 σ jv3 (F_X3_priceFrom  jv3 jv5 σ)) fun jv6 σ7 => (rd 8 σ7 jx0 0).bind fun jv8 => (rd 8 σ7 jx0 4).bind fun jv9 => bd (iv 3 σ7 jv9 (F_X2_stateNow  jv9  σ7)) fun jv10 σ11 => bd (iv 5 σ11 jv8 (F_X4_headsTimesLets  jv8 jv10 jx1 σ11)) fun jv12 σ13 => nm ((jv6 * jv12)) fun jv14 => (rd 8 σ13 jx0 0).bind fun jv15 => (rd 8 σ13 jx0 4).bind fun jv16 => bd (iv 3 σ13 jv16 (F_X2_stateNow  jv16  σ13)) fun jv17 σ18 => (rd 2 σ18 js0 1).bind fun jv19 => bd (iv 5 σ18 jv15 (F_X4_flow  jv15 jv17 jx1 jv19 σ18)) fun jv20 σ21 => (rd 8 σ21 jx0 4).bind fun jv22 => (rd 8 σ21 jx0 0).bind fun jv23 => (rd 5 σ21 jv23 3).bind fun jv24 => (rd 8 σ21 jx0 0).bind fun jv25 => (rd 5 σ21 jv25 1).bind fun jv26 => bd (F_X4_letOf jx1 (jv26 - 1) σ21) fun jv27 σ28 => bd (iv 3 σ28 jv22 (F_X2_goOn  jv22 js0 jv20 jv14 jv24 jv27 σ28)) fun jv29 σ30 => some (jv14, σ30))
theorem M_X7_letWeek_B25 (jx0 : Int) (jx1 : Int) (js0 : Int) (σ : Hp) : Mn σ (F_X7_letWeek_B25 jx0 jx1 js0 σ) := by
  unfold F_X7_letWeek_B25
  repeat' first | exact Mn_ret | exact Mn_rz | exact M_X3_priceFrom _ _ _ | exact M_X2_stateNow _ _ | exact M_X4_headsTimesLets _ _ _ _ | exact M_X4_flow _ _ _ _ _ | exact M_X4_letOf _ _ _ | exact M_X2_goOn _ _ _ _ _ _ _ | refine Mn_nm (fun _ => ?_) | refine Mn_nab (fun _ _ => ?_) | refine Mn_nwb (fun _ _ => ?_) | refine Mn_pw (fun _ => ?_) | refine Mn_pz (fun _ => ?_) | refine Mn_aw (fun _ => ?_) | refine Mn_az (fun _ => ?_) | refine Mn_aq (fun _ => ?_) | refine Mn_bo (fun _ => ?_) | refine Mn_bd ?_ (fun _ _ => ?_) | refine Mn_iv ?_ | refine Mn_bLt ?_ ?_ | refine Mn_bLe ?_ ?_ | refine Mn_bEq ?_ ?_ | refine Mn_bN ?_ ?_ | refine Mn_g3 ?_ | refine Mn_g33 ?_ | refine Mn_g66 ?_ | refine Mn_gD ?_
set_option maxRecDepth 100000 in
set_option maxHeartbeats 4000000 in
theorem T_X7_letWeek_B25 {r : Int} {σE : Hp} (hX : Cx p R s m args meth c D dA b0 n0 m0 6 nE mE cX7_letWeek RX7 2 53) (hR : Rx meth (some .int)) (hnm : meth.name = yX7_letWeek.name) (hQ : Q = Qm D dA b0 n0 m0 below args s (some (pV 0 r)) σE) (hE : nE = σE.1 ∧ mE = σE.2.1) (jx0 : Int) (jx1 : Int) (js0 : Int) (σ : Hp) (hF : F_X7_letWeek_B25 jx0 jx1 js0 σ = some (r, σE)) : G p l e R s m args below meth c D dA b0 n0 m0 6 nE mE Q 25 [(0, 2, jx0), (1, 0, jx1)] [(2, js0)] σ := by
  unfold F_X7_letWeek_B25 at hF
  refine g_astore_n (lv' := [(3, 2, js0), (0, 2, jx0), (1, 0, jx1)]) hX dX7_letWeek_25 rfl (by decide) rfl ?_
  refine g_aload_n hX 0 dX7_letWeek_26 rfl rfl ?_
  refine g_ifnonnull (tgt := 32) hX dX7_letWeek_27 (by decide) hF (fun hc hF => ?_) (fun hc hF => ?_)
  · refine g_iconst hX dX7_letWeek_30 ?_
    exact g_iret hX hR hQ hE dX7_letWeek_31 hF
  · refine g_aload_n hX 1 dX7_letWeek_32 rfl rfl ?_
    refine g_get hX fl_X7_19 (by decide) (by decide) dX7_letWeek_33 hF (fun jv3 hF => ?_)
    refine g_aload_n hX 1 dX7_letWeek_36 rfl rfl ?_
    refine g_get hX fl_X7_42 (by decide) (by decide) dX7_letWeek_37 hF (fun jv4 hF => ?_)
    refine g_get hX fl_X7_228 (by decide) (by decide) dX7_letWeek_40 hF (fun jv5 hF => ?_)
    refine g_callV (t := 0) (ci := 3) (rest := []) [(2, jv5)] hX cw_X7_259 rfl (by decide) (by decide) (fun r σ1 h => T_X3_priceFrom l D dA b0  jv3 jv5 σ σ1 r h) ⟨by decide, by decide⟩ rfl rfl (Nat.le_of_ble_eq_true rfl) dX7_letWeek_43 hF (fun jv6 σ7 hF => ?_)
    refine g_aload_n hX 1 dX7_letWeek_46 rfl rfl ?_
    refine g_get hX fl_X7_10 (by decide) (by decide) dX7_letWeek_47 hF (fun jv8 hF => ?_)
    refine g_aload_n hX 1 dX7_letWeek_50 rfl rfl ?_
    refine g_get hX fl_X7_42 (by decide) (by decide) dX7_letWeek_51 hF (fun jv9 hF => ?_)
    refine g_callV (t := 0) (ci := 2) (rest := [(2, jv8), (0, jv6)]) [] hX cw_X7_219 rfl (by decide) (by decide) (fun r σ1 h => T_X2_stateNow l D dA b0  jv9  σ7 σ1 r h) ⟨by decide, by decide⟩ rfl rfl (Nat.le_of_ble_eq_true rfl) dX7_letWeek_54 hF (fun jv10 σ11 hF => ?_)
    refine g_iload_n hX 2 dX7_letWeek_57 rfl rfl ?_
    refine g_callV (t := 0) (ci := 4) (rest := [(0, jv6)]) [(0, jv10), (0, jx1)] hX cw_X7_263 rfl (by decide) (by decide) (fun r σ1 h => T_X4_headsTimesLets l D dA b0  jv8 jv10 jx1 σ11 σ1 r h) ⟨by decide, by decide⟩ rfl rfl (Nat.le_of_ble_eq_true rfl) dX7_letWeek_58 hF (fun jv12 σ13 hF => ?_)
    refine g_imul hX dX7_letWeek_61 ?_
    refine g_nm hF (fun jv14 hF => ?_)
    refine g_istore (lv' := [(4, 0, jv14), (3, 2, js0), (0, 2, jx0), (1, 0, jx1)]) hX dX7_letWeek_62 (by decide) rfl ?_
    refine g_aload_n hX 2 dX7_letWeek_64 rfl rfl ?_
    refine g_get hX fl_X7_10 (by decide) (by decide) dX7_letWeek_65 hF (fun jv15 hF => ?_)
    refine g_aload_n hX 2 dX7_letWeek_68 rfl rfl ?_
    refine g_get hX fl_X7_42 (by decide) (by decide) dX7_letWeek_69 hF (fun jv16 hF => ?_)
    refine g_callV (t := 0) (ci := 2) (rest := [(2, jv15)]) [] hX cw_X7_219 rfl (by decide) (by decide) (fun r σ1 h => T_X2_stateNow l D dA b0  jv16  σ13 σ1 r h) ⟨by decide, by decide⟩ rfl rfl (Nat.le_of_ble_eq_true rfl) dX7_letWeek_72 hF (fun jv17 σ18 hF => ?_)
    refine g_iload_n hX 3 dX7_letWeek_75 rfl rfl ?_
    refine g_aload_n hX 1 dX7_letWeek_76 rfl rfl ?_
    refine g_get hX fl_X7_123 (by decide) (by decide) dX7_letWeek_77 hF (fun jv19 hF => ?_)
    refine g_callV (t := 0) (ci := 4) (rest := []) [(0, jv17), (0, jx1), (2, jv19)] hX cw_X7_266 rfl (by decide) (by decide) (fun r σ1 h => T_X4_flow l D dA b0  jv15 jv17 jx1 jv19 σ18 σ1 r h) ⟨by decide, by decide⟩ rfl rfl (Nat.le_of_ble_eq_true rfl) dX7_letWeek_80 hF (fun jv20 σ21 hF => ?_)
    refine g_istore (lv' := [(5, 0, jv20), (4, 0, jv14), (3, 2, js0), (0, 2, jx0), (1, 0, jx1)]) hX dX7_letWeek_83 (by decide) rfl ?_
    refine g_aload_n hX 3 dX7_letWeek_85 rfl rfl ?_
    refine g_get hX fl_X7_42 (by decide) (by decide) dX7_letWeek_86 hF (fun jv22 hF => ?_)
    refine g_aload_n hX 2 dX7_letWeek_89 rfl rfl ?_
    refine g_iload hX 0 dX7_letWeek_90 rfl ?_
    refine g_iload hX 1 dX7_letWeek_92 rfl ?_
    refine g_aload_n hX 3 dX7_letWeek_94 rfl rfl ?_
    refine g_get hX fl_X7_10 (by decide) (by decide) dX7_letWeek_95 hF (fun jv23 hF => ?_)
    refine g_get hX fl_X7_270 (by decide) (by decide) dX7_letWeek_98 hF (fun jv24 hF => ?_)
    refine g_iload_n hX 4 dX7_letWeek_101 rfl rfl ?_
    refine g_aload_n hX 3 dX7_letWeek_102 rfl rfl ?_
    refine g_get hX fl_X7_10 (by decide) (by decide) dX7_letWeek_103 hF (fun jv25 hF => ?_)
    refine g_get hX fl_X7_50 (by decide) (by decide) dX7_letWeek_106 hF (fun jv26 hF => ?_)
    refine g_iconst hX dX7_letWeek_109 ?_
    refine g_isub hX dX7_letWeek_110 ?_
    refine g_callS (t := 0) (rest := [(0, jv24), (0, jv14), (0, jv20), (2, js0), (2, jv22)]) [(0, jx1), (0, (jv26 - 1))] hX cw_X7_167 (fun r σ1 h => T_X4_letOf l D dA b0 jx1 (jv26 - 1) σ21 σ1 r h) ⟨by decide, by decide⟩ rfl rfl (Nat.le_of_ble_eq_true rfl) dX7_letWeek_111 hF (fun jv27 σ28 hF => ?_)
    refine g_callVv (ci := 2) (rest := []) [(2, js0), (0, jv20), (0, jv14), (0, jv24), (0, jv27)] hX cw_X7_272 rfl (by decide) (by decide) (fun r σ1 h => T_X2_goOn l D dA b0  jv22 js0 jv20 jv14 jv24 jv27 σ28 σ1 r h) ⟨by decide, by decide⟩ rfl rfl (Nat.le_of_ble_eq_true rfl) dX7_letWeek_114 hF (fun jv29 σ30 hF => ?_)
    refine g_iload hX 1 dX7_letWeek_117 rfl ?_
    exact g_iret hX hR hQ hE dX7_letWeek_119 hF
def F_X7_letWeek (jx0 : Int) (jx1 : Int) (jx2 : Int) (σ : Hp) : Option (Int × Hp) :=
  (rd 8 σ jx0 4).bind fun jv1 => (rd 3 σ jv1 7).bind fun jv2 => bN jv2 (F_X7_letWeek_B25 jx0 jx1 (-1) σ) ((rd 8 σ jx0 4).bind fun jv31 => (rd 3 σ jv31 7).bind fun jv32 => bd (iv 2 σ jv32 (F_X1_childAt  jv32 jx2 σ)) fun jv33 σ34 => F_X7_letWeek_B25 jx0 jx1 jv33 σ34)
theorem M_X7_letWeek (jx0 : Int) (jx1 : Int) (jx2 : Int) (σ : Hp) : Mn σ (F_X7_letWeek jx0 jx1 jx2 σ) := by
  unfold F_X7_letWeek
  repeat' first | exact Mn_ret | exact Mn_rz | exact M_X7_letWeek_B25 _ _ _ _ | exact M_X1_childAt _ _ _ | refine Mn_nm (fun _ => ?_) | refine Mn_nab (fun _ _ => ?_) | refine Mn_nwb (fun _ _ => ?_) | refine Mn_pw (fun _ => ?_) | refine Mn_pz (fun _ => ?_) | refine Mn_aw (fun _ => ?_) | refine Mn_az (fun _ => ?_) | refine Mn_aq (fun _ => ?_) | refine Mn_bo (fun _ => ?_) | refine Mn_bd ?_ (fun _ _ => ?_) | refine Mn_iv ?_ | refine Mn_bLt ?_ ?_ | refine Mn_bLe ?_ ?_ | refine Mn_bEq ?_ ?_ | refine Mn_bN ?_ ?_ | refine Mn_g3 ?_ | refine Mn_g33 ?_ | refine Mn_g66 ?_ | refine Mn_gD ?_
set_option maxRecDepth 100000 in
set_option maxHeartbeats 4000000 in
theorem T_X7_letWeek (l : Launch) (D : va_G) (dA : Nat → ClassId) (b0 : Nat) (jx0 : Int) (jx1 : Int) (jx2 : Int) (σ σE : Hp) (r : Int) (hF : F_X7_letWeek jx0 jx1 jx2 σ = some (r, σE)) : Ct l D dA b0 yX7_letWeek cX7_letWeek 6 (some .int) 2 53 [(2, jx0), (0, jx1), (0, jx2)] σ (some (pV 0 r)) σE := by
  refine Ct.of (lv0 := [(0, 2, jx0), (1, 0, jx1), (2, 0, jx2)]) (by decide) RX7 rfl (Nat.le_of_ble_eq_true rfl) rfl ?_ (M_X7_letWeek jx0 jx1 jx2 σ r σE hF)
  intro p e R s m args below meth c hX hR hnm
  obtain ⟨Q, hQ⟩ : ∃ Q, Q = Qm D dA b0 σ.1 σ.2.1 below args s (some (pV 0 r)) σE := ⟨_, rfl⟩
  rw [← hQ]
  have hE : σE.1 = σE.1 ∧ σE.2.1 = σE.2.1 := ⟨rfl, rfl⟩
  unfold F_X7_letWeek at hF
  refine g_aload_n hX 0 dX7_letWeek_0 rfl rfl ?_
  refine g_get hX fl_X7_42 (by decide) (by decide) dX7_letWeek_1 hF (fun jv1 hF => ?_)
  refine g_get hX fl_X7_228 (by decide) (by decide) dX7_letWeek_4 hF (fun jv2 hF => ?_)
  refine g_ifnonnull (tgt := 14) hX dX7_letWeek_7 (by decide) hF (fun hc hF => ?_) (fun hc hF => ?_)
  · refine g_null hX dX7_letWeek_10 ?_
    refine g_goto (tgt := 25) hX dX7_letWeek_11 (by decide) ?_
    refine g_lvp (lv' := [(0, 2, jx0), (1, 0, jx1)]) [0, 1] rfl ?_
    exact T_X7_letWeek_B25 hX hR hnm hQ hE jx0 jx1 (-1)  σ hF
  · refine g_aload_n hX 0 dX7_letWeek_14 rfl rfl ?_
    refine g_get hX fl_X7_42 (by decide) (by decide) dX7_letWeek_15 hF (fun jv31 hF => ?_)
    refine g_get hX fl_X7_228 (by decide) (by decide) dX7_letWeek_18 hF (fun jv32 hF => ?_)
    refine g_iload_n hX 2 dX7_letWeek_21 rfl rfl ?_
    refine g_callV (t := 2) (ci := 1) (rest := []) [(0, jx2)] hX cw_X7_256 rfl (by decide) (by decide) (fun r σ1 h => T_X1_childAt l D dA b0  jv32 jx2 σ σ1 r h) ⟨by decide, by decide⟩ rfl rfl (Nat.le_of_ble_eq_true rfl) dX7_letWeek_22 hF (fun jv33 σ34 hF => ?_)
    refine g_lvp (lv' := [(0, 2, jx0), (1, 0, jx1)]) [0, 1] rfl ?_
    exact T_X7_letWeek_B25 hX hR hnm hQ hE jx0 jx1 jv33  σ34 hF
end

section
variable {p : Program} {l : Launch} {e : Env} {R : Room} {s : State} {m : MethodId} {args : Array Value} {below : List Frame} {meth : Method} {c : Code} {D : va_G} {dA : Nat → ClassId} {b0 n0 m0 nE mE : Nat} {Q : State → Prop}
def F_X7_week (jx0 : Int) (jx1 : Int) (jx2 : Int) (σ : Hp) : Option (Int × Hp) :=
  bd (iv 8 σ jx0 (F_X7_refusalOfWeek  jx0 jx2 σ)) fun jv1 σ2 => bEq jv1 0 ((rd 8 σ2 jx0 0).bind fun jv3 => bd (iv 5 σ2 jv3 (F_X4_mostLets  jv3  σ2)) fun jv4 σ5 => bd (F_X7_isWithin jx1 jv4 σ5) fun jv6 σ7 => bEq jv6 0 (some ((-1), σ7)) ((rd 8 σ7 jx0 0).bind fun jv8 => bd (iv 5 σ7 jv8 (F_X4_allLets  jv8 jx1 σ7)) fun jv9 σ10 => (rd 8 σ10 jx0 0).bind fun jv11 => (rd 8 σ10 jx0 4).bind fun jv12 => bd (iv 3 σ10 jv12 (F_X2_stateNow  jv12  σ10)) fun jv13 σ14 => bd (iv 5 σ14 jv11 (F_X4_mayLet  jv11 jv13 jv9 σ14)) fun jv15 σ16 => bEq jv15 0 (some ((-1), σ16)) (bd (iv 8 σ16 jx0 (F_X7_letWeek  jx0 jv9 jx2 σ16)) fun jv17 σ18 => some (jv17, σ18)))) (some (jv1, σ2))
theorem M_X7_week (jx0 : Int) (jx1 : Int) (jx2 : Int) (σ : Hp) : Mn σ (F_X7_week jx0 jx1 jx2 σ) := by
  unfold F_X7_week
  repeat' first | exact Mn_ret | exact Mn_rz | exact M_X7_refusalOfWeek _ _ _ | exact M_X4_mostLets _ _ | exact M_X7_isWithin _ _ _ | exact M_X4_allLets _ _ _ | exact M_X2_stateNow _ _ | exact M_X4_mayLet _ _ _ _ | exact M_X7_letWeek _ _ _ _ | refine Mn_nm (fun _ => ?_) | refine Mn_nab (fun _ _ => ?_) | refine Mn_nwb (fun _ _ => ?_) | refine Mn_pw (fun _ => ?_) | refine Mn_pz (fun _ => ?_) | refine Mn_aw (fun _ => ?_) | refine Mn_az (fun _ => ?_) | refine Mn_aq (fun _ => ?_) | refine Mn_bo (fun _ => ?_) | refine Mn_bd ?_ (fun _ _ => ?_) | refine Mn_iv ?_ | refine Mn_bLt ?_ ?_ | refine Mn_bLe ?_ ?_ | refine Mn_bEq ?_ ?_ | refine Mn_bN ?_ ?_ | refine Mn_g3 ?_ | refine Mn_g33 ?_ | refine Mn_g66 ?_ | refine Mn_gD ?_
set_option maxRecDepth 100000 in
set_option maxHeartbeats 4000000 in
theorem T_X7_week (l : Launch) (D : va_G) (dA : Nat → ClassId) (b0 : Nat) (jx0 : Int) (jx1 : Int) (jx2 : Int) (σ σE : Hp) (r : Int) (hF : F_X7_week jx0 jx1 jx2 σ = some (r, σE)) : Ct l D dA b0 yX7_week cX7_week 5 (some .int) 4 88 [(2, jx0), (0, jx1), (0, jx2)] σ (some (pV 0 r)) σE := by
  refine Ct.of (lv0 := [(0, 2, jx0), (1, 0, jx1), (2, 0, jx2)]) (by decide) RX7 rfl (Nat.le_of_ble_eq_true rfl) rfl ?_ (M_X7_week jx0 jx1 jx2 σ r σE hF)
  intro p e R s m args below meth c hX hR hnm
  obtain ⟨Q, hQ⟩ : ∃ Q, Q = Qm D dA b0 σ.1 σ.2.1 below args s (some (pV 0 r)) σE := ⟨_, rfl⟩
  rw [← hQ]
  have hE : σE.1 = σE.1 ∧ σE.2.1 = σE.2.1 := ⟨rfl, rfl⟩
  unfold F_X7_week at hF
  refine g_aload_n hX 0 dX7_week_0 rfl rfl ?_
  refine g_iload_n hX 2 dX7_week_1 rfl rfl ?_
  refine g_callV (t := 0) (ci := 7) (rest := []) [(0, jx2)] hX cw_X7_210 rfl (by decide) (by decide) (fun r σ1 h => T_X7_refusalOfWeek l D dA b0  jx0 jx2 σ σ1 r h) ⟨by decide, by decide⟩ rfl rfl (Nat.le_of_ble_eq_true rfl) dX7_week_2 hF (fun jv1 σ2 hF => ?_)
  refine g_istore_n (lv' := [(3, 0, jv1), (0, 2, jx0), (1, 0, jx1), (2, 0, jx2)]) hX dX7_week_5 rfl (by decide) rfl ?_
  refine g_iload_n hX 0 dX7_week_6 rfl rfl ?_
  refine g_if_eq (tgt := 12) hX dX7_week_7 (by decide) hF (fun hc hF => ?_) (fun hc hF => ?_)
  · refine g_iload_n hX 2 dX7_week_12 rfl rfl ?_
    refine g_aload_n hX 1 dX7_week_13 rfl rfl ?_
    refine g_get hX fl_X7_10 (by decide) (by decide) dX7_week_14 hF (fun jv3 hF => ?_)
    refine g_callV (t := 0) (ci := 4) (rest := [(0, jx1)]) [] hX cw_X7_213 rfl (by decide) (by decide) (fun r σ1 h => T_X4_mostLets l D dA b0  jv3  σ2 σ1 r h) ⟨by decide, by decide⟩ rfl rfl (Nat.le_of_ble_eq_true rfl) dX7_week_17 hF (fun jv4 σ5 hF => ?_)
    refine g_callS (t := 0) (rest := []) [(0, jx1), (0, jv4)] hX cw_X7_46 (fun r σ1 h => T_X7_isWithin l D dA b0 jx1 jv4 σ5 σ1 r h) ⟨by decide, by decide⟩ rfl rfl (Nat.le_of_ble_eq_true rfl) dX7_week_20 hF (fun jv6 σ7 hF => ?_)
    refine g_if_ne (tgt := 28) hX dX7_week_23 (by decide) hF (fun hc hF => ?_) (fun hc hF => ?_)
    · refine g_iconst hX dX7_week_26 ?_
      exact g_iret hX hR hQ hE dX7_week_27 hF
    · refine g_aload_n hX 1 dX7_week_28 rfl rfl ?_
      refine g_get hX fl_X7_10 (by decide) (by decide) dX7_week_29 hF (fun jv8 hF => ?_)
      refine g_iload_n hX 2 dX7_week_32 rfl rfl ?_
      refine g_callV (t := 0) (ci := 4) (rest := []) [(0, jx1)] hX cw_X7_216 rfl (by decide) (by decide) (fun r σ1 h => T_X4_allLets l D dA b0  jv8 jx1 σ7 σ1 r h) ⟨by decide, by decide⟩ rfl rfl (Nat.le_of_ble_eq_true rfl) dX7_week_33 hF (fun jv9 σ10 hF => ?_)
      refine g_istore (lv' := [(4, 0, jv9), (3, 0, jv1), (0, 2, jx0), (1, 0, jx1), (2, 0, jx2)]) hX dX7_week_36 (by decide) rfl ?_
      refine g_aload_n hX 2 dX7_week_38 rfl rfl ?_
      refine g_get hX fl_X7_10 (by decide) (by decide) dX7_week_39 hF (fun jv11 hF => ?_)
      refine g_aload_n hX 2 dX7_week_42 rfl rfl ?_
      refine g_get hX fl_X7_42 (by decide) (by decide) dX7_week_43 hF (fun jv12 hF => ?_)
      refine g_callV (t := 0) (ci := 2) (rest := [(2, jv11)]) [] hX cw_X7_219 rfl (by decide) (by decide) (fun r σ1 h => T_X2_stateNow l D dA b0  jv12  σ10 σ1 r h) ⟨by decide, by decide⟩ rfl rfl (Nat.le_of_ble_eq_true rfl) dX7_week_46 hF (fun jv13 σ14 hF => ?_)
      refine g_iload hX 0 dX7_week_49 rfl ?_
      refine g_callV (t := 0) (ci := 4) (rest := []) [(0, jv13), (0, jv9)] hX cw_X7_222 rfl (by decide) (by decide) (fun r σ1 h => T_X4_mayLet l D dA b0  jv11 jv13 jv9 σ14 σ1 r h) ⟨by decide, by decide⟩ rfl rfl (Nat.le_of_ble_eq_true rfl) dX7_week_51 hF (fun jv15 σ16 hF => ?_)
      refine g_if_ne (tgt := 59) hX dX7_week_54 (by decide) hF (fun hc hF => ?_) (fun hc hF => ?_)
      · refine g_iconst hX dX7_week_57 ?_
        exact g_iret hX hR hQ hE dX7_week_58 hF
      · refine g_aload_n hX 2 dX7_week_59 rfl rfl ?_
        refine g_iload hX 0 dX7_week_60 rfl ?_
        refine g_iload_n hX 4 dX7_week_62 rfl rfl ?_
        refine g_callV (t := 0) (ci := 7) (rest := []) [(0, jv9), (0, jx2)] hX cw_X7_225 rfl (by decide) (by decide) (fun r σ1 h => T_X7_letWeek l D dA b0  jx0 jv9 jx2 σ16 σ1 r h) ⟨by decide, by decide⟩ rfl rfl (Nat.le_of_ble_eq_true rfl) dX7_week_63 hF (fun jv17 σ18 hF => ?_)
        exact g_iret hX hR hQ hE dX7_week_66 hF
  · refine g_iload_n hX 0 dX7_week_10 rfl rfl ?_
    exact g_iret hX hR hQ hE dX7_week_11 hF
end

section
variable {p : Program} {l : Launch} {e : Env} {R : Room} {s : State} {m : MethodId} {args : Array Value} {below : List Frame} {meth : Method} {c : Code} {D : va_G} {dA : Nat → ClassId} {b0 n0 m0 nE mE : Nat} {Q : State → Prop}
def F_X7_best (jx0 : Int) (jx1 : Int) (σ : Hp) : Option (Int × Hp) :=
  bd (iv 8 σ jx0 (F_X7_refusalOfWeek  jx0 jx1 σ)) fun jv1 σ2 => bEq jv1 0 ((rd 8 σ2 jx0 2).bind fun jv3 => (rd 8 σ2 jx0 4).bind fun jv4 => (rd 3 σ2 jv4 7).bind fun jv5 => (rd 8 σ2 jx0 4).bind fun jv6 => bd (iv 3 σ2 jv6 (F_X2_stateNow  jv6  σ2)) fun jv7 σ8 => bd (iv 7 σ8 jv3 (F_X6_bestLets  jv3 jv5 jv7 σ8)) fun jv9 σ10 => bd (iv 8 σ10 jx0 (F_X7_letWeek  jx0 jv9 jx1 σ10)) fun jv11 σ12 => some (jv11, σ12)) (some (jv1, σ2))
theorem M_X7_best (jx0 : Int) (jx1 : Int) (σ : Hp) : Mn σ (F_X7_best jx0 jx1 σ) := by
  unfold F_X7_best
  repeat' first | exact Mn_ret | exact Mn_rz | exact M_X7_refusalOfWeek _ _ _ | exact M_X2_stateNow _ _ | exact M_X6_bestLets _ _ _ _ | exact M_X7_letWeek _ _ _ _ | refine Mn_nm (fun _ => ?_) | refine Mn_nab (fun _ _ => ?_) | refine Mn_nwb (fun _ _ => ?_) | refine Mn_pw (fun _ => ?_) | refine Mn_pz (fun _ => ?_) | refine Mn_aw (fun _ => ?_) | refine Mn_az (fun _ => ?_) | refine Mn_aq (fun _ => ?_) | refine Mn_bo (fun _ => ?_) | refine Mn_bd ?_ (fun _ _ => ?_) | refine Mn_iv ?_ | refine Mn_bLt ?_ ?_ | refine Mn_bLe ?_ ?_ | refine Mn_bEq ?_ ?_ | refine Mn_bN ?_ ?_ | refine Mn_g3 ?_ | refine Mn_g33 ?_ | refine Mn_g66 ?_ | refine Mn_gD ?_
set_option maxRecDepth 100000 in
set_option maxHeartbeats 4000000 in
theorem T_X7_best (l : Launch) (D : va_G) (dA : Nat → ClassId) (b0 : Nat) (jx0 : Int) (jx1 : Int) (σ σE : Hp) (r : Int) (hF : F_X7_best jx0 jx1 σ = some (r, σE)) : Ct l D dA b0 yX7_best cX7_best 3 (some .int) 300 11578 [(2, jx0), (0, jx1)] σ (some (pV 0 r)) σE := by
  refine Ct.of (lv0 := [(0, 2, jx0), (1, 0, jx1)]) (by decide) RX7 rfl (Nat.le_of_ble_eq_true rfl) rfl ?_ (M_X7_best jx0 jx1 σ r σE hF)
  intro p e R s m args below meth c hX hR hnm
  obtain ⟨Q, hQ⟩ : ∃ Q, Q = Qm D dA b0 σ.1 σ.2.1 below args s (some (pV 0 r)) σE := ⟨_, rfl⟩
  rw [← hQ]
  have hE : σE.1 = σE.1 ∧ σE.2.1 = σE.2.1 := ⟨rfl, rfl⟩
  unfold F_X7_best at hF
  refine g_aload_n hX 0 dX7_best_0 rfl rfl ?_
  refine g_iload_n hX 1 dX7_best_1 rfl rfl ?_
  refine g_callV (t := 0) (ci := 7) (rest := []) [(0, jx1)] hX cw_X7_210 rfl (by decide) (by decide) (fun r σ1 h => T_X7_refusalOfWeek l D dA b0  jx0 jx1 σ σ1 r h) ⟨by decide, by decide⟩ rfl rfl (Nat.le_of_ble_eq_true rfl) dX7_best_2 hF (fun jv1 σ2 hF => ?_)
  refine g_istore_n (lv' := [(2, 0, jv1), (0, 2, jx0), (1, 0, jx1)]) hX dX7_best_5 rfl (by decide) rfl ?_
  refine g_iload_n hX 0 dX7_best_6 rfl rfl ?_
  refine g_if_eq (tgt := 12) hX dX7_best_7 (by decide) hF (fun hc hF => ?_) (fun hc hF => ?_)
  · refine g_aload_n hX 1 dX7_best_12 rfl rfl ?_
    refine g_aload_n hX 1 dX7_best_13 rfl rfl ?_
    refine g_get hX fl_X7_28 (by decide) (by decide) dX7_best_14 hF (fun jv3 hF => ?_)
    refine g_aload_n hX 1 dX7_best_17 rfl rfl ?_
    refine g_get hX fl_X7_42 (by decide) (by decide) dX7_best_18 hF (fun jv4 hF => ?_)
    refine g_get hX fl_X7_228 (by decide) (by decide) dX7_best_21 hF (fun jv5 hF => ?_)
    refine g_aload_n hX 1 dX7_best_24 rfl rfl ?_
    refine g_get hX fl_X7_42 (by decide) (by decide) dX7_best_25 hF (fun jv6 hF => ?_)
    refine g_callV (t := 0) (ci := 2) (rest := [(2, jv5), (2, jv3), (2, jx0)]) [] hX cw_X7_219 rfl (by decide) (by decide) (fun r σ1 h => T_X2_stateNow l D dA b0  jv6  σ2 σ1 r h) ⟨by decide, by decide⟩ rfl rfl (Nat.le_of_ble_eq_true rfl) dX7_best_28 hF (fun jv7 σ8 hF => ?_)
    refine g_callV (t := 0) (ci := 6) (rest := [(2, jx0)]) [(2, jv5), (0, jv7)] hX cw_X7_163 rfl (by decide) (by decide) (fun r σ1 h => T_X6_bestLets l D dA b0  jv3 jv5 jv7 σ8 σ1 r h) ⟨by decide, by decide⟩ rfl rfl (Nat.le_of_ble_eq_true rfl) dX7_best_31 hF (fun jv9 σ10 hF => ?_)
    refine g_iload_n hX 2 dX7_best_34 rfl rfl ?_
    refine g_callV (t := 0) (ci := 7) (rest := []) [(0, jv9), (0, jx1)] hX cw_X7_225 rfl (by decide) (by decide) (fun r σ1 h => T_X7_letWeek l D dA b0  jx0 jv9 jx1 σ10 σ1 r h) ⟨by decide, by decide⟩ rfl rfl (Nat.le_of_ble_eq_true rfl) dX7_best_35 hF (fun jv11 σ12 hF => ?_)
    exact g_iret hX hR hQ hE dX7_best_38 hF
  · refine g_iload_n hX 0 dX7_best_10 rfl rfl ?_
    exact g_iret hX hR hQ hE dX7_best_11 hF
end

section
variable {p : Program} {l : Launch} {e : Env} {R : Room} {s : State} {m : MethodId} {args : Array Value} {below : List Frame} {meth : Method} {c : Code} {D : va_G} {dA : Nat → ClassId} {b0 n0 m0 nE mE : Nat} {Q : State → Prop}
def F_X7_ruled (jx0 : Int) (jx1 : Int) (σ : Hp) : Option (Int × Hp) :=
  bd (iv 8 σ jx0 (F_X7_refusalOfWeek  jx0 jx1 σ)) fun jv1 σ2 => bEq jv1 0 ((rd 8 σ2 jx0 0).bind fun jv3 => (rd 8 σ2 jx0 4).bind fun jv4 => bd (iv 3 σ2 jv4 (F_X2_stateNow  jv4  σ2)) fun jv5 σ6 => bd (iv 5 σ6 jv3 (F_X4_ruleLets  jv3 jv5 σ6)) fun jv7 σ8 => bd (iv 8 σ8 jx0 (F_X7_letWeek  jx0 jv7 jx1 σ8)) fun jv9 σ10 => some (jv9, σ10)) (some (jv1, σ2))
theorem M_X7_ruled (jx0 : Int) (jx1 : Int) (σ : Hp) : Mn σ (F_X7_ruled jx0 jx1 σ) := by
  unfold F_X7_ruled
  repeat' first | exact Mn_ret | exact Mn_rz | exact M_X7_refusalOfWeek _ _ _ | exact M_X2_stateNow _ _ | exact M_X4_ruleLets _ _ _ | exact M_X7_letWeek _ _ _ _ | refine Mn_nm (fun _ => ?_) | refine Mn_nab (fun _ _ => ?_) | refine Mn_nwb (fun _ _ => ?_) | refine Mn_pw (fun _ => ?_) | refine Mn_pz (fun _ => ?_) | refine Mn_aw (fun _ => ?_) | refine Mn_az (fun _ => ?_) | refine Mn_aq (fun _ => ?_) | refine Mn_bo (fun _ => ?_) | refine Mn_bd ?_ (fun _ _ => ?_) | refine Mn_iv ?_ | refine Mn_bLt ?_ ?_ | refine Mn_bLe ?_ ?_ | refine Mn_bEq ?_ ?_ | refine Mn_bN ?_ ?_ | refine Mn_g3 ?_ | refine Mn_g33 ?_ | refine Mn_g66 ?_ | refine Mn_gD ?_
set_option maxRecDepth 100000 in
set_option maxHeartbeats 4000000 in
theorem T_X7_ruled (l : Launch) (D : va_G) (dA : Nat → ClassId) (b0 : Nat) (jx0 : Int) (jx1 : Int) (σ σE : Hp) (r : Int) (hF : F_X7_ruled jx0 jx1 σ = some (r, σE)) : Ct l D dA b0 yX7_ruled cX7_ruled 3 (some .int) 5 108 [(2, jx0), (0, jx1)] σ (some (pV 0 r)) σE := by
  refine Ct.of (lv0 := [(0, 2, jx0), (1, 0, jx1)]) (by decide) RX7 rfl (Nat.le_of_ble_eq_true rfl) rfl ?_ (M_X7_ruled jx0 jx1 σ r σE hF)
  intro p e R s m args below meth c hX hR hnm
  obtain ⟨Q, hQ⟩ : ∃ Q, Q = Qm D dA b0 σ.1 σ.2.1 below args s (some (pV 0 r)) σE := ⟨_, rfl⟩
  rw [← hQ]
  have hE : σE.1 = σE.1 ∧ σE.2.1 = σE.2.1 := ⟨rfl, rfl⟩
  unfold F_X7_ruled at hF
  refine g_aload_n hX 0 dX7_ruled_0 rfl rfl ?_
  refine g_iload_n hX 1 dX7_ruled_1 rfl rfl ?_
  refine g_callV (t := 0) (ci := 7) (rest := []) [(0, jx1)] hX cw_X7_210 rfl (by decide) (by decide) (fun r σ1 h => T_X7_refusalOfWeek l D dA b0  jx0 jx1 σ σ1 r h) ⟨by decide, by decide⟩ rfl rfl (Nat.le_of_ble_eq_true rfl) dX7_ruled_2 hF (fun jv1 σ2 hF => ?_)
  refine g_istore_n (lv' := [(2, 0, jv1), (0, 2, jx0), (1, 0, jx1)]) hX dX7_ruled_5 rfl (by decide) rfl ?_
  refine g_iload_n hX 0 dX7_ruled_6 rfl rfl ?_
  refine g_if_eq (tgt := 12) hX dX7_ruled_7 (by decide) hF (fun hc hF => ?_) (fun hc hF => ?_)
  · refine g_aload_n hX 1 dX7_ruled_12 rfl rfl ?_
    refine g_aload_n hX 1 dX7_ruled_13 rfl rfl ?_
    refine g_get hX fl_X7_10 (by decide) (by decide) dX7_ruled_14 hF (fun jv3 hF => ?_)
    refine g_aload_n hX 1 dX7_ruled_17 rfl rfl ?_
    refine g_get hX fl_X7_42 (by decide) (by decide) dX7_ruled_18 hF (fun jv4 hF => ?_)
    refine g_callV (t := 0) (ci := 2) (rest := [(2, jv3), (2, jx0)]) [] hX cw_X7_219 rfl (by decide) (by decide) (fun r σ1 h => T_X2_stateNow l D dA b0  jv4  σ2 σ1 r h) ⟨by decide, by decide⟩ rfl rfl (Nat.le_of_ble_eq_true rfl) dX7_ruled_21 hF (fun jv5 σ6 hF => ?_)
    refine g_callV (t := 0) (ci := 4) (rest := [(2, jx0)]) [(0, jv5)] hX cw_X7_231 rfl (by decide) (by decide) (fun r σ1 h => T_X4_ruleLets l D dA b0  jv3 jv5 σ6 σ1 r h) ⟨by decide, by decide⟩ rfl rfl (Nat.le_of_ble_eq_true rfl) dX7_ruled_24 hF (fun jv7 σ8 hF => ?_)
    refine g_iload_n hX 2 dX7_ruled_27 rfl rfl ?_
    refine g_callV (t := 0) (ci := 7) (rest := []) [(0, jv7), (0, jx1)] hX cw_X7_225 rfl (by decide) (by decide) (fun r σ1 h => T_X7_letWeek l D dA b0  jx0 jv7 jx1 σ8 σ1 r h) ⟨by decide, by decide⟩ rfl rfl (Nat.le_of_ble_eq_true rfl) dX7_ruled_28 hF (fun jv9 σ10 hF => ?_)
    exact g_iret hX hR hQ hE dX7_ruled_31 hF
  · refine g_iload_n hX 0 dX7_ruled_10 rfl rfl ?_
    exact g_iret hX hR hQ hE dX7_ruled_11 hF
end

section
variable {p : Program} {l : Launch} {e : Env} {R : Room} {s : State} {m : MethodId} {args : Array Value} {below : List Frame} {meth : Method} {c : Code} {D : va_G} {dA : Nat → ClassId} {b0 n0 m0 nE mE : Nat} {Q : State → Prop}
def F_X7_undo (jx0 : Int) (σ : Hp) : Option (Int × Hp) :=
  (rd 8 σ jx0 4).bind fun jv1 => (rd 3 σ jv1 5).bind fun jv2 => bEq jv2 0 (some ((-6), σ)) ((rd 8 σ jx0 4).bind fun jv3 => (rd 3 σ jv3 6).bind fun jv4 => bLt jv4 1 (some ((-6), σ)) ((rd 8 σ jx0 4).bind fun jv5 => (rd 3 σ jv5 7).bind fun jv6 => bN jv6 (some ((-6), σ)) ((rd 8 σ jx0 4).bind fun jv7 => (rd 3 σ jv7 7).bind fun jv8 => (rd 2 σ jv8 3).bind fun jv9 => bN jv9 (some ((-6), σ)) ((rd 8 σ jx0 4).bind fun jv10 => (rd 3 σ jv10 6).bind fun jv11 => (pw 3 σ jv10 6 (jv11 - 1)).bind fun σ12 => (rd 8 σ12 jx0 4).bind fun jv13 => (rd 8 σ12 jx0 4).bind fun jv14 => (rd 3 σ12 jv14 7).bind fun jv15 => (rd 2 σ12 jv15 3).bind fun jv16 => (pw 3 σ12 jv13 7 jv16).bind fun σ17 => (rd 8 σ17 jx0 4).bind fun jv18 => (rd 3 σ17 jv18 7).bind fun jv19 => (rd 2 σ17 jv19 5).bind fun jv20 => some (jv20, σ17)))))
theorem M_X7_undo (jx0 : Int) (σ : Hp) : Mn σ (F_X7_undo jx0 σ) := by
  unfold F_X7_undo
  repeat' first | exact Mn_ret | exact Mn_rz | refine Mn_nm (fun _ => ?_) | refine Mn_nab (fun _ _ => ?_) | refine Mn_nwb (fun _ _ => ?_) | refine Mn_pw (fun _ => ?_) | refine Mn_pz (fun _ => ?_) | refine Mn_aw (fun _ => ?_) | refine Mn_az (fun _ => ?_) | refine Mn_aq (fun _ => ?_) | refine Mn_bo (fun _ => ?_) | refine Mn_bd ?_ (fun _ _ => ?_) | refine Mn_iv ?_ | refine Mn_bLt ?_ ?_ | refine Mn_bLe ?_ ?_ | refine Mn_bEq ?_ ?_ | refine Mn_bN ?_ ?_ | refine Mn_g3 ?_ | refine Mn_g33 ?_ | refine Mn_g66 ?_ | refine Mn_gD ?_
set_option maxRecDepth 100000 in
set_option maxHeartbeats 4000000 in
theorem T_X7_undo (l : Launch) (D : va_G) (dA : Nat → ClassId) (b0 : Nat) (jx0 : Int) (σ σE : Hp) (r : Int) (hF : F_X7_undo jx0 σ = some (r, σE)) : Ct l D dA b0 yX7_undo cX7_undo 1 (some .int) 0 0 [(2, jx0)] σ (some (pV 0 r)) σE := by
  refine Ct.of (lv0 := [(0, 2, jx0)]) (by decide) RX7 rfl (Nat.le_of_ble_eq_true rfl) rfl ?_ (M_X7_undo jx0 σ r σE hF)
  intro p e R s m args below meth c hX hR hnm
  obtain ⟨Q, hQ⟩ : ∃ Q, Q = Qm D dA b0 σ.1 σ.2.1 below args s (some (pV 0 r)) σE := ⟨_, rfl⟩
  rw [← hQ]
  have hE : σE.1 = σE.1 ∧ σE.2.1 = σE.2.1 := ⟨rfl, rfl⟩
  unfold F_X7_undo at hF
  refine g_aload_n hX 0 dX7_undo_0 rfl rfl ?_
  refine g_get hX fl_X7_42 (by decide) (by decide) dX7_undo_1 hF (fun jv1 hF => ?_)
  refine g_get hX fl_X7_57 (by decide) (by decide) dX7_undo_4 hF (fun jv2 hF => ?_)
  refine g_if_eq (tgt := 44) hX dX7_undo_7 (by decide) hF (fun hc hF => ?_) (fun hc hF => ?_)
  · refine g_bipush hX dX7_undo_44 (by decide) ?_
    exact g_iret hX hR hQ hE dX7_undo_46 hF
  · refine g_aload_n hX 0 dX7_undo_10 rfl rfl ?_
    refine g_get hX fl_X7_42 (by decide) (by decide) dX7_undo_11 hF (fun jv3 hF => ?_)
    refine g_get hX fl_X7_234 (by decide) (by decide) dX7_undo_14 hF (fun jv4 hF => ?_)
    refine g_iconst hX dX7_undo_17 ?_
    refine g_icmp_lt (tgt := 44) hX dX7_undo_18 (by decide) hF (fun hc hF => ?_) (fun hc hF => ?_)
    · refine g_bipush hX dX7_undo_44 (by decide) ?_
      exact g_iret hX hR hQ hE dX7_undo_46 hF
    · refine g_aload_n hX 0 dX7_undo_21 rfl rfl ?_
      refine g_get hX fl_X7_42 (by decide) (by decide) dX7_undo_22 hF (fun jv5 hF => ?_)
      refine g_get hX fl_X7_228 (by decide) (by decide) dX7_undo_25 hF (fun jv6 hF => ?_)
      refine g_ifnull (tgt := 44) hX dX7_undo_28 (by decide) hF (fun hc hF => ?_) (fun hc hF => ?_)
      · refine g_bipush hX dX7_undo_44 (by decide) ?_
        exact g_iret hX hR hQ hE dX7_undo_46 hF
      · refine g_aload_n hX 0 dX7_undo_31 rfl rfl ?_
        refine g_get hX fl_X7_42 (by decide) (by decide) dX7_undo_32 hF (fun jv7 hF => ?_)
        refine g_get hX fl_X7_228 (by decide) (by decide) dX7_undo_35 hF (fun jv8 hF => ?_)
        refine g_get hX fl_X7_133 (by decide) (by decide) dX7_undo_38 hF (fun jv9 hF => ?_)
        refine g_ifnonnull (tgt := 47) hX dX7_undo_41 (by decide) hF (fun hc hF => ?_) (fun hc hF => ?_)
        · refine g_bipush hX dX7_undo_44 (by decide) ?_
          exact g_iret hX hR hQ hE dX7_undo_46 hF
        · refine g_aload_n hX 0 dX7_undo_47 rfl rfl ?_
          refine g_get hX fl_X7_42 (by decide) (by decide) dX7_undo_48 hF (fun jv10 hF => ?_)
          refine g_dup hX dX7_undo_51 (by decide) ?_
          refine g_get hX fl_X7_234 (by decide) (by decide) dX7_undo_52 hF (fun jv11 hF => ?_)
          refine g_iconst hX dX7_undo_55 ?_
          refine g_isub hX dX7_undo_56 ?_
          refine u_put hX fp_X7_234 (by decide) (by decide) dX7_undo_57 hF (fun σ12 hF => ?_)
          refine g_aload_n hX 0 dX7_undo_60 rfl rfl ?_
          refine g_get hX fl_X7_42 (by decide) (by decide) dX7_undo_61 hF (fun jv13 hF => ?_)
          refine g_aload_n hX 0 dX7_undo_64 rfl rfl ?_
          refine g_get hX fl_X7_42 (by decide) (by decide) dX7_undo_65 hF (fun jv14 hF => ?_)
          refine g_get hX fl_X7_228 (by decide) (by decide) dX7_undo_68 hF (fun jv15 hF => ?_)
          refine g_get hX fl_X7_133 (by decide) (by decide) dX7_undo_71 hF (fun jv16 hF => ?_)
          refine u_put hX fp_X7_228 (by decide) (by decide) dX7_undo_74 hF (fun σ17 hF => ?_)
          refine g_aload_n hX 0 dX7_undo_77 rfl rfl ?_
          refine g_get hX fl_X7_42 (by decide) (by decide) dX7_undo_78 hF (fun jv18 hF => ?_)
          refine g_get hX fl_X7_228 (by decide) (by decide) dX7_undo_81 hF (fun jv19 hF => ?_)
          refine g_get hX fl_X7_140 (by decide) (by decide) dX7_undo_84 hF (fun jv20 hF => ?_)
          exact g_iret hX hR hQ hE dX7_undo_87 hF
end

section
variable {p : Program} {l : Launch} {e : Env} {R : Room} {s : State} {m : MethodId} {args : Array Value} {below : List Frame} {meth : Method} {c : Code} {D : va_G} {dA : Nat → ClassId} {b0 n0 m0 nE mE : Nat} {Q : State → Prop}
def F_X7_stop (jx0 : Int) (σ : Hp) : Option (Int × Hp) :=
  (rd 8 σ jx0 4).bind fun jv1 => (rd 3 σ jv1 5).bind fun jv2 => bEq jv2 0 (some (0, σ)) ((rd 8 σ jx0 4).bind fun jv3 => (pz 3 σ jv3 5 0).bind fun σ4 => some (1, σ4))
theorem M_X7_stop (jx0 : Int) (σ : Hp) : Mn σ (F_X7_stop jx0 σ) := by
  unfold F_X7_stop
  repeat' first | exact Mn_ret | exact Mn_rz | refine Mn_nm (fun _ => ?_) | refine Mn_nab (fun _ _ => ?_) | refine Mn_nwb (fun _ _ => ?_) | refine Mn_pw (fun _ => ?_) | refine Mn_pz (fun _ => ?_) | refine Mn_aw (fun _ => ?_) | refine Mn_az (fun _ => ?_) | refine Mn_aq (fun _ => ?_) | refine Mn_bo (fun _ => ?_) | refine Mn_bd ?_ (fun _ _ => ?_) | refine Mn_iv ?_ | refine Mn_bLt ?_ ?_ | refine Mn_bLe ?_ ?_ | refine Mn_bEq ?_ ?_ | refine Mn_bN ?_ ?_ | refine Mn_g3 ?_ | refine Mn_g33 ?_ | refine Mn_g66 ?_ | refine Mn_gD ?_
set_option maxRecDepth 100000 in
set_option maxHeartbeats 4000000 in
theorem T_X7_stop (l : Launch) (D : va_G) (dA : Nat → ClassId) (b0 : Nat) (jx0 : Int) (σ σE : Hp) (r : Int) (hF : F_X7_stop jx0 σ = some (r, σE)) : Ct l D dA b0 yX7_stop cX7_stop 1 (some .int) 0 0 [(2, jx0)] σ (some (pV 0 r)) σE := by
  refine Ct.of (lv0 := [(0, 2, jx0)]) (by decide) RX7 rfl (Nat.le_of_ble_eq_true rfl) rfl ?_ (M_X7_stop jx0 σ r σE hF)
  intro p e R s m args below meth c hX hR hnm
  obtain ⟨Q, hQ⟩ : ∃ Q, Q = Qm D dA b0 σ.1 σ.2.1 below args s (some (pV 0 r)) σE := ⟨_, rfl⟩
  rw [← hQ]
  have hE : σE.1 = σE.1 ∧ σE.2.1 = σE.2.1 := ⟨rfl, rfl⟩
  unfold F_X7_stop at hF
  refine g_aload_n hX 0 dX7_stop_0 rfl rfl ?_
  refine g_get hX fl_X7_42 (by decide) (by decide) dX7_stop_1 hF (fun jv1 hF => ?_)
  refine g_get hX fl_X7_57 (by decide) (by decide) dX7_stop_4 hF (fun jv2 hF => ?_)
  refine g_if_ne (tgt := 12) hX dX7_stop_7 (by decide) hF (fun hc hF => ?_) (fun hc hF => ?_)
  · refine g_iconst hX dX7_stop_10 ?_
    exact g_iret hX hR hQ hE dX7_stop_11 hF
  · refine g_aload_n hX 0 dX7_stop_12 rfl rfl ?_
    refine g_get hX fl_X7_42 (by decide) (by decide) dX7_stop_13 hF (fun jv3 hF => ?_)
    refine g_iconst hX dX7_stop_16 ?_
    refine u_putZ hX fp_X7_57 (by decide) (by decide) dX7_stop_17 hF (fun σ4 hF => ?_)
    refine g_iconst hX dX7_stop_20 ?_
    exact g_iret hX hR hQ hE dX7_stop_21 hF
end

section
variable {p : Program} {l : Launch} {e : Env} {R : Room} {s : State} {m : MethodId} {args : Array Value} {below : List Frame} {meth : Method} {c : Code} {D : va_G} {dA : Nat → ClassId} {b0 n0 m0 nE mE : Nat} {Q : State → Prop}
def F_X7_now (jx0 : Int) (jx1 : Int) (σ : Hp) : Option (Int × Hp) :=
  (rd 8 σ jx0 4).bind fun jv1 => (rd 3 σ jv1 5).bind fun jv2 => bEq jv2 0 (some ((-6), σ)) ((rd 8 σ jx0 4).bind fun jv3 => (rd 3 σ jv3 7).bind fun jv4 => bN jv4 (some ((-6), σ)) (bEq jx1 0 ((rd 8 σ jx0 4).bind fun jv5 => (rd 3 σ jv5 7).bind fun jv6 => (rd 2 σ jv6 0).bind fun jv7 => some (jv7, σ)) (bEq jx1 1 ((rd 8 σ jx0 4).bind fun jv8 => bd (iv 3 σ jv8 (F_X2_stateNow  jv8  σ)) fun jv9 σ10 => some (jv9, σ10)) (bEq jx1 2 ((rd 8 σ jx0 4).bind fun jv11 => (rd 8 σ jx0 4).bind fun jv12 => (rd 3 σ jv12 1).bind fun jv13 => bd (iv 3 σ jv11 (F_X2_toldNow  jv11 jv13 σ)) fun jv14 σ15 => some (jv14, σ15)) (bEq jx1 3 ((rd 8 σ jx0 4).bind fun jv16 => (rd 8 σ jx0 4).bind fun jv17 => (rd 3 σ jv17 2).bind fun jv18 => bd (iv 3 σ jv16 (F_X2_toldNow  jv16 jv18 σ)) fun jv19 σ20 => some (jv19, σ20)) (bEq jx1 4 ((rd 8 σ jx0 4).bind fun jv21 => (rd 8 σ jx0 4).bind fun jv22 => (rd 3 σ jv22 3).bind fun jv23 => bd (iv 3 σ jv21 (F_X2_toldNow  jv21 jv23 σ)) fun jv24 σ25 => some (jv24, σ25)) (bEq jx1 5 ((rd 8 σ jx0 4).bind fun jv26 => (rd 8 σ jx0 4).bind fun jv27 => (rd 3 σ jv27 4).bind fun jv28 => bd (iv 3 σ jv26 (F_X2_toldNow  jv26 jv28 σ)) fun jv29 σ30 => some (jv29, σ30)) (bEq jx1 6 ((rd 8 σ jx0 4).bind fun jv31 => (rd 3 σ jv31 6).bind fun jv32 => some (jv32, σ)) (some ((-1), σ))))))))))
theorem M_X7_now (jx0 : Int) (jx1 : Int) (σ : Hp) : Mn σ (F_X7_now jx0 jx1 σ) := by
  unfold F_X7_now
  repeat' first | exact Mn_ret | exact Mn_rz | exact M_X2_stateNow _ _ | exact M_X2_toldNow _ _ _ | refine Mn_nm (fun _ => ?_) | refine Mn_nab (fun _ _ => ?_) | refine Mn_nwb (fun _ _ => ?_) | refine Mn_pw (fun _ => ?_) | refine Mn_pz (fun _ => ?_) | refine Mn_aw (fun _ => ?_) | refine Mn_az (fun _ => ?_) | refine Mn_aq (fun _ => ?_) | refine Mn_bo (fun _ => ?_) | refine Mn_bd ?_ (fun _ _ => ?_) | refine Mn_iv ?_ | refine Mn_bLt ?_ ?_ | refine Mn_bLe ?_ ?_ | refine Mn_bEq ?_ ?_ | refine Mn_bN ?_ ?_ | refine Mn_g3 ?_ | refine Mn_g33 ?_ | refine Mn_g66 ?_ | refine Mn_gD ?_
set_option maxRecDepth 100000 in
set_option maxHeartbeats 4000000 in
theorem T_X7_now (l : Launch) (D : va_G) (dA : Nat → ClassId) (b0 : Nat) (jx0 : Int) (jx1 : Int) (σ σE : Hp) (r : Int) (hF : F_X7_now jx0 jx1 σ = some (r, σE)) : Ct l D dA b0 yX7_now cX7_now 2 (some .int) 2 41 [(2, jx0), (0, jx1)] σ (some (pV 0 r)) σE := by
  refine Ct.of (lv0 := [(0, 2, jx0), (1, 0, jx1)]) (by decide) RX7 rfl (Nat.le_of_ble_eq_true rfl) rfl ?_ (M_X7_now jx0 jx1 σ r σE hF)
  intro p e R s m args below meth c hX hR hnm
  obtain ⟨Q, hQ⟩ : ∃ Q, Q = Qm D dA b0 σ.1 σ.2.1 below args s (some (pV 0 r)) σE := ⟨_, rfl⟩
  rw [← hQ]
  have hE : σE.1 = σE.1 ∧ σE.2.1 = σE.2.1 := ⟨rfl, rfl⟩
  unfold F_X7_now at hF
  refine g_aload_n hX 0 dX7_now_0 rfl rfl ?_
  refine g_get hX fl_X7_42 (by decide) (by decide) dX7_now_1 hF (fun jv1 hF => ?_)
  refine g_get hX fl_X7_57 (by decide) (by decide) dX7_now_4 hF (fun jv2 hF => ?_)
  refine g_if_eq (tgt := 20) hX dX7_now_7 (by decide) hF (fun hc hF => ?_) (fun hc hF => ?_)
  · refine g_bipush hX dX7_now_20 (by decide) ?_
    exact g_iret hX hR hQ hE dX7_now_22 hF
  · refine g_aload_n hX 0 dX7_now_10 rfl rfl ?_
    refine g_get hX fl_X7_42 (by decide) (by decide) dX7_now_11 hF (fun jv3 hF => ?_)
    refine g_get hX fl_X7_228 (by decide) (by decide) dX7_now_14 hF (fun jv4 hF => ?_)
    refine g_ifnonnull (tgt := 23) hX dX7_now_17 (by decide) hF (fun hc hF => ?_) (fun hc hF => ?_)
    · refine g_bipush hX dX7_now_20 (by decide) ?_
      exact g_iret hX hR hQ hE dX7_now_22 hF
    · refine g_iload_n hX 1 dX7_now_23 rfl rfl ?_
      obtain ⟨rx, -, ⟨hc, hF⟩ | ⟨hc0, hF⟩⟩ := bEq_spec hF
      · refine g_tsIn (tgt := 68) hX 0 dX7_now_24 hc (by decide) (by decide) (by decide) rfl (by decide) ?_
        refine g_aload_n hX 0 dX7_now_68 rfl rfl ?_
        refine g_get hX fl_X7_42 (by decide) (by decide) dX7_now_69 hF (fun jv5 hF => ?_)
        refine g_get hX fl_X7_228 (by decide) (by decide) dX7_now_72 hF (fun jv6 hF => ?_)
        refine g_get hX fl_X7_130 (by decide) (by decide) dX7_now_75 hF (fun jv7 hF => ?_)
        exact g_iret hX hR hQ hE dX7_now_78 hF
      obtain ⟨rx, -, ⟨hc, hF⟩ | ⟨hc1, hF⟩⟩ := bEq_spec hF
      · refine g_tsIn (tgt := 79) hX 1 dX7_now_24 hc (by decide) (by decide) (by decide) rfl (by decide) ?_
        refine g_aload_n hX 0 dX7_now_79 rfl rfl ?_
        refine g_get hX fl_X7_42 (by decide) (by decide) dX7_now_80 hF (fun jv8 hF => ?_)
        refine g_callV (t := 0) (ci := 2) (rest := []) [] hX cw_X7_219 rfl (by decide) (by decide) (fun r σ1 h => T_X2_stateNow l D dA b0  jv8  σ σ1 r h) ⟨by decide, by decide⟩ rfl rfl (Nat.le_of_ble_eq_true rfl) dX7_now_83 hF (fun jv9 σ10 hF => ?_)
        exact g_iret hX hR hQ hE dX7_now_86 hF
      obtain ⟨rx, -, ⟨hc, hF⟩ | ⟨hc2, hF⟩⟩ := bEq_spec hF
      · refine g_tsIn (tgt := 87) hX 2 dX7_now_24 hc (by decide) (by decide) (by decide) rfl (by decide) ?_
        refine g_aload_n hX 0 dX7_now_87 rfl rfl ?_
        refine g_get hX fl_X7_42 (by decide) (by decide) dX7_now_88 hF (fun jv11 hF => ?_)
        refine g_aload_n hX 0 dX7_now_91 rfl rfl ?_
        refine g_get hX fl_X7_42 (by decide) (by decide) dX7_now_92 hF (fun jv12 hF => ?_)
        refine g_get hX fl_X7_237 (by decide) (by decide) dX7_now_95 hF (fun jv13 hF => ?_)
        refine g_callV (t := 0) (ci := 2) (rest := []) [(2, jv13)] hX cw_X7_240 rfl (by decide) (by decide) (fun r σ1 h => T_X2_toldNow l D dA b0  jv11 jv13 σ σ1 r h) ⟨by decide, by decide⟩ rfl rfl (Nat.le_of_ble_eq_true rfl) dX7_now_98 hF (fun jv14 σ15 hF => ?_)
        exact g_iret hX hR hQ hE dX7_now_101 hF
      obtain ⟨rx, -, ⟨hc, hF⟩ | ⟨hc3, hF⟩⟩ := bEq_spec hF
      · refine g_tsIn (tgt := 102) hX 3 dX7_now_24 hc (by decide) (by decide) (by decide) rfl (by decide) ?_
        refine g_aload_n hX 0 dX7_now_102 rfl rfl ?_
        refine g_get hX fl_X7_42 (by decide) (by decide) dX7_now_103 hF (fun jv16 hF => ?_)
        refine g_aload_n hX 0 dX7_now_106 rfl rfl ?_
        refine g_get hX fl_X7_42 (by decide) (by decide) dX7_now_107 hF (fun jv17 hF => ?_)
        refine g_get hX fl_X7_244 (by decide) (by decide) dX7_now_110 hF (fun jv18 hF => ?_)
        refine g_callV (t := 0) (ci := 2) (rest := []) [(2, jv18)] hX cw_X7_240 rfl (by decide) (by decide) (fun r σ1 h => T_X2_toldNow l D dA b0  jv16 jv18 σ σ1 r h) ⟨by decide, by decide⟩ rfl rfl (Nat.le_of_ble_eq_true rfl) dX7_now_113 hF (fun jv19 σ20 hF => ?_)
        exact g_iret hX hR hQ hE dX7_now_116 hF
      obtain ⟨rx, -, ⟨hc, hF⟩ | ⟨hc4, hF⟩⟩ := bEq_spec hF
      · refine g_tsIn (tgt := 117) hX 4 dX7_now_24 hc (by decide) (by decide) (by decide) rfl (by decide) ?_
        refine g_aload_n hX 0 dX7_now_117 rfl rfl ?_
        refine g_get hX fl_X7_42 (by decide) (by decide) dX7_now_118 hF (fun jv21 hF => ?_)
        refine g_aload_n hX 0 dX7_now_121 rfl rfl ?_
        refine g_get hX fl_X7_42 (by decide) (by decide) dX7_now_122 hF (fun jv22 hF => ?_)
        refine g_get hX fl_X7_247 (by decide) (by decide) dX7_now_125 hF (fun jv23 hF => ?_)
        refine g_callV (t := 0) (ci := 2) (rest := []) [(2, jv23)] hX cw_X7_240 rfl (by decide) (by decide) (fun r σ1 h => T_X2_toldNow l D dA b0  jv21 jv23 σ σ1 r h) ⟨by decide, by decide⟩ rfl rfl (Nat.le_of_ble_eq_true rfl) dX7_now_128 hF (fun jv24 σ25 hF => ?_)
        exact g_iret hX hR hQ hE dX7_now_131 hF
      obtain ⟨rx, -, ⟨hc, hF⟩ | ⟨hc5, hF⟩⟩ := bEq_spec hF
      · refine g_tsIn (tgt := 132) hX 5 dX7_now_24 hc (by decide) (by decide) (by decide) rfl (by decide) ?_
        refine g_aload_n hX 0 dX7_now_132 rfl rfl ?_
        refine g_get hX fl_X7_42 (by decide) (by decide) dX7_now_133 hF (fun jv26 hF => ?_)
        refine g_aload_n hX 0 dX7_now_136 rfl rfl ?_
        refine g_get hX fl_X7_42 (by decide) (by decide) dX7_now_137 hF (fun jv27 hF => ?_)
        refine g_get hX fl_X7_250 (by decide) (by decide) dX7_now_140 hF (fun jv28 hF => ?_)
        refine g_callV (t := 0) (ci := 2) (rest := []) [(2, jv28)] hX cw_X7_240 rfl (by decide) (by decide) (fun r σ1 h => T_X2_toldNow l D dA b0  jv26 jv28 σ σ1 r h) ⟨by decide, by decide⟩ rfl rfl (Nat.le_of_ble_eq_true rfl) dX7_now_143 hF (fun jv29 σ30 hF => ?_)
        exact g_iret hX hR hQ hE dX7_now_146 hF
      obtain ⟨rx, -, ⟨hc, hF⟩ | ⟨hc6, hF⟩⟩ := bEq_spec hF
      · refine g_tsIn (tgt := 147) hX 6 dX7_now_24 hc (by decide) (by decide) (by decide) rfl (by decide) ?_
        refine g_aload_n hX 0 dX7_now_147 rfl rfl ?_
        refine g_get hX fl_X7_42 (by decide) (by decide) dX7_now_148 hF (fun jv31 hF => ?_)
        refine g_get hX fl_X7_234 (by decide) (by decide) dX7_now_151 hF (fun jv32 hF => ?_)
        exact g_iret hX hR hQ hE dX7_now_154 hF
      refine g_tsOut (tgt := 155) hX dX7_now_24 rx (by omega) (by decide) ?_
      refine g_iconst hX dX7_now_155 ?_
      exact g_iret hX hR hQ hE dX7_now_156 hF
end
