section
variable {p : Program} {l : Launch} {e : Env} {R : Room} {s : State} {m : MethodId} {args : Array Value} {below : List Frame} {meth : Method} {c : Code} {D : va_G} {dA : Nat → ClassId} {b0 n0 m0 nE mE : Nat} {Q : State → Prop}
def F_X6_bestLets (jx0 : Int) (jx1 : Int) (jx2 : Int) (σ : Hp) : Option (Int × Hp) :=
  bd (iv 7 σ jx0 (F_X6_refresh  jx0 jx1 σ)) fun jv1 σ2 => (rd 7 σ2 jx0 1).bind fun jv3 => bd (iv 4 σ2 jv3 (F_X3_weeksLeft  jv3 jx1 σ2)) fun jv4 σ5 => bd (iv 7 σ5 jx0 (F_X6_searchBest_D jx0 jx1 jx2 jv4 σ5)) fun jv6 σ7 => (rd 7 σ7 jx0 3).bind fun jv8 => some (jv8, σ7)
theorem M_X6_bestLets (jx0 : Int) (jx1 : Int) (jx2 : Int) (σ : Hp) : Mn σ (F_X6_bestLets jx0 jx1 jx2 σ) := by
  unfold F_X6_bestLets
  repeat' first | exact Mn_ret | exact Mn_rz | exact M_X6_refresh _ _ _ | exact M_X3_weeksLeft _ _ _ | exact M_X6_searchBest_D _ _ _ _ _ | refine Mn_nm (fun _ => ?_) | refine Mn_nab (fun _ _ => ?_) | refine Mn_nwb (fun _ _ => ?_) | refine Mn_pw (fun _ => ?_) | refine Mn_pz (fun _ => ?_) | refine Mn_aw (fun _ => ?_) | refine Mn_az (fun _ => ?_) | refine Mn_aq (fun _ => ?_) | refine Mn_bo (fun _ => ?_) | refine Mn_bd ?_ (fun _ _ => ?_) | refine Mn_iv ?_ | refine Mn_bLt ?_ ?_ | refine Mn_bLe ?_ ?_ | refine Mn_bEq ?_ ?_ | refine Mn_bN ?_ ?_ | refine Mn_g3 ?_ | refine Mn_g33 ?_ | refine Mn_g66 ?_ | refine Mn_gD ?_
set_option maxRecDepth 100000 in
set_option maxHeartbeats 4000000 in
theorem T_X6_bestLets (l : Launch) (D : va_G) (dA : Nat → ClassId) (b0 : Nat) (jx0 : Int) (jx1 : Int) (jx2 : Int) (σ σE : Hp) (r : Int) (hF : F_X6_bestLets jx0 jx1 jx2 σ = some (r, σE)) : Ct l D dA b0 yX6_bestLets cX6_bestLets 3 (some .int) 299 11556 [(2, jx0), (2, jx1), (0, jx2)] σ (some (pV 0 r)) σE := by
  refine Ct.of (lv0 := [(0, 2, jx0), (1, 2, jx1), (2, 0, jx2)]) (by decide) RX6 rfl (Nat.le_of_ble_eq_true rfl) rfl ?_ (M_X6_bestLets jx0 jx1 jx2 σ r σE hF)
  intro p e R s m args below meth c hX hR hnm
  obtain ⟨Q, hQ⟩ : ∃ Q, Q = Qm D dA b0 σ.1 σ.2.1 below args s (some (pV 0 r)) σE := ⟨_, rfl⟩
  rw [← hQ]
  have hE : σE.1 = σE.1 ∧ σE.2.1 = σE.2.1 := ⟨rfl, rfl⟩
  unfold F_X6_bestLets at hF
  refine g_aload_n hX 0 dX6_bestLets_0 rfl rfl ?_
  refine g_aload_n hX 1 dX6_bestLets_1 rfl rfl ?_
  refine g_callVv (ci := 6) (rest := []) [(2, jx1)] hX cw_X6_21 rfl (by decide) (by decide) (fun r σ1 h => T_X6_refresh l D dA b0  jx0 jx1 σ σ1 r h) ⟨by decide, by decide⟩ rfl rfl (Nat.le_of_ble_eq_true rfl) dX6_bestLets_2 hF (fun jv1 σ2 hF => ?_)
  refine g_aload_n hX 0 dX6_bestLets_5 rfl rfl ?_
  refine g_aload_n hX 1 dX6_bestLets_6 rfl rfl ?_
  refine g_iload_n hX 2 dX6_bestLets_7 rfl rfl ?_
  refine g_aload_n hX 0 dX6_bestLets_8 rfl rfl ?_
  refine g_get hX fl_X6_17 (by decide) (by decide) dX6_bestLets_9 hF (fun jv3 hF => ?_)
  refine g_aload_n hX 1 dX6_bestLets_12 rfl rfl ?_
  refine g_callV (t := 0) (ci := 3) (rest := [(0, jx2), (2, jx1), (2, jx0)]) [(2, jx1)] hX cw_X6_25 rfl (by decide) (by decide) (fun r σ1 h => T_X3_weeksLeft l D dA b0  jv3 jx1 σ2 σ1 r h) ⟨by decide, by decide⟩ rfl rfl (Nat.le_of_ble_eq_true rfl) dX6_bestLets_13 hF (fun jv4 σ5 hF => ?_)
  refine g_callV (t := 1) (ci := 6) (rest := []) [(2, jx1), (0, jx2), (0, jv4)] hX cw_X6_31 rfl (by decide) (by decide) (fun r σ1 h => T_X6_searchBest_D l D dA b0 jx0 jx1 jx2 jv4 σ5 σ1 r h) ⟨by decide, by decide⟩ rfl rfl (Nat.le_of_ble_eq_true rfl) dX6_bestLets_16 hF (fun jv6 σ7 hF => ?_)
  refine g_pop2 hX dX6_bestLets_19 ?_
  refine g_aload_n hX 0 dX6_bestLets_20 rfl rfl ?_
  refine g_get hX fl_X6_35 (by decide) (by decide) dX6_bestLets_21 hF (fun jv8 hF => ?_)
  exact g_iret hX hR hQ hE dX6_bestLets_24 hF
end

section
variable {p : Program} {l : Launch} {e : Env} {R : Room} {s : State} {m : MethodId} {args : Array Value} {below : List Frame} {meth : Method} {c : Code} {D : va_G} {dA : Nat → ClassId} {b0 n0 m0 nE mE : Nat} {Q : State → Prop}
def F_X6_worthAt (jx0 : Int) (jx1 : Int) (jx2 : Int) (σ : Hp) : Option (Int × Hp) :=
  (rd 7 σ jx0 1).bind fun jv1 => bd (iv 4 σ jv1 (F_X3_weeksLeft  jv1 jx1 σ)) fun jv2 σ3 => bd (iv 7 σ3 jx0 (F_X6_worthOf_D jx0 jx1 jx2 jv2 σ3)) fun jv4 σ5 => some (jv4, σ5)
theorem M_X6_worthAt (jx0 : Int) (jx1 : Int) (jx2 : Int) (σ : Hp) : Mn σ (F_X6_worthAt jx0 jx1 jx2 σ) := by
  unfold F_X6_worthAt
  repeat' first | exact Mn_ret | exact Mn_rz | exact M_X3_weeksLeft _ _ _ | exact M_X6_worthOf_D _ _ _ _ _ | refine Mn_nm (fun _ => ?_) | refine Mn_nab (fun _ _ => ?_) | refine Mn_nwb (fun _ _ => ?_) | refine Mn_pw (fun _ => ?_) | refine Mn_pz (fun _ => ?_) | refine Mn_aw (fun _ => ?_) | refine Mn_az (fun _ => ?_) | refine Mn_aq (fun _ => ?_) | refine Mn_bo (fun _ => ?_) | refine Mn_bd ?_ (fun _ _ => ?_) | refine Mn_iv ?_ | refine Mn_bLt ?_ ?_ | refine Mn_bLe ?_ ?_ | refine Mn_bEq ?_ ?_ | refine Mn_bN ?_ ?_ | refine Mn_g3 ?_ | refine Mn_g33 ?_ | refine Mn_g66 ?_ | refine Mn_gD ?_
set_option maxRecDepth 100000 in
set_option maxHeartbeats 4000000 in
theorem T_X6_worthAt (l : Launch) (D : va_G) (dA : Nat → ClassId) (b0 : Nat) (jx0 : Int) (jx1 : Int) (jx2 : Int) (σ σE : Hp) (r : Int) (hF : F_X6_worthAt jx0 jx1 jx2 σ = some (r, σE)) : Ct l D dA b0 yX6_worthAt cX6_worthAt 3 (some .long) 277 10824 [(2, jx0), (2, jx1), (0, jx2)] σ (some (pV 1 r)) σE := by
  refine Ct.of (lv0 := [(0, 2, jx0), (1, 2, jx1), (2, 0, jx2)]) (by decide) RX6 rfl (Nat.le_of_ble_eq_true rfl) rfl ?_ (M_X6_worthAt jx0 jx1 jx2 σ r σE hF)
  intro p e R s m args below meth c hX hR hnm
  obtain ⟨Q, hQ⟩ : ∃ Q, Q = Qm D dA b0 σ.1 σ.2.1 below args s (some (pV 1 r)) σE := ⟨_, rfl⟩
  rw [← hQ]
  have hE : σE.1 = σE.1 ∧ σE.2.1 = σE.2.1 := ⟨rfl, rfl⟩
  unfold F_X6_worthAt at hF
  refine g_aload_n hX 0 dX6_worthAt_0 rfl rfl ?_
  refine g_aload_n hX 1 dX6_worthAt_1 rfl rfl ?_
  refine g_iload_n hX 2 dX6_worthAt_2 rfl rfl ?_
  refine g_aload_n hX 0 dX6_worthAt_3 rfl rfl ?_
  refine g_get hX fl_X6_17 (by decide) (by decide) dX6_worthAt_4 hF (fun jv1 hF => ?_)
  refine g_aload_n hX 1 dX6_worthAt_7 rfl rfl ?_
  refine g_callV (t := 0) (ci := 3) (rest := [(0, jx2), (2, jx1), (2, jx0)]) [(2, jx1)] hX cw_X6_25 rfl (by decide) (by decide) (fun r σ1 h => T_X3_weeksLeft l D dA b0  jv1 jx1 σ σ1 r h) ⟨by decide, by decide⟩ rfl rfl (Nat.le_of_ble_eq_true rfl) dX6_worthAt_8 hF (fun jv2 σ3 hF => ?_)
  refine g_callV (t := 1) (ci := 6) (rest := []) [(2, jx1), (0, jx2), (0, jv2)] hX cw_X6_38 rfl (by decide) (by decide) (fun r σ1 h => T_X6_worthOf_D l D dA b0 jx0 jx1 jx2 jv2 σ3 σ1 r h) ⟨by decide, by decide⟩ rfl rfl (Nat.le_of_ble_eq_true rfl) dX6_worthAt_11 hF (fun jv4 σ5 hF => ?_)
  exact g_lret hX hR hQ hE dX6_worthAt_14 hF
end

section
variable {p : Program} {l : Launch} {e : Env} {R : Room} {s : State} {m : MethodId} {args : Array Value} {below : List Frame} {meth : Method} {c : Code} {D : va_G} {dA : Nat → ClassId} {b0 n0 m0 nE mE : Nat} {Q : State → Prop}
def F_X7_isWithin (jx0 : Int) (jx1 : Int) (σ : Hp) : Option (Int × Hp) :=
  bLt jx0 0 (rz 0 σ) (bLe jx0 jx1 (rz 1 σ) (rz 0 σ))
theorem M_X7_isWithin (jx0 : Int) (jx1 : Int) (σ : Hp) : Mn σ (F_X7_isWithin jx0 jx1 σ) := by
  unfold F_X7_isWithin
  repeat' first | exact Mn_ret | exact Mn_rz | refine Mn_nm (fun _ => ?_) | refine Mn_nab (fun _ _ => ?_) | refine Mn_nwb (fun _ _ => ?_) | refine Mn_pw (fun _ => ?_) | refine Mn_pz (fun _ => ?_) | refine Mn_aw (fun _ => ?_) | refine Mn_az (fun _ => ?_) | refine Mn_aq (fun _ => ?_) | refine Mn_bo (fun _ => ?_) | refine Mn_bd ?_ (fun _ _ => ?_) | refine Mn_iv ?_ | refine Mn_bLt ?_ ?_ | refine Mn_bLe ?_ ?_ | refine Mn_bEq ?_ ?_ | refine Mn_bN ?_ ?_ | refine Mn_g3 ?_ | refine Mn_g33 ?_ | refine Mn_g66 ?_ | refine Mn_gD ?_
set_option maxRecDepth 100000 in
set_option maxHeartbeats 4000000 in
theorem T_X7_isWithin (l : Launch) (D : va_G) (dA : Nat → ClassId) (b0 : Nat) (jx0 : Int) (jx1 : Int) (σ σE : Hp) (r : Int) (hF : F_X7_isWithin jx0 jx1 σ = some (r, σE)) : Ct l D dA b0 yX7_isWithin cX7_isWithin 2 (some .boolean) 0 0 [(0, jx0), (0, jx1)] σ (some (pV 0 r)) σE := by
  refine Ct.of (lv0 := [(0, 0, jx0), (1, 0, jx1)]) (by decide) RX7 rfl (Nat.le_of_ble_eq_true rfl) rfl ?_ (M_X7_isWithin jx0 jx1 σ r σE hF)
  intro p e R s m args below meth c hX hR hnm
  obtain ⟨Q, hQ⟩ : ∃ Q, Q = Qm D dA b0 σ.1 σ.2.1 below args s (some (pV 0 r)) σE := ⟨_, rfl⟩
  rw [← hQ]
  have hE : σE.1 = σE.1 ∧ σE.2.1 = σE.2.1 := ⟨rfl, rfl⟩
  unfold F_X7_isWithin at hF
  refine g_iload_n hX 0 dX7_isWithin_0 rfl rfl ?_
  refine g_if_lt (tgt := 13) hX dX7_isWithin_1 (by decide) hF (fun hc hF => ?_) (fun hc hF => ?_)
  · refine g_iconst hX dX7_isWithin_13 ?_
    exact g_zret hX hR hQ hE dX7_isWithin_14 hF
  · refine g_iload_n hX 0 dX7_isWithin_4 rfl rfl ?_
    refine g_iload_n hX 1 dX7_isWithin_5 rfl rfl ?_
    refine g_icmp_gt (tgt := 13) hX dX7_isWithin_6 (by decide) hF (fun hc hF => ?_) (fun hc hF => ?_)
    · refine g_iconst hX dX7_isWithin_9 ?_
      refine g_goto (tgt := 14) hX dX7_isWithin_10 (by decide) ?_
      exact g_zret hX hR hQ hE dX7_isWithin_14 hF
    · refine g_iconst hX dX7_isWithin_13 ?_
      exact g_zret hX hR hQ hE dX7_isWithin_14 hF
end

section
variable {p : Program} {l : Launch} {e : Env} {R : Room} {s : State} {m : MethodId} {args : Array Value} {below : List Frame} {meth : Method} {c : Code} {D : va_G} {dA : Nat → ClassId} {b0 n0 m0 nE mE : Nat} {Q : State → Prop}
def F_X7_isWhole (jx0 : Int) (σ : Hp) : Option (Int × Hp) :=
  (rd 8 σ jx0 0).bind fun jv1 => (rd 5 σ jv1 1).bind fun jv2 => bLe jv2 0 (rz 0 σ) ((rd 8 σ jx0 1).bind fun jv3 => bd (iv 4 σ jv3 (F_X3_isFilled  jv3  σ)) fun jv4 σ5 => bEq jv4 0 (rz 0 σ5) (rz 1 σ5))
theorem M_X7_isWhole (jx0 : Int) (σ : Hp) : Mn σ (F_X7_isWhole jx0 σ) := by
  unfold F_X7_isWhole
  repeat' first | exact Mn_ret | exact Mn_rz | exact M_X3_isFilled _ _ | refine Mn_nm (fun _ => ?_) | refine Mn_nab (fun _ _ => ?_) | refine Mn_nwb (fun _ _ => ?_) | refine Mn_pw (fun _ => ?_) | refine Mn_pz (fun _ => ?_) | refine Mn_aw (fun _ => ?_) | refine Mn_az (fun _ => ?_) | refine Mn_aq (fun _ => ?_) | refine Mn_bo (fun _ => ?_) | refine Mn_bd ?_ (fun _ _ => ?_) | refine Mn_iv ?_ | refine Mn_bLt ?_ ?_ | refine Mn_bLe ?_ ?_ | refine Mn_bEq ?_ ?_ | refine Mn_bN ?_ ?_ | refine Mn_g3 ?_ | refine Mn_g33 ?_ | refine Mn_g66 ?_ | refine Mn_gD ?_
set_option maxRecDepth 100000 in
set_option maxHeartbeats 4000000 in
theorem T_X7_isWhole (l : Launch) (D : va_G) (dA : Nat → ClassId) (b0 : Nat) (jx0 : Int) (σ σE : Hp) (r : Int) (hF : F_X7_isWhole jx0 σ = some (r, σE)) : Ct l D dA b0 yX7_isWhole cX7_isWhole 1 (some .boolean) 2 42 [(2, jx0)] σ (some (pV 0 r)) σE := by
  refine Ct.of (lv0 := [(0, 2, jx0)]) (by decide) RX7 rfl (Nat.le_of_ble_eq_true rfl) rfl ?_ (M_X7_isWhole jx0 σ r σE hF)
  intro p e R s m args below meth c hX hR hnm
  obtain ⟨Q, hQ⟩ : ∃ Q, Q = Qm D dA b0 σ.1 σ.2.1 below args s (some (pV 0 r)) σE := ⟨_, rfl⟩
  rw [← hQ]
  have hE : σE.1 = σE.1 ∧ σE.2.1 = σE.2.1 := ⟨rfl, rfl⟩
  unfold F_X7_isWhole at hF
  refine g_aload_n hX 0 dX7_isWhole_0 rfl rfl ?_
  refine g_get hX fl_X7_10 (by decide) (by decide) dX7_isWhole_1 hF (fun jv1 hF => ?_)
  refine g_get hX fl_X7_50 (by decide) (by decide) dX7_isWhole_4 hF (fun jv2 hF => ?_)
  refine g_if_le (tgt := 24) hX dX7_isWhole_7 (by decide) hF (fun hc hF => ?_) (fun hc hF => ?_)
  · refine g_iconst hX dX7_isWhole_24 ?_
    exact g_zret hX hR hQ hE dX7_isWhole_25 hF
  · refine g_aload_n hX 0 dX7_isWhole_10 rfl rfl ?_
    refine g_get hX fl_X7_19 (by decide) (by decide) dX7_isWhole_11 hF (fun jv3 hF => ?_)
    refine g_callV (t := 0) (ci := 3) (rest := []) [] hX cw_X7_253 rfl (by decide) (by decide) (fun r σ1 h => T_X3_isFilled l D dA b0  jv3  σ σ1 r h) ⟨by decide, by decide⟩ rfl rfl (Nat.le_of_ble_eq_true rfl) dX7_isWhole_14 hF (fun jv4 σ5 hF => ?_)
    refine g_if_eq (tgt := 24) hX dX7_isWhole_17 (by decide) hF (fun hc hF => ?_) (fun hc hF => ?_)
    · refine g_iconst hX dX7_isWhole_24 ?_
      exact g_zret hX hR hQ hE dX7_isWhole_25 hF
    · refine g_iconst hX dX7_isWhole_20 ?_
      refine g_goto (tgt := 25) hX dX7_isWhole_21 (by decide) ?_
      exact g_zret hX hR hQ hE dX7_isWhole_25 hF
end

section
variable {p : Program} {l : Launch} {e : Env} {R : Room} {s : State} {m : MethodId} {args : Array Value} {below : List Frame} {meth : Method} {c : Code} {D : va_G} {dA : Nat → ClassId} {b0 n0 m0 nE mE : Nat} {Q : State → Prop}
def F_X7_init (jx0 : Int) (σ : Hp) : Option (Int × Hp) :=
  iv 8 σ jx0 (nwb 5 σ 4 4 fun ja1 σ2 => bd (F_X4_init ja1  σ2) fun jv3 σ4 => (pw 8 σ4 jx0 0 ja1).bind fun σ5 => nwb 4 σ5 5 3 fun ja6 σ7 => bd (F_X3_init ja6  σ7) fun jv8 σ9 => (pw 8 σ9 jx0 1 ja6).bind fun σ10 => nwb 7 σ10 4 6 fun ja11 σ12 => (rd 8 σ12 jx0 0).bind fun jv13 => (rd 8 σ12 jx0 1).bind fun jv14 => bd (F_X6_init ja11 jv13 jv14 σ12) fun jv15 σ16 => (pw 8 σ16 jx0 2 ja11).bind fun σ17 => nwb 6 σ17 2 5 fun ja18 σ19 => (rd 8 σ19 jx0 0).bind fun jv20 => (rd 8 σ19 jx0 1).bind fun jv21 => bd (F_X5_init ja18 jv20 jv21 σ19) fun jv22 σ23 => (pw 8 σ23 jx0 3 ja18).bind fun σ24 => nwb 3 σ24 8 2 fun ja25 σ26 => bd (F_X2_init ja25  σ26) fun jv27 σ28 => (pw 8 σ28 jx0 4 ja25).bind fun σ29 => some (0, σ29))
theorem M_X7_init (jx0 : Int) (σ : Hp) : Mn σ (F_X7_init jx0 σ) := by
  unfold F_X7_init
  repeat' first | exact Mn_ret | exact Mn_rz | exact M_X4_init _ _ | exact M_X3_init _ _ | exact M_X6_init _ _ _ _ | exact M_X5_init _ _ _ _ | exact M_X2_init _ _ | refine Mn_nm (fun _ => ?_) | refine Mn_nab (fun _ _ => ?_) | refine Mn_nwb (fun _ _ => ?_) | refine Mn_pw (fun _ => ?_) | refine Mn_pz (fun _ => ?_) | refine Mn_aw (fun _ => ?_) | refine Mn_az (fun _ => ?_) | refine Mn_aq (fun _ => ?_) | refine Mn_bo (fun _ => ?_) | refine Mn_bd ?_ (fun _ _ => ?_) | refine Mn_iv ?_ | refine Mn_bLt ?_ ?_ | refine Mn_bLe ?_ ?_ | refine Mn_bEq ?_ ?_ | refine Mn_bN ?_ ?_ | refine Mn_g3 ?_ | refine Mn_g33 ?_ | refine Mn_g66 ?_ | refine Mn_gD ?_
set_option maxRecDepth 100000 in
set_option maxHeartbeats 4000000 in
theorem T_X7_init (l : Launch) (D : va_G) (dA : Nat → ClassId) (b0 : Nat) (jx0 : Int) (σ σE : Hp) (r : Int) (hF : F_X7_init jx0 σ = some (r, σE)) : Ct l D dA b0 yX7_init cX7_init 1 none 3 64 [(2, jx0)] σ none σE := by
  refine Ct.of (lv0 := [(0, 2, jx0)]) (by decide) RX7 rfl (Nat.le_of_ble_eq_true rfl) rfl ?_ (M_X7_init jx0 σ r σE hF)
  intro p e R s m args below meth c hX hR hnm
  obtain ⟨Q, hQ⟩ : ∃ Q, Q = Qm D dA b0 σ.1 σ.2.1 below args s none σE := ⟨_, rfl⟩
  rw [← hQ]
  have hE : σE.1 = σE.1 ∧ σE.2.1 = σE.2.1 := ⟨rfl, rfl⟩
  unfold F_X7_init at hF
  refine g_aload_n hX 0 dX7_init_0 rfl rfl ?_
  refine u_objInit hX ow_X7_1 (by decide) (by decide) (Nat.le_of_ble_eq_true rfl) dX7_init_1 hF (fun hF => ?_)
  refine g_aload_n hX 0 dX7_init_4 rfl rfl ?_
  refine u_new hX nw_X7_7 (by decide) rfl dX7_init_5 hF (fun ja1 σ2 hja1 hF => ?_)
  refine g_dup hX dX7_init_8 (by decide) ?_
  refine g_callI (K := 0) (rest := [(2, ja1), (2, jx0)]) [] hX cw_X7_9 hja1 (fun r σ1 h => T_X4_init l D dA b0 ja1  σ2 σ1 r h) ⟨by decide, by decide⟩ rfl rfl (Nat.le_of_ble_eq_true rfl) dX7_init_9 hF (fun jv3 σ4 hF => ?_)
  refine u_putF hX fp_X7_10 hnm (by decide) (by decide) dX7_init_12 hF (fun σ5 hF => ?_)
  refine g_aload_n hX 0 dX7_init_15 rfl rfl ?_
  refine u_new hX nw_X7_16 (by decide) rfl dX7_init_16 hF (fun ja6 σ7 hja6 hF => ?_)
  refine g_dup hX dX7_init_19 (by decide) ?_
  refine g_callI (K := 0) (rest := [(2, ja6), (2, jx0)]) [] hX cw_X7_18 hja6 (fun r σ1 h => T_X3_init l D dA b0 ja6  σ7 σ1 r h) ⟨by decide, by decide⟩ rfl rfl (Nat.le_of_ble_eq_true rfl) dX7_init_20 hF (fun jv8 σ9 hF => ?_)
  refine u_putF hX fp_X7_19 hnm (by decide) (by decide) dX7_init_23 hF (fun σ10 hF => ?_)
  refine g_aload_n hX 0 dX7_init_26 rfl rfl ?_
  refine u_new hX nw_X7_23 (by decide) rfl dX7_init_27 hF (fun ja11 σ12 hja11 hF => ?_)
  refine g_dup hX dX7_init_30 (by decide) ?_
  refine g_aload_n hX 0 dX7_init_31 rfl rfl ?_
  refine g_get hX fl_X7_10 (by decide) (by decide) dX7_init_32 hF (fun jv13 hF => ?_)
  refine g_aload_n hX 0 dX7_init_35 rfl rfl ?_
  refine g_get hX fl_X7_19 (by decide) (by decide) dX7_init_36 hF (fun jv14 hF => ?_)
  refine g_callI (K := 0) (rest := [(2, ja11), (2, jx0)]) [(2, jv13), (2, jv14)] hX cw_X7_25 hja11 (fun r σ1 h => T_X6_init l D dA b0 ja11 jv13 jv14 σ12 σ1 r h) ⟨by decide, by decide⟩ rfl rfl (Nat.le_of_ble_eq_true rfl) dX7_init_39 hF (fun jv15 σ16 hF => ?_)
  refine u_putF hX fp_X7_28 hnm (by decide) (by decide) dX7_init_42 hF (fun σ17 hF => ?_)
  refine g_aload_n hX 0 dX7_init_45 rfl rfl ?_
  refine u_new hX nw_X7_32 (by decide) rfl dX7_init_46 hF (fun ja18 σ19 hja18 hF => ?_)
  refine g_dup hX dX7_init_49 (by decide) ?_
  refine g_aload_n hX 0 dX7_init_50 rfl rfl ?_
  refine g_get hX fl_X7_10 (by decide) (by decide) dX7_init_51 hF (fun jv20 hF => ?_)
  refine g_aload_n hX 0 dX7_init_54 rfl rfl ?_
  refine g_get hX fl_X7_19 (by decide) (by decide) dX7_init_55 hF (fun jv21 hF => ?_)
  refine g_callI (K := 0) (rest := [(2, ja18), (2, jx0)]) [(2, jv20), (2, jv21)] hX cw_X7_34 hja18 (fun r σ1 h => T_X5_init l D dA b0 ja18 jv20 jv21 σ19 σ1 r h) ⟨by decide, by decide⟩ rfl rfl (Nat.le_of_ble_eq_true rfl) dX7_init_58 hF (fun jv22 σ23 hF => ?_)
  refine u_putF hX fp_X7_35 hnm (by decide) (by decide) dX7_init_61 hF (fun σ24 hF => ?_)
  refine g_aload_n hX 0 dX7_init_64 rfl rfl ?_
  refine u_new hX nw_X7_39 (by decide) rfl dX7_init_65 hF (fun ja25 σ26 hja25 hF => ?_)
  refine g_dup hX dX7_init_68 (by decide) ?_
  refine g_callI (K := 0) (rest := [(2, ja25), (2, jx0)]) [] hX cw_X7_41 hja25 (fun r σ1 h => T_X2_init l D dA b0 ja25  σ26 σ1 r h) ⟨by decide, by decide⟩ rfl rfl (Nat.le_of_ble_eq_true rfl) dX7_init_69 hF (fun jv27 σ28 hF => ?_)
  refine u_putF hX fp_X7_42 hnm (by decide) (by decide) dX7_init_72 hF (fun σ29 hF => ?_)
  exact g_vret hX hR hQ hE dX7_init_75 hF
end

section
variable {p : Program} {l : Launch} {e : Env} {R : Room} {s : State} {m : MethodId} {args : Array Value} {below : List Frame} {meth : Method} {c : Code} {D : va_G} {dA : Nat → ClassId} {b0 n0 m0 nE mE : Nat} {Q : State → Prop}
def F_X7_lake_B81 (jx0 : Int) (jx1 : Int) (jx2 : Int) (jx3 : Int) (jx4 : Int) (jx5 : Int) (σ : Hp) : Option (Int × Hp) :=
  (rd 8 σ jx0 4).bind fun jv13 => (rd 3 σ jv13 5).bind fun jv14 => bEq jv14 0 (bEq jx5 0 ((rd 8 σ jx0 1).bind fun jv15 => (rd 4 σ jv15 2).bind fun jv16 => bLe jv16 1 ((rd 8 σ jx0 2).bind fun jv17 => bd (iv 7 σ jv17 (F_X6_forget  jv17  σ)) fun jv18 σ19 => (rd 8 σ19 jx0 0).bind fun jv20 => bd (iv 5 σ19 jv20 (F_X4_addLake  jv20 jx1 jx2 jx3 jx4 σ19)) fun jv21 σ22 => some (jv21, σ22)) (some ((-5), σ))) (some ((-5), σ))) (some ((-2), σ))
theorem M_X7_lake_B81 (jx0 : Int) (jx1 : Int) (jx2 : Int) (jx3 : Int) (jx4 : Int) (jx5 : Int) (σ : Hp) : Mn σ (F_X7_lake_B81 jx0 jx1 jx2 jx3 jx4 jx5 σ) := by
  unfold F_X7_lake_B81
  repeat' first | exact Mn_ret | exact Mn_rz | exact M_X6_forget _ _ | exact M_X4_addLake _ _ _ _ _ _ | refine Mn_nm (fun _ => ?_) | refine Mn_nab (fun _ _ => ?_) | refine Mn_nwb (fun _ _ => ?_) | refine Mn_pw (fun _ => ?_) | refine Mn_pz (fun _ => ?_) | refine Mn_aw (fun _ => ?_) | refine Mn_az (fun _ => ?_) | refine Mn_aq (fun _ => ?_) | refine Mn_bo (fun _ => ?_) | refine Mn_bd ?_ (fun _ _ => ?_) | refine Mn_iv ?_ | refine Mn_bLt ?_ ?_ | refine Mn_bLe ?_ ?_ | refine Mn_bEq ?_ ?_ | refine Mn_bN ?_ ?_ | refine Mn_g3 ?_ | refine Mn_g33 ?_ | refine Mn_g66 ?_ | refine Mn_gD ?_
set_option maxRecDepth 100000 in
set_option maxHeartbeats 4000000 in
theorem T_X7_lake_B81 {r : Int} {σE : Hp} (hX : Cx p R s m args meth c D dA b0 n0 m0 6 nE mE cX7_lake RX7 1 25) (hR : Rx meth (some .int)) (hnm : meth.name = yX7_lake.name) (hQ : Q = Qm D dA b0 n0 m0 below args s (some (pV 0 r)) σE) (hE : nE = σE.1 ∧ mE = σE.2.1) (jx0 : Int) (jx1 : Int) (jx2 : Int) (jx3 : Int) (jx4 : Int) (jx5 : Int) (σ : Hp) (hF : F_X7_lake_B81 jx0 jx1 jx2 jx3 jx4 jx5 σ = some (r, σE)) : G p l e R s m args below meth c D dA b0 n0 m0 6 nE mE Q 81 [(0, 2, jx0), (1, 0, jx1), (2, 0, jx2), (3, 0, jx3), (4, 0, jx4), (5, 0, jx5)] [] σ := by
  unfold F_X7_lake_B81 at hF
  refine g_aload_n hX 0 dX7_lake_81 rfl rfl ?_
  refine g_get hX fl_X7_42 (by decide) (by decide) dX7_lake_82 hF (fun jv13 hF => ?_)
  refine g_get hX fl_X7_57 (by decide) (by decide) dX7_lake_85 hF (fun jv14 hF => ?_)
  refine g_if_eq (tgt := 94) hX dX7_lake_88 (by decide) hF (fun hc hF => ?_) (fun hc hF => ?_)
  · refine g_iload hX 5 dX7_lake_94 rfl ?_
    refine g_if_ne (tgt := 110) hX dX7_lake_96 (by decide) hF (fun hc hF => ?_) (fun hc hF => ?_)
    · refine g_aload_n hX 0 dX7_lake_99 rfl rfl ?_
      refine g_get hX fl_X7_19 (by decide) (by decide) dX7_lake_100 hF (fun jv15 hF => ?_)
      refine g_get hX fl_X7_61 (by decide) (by decide) dX7_lake_103 hF (fun jv16 hF => ?_)
      refine g_iconst hX dX7_lake_106 ?_
      refine g_icmp_le (tgt := 113) hX dX7_lake_107 (by decide) hF (fun hc hF => ?_) (fun hc hF => ?_)
      · refine g_aload_n hX 0 dX7_lake_113 rfl rfl ?_
        refine g_get hX fl_X7_28 (by decide) (by decide) dX7_lake_114 hF (fun jv17 hF => ?_)
        refine g_callVv (ci := 6) (rest := []) [] hX cw_X7_62 rfl (by decide) (by decide) (fun r σ1 h => T_X6_forget l D dA b0  jv17  σ σ1 r h) ⟨by decide, by decide⟩ rfl rfl (Nat.le_of_ble_eq_true rfl) dX7_lake_117 hF (fun jv18 σ19 hF => ?_)
        refine g_aload_n hX 0 dX7_lake_120 rfl rfl ?_
        refine g_get hX fl_X7_10 (by decide) (by decide) dX7_lake_121 hF (fun jv20 hF => ?_)
        refine g_iload_n hX 1 dX7_lake_124 rfl rfl ?_
        refine g_iload_n hX 2 dX7_lake_125 rfl rfl ?_
        refine g_iload_n hX 3 dX7_lake_126 rfl rfl ?_
        refine g_iload hX 4 dX7_lake_127 rfl ?_
        refine g_callV (t := 0) (ci := 4) (rest := []) [(0, jx1), (0, jx2), (0, jx3), (0, jx4)] hX cw_X7_65 rfl (by decide) (by decide) (fun r σ1 h => T_X4_addLake l D dA b0  jv20 jx1 jx2 jx3 jx4 σ19 σ1 r h) ⟨by decide, by decide⟩ rfl rfl (Nat.le_of_ble_eq_true rfl) dX7_lake_129 hF (fun jv21 σ22 hF => ?_)
        exact g_iret hX hR hQ hE dX7_lake_132 hF
      · refine g_bipush hX dX7_lake_110 (by decide) ?_
        exact g_iret hX hR hQ hE dX7_lake_112 hF
    · refine g_bipush hX dX7_lake_110 (by decide) ?_
      exact g_iret hX hR hQ hE dX7_lake_112 hF
  · refine g_bipush hX dX7_lake_91 (by decide) ?_
    exact g_iret hX hR hQ hE dX7_lake_93 hF
def F_X7_lake_B55 (jx0 : Int) (jx1 : Int) (jx2 : Int) (jx3 : Int) (jx4 : Int) (js0 : Int) (σ : Hp) : Option (Int × Hp) :=
  bEq js0 0 ((rd 8 σ jx0 0).bind fun jv11 => (rd 5 σ jv11 2).bind fun jv12 => bLe (jv12 * (jx2 + 1)) 1000 (F_X7_lake_B81 jx0 jx1 jx2 jx3 jx4 js0  σ) (some ((-1), σ))) (F_X7_lake_B81 jx0 jx1 jx2 jx3 jx4 js0  σ)
theorem M_X7_lake_B55 (jx0 : Int) (jx1 : Int) (jx2 : Int) (jx3 : Int) (jx4 : Int) (js0 : Int) (σ : Hp) : Mn σ (F_X7_lake_B55 jx0 jx1 jx2 jx3 jx4 js0 σ) := by
  unfold F_X7_lake_B55
  repeat' first | exact Mn_ret | exact Mn_rz | exact M_X7_lake_B81 _ _ _ _ _ _  _ | refine Mn_nm (fun _ => ?_) | refine Mn_nab (fun _ _ => ?_) | refine Mn_nwb (fun _ _ => ?_) | refine Mn_pw (fun _ => ?_) | refine Mn_pz (fun _ => ?_) | refine Mn_aw (fun _ => ?_) | refine Mn_az (fun _ => ?_) | refine Mn_aq (fun _ => ?_) | refine Mn_bo (fun _ => ?_) | refine Mn_bd ?_ (fun _ _ => ?_) | refine Mn_iv ?_ | refine Mn_bLt ?_ ?_ | refine Mn_bLe ?_ ?_ | refine Mn_bEq ?_ ?_ | refine Mn_bN ?_ ?_ | refine Mn_g3 ?_ | refine Mn_g33 ?_ | refine Mn_g66 ?_ | refine Mn_gD ?_
set_option maxRecDepth 100000 in
set_option maxHeartbeats 4000000 in
theorem T_X7_lake_B55 {r : Int} {σE : Hp} (hX : Cx p R s m args meth c D dA b0 n0 m0 6 nE mE cX7_lake RX7 1 25) (hR : Rx meth (some .int)) (hnm : meth.name = yX7_lake.name) (hQ : Q = Qm D dA b0 n0 m0 below args s (some (pV 0 r)) σE) (hE : nE = σE.1 ∧ mE = σE.2.1) (jx0 : Int) (jx1 : Int) (jx2 : Int) (jx3 : Int) (jx4 : Int) (js0 : Int) (σ : Hp) (hF : F_X7_lake_B55 jx0 jx1 jx2 jx3 jx4 js0 σ = some (r, σE)) : G p l e R s m args below meth c D dA b0 n0 m0 6 nE mE Q 55 [(0, 2, jx0), (1, 0, jx1), (2, 0, jx2), (3, 0, jx3), (4, 0, jx4)] [(0, js0)] σ := by
  unfold F_X7_lake_B55 at hF
  refine g_istore (lv' := [(5, 0, js0), (0, 2, jx0), (1, 0, jx1), (2, 0, jx2), (3, 0, jx3), (4, 0, jx4)]) hX dX7_lake_55 (by decide) rfl ?_
  refine g_iload hX 0 dX7_lake_57 rfl ?_
  refine g_if_ne (tgt := 81) hX dX7_lake_59 (by decide) hF (fun hc hF => ?_) (fun hc hF => ?_)
  · refine g_aload_n hX 1 dX7_lake_62 rfl rfl ?_
    refine g_get hX fl_X7_10 (by decide) (by decide) dX7_lake_63 hF (fun jv11 hF => ?_)
    refine g_get hX fl_X7_54 (by decide) (by decide) dX7_lake_66 hF (fun jv12 hF => ?_)
    refine g_iload_n hX 3 dX7_lake_69 rfl rfl ?_
    refine g_iconst hX dX7_lake_70 ?_
    refine g_iadd hX dX7_lake_71 ?_
    refine g_imul hX dX7_lake_72 ?_
    refine g_sipush hX dX7_lake_73 (by decide) ?_
    refine g_icmp_le (tgt := 81) hX dX7_lake_76 (by decide) hF (fun hc hF => ?_) (fun hc hF => ?_)
    · refine g_lvp (lv' := [(0, 2, jx0), (1, 0, jx1), (2, 0, jx2), (3, 0, jx3), (4, 0, jx4), (5, 0, js0)]) [1, 2, 3, 4, 5, 0] rfl ?_
      exact T_X7_lake_B81 hX hR hnm hQ hE jx0 jx1 jx2 jx3 jx4 js0   σ hF
    · refine g_iconst hX dX7_lake_79 ?_
      exact g_iret hX hR hQ hE dX7_lake_80 hF
  · refine g_lvp (lv' := [(0, 2, jx0), (1, 0, jx1), (2, 0, jx2), (3, 0, jx3), (4, 0, jx4), (5, 0, js0)]) [1, 2, 3, 4, 5, 0] rfl ?_
    exact T_X7_lake_B81 hX hR hnm hQ hE jx0 jx1 jx2 jx3 jx4 js0   σ hF
def F_X7_lake (jx0 : Int) (jx1 : Int) (jx2 : Int) (jx3 : Int) (jx4 : Int) (σ : Hp) : Option (Int × Hp) :=
  bd (F_X7_isWithin jx2 30 σ) fun jv1 σ2 => bEq jv1 0 (some ((-1), σ2)) (bd (F_X7_isWithin jx1 jx2 σ2) fun jv3 σ4 => bEq jv3 0 (some ((-1), σ4)) (bd (F_X7_isWithin jx3 10 σ4) fun jv5 σ6 => bEq jv5 0 (some ((-1), σ6)) (bd (F_X7_isWithin jx4 5 σ6) fun jv7 σ8 => bEq jv7 0 (some ((-1), σ8)) ((rd 8 σ8 jx0 0).bind fun jv9 => (rd 5 σ8 jv9 1).bind fun jv10 => bLt jv10 3 (F_X7_lake_B55 jx0 jx1 jx2 jx3 jx4 0 σ8) (F_X7_lake_B55 jx0 jx1 jx2 jx3 jx4 1 σ8)))))
theorem M_X7_lake (jx0 : Int) (jx1 : Int) (jx2 : Int) (jx3 : Int) (jx4 : Int) (σ : Hp) : Mn σ (F_X7_lake jx0 jx1 jx2 jx3 jx4 σ) := by
  unfold F_X7_lake
  repeat' first | exact Mn_ret | exact Mn_rz | exact M_X7_isWithin _ _ _ | exact M_X7_lake_B55 _ _ _ _ _ _ _ | refine Mn_nm (fun _ => ?_) | refine Mn_nab (fun _ _ => ?_) | refine Mn_nwb (fun _ _ => ?_) | refine Mn_pw (fun _ => ?_) | refine Mn_pz (fun _ => ?_) | refine Mn_aw (fun _ => ?_) | refine Mn_az (fun _ => ?_) | refine Mn_aq (fun _ => ?_) | refine Mn_bo (fun _ => ?_) | refine Mn_bd ?_ (fun _ _ => ?_) | refine Mn_iv ?_ | refine Mn_bLt ?_ ?_ | refine Mn_bLe ?_ ?_ | refine Mn_bEq ?_ ?_ | refine Mn_bN ?_ ?_ | refine Mn_g3 ?_ | refine Mn_g33 ?_ | refine Mn_g66 ?_ | refine Mn_gD ?_
set_option maxRecDepth 100000 in
set_option maxHeartbeats 4000000 in
theorem T_X7_lake (l : Launch) (D : va_G) (dA : Nat → ClassId) (b0 : Nat) (jx0 : Int) (jx1 : Int) (jx2 : Int) (jx3 : Int) (jx4 : Int) (σ σE : Hp) (r : Int) (hF : F_X7_lake jx0 jx1 jx2 jx3 jx4 σ = some (r, σE)) : Ct l D dA b0 yX7_lake cX7_lake 6 (some .int) 1 25 [(2, jx0), (0, jx1), (0, jx2), (0, jx3), (0, jx4)] σ (some (pV 0 r)) σE := by
  refine Ct.of (lv0 := [(0, 2, jx0), (1, 0, jx1), (2, 0, jx2), (3, 0, jx3), (4, 0, jx4)]) (by decide) RX7 rfl (Nat.le_of_ble_eq_true rfl) rfl ?_ (M_X7_lake jx0 jx1 jx2 jx3 jx4 σ r σE hF)
  intro p e R s m args below meth c hX hR hnm
  obtain ⟨Q, hQ⟩ : ∃ Q, Q = Qm D dA b0 σ.1 σ.2.1 below args s (some (pV 0 r)) σE := ⟨_, rfl⟩
  rw [← hQ]
  have hE : σE.1 = σE.1 ∧ σE.2.1 = σE.2.1 := ⟨rfl, rfl⟩
  unfold F_X7_lake at hF
  refine g_iload_n hX 2 dX7_lake_0 rfl rfl ?_
  refine g_bipush hX dX7_lake_1 (by decide) ?_
  refine g_callS (t := 0) (rest := []) [(0, jx2), (0, 30)] hX cw_X7_46 (fun r σ1 h => T_X7_isWithin l D dA b0 jx2 30 σ σ1 r h) ⟨by decide, by decide⟩ rfl rfl (Nat.le_of_ble_eq_true rfl) dX7_lake_3 hF (fun jv1 σ2 hF => ?_)
  refine g_if_eq (tgt := 17) hX dX7_lake_6 (by decide) hF (fun hc hF => ?_) (fun hc hF => ?_)
  · refine g_iconst hX dX7_lake_17 ?_
    exact g_iret hX hR hQ hE dX7_lake_18 hF
  · refine g_iload_n hX 1 dX7_lake_9 rfl rfl ?_
    refine g_iload_n hX 2 dX7_lake_10 rfl rfl ?_
    refine g_callS (t := 0) (rest := []) [(0, jx1), (0, jx2)] hX cw_X7_46 (fun r σ1 h => T_X7_isWithin l D dA b0 jx1 jx2 σ2 σ1 r h) ⟨by decide, by decide⟩ rfl rfl (Nat.le_of_ble_eq_true rfl) dX7_lake_11 hF (fun jv3 σ4 hF => ?_)
    refine g_if_ne (tgt := 19) hX dX7_lake_14 (by decide) hF (fun hc hF => ?_) (fun hc hF => ?_)
    · refine g_iconst hX dX7_lake_17 ?_
      exact g_iret hX hR hQ hE dX7_lake_18 hF
    · refine g_iload_n hX 3 dX7_lake_19 rfl rfl ?_
      refine g_bipush hX dX7_lake_20 (by decide) ?_
      refine g_callS (t := 0) (rest := []) [(0, jx3), (0, 10)] hX cw_X7_46 (fun r σ1 h => T_X7_isWithin l D dA b0 jx3 10 σ4 σ1 r h) ⟨by decide, by decide⟩ rfl rfl (Nat.le_of_ble_eq_true rfl) dX7_lake_22 hF (fun jv5 σ6 hF => ?_)
      refine g_if_eq (tgt := 37) hX dX7_lake_25 (by decide) hF (fun hc hF => ?_) (fun hc hF => ?_)
      · refine g_iconst hX dX7_lake_37 ?_
        exact g_iret hX hR hQ hE dX7_lake_38 hF
      · refine g_iload hX 4 dX7_lake_28 rfl ?_
        refine g_iconst hX dX7_lake_30 ?_
        refine g_callS (t := 0) (rest := []) [(0, jx4), (0, 5)] hX cw_X7_46 (fun r σ1 h => T_X7_isWithin l D dA b0 jx4 5 σ6 σ1 r h) ⟨by decide, by decide⟩ rfl rfl (Nat.le_of_ble_eq_true rfl) dX7_lake_31 hF (fun jv7 σ8 hF => ?_)
        refine g_if_ne (tgt := 39) hX dX7_lake_34 (by decide) hF (fun hc hF => ?_) (fun hc hF => ?_)
        · refine g_iconst hX dX7_lake_37 ?_
          exact g_iret hX hR hQ hE dX7_lake_38 hF
        · refine g_aload_n hX 0 dX7_lake_39 rfl rfl ?_
          refine g_get hX fl_X7_10 (by decide) (by decide) dX7_lake_40 hF (fun jv9 hF => ?_)
          refine g_get hX fl_X7_50 (by decide) (by decide) dX7_lake_43 hF (fun jv10 hF => ?_)
          refine g_iconst hX dX7_lake_46 ?_
          refine g_icmp_lt (tgt := 54) hX dX7_lake_47 (by decide) hF (fun hc hF => ?_) (fun hc hF => ?_)
          · refine g_iconst hX dX7_lake_54 ?_
            exact T_X7_lake_B55 hX hR hnm hQ hE jx0 jx1 jx2 jx3 jx4 0  σ8 hF
          · refine g_iconst hX dX7_lake_50 ?_
            refine g_goto (tgt := 55) hX dX7_lake_51 (by decide) ?_
            exact T_X7_lake_B55 hX hR hnm hQ hE jx0 jx1 jx2 jx3 jx4 1  σ8 hF
end

section
variable {p : Program} {l : Launch} {e : Env} {R : Room} {s : State} {m : MethodId} {args : Array Value} {below : List Frame} {meth : Method} {c : Code} {D : va_G} {dA : Nat → ClassId} {b0 n0 m0 nE mE : Nat} {Q : State → Prop}
def F_X7_head (jx0 : Int) (jx1 : Int) (jx2 : Int) (jx3 : Int) (σ : Hp) : Option (Int × Hp) :=
  (rd 8 σ jx0 0).bind fun jv1 => bd (iv 5 σ jv1 (F_X4_lakeAt  jv1 jx1 σ)) fun jv2 σ3 => bN jv2 (some ((-1), σ3)) ((rd 1 σ3 jv2 2).bind fun jv4 => bd (F_X7_isWithin jx2 jv4 σ3) fun jv5 σ6 => bEq jv5 0 (some ((-1), σ6)) (bd (F_X7_isWithin jx3 9 σ6) fun jv7 σ8 => bEq jv7 0 (some ((-1), σ8)) (bd (iv 1 σ8 jv2 (F_X0_takesHead  jv2 jx2 jx3 σ8)) fun jv9 σ10 => bEq jv9 0 (some ((-1), σ10)) ((rd 8 σ10 jx0 4).bind fun jv11 => (rd 3 σ10 jv11 5).bind fun jv12 => bEq jv12 0 (bd (iv 1 σ10 jv2 (F_X0_headAt  jv2 jx2 σ10)) fun jv13 σ14 => (rd 1 σ14 jv2 0).bind fun jv15 => (aw 11 σ14 jv15 jx2 jx3).bind fun σ16 => (rd 8 σ16 jx0 2).bind fun jv17 => bd (iv 7 σ16 jv17 (F_X6_forget  jv17  σ16)) fun jv18 σ19 => some (jv13, σ19)) (some ((-2), σ10))))))
theorem M_X7_head (jx0 : Int) (jx1 : Int) (jx2 : Int) (jx3 : Int) (σ : Hp) : Mn σ (F_X7_head jx0 jx1 jx2 jx3 σ) := by
  unfold F_X7_head
  repeat' first | exact Mn_ret | exact Mn_rz | exact M_X4_lakeAt _ _ _ | exact M_X7_isWithin _ _ _ | exact M_X0_takesHead _ _ _ _ | exact M_X0_headAt _ _ _ | exact M_X6_forget _ _ | refine Mn_nm (fun _ => ?_) | refine Mn_nab (fun _ _ => ?_) | refine Mn_nwb (fun _ _ => ?_) | refine Mn_pw (fun _ => ?_) | refine Mn_pz (fun _ => ?_) | refine Mn_aw (fun _ => ?_) | refine Mn_az (fun _ => ?_) | refine Mn_aq (fun _ => ?_) | refine Mn_bo (fun _ => ?_) | refine Mn_bd ?_ (fun _ _ => ?_) | refine Mn_iv ?_ | refine Mn_bLt ?_ ?_ | refine Mn_bLe ?_ ?_ | refine Mn_bEq ?_ ?_ | refine Mn_bN ?_ ?_ | refine Mn_g3 ?_ | refine Mn_g33 ?_ | refine Mn_g66 ?_ | refine Mn_gD ?_
set_option maxRecDepth 100000 in
set_option maxHeartbeats 4000000 in
theorem T_X7_head (l : Launch) (D : va_G) (dA : Nat → ClassId) (b0 : Nat) (jx0 : Int) (jx1 : Int) (jx2 : Int) (jx3 : Int) (σ σE : Hp) (r : Int) (hF : F_X7_head jx0 jx1 jx2 jx3 σ = some (r, σE)) : Ct l D dA b0 yX7_head cX7_head 6 (some .int) 2 43 [(2, jx0), (0, jx1), (0, jx2), (0, jx3)] σ (some (pV 0 r)) σE := by
  refine Ct.of (lv0 := [(0, 2, jx0), (1, 0, jx1), (2, 0, jx2), (3, 0, jx3)]) (by decide) RX7 rfl (Nat.le_of_ble_eq_true rfl) rfl ?_ (M_X7_head jx0 jx1 jx2 jx3 σ r σE hF)
  intro p e R s m args below meth c hX hR hnm
  obtain ⟨Q, hQ⟩ : ∃ Q, Q = Qm D dA b0 σ.1 σ.2.1 below args s (some (pV 0 r)) σE := ⟨_, rfl⟩
  rw [← hQ]
  have hE : σE.1 = σE.1 ∧ σE.2.1 = σE.2.1 := ⟨rfl, rfl⟩
  unfold F_X7_head at hF
  refine g_aload_n hX 0 dX7_head_0 rfl rfl ?_
  refine g_get hX fl_X7_10 (by decide) (by decide) dX7_head_1 hF (fun jv1 hF => ?_)
  refine g_iload_n hX 1 dX7_head_4 rfl rfl ?_
  refine g_callV (t := 2) (ci := 4) (rest := []) [(0, jx1)] hX cw_X7_69 rfl (by decide) (by decide) (fun r σ1 h => T_X4_lakeAt l D dA b0  jv1 jx1 σ σ1 r h) ⟨by decide, by decide⟩ rfl rfl (Nat.le_of_ble_eq_true rfl) dX7_head_5 hF (fun jv2 σ3 hF => ?_)
  refine g_astore (lv' := [(4, 2, jv2), (0, 2, jx0), (1, 0, jx1), (2, 0, jx2), (3, 0, jx3)]) hX dX7_head_8 (by decide) rfl ?_
  refine g_aload hX 0 dX7_head_10 rfl ?_
  refine g_ifnull (tgt := 36) hX dX7_head_12 (by decide) hF (fun hc hF => ?_) (fun hc hF => ?_)
  · refine g_iconst hX dX7_head_36 ?_
    exact g_iret hX hR hQ hE dX7_head_37 hF
  · refine g_iload_n hX 3 dX7_head_15 rfl rfl ?_
    refine g_aload hX 0 dX7_head_16 rfl ?_
    refine g_get hX fl_X7_73 (by decide) (by decide) dX7_head_18 hF (fun jv4 hF => ?_)
    refine g_callS (t := 0) (rest := []) [(0, jx2), (0, jv4)] hX cw_X7_46 (fun r σ1 h => T_X7_isWithin l D dA b0 jx2 jv4 σ3 σ1 r h) ⟨by decide, by decide⟩ rfl rfl (Nat.le_of_ble_eq_true rfl) dX7_head_21 hF (fun jv5 σ6 hF => ?_)
    refine g_if_eq (tgt := 36) hX dX7_head_24 (by decide) hF (fun hc hF => ?_) (fun hc hF => ?_)
    · refine g_iconst hX dX7_head_36 ?_
      exact g_iret hX hR hQ hE dX7_head_37 hF
    · refine g_iload_n hX 4 dX7_head_27 rfl rfl ?_
      refine g_bipush hX dX7_head_28 (by decide) ?_
      refine g_callS (t := 0) (rest := []) [(0, jx3), (0, 9)] hX cw_X7_46 (fun r σ1 h => T_X7_isWithin l D dA b0 jx3 9 σ6 σ1 r h) ⟨by decide, by decide⟩ rfl rfl (Nat.le_of_ble_eq_true rfl) dX7_head_30 hF (fun jv7 σ8 hF => ?_)
      refine g_if_ne (tgt := 38) hX dX7_head_33 (by decide) hF (fun hc hF => ?_) (fun hc hF => ?_)
      · refine g_iconst hX dX7_head_36 ?_
        exact g_iret hX hR hQ hE dX7_head_37 hF
      · refine g_aload hX 0 dX7_head_38 rfl ?_
        refine g_iload_n hX 3 dX7_head_40 rfl rfl ?_
        refine g_iload_n hX 4 dX7_head_41 rfl rfl ?_
        refine g_callV (t := 0) (ci := 0) (rest := []) [(0, jx2), (0, jx3)] hX cw_X7_78 rfl (by decide) (by decide) (fun r σ1 h => T_X0_takesHead l D dA b0  jv2 jx2 jx3 σ8 σ1 r h) ⟨by decide, by decide⟩ rfl rfl (Nat.le_of_ble_eq_true rfl) dX7_head_42 hF (fun jv9 σ10 hF => ?_)
        refine g_if_ne (tgt := 50) hX dX7_head_45 (by decide) hF (fun hc hF => ?_) (fun hc hF => ?_)
        · refine g_iconst hX dX7_head_48 ?_
          exact g_iret hX hR hQ hE dX7_head_49 hF
        · refine g_aload_n hX 1 dX7_head_50 rfl rfl ?_
          refine g_get hX fl_X7_42 (by decide) (by decide) dX7_head_51 hF (fun jv11 hF => ?_)
          refine g_get hX fl_X7_57 (by decide) (by decide) dX7_head_54 hF (fun jv12 hF => ?_)
          refine g_if_eq (tgt := 63) hX dX7_head_57 (by decide) hF (fun hc hF => ?_) (fun hc hF => ?_)
          · refine g_aload hX 0 dX7_head_63 rfl ?_
            refine g_iload_n hX 3 dX7_head_65 rfl rfl ?_
            refine g_callV (t := 0) (ci := 0) (rest := []) [(0, jx2)] hX cw_X7_81 rfl (by decide) (by decide) (fun r σ1 h => T_X0_headAt l D dA b0  jv2 jx2 σ10 σ1 r h) ⟨by decide, by decide⟩ rfl rfl (Nat.le_of_ble_eq_true rfl) dX7_head_66 hF (fun jv13 σ14 hF => ?_)
            refine g_istore (lv' := [(5, 0, jv13), (4, 2, jv2), (0, 2, jx0), (1, 0, jx1), (2, 0, jx2), (3, 0, jx3)]) hX dX7_head_69 (by decide) rfl ?_
            refine g_aload hX 1 dX7_head_71 rfl ?_
            refine g_get hX fl_X7_85 (by decide) (by decide) dX7_head_73 hF (fun jv15 hF => ?_)
            refine g_iload_n hX 4 dX7_head_76 rfl rfl ?_
            refine g_iload_n hX 5 dX7_head_77 rfl rfl ?_
            refine u_iast hX dX7_head_78 hF (fun σ16 hF => ?_)
            refine g_aload_n hX 2 dX7_head_79 rfl rfl ?_
            refine g_get hX fl_X7_28 (by decide) (by decide) dX7_head_80 hF (fun jv17 hF => ?_)
            refine g_callVv (ci := 6) (rest := []) [] hX cw_X7_62 rfl (by decide) (by decide) (fun r σ1 h => T_X6_forget l D dA b0  jv17  σ16 σ1 r h) ⟨by decide, by decide⟩ rfl rfl (Nat.le_of_ble_eq_true rfl) dX7_head_83 hF (fun jv18 σ19 hF => ?_)
            refine g_iload hX 0 dX7_head_86 rfl ?_
            exact g_iret hX hR hQ hE dX7_head_88 hF
          · refine g_bipush hX dX7_head_60 (by decide) ?_
            exact g_iret hX hR hQ hE dX7_head_62 hF
end

section
variable {p : Program} {l : Launch} {e : Env} {R : Room} {s : State} {m : MethodId} {args : Array Value} {below : List Frame} {meth : Method} {c : Code} {D : va_G} {dA : Nat → ClassId} {b0 n0 m0 nE mE : Nat} {Q : State → Prop}
def F_X7_end (jx0 : Int) (jx1 : Int) (jx2 : Int) (σ : Hp) : Option (Int × Hp) :=
  (rd 8 σ jx0 0).bind fun jv1 => bd (iv 5 σ jv1 (F_X4_lakeAt  jv1 jx1 σ)) fun jv2 σ3 => bN jv2 (some ((-1), σ3)) (bd (F_X7_isWithin jx2 99 σ3) fun jv4 σ5 => bEq jv4 0 (some ((-1), σ5)) ((rd 8 σ5 jx0 4).bind fun jv6 => (rd 3 σ5 jv6 5).bind fun jv7 => bEq jv7 0 ((rd 1 σ5 jv2 5).bind fun jv8 => (pw 1 σ5 jv2 5 jx2).bind fun σ9 => (rd 8 σ9 jx0 2).bind fun jv10 => bd (iv 7 σ9 jv10 (F_X6_forget  jv10  σ9)) fun jv11 σ12 => some (jv8, σ12)) (some ((-2), σ5))))
theorem M_X7_end (jx0 : Int) (jx1 : Int) (jx2 : Int) (σ : Hp) : Mn σ (F_X7_end jx0 jx1 jx2 σ) := by
  unfold F_X7_end
  repeat' first | exact Mn_ret | exact Mn_rz | exact M_X4_lakeAt _ _ _ | exact M_X7_isWithin _ _ _ | exact M_X6_forget _ _ | refine Mn_nm (fun _ => ?_) | refine Mn_nab (fun _ _ => ?_) | refine Mn_nwb (fun _ _ => ?_) | refine Mn_pw (fun _ => ?_) | refine Mn_pz (fun _ => ?_) | refine Mn_aw (fun _ => ?_) | refine Mn_az (fun _ => ?_) | refine Mn_aq (fun _ => ?_) | refine Mn_bo (fun _ => ?_) | refine Mn_bd ?_ (fun _ _ => ?_) | refine Mn_iv ?_ | refine Mn_bLt ?_ ?_ | refine Mn_bLe ?_ ?_ | refine Mn_bEq ?_ ?_ | refine Mn_bN ?_ ?_ | refine Mn_g3 ?_ | refine Mn_g33 ?_ | refine Mn_g66 ?_ | refine Mn_gD ?_
set_option maxRecDepth 100000 in
set_option maxHeartbeats 4000000 in
theorem T_X7_end (l : Launch) (D : va_G) (dA : Nat → ClassId) (b0 : Nat) (jx0 : Int) (jx1 : Int) (jx2 : Int) (σ σE : Hp) (r : Int) (hF : F_X7_end jx0 jx1 jx2 σ = some (r, σE)) : Ct l D dA b0 yX7_end cX7_end 5 (some .int) 1 21 [(2, jx0), (0, jx1), (0, jx2)] σ (some (pV 0 r)) σE := by
  refine Ct.of (lv0 := [(0, 2, jx0), (1, 0, jx1), (2, 0, jx2)]) (by decide) RX7 rfl (Nat.le_of_ble_eq_true rfl) rfl ?_ (M_X7_end jx0 jx1 jx2 σ r σE hF)
  intro p e R s m args below meth c hX hR hnm
  obtain ⟨Q, hQ⟩ : ∃ Q, Q = Qm D dA b0 σ.1 σ.2.1 below args s (some (pV 0 r)) σE := ⟨_, rfl⟩
  rw [← hQ]
  have hE : σE.1 = σE.1 ∧ σE.2.1 = σE.2.1 := ⟨rfl, rfl⟩
  unfold F_X7_end at hF
  refine g_aload_n hX 0 dX7_end_0 rfl rfl ?_
  refine g_get hX fl_X7_10 (by decide) (by decide) dX7_end_1 hF (fun jv1 hF => ?_)
  refine g_iload_n hX 1 dX7_end_4 rfl rfl ?_
  refine g_callV (t := 2) (ci := 4) (rest := []) [(0, jx1)] hX cw_X7_69 rfl (by decide) (by decide) (fun r σ1 h => T_X4_lakeAt l D dA b0  jv1 jx1 σ σ1 r h) ⟨by decide, by decide⟩ rfl rfl (Nat.le_of_ble_eq_true rfl) dX7_end_5 hF (fun jv2 σ3 hF => ?_)
  refine g_astore_n (lv' := [(3, 2, jv2), (0, 2, jx0), (1, 0, jx1), (2, 0, jx2)]) hX dX7_end_8 rfl (by decide) rfl ?_
  refine g_aload_n hX 0 dX7_end_9 rfl rfl ?_
  refine g_ifnull (tgt := 22) hX dX7_end_10 (by decide) hF (fun hc hF => ?_) (fun hc hF => ?_)
  · refine g_iconst hX dX7_end_22 ?_
    exact g_iret hX hR hQ hE dX7_end_23 hF
  · refine g_iload_n hX 3 dX7_end_13 rfl rfl ?_
    refine g_bipush hX dX7_end_14 (by decide) ?_
    refine g_callS (t := 0) (rest := []) [(0, jx2), (0, 99)] hX cw_X7_46 (fun r σ1 h => T_X7_isWithin l D dA b0 jx2 99 σ3 σ1 r h) ⟨by decide, by decide⟩ rfl rfl (Nat.le_of_ble_eq_true rfl) dX7_end_16 hF (fun jv4 σ5 hF => ?_)
    refine g_if_ne (tgt := 24) hX dX7_end_19 (by decide) hF (fun hc hF => ?_) (fun hc hF => ?_)
    · refine g_iconst hX dX7_end_22 ?_
      exact g_iret hX hR hQ hE dX7_end_23 hF
    · refine g_aload_n hX 1 dX7_end_24 rfl rfl ?_
      refine g_get hX fl_X7_42 (by decide) (by decide) dX7_end_25 hF (fun jv6 hF => ?_)
      refine g_get hX fl_X7_57 (by decide) (by decide) dX7_end_28 hF (fun jv7 hF => ?_)
      refine g_if_eq (tgt := 37) hX dX7_end_31 (by decide) hF (fun hc hF => ?_) (fun hc hF => ?_)
      · refine g_aload_n hX 0 dX7_end_37 rfl rfl ?_
        refine g_get hX fl_X7_89 (by decide) (by decide) dX7_end_38 hF (fun jv8 hF => ?_)
        refine g_istore (lv' := [(4, 0, jv8), (3, 2, jv2), (0, 2, jx0), (1, 0, jx1), (2, 0, jx2)]) hX dX7_end_41 (by decide) rfl ?_
        refine g_aload_n hX 1 dX7_end_43 rfl rfl ?_
        refine g_iload_n hX 4 dX7_end_44 rfl rfl ?_
        refine u_put hX fp_X7_89 (by decide) (by decide) dX7_end_45 hF (fun σ9 hF => ?_)
        refine g_aload_n hX 2 dX7_end_48 rfl rfl ?_
        refine g_get hX fl_X7_28 (by decide) (by decide) dX7_end_49 hF (fun jv10 hF => ?_)
        refine g_callVv (ci := 6) (rest := []) [] hX cw_X7_62 rfl (by decide) (by decide) (fun r σ1 h => T_X6_forget l D dA b0  jv10  σ9 σ1 r h) ⟨by decide, by decide⟩ rfl rfl (Nat.le_of_ble_eq_true rfl) dX7_end_52 hF (fun jv11 σ12 hF => ?_)
        refine g_iload hX 0 dX7_end_55 rfl ?_
        exact g_iret hX hR hQ hE dX7_end_57 hF
      · refine g_bipush hX dX7_end_34 (by decide) ?_
        exact g_iret hX hR hQ hE dX7_end_36 hF
end

section
variable {p : Program} {l : Launch} {e : Env} {R : Room} {s : State} {m : MethodId} {args : Array Value} {below : List Frame} {meth : Method} {c : Code} {D : va_G} {dA : Nat → ClassId} {b0 n0 m0 nE mE : Nat} {Q : State → Prop}
def F_X7_weeks (jx0 : Int) (jx1 : Int) (jx2 : Int) (σ : Hp) : Option (Int × Hp) :=
  bLt jx1 1 (some ((-1), σ)) (bLe jx1 10 (bLt jx2 1 (some ((-1), σ)) (bLe jx2 6 ((rd 8 σ jx0 4).bind fun jv1 => (rd 3 σ jv1 5).bind fun jv2 => bEq jv2 0 ((rd 8 σ jx0 1).bind fun jv3 => bd (iv 4 σ jv3 (F_X3_clear  jv3 jx1 jx2 σ)) fun jv4 σ5 => (rd 8 σ5 jx0 2).bind fun jv6 => bd (iv 7 σ5 jv6 (F_X6_forget  jv6  σ5)) fun jv7 σ8 => some (1, σ8)) (some ((-2), σ))) (some ((-1), σ)))) (some ((-1), σ)))
theorem M_X7_weeks (jx0 : Int) (jx1 : Int) (jx2 : Int) (σ : Hp) : Mn σ (F_X7_weeks jx0 jx1 jx2 σ) := by
  unfold F_X7_weeks
  repeat' first | exact Mn_ret | exact Mn_rz | exact M_X3_clear _ _ _ _ | exact M_X6_forget _ _ | refine Mn_nm (fun _ => ?_) | refine Mn_nab (fun _ _ => ?_) | refine Mn_nwb (fun _ _ => ?_) | refine Mn_pw (fun _ => ?_) | refine Mn_pz (fun _ => ?_) | refine Mn_aw (fun _ => ?_) | refine Mn_az (fun _ => ?_) | refine Mn_aq (fun _ => ?_) | refine Mn_bo (fun _ => ?_) | refine Mn_bd ?_ (fun _ _ => ?_) | refine Mn_iv ?_ | refine Mn_bLt ?_ ?_ | refine Mn_bLe ?_ ?_ | refine Mn_bEq ?_ ?_ | refine Mn_bN ?_ ?_ | refine Mn_g3 ?_ | refine Mn_g33 ?_ | refine Mn_g66 ?_ | refine Mn_gD ?_
set_option maxRecDepth 100000 in
set_option maxHeartbeats 4000000 in
theorem T_X7_weeks (l : Launch) (D : va_G) (dA : Nat → ClassId) (b0 : Nat) (jx0 : Int) (jx1 : Int) (jx2 : Int) (σ σE : Hp) (r : Int) (hF : F_X7_weeks jx0 jx1 jx2 σ = some (r, σE)) : Ct l D dA b0 yX7_weeks cX7_weeks 3 (some .int) 2 42 [(2, jx0), (0, jx1), (0, jx2)] σ (some (pV 0 r)) σE := by
  refine Ct.of (lv0 := [(0, 2, jx0), (1, 0, jx1), (2, 0, jx2)]) (by decide) RX7 rfl (Nat.le_of_ble_eq_true rfl) rfl ?_ (M_X7_weeks jx0 jx1 jx2 σ r σE hF)
  intro p e R s m args below meth c hX hR hnm
  obtain ⟨Q, hQ⟩ : ∃ Q, Q = Qm D dA b0 σ.1 σ.2.1 below args s (some (pV 0 r)) σE := ⟨_, rfl⟩
  rw [← hQ]
  have hE : σE.1 = σE.1 ∧ σE.2.1 = σE.2.1 := ⟨rfl, rfl⟩
  unfold F_X7_weeks at hF
  refine g_iload_n hX 1 dX7_weeks_0 rfl rfl ?_
  refine g_iconst hX dX7_weeks_1 ?_
  refine g_icmp_lt (tgt := 22) hX dX7_weeks_2 (by decide) hF (fun hc hF => ?_) (fun hc hF => ?_)
  · refine g_iconst hX dX7_weeks_22 ?_
    exact g_iret hX hR hQ hE dX7_weeks_23 hF
  · refine g_iload_n hX 1 dX7_weeks_5 rfl rfl ?_
    refine g_bipush hX dX7_weeks_6 (by decide) ?_
    refine g_icmp_gt (tgt := 22) hX dX7_weeks_8 (by decide) hF (fun hc hF => ?_) (fun hc hF => ?_)
    · refine g_iload_n hX 2 dX7_weeks_11 rfl rfl ?_
      refine g_iconst hX dX7_weeks_12 ?_
      refine g_icmp_lt (tgt := 22) hX dX7_weeks_13 (by decide) hF (fun hc hF => ?_) (fun hc hF => ?_)
      · refine g_iconst hX dX7_weeks_22 ?_
        exact g_iret hX hR hQ hE dX7_weeks_23 hF
      · refine g_iload_n hX 2 dX7_weeks_16 rfl rfl ?_
        refine g_bipush hX dX7_weeks_17 (by decide) ?_
        refine g_icmp_le (tgt := 24) hX dX7_weeks_19 (by decide) hF (fun hc hF => ?_) (fun hc hF => ?_)
        · refine g_aload_n hX 0 dX7_weeks_24 rfl rfl ?_
          refine g_get hX fl_X7_42 (by decide) (by decide) dX7_weeks_25 hF (fun jv1 hF => ?_)
          refine g_get hX fl_X7_57 (by decide) (by decide) dX7_weeks_28 hF (fun jv2 hF => ?_)
          refine g_if_eq (tgt := 37) hX dX7_weeks_31 (by decide) hF (fun hc hF => ?_) (fun hc hF => ?_)
          · refine g_aload_n hX 0 dX7_weeks_37 rfl rfl ?_
            refine g_get hX fl_X7_19 (by decide) (by decide) dX7_weeks_38 hF (fun jv3 hF => ?_)
            refine g_iload_n hX 1 dX7_weeks_41 rfl rfl ?_
            refine g_iload_n hX 2 dX7_weeks_42 rfl rfl ?_
            refine g_callVv (ci := 3) (rest := []) [(0, jx1), (0, jx2)] hX cw_X7_92 rfl (by decide) (by decide) (fun r σ1 h => T_X3_clear l D dA b0  jv3 jx1 jx2 σ σ1 r h) ⟨by decide, by decide⟩ rfl rfl (Nat.le_of_ble_eq_true rfl) dX7_weeks_43 hF (fun jv4 σ5 hF => ?_)
            refine g_aload_n hX 0 dX7_weeks_46 rfl rfl ?_
            refine g_get hX fl_X7_28 (by decide) (by decide) dX7_weeks_47 hF (fun jv6 hF => ?_)
            refine g_callVv (ci := 6) (rest := []) [] hX cw_X7_62 rfl (by decide) (by decide) (fun r σ1 h => T_X6_forget l D dA b0  jv6  σ5 σ1 r h) ⟨by decide, by decide⟩ rfl rfl (Nat.le_of_ble_eq_true rfl) dX7_weeks_50 hF (fun jv7 σ8 hF => ?_)
            refine g_iconst hX dX7_weeks_53 ?_
            exact g_iret hX hR hQ hE dX7_weeks_54 hF
          · refine g_bipush hX dX7_weeks_34 (by decide) ?_
            exact g_iret hX hR hQ hE dX7_weeks_36 hF
        · refine g_iconst hX dX7_weeks_22 ?_
          exact g_iret hX hR hQ hE dX7_weeks_23 hF
    · refine g_iconst hX dX7_weeks_22 ?_
      exact g_iret hX hR hQ hE dX7_weeks_23 hF
end

section
variable {p : Program} {l : Launch} {e : Env} {R : Room} {s : State} {m : MethodId} {args : Array Value} {below : List Frame} {meth : Method} {c : Code} {D : va_G} {dA : Nat → ClassId} {b0 n0 m0 nE mE : Nat} {Q : State → Prop}
def F_X7_price (jx0 : Int) (jx1 : Int) (jx2 : Int) (σ : Hp) : Option (Int × Hp) :=
  bd (F_X7_isWithin jx1 9 σ) fun jv1 σ2 => bEq jv1 0 (some ((-1), σ2)) (bd (F_X7_isWithin jx2 20 σ2) fun jv3 σ4 => bEq jv3 0 (some ((-1), σ4)) ((rd 8 σ4 jx0 4).bind fun jv5 => (rd 3 σ4 jv5 5).bind fun jv6 => bEq jv6 0 ((rd 8 σ4 jx0 1).bind fun jv7 => (rd 4 σ4 jv7 1).bind fun jv8 => (ar 11 σ4 jv8 jx1).bind fun jv9 => (rd 8 σ4 jx0 1).bind fun jv10 => (rd 4 σ4 jv10 1).bind fun jv11 => (aw 11 σ4 jv11 jx1 jx2).bind fun σ12 => (rd 8 σ12 jx0 2).bind fun jv13 => bd (iv 7 σ12 jv13 (F_X6_forget  jv13  σ12)) fun jv14 σ15 => some (jv9, σ15)) (some ((-2), σ4))))
theorem M_X7_price (jx0 : Int) (jx1 : Int) (jx2 : Int) (σ : Hp) : Mn σ (F_X7_price jx0 jx1 jx2 σ) := by
  unfold F_X7_price
  repeat' first | exact Mn_ret | exact Mn_rz | exact M_X7_isWithin _ _ _ | exact M_X6_forget _ _ | refine Mn_nm (fun _ => ?_) | refine Mn_nab (fun _ _ => ?_) | refine Mn_nwb (fun _ _ => ?_) | refine Mn_pw (fun _ => ?_) | refine Mn_pz (fun _ => ?_) | refine Mn_aw (fun _ => ?_) | refine Mn_az (fun _ => ?_) | refine Mn_aq (fun _ => ?_) | refine Mn_bo (fun _ => ?_) | refine Mn_bd ?_ (fun _ _ => ?_) | refine Mn_iv ?_ | refine Mn_bLt ?_ ?_ | refine Mn_bLe ?_ ?_ | refine Mn_bEq ?_ ?_ | refine Mn_bN ?_ ?_ | refine Mn_g3 ?_ | refine Mn_g33 ?_ | refine Mn_g66 ?_ | refine Mn_gD ?_
set_option maxRecDepth 100000 in
set_option maxHeartbeats 4000000 in
theorem T_X7_price (l : Launch) (D : va_G) (dA : Nat → ClassId) (b0 : Nat) (jx0 : Int) (jx1 : Int) (jx2 : Int) (σ σE : Hp) (r : Int) (hF : F_X7_price jx0 jx1 jx2 σ = some (r, σE)) : Ct l D dA b0 yX7_price cX7_price 4 (some .int) 1 21 [(2, jx0), (0, jx1), (0, jx2)] σ (some (pV 0 r)) σE := by
  refine Ct.of (lv0 := [(0, 2, jx0), (1, 0, jx1), (2, 0, jx2)]) (by decide) RX7 rfl (Nat.le_of_ble_eq_true rfl) rfl ?_ (M_X7_price jx0 jx1 jx2 σ r σE hF)
  intro p e R s m args below meth c hX hR hnm
  obtain ⟨Q, hQ⟩ : ∃ Q, Q = Qm D dA b0 σ.1 σ.2.1 below args s (some (pV 0 r)) σE := ⟨_, rfl⟩
  rw [← hQ]
  have hE : σE.1 = σE.1 ∧ σE.2.1 = σE.2.1 := ⟨rfl, rfl⟩
  unfold F_X7_price at hF
  refine g_iload_n hX 1 dX7_price_0 rfl rfl ?_
  refine g_bipush hX dX7_price_1 (by decide) ?_
  refine g_callS (t := 0) (rest := []) [(0, jx1), (0, 9)] hX cw_X7_46 (fun r σ1 h => T_X7_isWithin l D dA b0 jx1 9 σ σ1 r h) ⟨by decide, by decide⟩ rfl rfl (Nat.le_of_ble_eq_true rfl) dX7_price_3 hF (fun jv1 σ2 hF => ?_)
  refine g_if_eq (tgt := 18) hX dX7_price_6 (by decide) hF (fun hc hF => ?_) (fun hc hF => ?_)
  · refine g_iconst hX dX7_price_18 ?_
    exact g_iret hX hR hQ hE dX7_price_19 hF
  · refine g_iload_n hX 2 dX7_price_9 rfl rfl ?_
    refine g_bipush hX dX7_price_10 (by decide) ?_
    refine g_callS (t := 0) (rest := []) [(0, jx2), (0, 20)] hX cw_X7_46 (fun r σ1 h => T_X7_isWithin l D dA b0 jx2 20 σ2 σ1 r h) ⟨by decide, by decide⟩ rfl rfl (Nat.le_of_ble_eq_true rfl) dX7_price_12 hF (fun jv3 σ4 hF => ?_)
    refine g_if_ne (tgt := 20) hX dX7_price_15 (by decide) hF (fun hc hF => ?_) (fun hc hF => ?_)
    · refine g_iconst hX dX7_price_18 ?_
      exact g_iret hX hR hQ hE dX7_price_19 hF
    · refine g_aload_n hX 0 dX7_price_20 rfl rfl ?_
      refine g_get hX fl_X7_42 (by decide) (by decide) dX7_price_21 hF (fun jv5 hF => ?_)
      refine g_get hX fl_X7_57 (by decide) (by decide) dX7_price_24 hF (fun jv6 hF => ?_)
      refine g_if_eq (tgt := 33) hX dX7_price_27 (by decide) hF (fun hc hF => ?_) (fun hc hF => ?_)
      · refine g_aload_n hX 0 dX7_price_33 rfl rfl ?_
        refine g_get hX fl_X7_19 (by decide) (by decide) dX7_price_34 hF (fun jv7 hF => ?_)
        refine g_get hX fl_X7_96 (by decide) (by decide) dX7_price_37 hF (fun jv8 hF => ?_)
        refine g_iload_n hX 1 dX7_price_40 rfl rfl ?_
        refine g_iald hX dX7_price_41 hF (fun jv9 hF => ?_)
        refine g_istore_n (lv' := [(3, 0, jv9), (0, 2, jx0), (1, 0, jx1), (2, 0, jx2)]) hX dX7_price_42 rfl (by decide) rfl ?_
        refine g_aload_n hX 1 dX7_price_43 rfl rfl ?_
        refine g_get hX fl_X7_19 (by decide) (by decide) dX7_price_44 hF (fun jv10 hF => ?_)
        refine g_get hX fl_X7_96 (by decide) (by decide) dX7_price_47 hF (fun jv11 hF => ?_)
        refine g_iload_n hX 2 dX7_price_50 rfl rfl ?_
        refine g_iload_n hX 3 dX7_price_51 rfl rfl ?_
        refine u_iast hX dX7_price_52 hF (fun σ12 hF => ?_)
        refine g_aload_n hX 1 dX7_price_53 rfl rfl ?_
        refine g_get hX fl_X7_28 (by decide) (by decide) dX7_price_54 hF (fun jv13 hF => ?_)
        refine g_callVv (ci := 6) (rest := []) [] hX cw_X7_62 rfl (by decide) (by decide) (fun r σ1 h => T_X6_forget l D dA b0  jv13  σ12 σ1 r h) ⟨by decide, by decide⟩ rfl rfl (Nat.le_of_ble_eq_true rfl) dX7_price_57 hF (fun jv14 σ15 hF => ?_)
        refine g_iload_n hX 0 dX7_price_60 rfl rfl ?_
        exact g_iret hX hR hQ hE dX7_price_61 hF
      · refine g_bipush hX dX7_price_30 (by decide) ?_
        exact g_iret hX hR hQ hE dX7_price_32 hF
end

section
variable {p : Program} {l : Launch} {e : Env} {R : Room} {s : State} {m : MethodId} {args : Array Value} {below : List Frame} {meth : Method} {c : Code} {D : va_G} {dA : Nat → ClassId} {b0 n0 m0 nE mE : Nat} {Q : State → Prop}
def F_X7_node (jx0 : Int) (jx1 : Int) (jx2 : Int) (jx3 : Int) (σ : Hp) : Option (Int × Hp) :=
  (rd 8 σ jx0 1).bind fun jv1 => bd (iv 4 σ jv1 (F_X3_nodeAt  jv1 jx1 σ)) fun jv2 σ3 => bN jv2 (some ((-1), σ3)) ((rd 8 σ3 jx0 1).bind fun jv4 => bd (iv 4 σ3 jv4 (F_X3_isLast  jv4 jv2 σ3)) fun jv5 σ6 => bEq jv5 0 (bLt jx2 1 (some ((-1), σ6)) ((rd 8 σ6 jx0 1).bind fun jv7 => (rd 4 σ6 jv7 4).bind fun jv8 => (rd 2 σ6 jv2 7).bind fun jv9 => bLe jx2 (jv8 - jv9) ((rd 8 σ6 jx0 0).bind fun jv10 => bd (iv 5 σ6 jv10 (F_X4_mostIn  jv10  σ6)) fun jv11 σ12 => bd (F_X7_isWithin jx3 jv11 σ12) fun jv13 σ14 => bEq jv13 0 (some ((-1), σ14)) ((rd 8 σ14 jx0 4).bind fun jv15 => (rd 3 σ14 jv15 5).bind fun jv16 => bEq jv16 0 ((rd 8 σ14 jx0 1).bind fun jv17 => bd (iv 4 σ14 jv17 (F_X3_addNode  jv17 jv2 jx2 σ14)) fun jv18 σ19 => bN jv18 (some ((-5), σ19)) ((rd 8 σ19 jx0 0).bind fun jv20 => (rd 2 σ19 jv18 1).bind fun jv21 => bd (iv 5 σ19 jv20 (F_X4_tellIn  jv20 jx3 jv21 σ19)) fun jv22 σ23 => (rd 8 σ23 jx0 2).bind fun jv24 => bd (iv 7 σ23 jv24 (F_X6_forget  jv24  σ23)) fun jv25 σ26 => (rd 2 σ26 jv18 0).bind fun jv27 => some (jv27, σ26))) (some ((-2), σ14)))) (some ((-1), σ6)))) (some ((-1), σ6)))
theorem M_X7_node (jx0 : Int) (jx1 : Int) (jx2 : Int) (jx3 : Int) (σ : Hp) : Mn σ (F_X7_node jx0 jx1 jx2 jx3 σ) := by
  unfold F_X7_node
  repeat' first | exact Mn_ret | exact Mn_rz | exact M_X3_nodeAt _ _ _ | exact M_X3_isLast _ _ _ | exact M_X4_mostIn _ _ | exact M_X7_isWithin _ _ _ | exact M_X3_addNode _ _ _ _ | exact M_X4_tellIn _ _ _ _ | exact M_X6_forget _ _ | refine Mn_nm (fun _ => ?_) | refine Mn_nab (fun _ _ => ?_) | refine Mn_nwb (fun _ _ => ?_) | refine Mn_pw (fun _ => ?_) | refine Mn_pz (fun _ => ?_) | refine Mn_aw (fun _ => ?_) | refine Mn_az (fun _ => ?_) | refine Mn_aq (fun _ => ?_) | refine Mn_bo (fun _ => ?_) | refine Mn_bd ?_ (fun _ _ => ?_) | refine Mn_iv ?_ | refine Mn_bLt ?_ ?_ | refine Mn_bLe ?_ ?_ | refine Mn_bEq ?_ ?_ | refine Mn_bN ?_ ?_ | refine Mn_g3 ?_ | refine Mn_g33 ?_ | refine Mn_g66 ?_ | refine Mn_gD ?_
set_option maxRecDepth 100000 in
set_option maxHeartbeats 4000000 in
theorem T_X7_node (l : Launch) (D : va_G) (dA : Nat → ClassId) (b0 : Nat) (jx0 : Int) (jx1 : Int) (jx2 : Int) (jx3 : Int) (σ σE : Hp) (r : Int) (hF : F_X7_node jx0 jx1 jx2 jx3 σ = some (r, σE)) : Ct l D dA b0 yX7_node cX7_node 6 (some .int) 3 64 [(2, jx0), (0, jx1), (0, jx2), (0, jx3)] σ (some (pV 0 r)) σE := by
  refine Ct.of (lv0 := [(0, 2, jx0), (1, 0, jx1), (2, 0, jx2), (3, 0, jx3)]) (by decide) RX7 rfl (Nat.le_of_ble_eq_true rfl) rfl ?_ (M_X7_node jx0 jx1 jx2 jx3 σ r σE hF)
  intro p e R s m args below meth c hX hR hnm
  obtain ⟨Q, hQ⟩ : ∃ Q, Q = Qm D dA b0 σ.1 σ.2.1 below args s (some (pV 0 r)) σE := ⟨_, rfl⟩
  rw [← hQ]
  have hE : σE.1 = σE.1 ∧ σE.2.1 = σE.2.1 := ⟨rfl, rfl⟩
  unfold F_X7_node at hF
  refine g_aload_n hX 0 dX7_node_0 rfl rfl ?_
  refine g_get hX fl_X7_19 (by decide) (by decide) dX7_node_1 hF (fun jv1 hF => ?_)
  refine g_iload_n hX 1 dX7_node_4 rfl rfl ?_
  refine g_callV (t := 2) (ci := 3) (rest := []) [(0, jx1)] hX cw_X7_99 rfl (by decide) (by decide) (fun r σ1 h => T_X3_nodeAt l D dA b0  jv1 jx1 σ σ1 r h) ⟨by decide, by decide⟩ rfl rfl (Nat.le_of_ble_eq_true rfl) dX7_node_5 hF (fun jv2 σ3 hF => ?_)
  refine g_astore (lv' := [(4, 2, jv2), (0, 2, jx0), (1, 0, jx1), (2, 0, jx2), (3, 0, jx3)]) hX dX7_node_8 (by decide) rfl ?_
  refine g_aload hX 0 dX7_node_10 rfl ?_
  refine g_ifnull (tgt := 27) hX dX7_node_12 (by decide) hF (fun hc hF => ?_) (fun hc hF => ?_)
  · refine g_iconst hX dX7_node_27 ?_
    exact g_iret hX hR hQ hE dX7_node_28 hF
  · refine g_aload_n hX 1 dX7_node_15 rfl rfl ?_
    refine g_get hX fl_X7_19 (by decide) (by decide) dX7_node_16 hF (fun jv4 hF => ?_)
    refine g_aload hX 0 dX7_node_19 rfl ?_
    refine g_callV (t := 0) (ci := 3) (rest := []) [(2, jv2)] hX cw_X7_103 rfl (by decide) (by decide) (fun r σ1 h => T_X3_isLast l D dA b0  jv4 jv2 σ3 σ1 r h) ⟨by decide, by decide⟩ rfl rfl (Nat.le_of_ble_eq_true rfl) dX7_node_21 hF (fun jv5 σ6 hF => ?_)
    refine g_if_eq (tgt := 29) hX dX7_node_24 (by decide) hF (fun hc hF => ?_) (fun hc hF => ?_)
    · refine g_iload_n hX 3 dX7_node_29 rfl rfl ?_
      refine g_iconst hX dX7_node_30 ?_
      refine g_icmp_lt (tgt := 51) hX dX7_node_31 (by decide) hF (fun hc hF => ?_) (fun hc hF => ?_)
      · refine g_iconst hX dX7_node_51 ?_
        exact g_iret hX hR hQ hE dX7_node_52 hF
      · refine g_iload_n hX 3 dX7_node_34 rfl rfl ?_
        refine g_aload_n hX 1 dX7_node_35 rfl rfl ?_
        refine g_get hX fl_X7_19 (by decide) (by decide) dX7_node_36 hF (fun jv7 hF => ?_)
        refine g_get hX fl_X7_107 (by decide) (by decide) dX7_node_39 hF (fun jv8 hF => ?_)
        refine g_aload hX 0 dX7_node_42 rfl ?_
        refine g_get hX fl_X7_110 (by decide) (by decide) dX7_node_44 hF (fun jv9 hF => ?_)
        refine g_isub hX dX7_node_47 ?_
        refine g_icmp_le (tgt := 53) hX dX7_node_48 (by decide) hF (fun hc hF => ?_) (fun hc hF => ?_)
        · refine g_iload_n hX 4 dX7_node_53 rfl rfl ?_
          refine g_aload_n hX 1 dX7_node_54 rfl rfl ?_
          refine g_get hX fl_X7_10 (by decide) (by decide) dX7_node_55 hF (fun jv10 hF => ?_)
          refine g_callV (t := 0) (ci := 4) (rest := [(0, jx3)]) [] hX cw_X7_115 rfl (by decide) (by decide) (fun r σ1 h => T_X4_mostIn l D dA b0  jv10  σ6 σ1 r h) ⟨by decide, by decide⟩ rfl rfl (Nat.le_of_ble_eq_true rfl) dX7_node_58 hF (fun jv11 σ12 hF => ?_)
          refine g_callS (t := 0) (rest := []) [(0, jx3), (0, jv11)] hX cw_X7_46 (fun r σ1 h => T_X7_isWithin l D dA b0 jx3 jv11 σ12 σ1 r h) ⟨by decide, by decide⟩ rfl rfl (Nat.le_of_ble_eq_true rfl) dX7_node_61 hF (fun jv13 σ14 hF => ?_)
          refine g_if_ne (tgt := 69) hX dX7_node_64 (by decide) hF (fun hc hF => ?_) (fun hc hF => ?_)
          · refine g_iconst hX dX7_node_67 ?_
            exact g_iret hX hR hQ hE dX7_node_68 hF
          · refine g_aload_n hX 1 dX7_node_69 rfl rfl ?_
            refine g_get hX fl_X7_42 (by decide) (by decide) dX7_node_70 hF (fun jv15 hF => ?_)
            refine g_get hX fl_X7_57 (by decide) (by decide) dX7_node_73 hF (fun jv16 hF => ?_)
            refine g_if_eq (tgt := 82) hX dX7_node_76 (by decide) hF (fun hc hF => ?_) (fun hc hF => ?_)
            · refine g_aload_n hX 1 dX7_node_82 rfl rfl ?_
              refine g_get hX fl_X7_19 (by decide) (by decide) dX7_node_83 hF (fun jv17 hF => ?_)
              refine g_aload hX 0 dX7_node_86 rfl ?_
              refine g_iload_n hX 3 dX7_node_88 rfl rfl ?_
              refine g_callV (t := 2) (ci := 3) (rest := []) [(2, jv2), (0, jx2)] hX cw_X7_119 rfl (by decide) (by decide) (fun r σ1 h => T_X3_addNode l D dA b0  jv17 jv2 jx2 σ14 σ1 r h) ⟨by decide, by decide⟩ rfl rfl (Nat.le_of_ble_eq_true rfl) dX7_node_89 hF (fun jv18 σ19 hF => ?_)
              refine g_astore (lv' := [(5, 2, jv18), (4, 2, jv2), (0, 2, jx0), (1, 0, jx1), (2, 0, jx2), (3, 0, jx3)]) hX dX7_node_92 (by decide) rfl ?_
              refine g_aload hX 0 dX7_node_94 rfl ?_
              refine g_ifnonnull (tgt := 102) hX dX7_node_96 (by decide) hF (fun hc hF => ?_) (fun hc hF => ?_)
              · refine g_bipush hX dX7_node_99 (by decide) ?_
                exact g_iret hX hR hQ hE dX7_node_101 hF
              · refine g_aload_n hX 2 dX7_node_102 rfl rfl ?_
                refine g_get hX fl_X7_10 (by decide) (by decide) dX7_node_103 hF (fun jv20 hF => ?_)
                refine g_iload_n hX 5 dX7_node_106 rfl rfl ?_
                refine g_aload hX 0 dX7_node_107 rfl ?_
                refine g_get hX fl_X7_123 (by decide) (by decide) dX7_node_109 hF (fun jv21 hF => ?_)
                refine g_callVv (ci := 4) (rest := []) [(0, jx3), (2, jv21)] hX cw_X7_126 rfl (by decide) (by decide) (fun r σ1 h => T_X4_tellIn l D dA b0  jv20 jx3 jv21 σ19 σ1 r h) ⟨by decide, by decide⟩ rfl rfl (Nat.le_of_ble_eq_true rfl) dX7_node_112 hF (fun jv22 σ23 hF => ?_)
                refine g_aload_n hX 2 dX7_node_115 rfl rfl ?_
                refine g_get hX fl_X7_28 (by decide) (by decide) dX7_node_116 hF (fun jv24 hF => ?_)
                refine g_callVv (ci := 6) (rest := []) [] hX cw_X7_62 rfl (by decide) (by decide) (fun r σ1 h => T_X6_forget l D dA b0  jv24  σ23 σ1 r h) ⟨by decide, by decide⟩ rfl rfl (Nat.le_of_ble_eq_true rfl) dX7_node_119 hF (fun jv25 σ26 hF => ?_)
                refine g_aload hX 0 dX7_node_122 rfl ?_
                refine g_get hX fl_X7_130 (by decide) (by decide) dX7_node_124 hF (fun jv27 hF => ?_)
                exact g_iret hX hR hQ hE dX7_node_127 hF
            · refine g_bipush hX dX7_node_79 (by decide) ?_
              exact g_iret hX hR hQ hE dX7_node_81 hF
        · refine g_iconst hX dX7_node_51 ?_
          exact g_iret hX hR hQ hE dX7_node_52 hF
    · refine g_iconst hX dX7_node_27 ?_
      exact g_iret hX hR hQ hE dX7_node_28 hF
end

section
variable {p : Program} {l : Launch} {e : Env} {R : Room} {s : State} {m : MethodId} {args : Array Value} {below : List Frame} {meth : Method} {c : Code} {D : va_G} {dA : Nat → ClassId} {b0 n0 m0 nE mE : Nat} {Q : State → Prop}
def F_X7_about (jx0 : Int) (jx1 : Int) (jx2 : Int) (σ : Hp) : Option (Int × Hp) :=
  (rd 8 σ jx0 1).bind fun jv1 => bd (iv 4 σ jv1 (F_X3_nodeAt  jv1 jx1 σ)) fun jv2 σ3 => bN jv2 (some ((-2), σ3)) (bEq jx2 0 ((rd 2 σ3 jv2 3).bind fun jv4 => bN jv4 (some ((-1), σ3)) ((rd 2 σ3 jv2 3).bind fun jv5 => (rd 2 σ3 jv5 0).bind fun jv6 => some (jv6, σ3))) (bEq jx2 1 ((rd 2 σ3 jv2 3).bind fun jv7 => bN jv7 ((rd 8 σ3 jx0 1).bind fun jv8 => (rd 4 σ3 jv8 4).bind fun jv9 => some (jv9, σ3)) ((rd 2 σ3 jv2 4).bind fun jv10 => some (jv10, σ3))) (bEq jx2 2 ((rd 2 σ3 jv2 5).bind fun jv11 => some (jv11, σ3)) (bEq jx2 3 ((rd 2 σ3 jv2 6).bind fun jv12 => some (jv12, σ3)) (bEq jx2 4 ((rd 2 σ3 jv2 7).bind fun jv13 => some (jv13, σ3)) (bEq jx2 5 ((rd 8 σ3 jx0 0).bind fun jv14 => bd (iv 5 σ3 jv14 (F_X4_lakeAt  jv14 (jx2 - 5) σ3)) fun jv15 σ16 => bN jv15 (some ((-2), σ16)) ((rd 2 σ16 jv2 1).bind fun jv17 => (ar 11 σ16 jv17 (jx2 - 5)).bind fun jv18 => some (jv18, σ16))) (bEq jx2 6 ((rd 8 σ3 jx0 0).bind fun jv19 => bd (iv 5 σ3 jv19 (F_X4_lakeAt  jv19 (jx2 - 5) σ3)) fun jv20 σ21 => bN jv20 (some ((-2), σ21)) ((rd 2 σ21 jv2 1).bind fun jv22 => (ar 11 σ21 jv22 (jx2 - 5)).bind fun jv23 => some (jv23, σ21))) (bEq jx2 7 ((rd 8 σ3 jx0 0).bind fun jv24 => bd (iv 5 σ3 jv24 (F_X4_lakeAt  jv24 (jx2 - 5) σ3)) fun jv25 σ26 => bN jv25 (some ((-2), σ26)) ((rd 2 σ26 jv2 1).bind fun jv27 => (ar 11 σ26 jv27 (jx2 - 5)).bind fun jv28 => some (jv28, σ26))) (some ((-2), σ3))))))))))
theorem M_X7_about (jx0 : Int) (jx1 : Int) (jx2 : Int) (σ : Hp) : Mn σ (F_X7_about jx0 jx1 jx2 σ) := by
  unfold F_X7_about
  repeat' first | exact Mn_ret | exact Mn_rz | exact M_X3_nodeAt _ _ _ | exact M_X4_lakeAt _ _ _ | refine Mn_nm (fun _ => ?_) | refine Mn_nab (fun _ _ => ?_) | refine Mn_nwb (fun _ _ => ?_) | refine Mn_pw (fun _ => ?_) | refine Mn_pz (fun _ => ?_) | refine Mn_aw (fun _ => ?_) | refine Mn_az (fun _ => ?_) | refine Mn_aq (fun _ => ?_) | refine Mn_bo (fun _ => ?_) | refine Mn_bd ?_ (fun _ _ => ?_) | refine Mn_iv ?_ | refine Mn_bLt ?_ ?_ | refine Mn_bLe ?_ ?_ | refine Mn_bEq ?_ ?_ | refine Mn_bN ?_ ?_ | refine Mn_g3 ?_ | refine Mn_g33 ?_ | refine Mn_g66 ?_ | refine Mn_gD ?_
set_option maxRecDepth 100000 in
set_option maxHeartbeats 4000000 in
theorem T_X7_about (l : Launch) (D : va_G) (dA : Nat → ClassId) (b0 : Nat) (jx0 : Int) (jx1 : Int) (jx2 : Int) (σ σE : Hp) (r : Int) (hF : F_X7_about jx0 jx1 jx2 σ = some (r, σE)) : Ct l D dA b0 yX7_about cX7_about 4 (some .int) 1 21 [(2, jx0), (0, jx1), (0, jx2)] σ (some (pV 0 r)) σE := by
  refine Ct.of (lv0 := [(0, 2, jx0), (1, 0, jx1), (2, 0, jx2)]) (by decide) RX7 rfl (Nat.le_of_ble_eq_true rfl) rfl ?_ (M_X7_about jx0 jx1 jx2 σ r σE hF)
  intro p e R s m args below meth c hX hR hnm
  obtain ⟨Q, hQ⟩ : ∃ Q, Q = Qm D dA b0 σ.1 σ.2.1 below args s (some (pV 0 r)) σE := ⟨_, rfl⟩
  rw [← hQ]
  have hE : σE.1 = σE.1 ∧ σE.2.1 = σE.2.1 := ⟨rfl, rfl⟩
  unfold F_X7_about at hF
  refine g_aload_n hX 0 dX7_about_0 rfl rfl ?_
  refine g_get hX fl_X7_19 (by decide) (by decide) dX7_about_1 hF (fun jv1 hF => ?_)
  refine g_iload_n hX 1 dX7_about_4 rfl rfl ?_
  refine g_callV (t := 2) (ci := 3) (rest := []) [(0, jx1)] hX cw_X7_99 rfl (by decide) (by decide) (fun r σ1 h => T_X3_nodeAt l D dA b0  jv1 jx1 σ σ1 r h) ⟨by decide, by decide⟩ rfl rfl (Nat.le_of_ble_eq_true rfl) dX7_about_5 hF (fun jv2 σ3 hF => ?_)
  refine g_astore_n (lv' := [(3, 2, jv2), (0, 2, jx0), (1, 0, jx1), (2, 0, jx2)]) hX dX7_about_8 rfl (by decide) rfl ?_
  refine g_aload_n hX 0 dX7_about_9 rfl rfl ?_
  refine g_ifnonnull (tgt := 16) hX dX7_about_10 (by decide) hF (fun hc hF => ?_) (fun hc hF => ?_)
  · refine g_bipush hX dX7_about_13 (by decide) ?_
    exact g_iret hX hR hQ hE dX7_about_15 hF
  · refine g_iload_n hX 3 dX7_about_16 rfl rfl ?_
    obtain ⟨rx, -, ⟨hc, hF⟩ | ⟨hc0, hF⟩⟩ := bEq_spec hF
    · refine g_tsIn (tgt := 64) hX 0 dX7_about_17 hc (by decide) (by decide) (by decide) rfl (by decide) ?_
      refine g_aload_n hX 0 dX7_about_64 rfl rfl ?_
      refine g_get hX fl_X7_133 (by decide) (by decide) dX7_about_65 hF (fun jv4 hF => ?_)
      refine g_ifnonnull (tgt := 75) hX dX7_about_68 (by decide) hF (fun hc hF => ?_) (fun hc hF => ?_)
      · refine g_iconst hX dX7_about_71 ?_
        refine g_goto (tgt := 82) hX dX7_about_72 (by decide) ?_
        exact g_iret hX hR hQ hE dX7_about_82 hF
      · refine g_aload_n hX 0 dX7_about_75 rfl rfl ?_
        refine g_get hX fl_X7_133 (by decide) (by decide) dX7_about_76 hF (fun jv5 hF => ?_)
        refine g_get hX fl_X7_130 (by decide) (by decide) dX7_about_79 hF (fun jv6 hF => ?_)
        exact g_iret hX hR hQ hE dX7_about_82 hF
    obtain ⟨rx, -, ⟨hc, hF⟩ | ⟨hc1, hF⟩⟩ := bEq_spec hF
    · refine g_tsIn (tgt := 83) hX 1 dX7_about_17 hc (by decide) (by decide) (by decide) rfl (by decide) ?_
      refine g_aload_n hX 0 dX7_about_83 rfl rfl ?_
      refine g_get hX fl_X7_133 (by decide) (by decide) dX7_about_84 hF (fun jv7 hF => ?_)
      refine g_ifnonnull (tgt := 100) hX dX7_about_87 (by decide) hF (fun hc hF => ?_) (fun hc hF => ?_)
      · refine g_aload_n hX 1 dX7_about_90 rfl rfl ?_
        refine g_get hX fl_X7_19 (by decide) (by decide) dX7_about_91 hF (fun jv8 hF => ?_)
        refine g_get hX fl_X7_107 (by decide) (by decide) dX7_about_94 hF (fun jv9 hF => ?_)
        refine g_goto (tgt := 104) hX dX7_about_97 (by decide) ?_
        exact g_iret hX hR hQ hE dX7_about_104 hF
      · refine g_aload_n hX 0 dX7_about_100 rfl rfl ?_
        refine g_get hX fl_X7_137 (by decide) (by decide) dX7_about_101 hF (fun jv10 hF => ?_)
        exact g_iret hX hR hQ hE dX7_about_104 hF
    obtain ⟨rx, -, ⟨hc, hF⟩ | ⟨hc2, hF⟩⟩ := bEq_spec hF
    · refine g_tsIn (tgt := 105) hX 2 dX7_about_17 hc (by decide) (by decide) (by decide) rfl (by decide) ?_
      refine g_aload_n hX 0 dX7_about_105 rfl rfl ?_
      refine g_get hX fl_X7_140 (by decide) (by decide) dX7_about_106 hF (fun jv11 hF => ?_)
      exact g_iret hX hR hQ hE dX7_about_109 hF
    obtain ⟨rx, -, ⟨hc, hF⟩ | ⟨hc3, hF⟩⟩ := bEq_spec hF
    · refine g_tsIn (tgt := 110) hX 3 dX7_about_17 hc (by decide) (by decide) (by decide) rfl (by decide) ?_
      refine g_aload_n hX 0 dX7_about_110 rfl rfl ?_
      refine g_get hX fl_X7_143 (by decide) (by decide) dX7_about_111 hF (fun jv12 hF => ?_)
      exact g_iret hX hR hQ hE dX7_about_114 hF
    obtain ⟨rx, -, ⟨hc, hF⟩ | ⟨hc4, hF⟩⟩ := bEq_spec hF
    · refine g_tsIn (tgt := 115) hX 4 dX7_about_17 hc (by decide) (by decide) (by decide) rfl (by decide) ?_
      refine g_aload_n hX 0 dX7_about_115 rfl rfl ?_
      refine g_get hX fl_X7_110 (by decide) (by decide) dX7_about_116 hF (fun jv13 hF => ?_)
      exact g_iret hX hR hQ hE dX7_about_119 hF
    obtain ⟨rx, -, ⟨hc, hF⟩ | ⟨hc5, hF⟩⟩ := bEq_spec hF
    · refine g_tsIn (tgt := 120) hX 5 dX7_about_17 hc (by decide) (by decide) (by decide) rfl (by decide) ?_
      refine g_aload_n hX 1 dX7_about_120 rfl rfl ?_
      refine g_get hX fl_X7_10 (by decide) (by decide) dX7_about_121 hF (fun jv14 hF => ?_)
      refine g_iload_n hX 3 dX7_about_124 rfl rfl ?_
      refine g_iconst hX dX7_about_125 ?_
      refine g_isub hX dX7_about_126 ?_
      refine g_callV (t := 2) (ci := 4) (rest := []) [(0, (jx2 - 5))] hX cw_X7_69 rfl (by decide) (by decide) (fun r σ1 h => T_X4_lakeAt l D dA b0  jv14 (jx2 - 5) σ3 σ1 r h) ⟨by decide, by decide⟩ rfl rfl (Nat.le_of_ble_eq_true rfl) dX7_about_127 hF (fun jv15 σ16 hF => ?_)
      refine g_ifnonnull (tgt := 138) hX dX7_about_130 (by decide) hF (fun hc hF => ?_) (fun hc hF => ?_)
      · refine g_bipush hX dX7_about_133 (by decide) ?_
        refine g_goto (tgt := 146) hX dX7_about_135 (by decide) ?_
        exact g_iret hX hR hQ hE dX7_about_146 hF
      · refine g_aload_n hX 0 dX7_about_138 rfl rfl ?_
        refine g_get hX fl_X7_123 (by decide) (by decide) dX7_about_139 hF (fun jv17 hF => ?_)
        refine g_iload_n hX 3 dX7_about_142 rfl rfl ?_
        refine g_iconst hX dX7_about_143 ?_
        refine g_isub hX dX7_about_144 ?_
        refine g_iald hX dX7_about_145 hF (fun jv18 hF => ?_)
        exact g_iret hX hR hQ hE dX7_about_146 hF
    obtain ⟨rx, -, ⟨hc, hF⟩ | ⟨hc6, hF⟩⟩ := bEq_spec hF
    · refine g_tsIn (tgt := 120) hX 6 dX7_about_17 hc (by decide) (by decide) (by decide) rfl (by decide) ?_
      refine g_aload_n hX 1 dX7_about_120 rfl rfl ?_
      refine g_get hX fl_X7_10 (by decide) (by decide) dX7_about_121 hF (fun jv19 hF => ?_)
      refine g_iload_n hX 3 dX7_about_124 rfl rfl ?_
      refine g_iconst hX dX7_about_125 ?_
      refine g_isub hX dX7_about_126 ?_
      refine g_callV (t := 2) (ci := 4) (rest := []) [(0, (jx2 - 5))] hX cw_X7_69 rfl (by decide) (by decide) (fun r σ1 h => T_X4_lakeAt l D dA b0  jv19 (jx2 - 5) σ3 σ1 r h) ⟨by decide, by decide⟩ rfl rfl (Nat.le_of_ble_eq_true rfl) dX7_about_127 hF (fun jv20 σ21 hF => ?_)
      refine g_ifnonnull (tgt := 138) hX dX7_about_130 (by decide) hF (fun hc hF => ?_) (fun hc hF => ?_)
      · refine g_bipush hX dX7_about_133 (by decide) ?_
        refine g_goto (tgt := 146) hX dX7_about_135 (by decide) ?_
        exact g_iret hX hR hQ hE dX7_about_146 hF
      · refine g_aload_n hX 0 dX7_about_138 rfl rfl ?_
        refine g_get hX fl_X7_123 (by decide) (by decide) dX7_about_139 hF (fun jv22 hF => ?_)
        refine g_iload_n hX 3 dX7_about_142 rfl rfl ?_
        refine g_iconst hX dX7_about_143 ?_
        refine g_isub hX dX7_about_144 ?_
        refine g_iald hX dX7_about_145 hF (fun jv23 hF => ?_)
        exact g_iret hX hR hQ hE dX7_about_146 hF
    obtain ⟨rx, -, ⟨hc, hF⟩ | ⟨hc7, hF⟩⟩ := bEq_spec hF
    · refine g_tsIn (tgt := 120) hX 7 dX7_about_17 hc (by decide) (by decide) (by decide) rfl (by decide) ?_
      refine g_aload_n hX 1 dX7_about_120 rfl rfl ?_
      refine g_get hX fl_X7_10 (by decide) (by decide) dX7_about_121 hF (fun jv24 hF => ?_)
      refine g_iload_n hX 3 dX7_about_124 rfl rfl ?_
      refine g_iconst hX dX7_about_125 ?_
      refine g_isub hX dX7_about_126 ?_
      refine g_callV (t := 2) (ci := 4) (rest := []) [(0, (jx2 - 5))] hX cw_X7_69 rfl (by decide) (by decide) (fun r σ1 h => T_X4_lakeAt l D dA b0  jv24 (jx2 - 5) σ3 σ1 r h) ⟨by decide, by decide⟩ rfl rfl (Nat.le_of_ble_eq_true rfl) dX7_about_127 hF (fun jv25 σ26 hF => ?_)
      refine g_ifnonnull (tgt := 138) hX dX7_about_130 (by decide) hF (fun hc hF => ?_) (fun hc hF => ?_)
      · refine g_bipush hX dX7_about_133 (by decide) ?_
        refine g_goto (tgt := 146) hX dX7_about_135 (by decide) ?_
        exact g_iret hX hR hQ hE dX7_about_146 hF
      · refine g_aload_n hX 0 dX7_about_138 rfl rfl ?_
        refine g_get hX fl_X7_123 (by decide) (by decide) dX7_about_139 hF (fun jv27 hF => ?_)
        refine g_iload_n hX 3 dX7_about_142 rfl rfl ?_
        refine g_iconst hX dX7_about_143 ?_
        refine g_isub hX dX7_about_144 ?_
        refine g_iald hX dX7_about_145 hF (fun jv28 hF => ?_)
        exact g_iret hX hR hQ hE dX7_about_146 hF
    refine g_tsOut (tgt := 147) hX dX7_about_17 rx (by omega) (by decide) ?_
    refine g_bipush hX dX7_about_147 (by decide) ?_
    exact g_iret hX hR hQ hE dX7_about_149 hF
end

section
variable {p : Program} {l : Launch} {e : Env} {R : Room} {s : State} {m : MethodId} {args : Array Value} {below : List Frame} {meth : Method} {c : Code} {D : va_G} {dA : Nat → ClassId} {b0 n0 m0 nE mE : Nat} {Q : State → Prop}
def F_X7_count (jx0 : Int) (jx1 : Int) (σ : Hp) : Option (Int × Hp) :=
  bEq jx1 0 ((rd 8 σ jx0 0).bind fun jv1 => (rd 5 σ jv1 1).bind fun jv2 => some (jv2, σ)) (bEq jx1 1 ((rd 8 σ jx0 1).bind fun jv3 => (rd 4 σ jv3 2).bind fun jv4 => some (jv4, σ)) (bEq jx1 2 ((rd 8 σ jx0 0).bind fun jv5 => (rd 5 σ jv5 2).bind fun jv6 => some (jv6, σ)) (bEq jx1 3 ((rd 8 σ jx0 4).bind fun jv7 => (rd 3 σ jv7 5).bind fun jv8 => bEq jv8 0 (some (0, σ)) (some (1, σ))) (bEq jx1 4 ((rd 8 σ jx0 1).bind fun jv9 => (rd 4 σ jv9 3).bind fun jv10 => some (jv10, σ)) (bEq jx1 5 ((rd 8 σ jx0 1).bind fun jv11 => (rd 4 σ jv11 4).bind fun jv12 => some (jv12, σ)) (bEq jx1 6 (bd (iv 8 σ jx0 (F_X7_isWhole  jx0  σ)) fun jv13 σ14 => bEq jv13 0 (some (0, σ14)) (some (1, σ14))) (some ((-1), σ))))))))
theorem M_X7_count (jx0 : Int) (jx1 : Int) (σ : Hp) : Mn σ (F_X7_count jx0 jx1 σ) := by
  unfold F_X7_count
  repeat' first | exact Mn_ret | exact Mn_rz | exact M_X7_isWhole _ _ | refine Mn_nm (fun _ => ?_) | refine Mn_nab (fun _ _ => ?_) | refine Mn_nwb (fun _ _ => ?_) | refine Mn_pw (fun _ => ?_) | refine Mn_pz (fun _ => ?_) | refine Mn_aw (fun _ => ?_) | refine Mn_az (fun _ => ?_) | refine Mn_aq (fun _ => ?_) | refine Mn_bo (fun _ => ?_) | refine Mn_bd ?_ (fun _ _ => ?_) | refine Mn_iv ?_ | refine Mn_bLt ?_ ?_ | refine Mn_bLe ?_ ?_ | refine Mn_bEq ?_ ?_ | refine Mn_bN ?_ ?_ | refine Mn_g3 ?_ | refine Mn_g33 ?_ | refine Mn_g66 ?_ | refine Mn_gD ?_
set_option maxRecDepth 100000 in
set_option maxHeartbeats 4000000 in
theorem T_X7_count (l : Launch) (D : va_G) (dA : Nat → ClassId) (b0 : Nat) (jx0 : Int) (jx1 : Int) (σ σE : Hp) (r : Int) (hF : F_X7_count jx0 jx1 σ = some (r, σE)) : Ct l D dA b0 yX7_count cX7_count 2 (some .int) 3 62 [(2, jx0), (0, jx1)] σ (some (pV 0 r)) σE := by
  refine Ct.of (lv0 := [(0, 2, jx0), (1, 0, jx1)]) (by decide) RX7 rfl (Nat.le_of_ble_eq_true rfl) rfl ?_ (M_X7_count jx0 jx1 σ r σE hF)
  intro p e R s m args below meth c hX hR hnm
  obtain ⟨Q, hQ⟩ : ∃ Q, Q = Qm D dA b0 σ.1 σ.2.1 below args s (some (pV 0 r)) σE := ⟨_, rfl⟩
  rw [← hQ]
  have hE : σE.1 = σE.1 ∧ σE.2.1 = σE.2.1 := ⟨rfl, rfl⟩
  unfold F_X7_count at hF
  refine g_iload_n hX 1 dX7_count_0 rfl rfl ?_
  obtain ⟨rx, -, ⟨hc, hF⟩ | ⟨hc0, hF⟩⟩ := bEq_spec hF
  · refine g_tsIn (tgt := 44) hX 0 dX7_count_1 hc (by decide) (by decide) (by decide) rfl (by decide) ?_
    refine g_aload_n hX 0 dX7_count_44 rfl rfl ?_
    refine g_get hX fl_X7_10 (by decide) (by decide) dX7_count_45 hF (fun jv1 hF => ?_)
    refine g_get hX fl_X7_50 (by decide) (by decide) dX7_count_48 hF (fun jv2 hF => ?_)
    exact g_iret hX hR hQ hE dX7_count_51 hF
  obtain ⟨rx, -, ⟨hc, hF⟩ | ⟨hc1, hF⟩⟩ := bEq_spec hF
  · refine g_tsIn (tgt := 52) hX 1 dX7_count_1 hc (by decide) (by decide) (by decide) rfl (by decide) ?_
    refine g_aload_n hX 0 dX7_count_52 rfl rfl ?_
    refine g_get hX fl_X7_19 (by decide) (by decide) dX7_count_53 hF (fun jv3 hF => ?_)
    refine g_get hX fl_X7_61 (by decide) (by decide) dX7_count_56 hF (fun jv4 hF => ?_)
    exact g_iret hX hR hQ hE dX7_count_59 hF
  obtain ⟨rx, -, ⟨hc, hF⟩ | ⟨hc2, hF⟩⟩ := bEq_spec hF
  · refine g_tsIn (tgt := 60) hX 2 dX7_count_1 hc (by decide) (by decide) (by decide) rfl (by decide) ?_
    refine g_aload_n hX 0 dX7_count_60 rfl rfl ?_
    refine g_get hX fl_X7_10 (by decide) (by decide) dX7_count_61 hF (fun jv5 hF => ?_)
    refine g_get hX fl_X7_54 (by decide) (by decide) dX7_count_64 hF (fun jv6 hF => ?_)
    exact g_iret hX hR hQ hE dX7_count_67 hF
  obtain ⟨rx, -, ⟨hc, hF⟩ | ⟨hc3, hF⟩⟩ := bEq_spec hF
  · refine g_tsIn (tgt := 68) hX 3 dX7_count_1 hc (by decide) (by decide) (by decide) rfl (by decide) ?_
    refine g_aload_n hX 0 dX7_count_68 rfl rfl ?_
    refine g_get hX fl_X7_42 (by decide) (by decide) dX7_count_69 hF (fun jv7 hF => ?_)
    refine g_get hX fl_X7_57 (by decide) (by decide) dX7_count_72 hF (fun jv8 hF => ?_)
    refine g_if_eq (tgt := 82) hX dX7_count_75 (by decide) hF (fun hc hF => ?_) (fun hc hF => ?_)
    · refine g_iconst hX dX7_count_82 ?_
      exact g_iret hX hR hQ hE dX7_count_83 hF
    · refine g_iconst hX dX7_count_78 ?_
      refine g_goto (tgt := 83) hX dX7_count_79 (by decide) ?_
      exact g_iret hX hR hQ hE dX7_count_83 hF
  obtain ⟨rx, -, ⟨hc, hF⟩ | ⟨hc4, hF⟩⟩ := bEq_spec hF
  · refine g_tsIn (tgt := 84) hX 4 dX7_count_1 hc (by decide) (by decide) (by decide) rfl (by decide) ?_
    refine g_aload_n hX 0 dX7_count_84 rfl rfl ?_
    refine g_get hX fl_X7_19 (by decide) (by decide) dX7_count_85 hF (fun jv9 hF => ?_)
    refine g_get hX fl_X7_146 (by decide) (by decide) dX7_count_88 hF (fun jv10 hF => ?_)
    exact g_iret hX hR hQ hE dX7_count_91 hF
  obtain ⟨rx, -, ⟨hc, hF⟩ | ⟨hc5, hF⟩⟩ := bEq_spec hF
  · refine g_tsIn (tgt := 92) hX 5 dX7_count_1 hc (by decide) (by decide) (by decide) rfl (by decide) ?_
    refine g_aload_n hX 0 dX7_count_92 rfl rfl ?_
    refine g_get hX fl_X7_19 (by decide) (by decide) dX7_count_93 hF (fun jv11 hF => ?_)
    refine g_get hX fl_X7_107 (by decide) (by decide) dX7_count_96 hF (fun jv12 hF => ?_)
    exact g_iret hX hR hQ hE dX7_count_99 hF
  obtain ⟨rx, -, ⟨hc, hF⟩ | ⟨hc6, hF⟩⟩ := bEq_spec hF
  · refine g_tsIn (tgt := 100) hX 6 dX7_count_1 hc (by decide) (by decide) (by decide) rfl (by decide) ?_
    refine g_aload_n hX 0 dX7_count_100 rfl rfl ?_
    refine g_callV (t := 0) (ci := 7) (rest := []) [] hX cw_X7_149 rfl (by decide) (by decide) (fun r σ1 h => T_X7_isWhole l D dA b0  jx0  σ σ1 r h) ⟨by decide, by decide⟩ rfl rfl (Nat.le_of_ble_eq_true rfl) dX7_count_101 hF (fun jv13 σ14 hF => ?_)
    refine g_if_eq (tgt := 111) hX dX7_count_104 (by decide) hF (fun hc hF => ?_) (fun hc hF => ?_)
    · refine g_iconst hX dX7_count_111 ?_
      exact g_iret hX hR hQ hE dX7_count_112 hF
    · refine g_iconst hX dX7_count_107 ?_
      refine g_goto (tgt := 112) hX dX7_count_108 (by decide) ?_
      exact g_iret hX hR hQ hE dX7_count_112 hF
  refine g_tsOut (tgt := 113) hX dX7_count_1 rx (by omega) (by decide) ?_
  refine g_iconst hX dX7_count_113 ?_
  exact g_iret hX hR hQ hE dX7_count_114 hF
end

section
variable {p : Program} {l : Launch} {e : Env} {R : Room} {s : State} {m : MethodId} {args : Array Value} {below : List Frame} {meth : Method} {c : Code} {D : va_G} {dA : Nat → ClassId} {b0 n0 m0 nE mE : Nat} {Q : State → Prop}
def F_X7_worth (jx0 : Int) (jx1 : Int) (jx2 : Int) (σ : Hp) : Option (Int × Hp) :=
  (rd 8 σ jx0 1).bind fun jv1 => bd (iv 4 σ jv1 (F_X3_nodeAt  jv1 jx1 σ)) fun jv2 σ3 => bN jv2 (some ((-9000000000000000000), σ3)) ((rd 8 σ3 jx0 0).bind fun jv4 => bd (iv 5 σ3 jv4 (F_X4_hasState  jv4 jx2 σ3)) fun jv5 σ6 => bEq jv5 0 (some ((-9000000000000000000), σ6)) (bd (iv 8 σ6 jx0 (F_X7_isWhole  jx0  σ6)) fun jv7 σ8 => bEq jv7 0 (some ((-9000000000000000000), σ8)) ((rd 8 σ8 jx0 2).bind fun jv9 => bd (iv 7 σ8 jv9 (F_X6_worthAt  jv9 jv2 jx2 σ8)) fun jv10 σ11 => some (jv10, σ11))))
theorem M_X7_worth (jx0 : Int) (jx1 : Int) (jx2 : Int) (σ : Hp) : Mn σ (F_X7_worth jx0 jx1 jx2 σ) := by
  unfold F_X7_worth
  repeat' first | exact Mn_ret | exact Mn_rz | exact M_X3_nodeAt _ _ _ | exact M_X4_hasState _ _ _ | exact M_X7_isWhole _ _ | exact M_X6_worthAt _ _ _ _ | refine Mn_nm (fun _ => ?_) | refine Mn_nab (fun _ _ => ?_) | refine Mn_nwb (fun _ _ => ?_) | refine Mn_pw (fun _ => ?_) | refine Mn_pz (fun _ => ?_) | refine Mn_aw (fun _ => ?_) | refine Mn_az (fun _ => ?_) | refine Mn_aq (fun _ => ?_) | refine Mn_bo (fun _ => ?_) | refine Mn_bd ?_ (fun _ _ => ?_) | refine Mn_iv ?_ | refine Mn_bLt ?_ ?_ | refine Mn_bLe ?_ ?_ | refine Mn_bEq ?_ ?_ | refine Mn_bN ?_ ?_ | refine Mn_g3 ?_ | refine Mn_g33 ?_ | refine Mn_g66 ?_ | refine Mn_gD ?_
set_option maxRecDepth 100000 in
set_option maxHeartbeats 4000000 in
theorem T_X7_worth (l : Launch) (D : va_G) (dA : Nat → ClassId) (b0 : Nat) (jx0 : Int) (jx1 : Int) (jx2 : Int) (σ σE : Hp) (r : Int) (hF : F_X7_worth jx0 jx1 jx2 σ = some (r, σE)) : Ct l D dA b0 yX7_worth cX7_worth 4 (some .long) 278 10846 [(2, jx0), (0, jx1), (0, jx2)] σ (some (pV 1 r)) σE := by
  refine Ct.of (lv0 := [(0, 2, jx0), (1, 0, jx1), (2, 0, jx2)]) (by decide) RX7 rfl (Nat.le_of_ble_eq_true rfl) rfl ?_ (M_X7_worth jx0 jx1 jx2 σ r σE hF)
  intro p e R s m args below meth c hX hR hnm
  obtain ⟨Q, hQ⟩ : ∃ Q, Q = Qm D dA b0 σ.1 σ.2.1 below args s (some (pV 1 r)) σE := ⟨_, rfl⟩
  rw [← hQ]
  have hE : σE.1 = σE.1 ∧ σE.2.1 = σE.2.1 := ⟨rfl, rfl⟩
  unfold F_X7_worth at hF
  refine g_aload_n hX 0 dX7_worth_0 rfl rfl ?_
  refine g_get hX fl_X7_19 (by decide) (by decide) dX7_worth_1 hF (fun jv1 hF => ?_)
  refine g_iload_n hX 1 dX7_worth_4 rfl rfl ?_
  refine g_callV (t := 2) (ci := 3) (rest := []) [(0, jx1)] hX cw_X7_99 rfl (by decide) (by decide) (fun r σ1 h => T_X3_nodeAt l D dA b0  jv1 jx1 σ σ1 r h) ⟨by decide, by decide⟩ rfl rfl (Nat.le_of_ble_eq_true rfl) dX7_worth_5 hF (fun jv2 σ3 hF => ?_)
  refine g_astore_n (lv' := [(3, 2, jv2), (0, 2, jx0), (1, 0, jx1), (2, 0, jx2)]) hX dX7_worth_8 rfl (by decide) rfl ?_
  refine g_aload_n hX 0 dX7_worth_9 rfl rfl ?_
  refine g_ifnull (tgt := 31) hX dX7_worth_10 (by decide) hF (fun hc hF => ?_) (fun hc hF => ?_)
  · refine g_ldc2 (z := -9000000000000000000) hX kc_X7_157 (by decide) dX7_worth_31 ?_
    exact g_lret hX hR hQ hE dX7_worth_34 hF
  · refine g_aload_n hX 1 dX7_worth_13 rfl rfl ?_
    refine g_get hX fl_X7_10 (by decide) (by decide) dX7_worth_14 hF (fun jv4 hF => ?_)
    refine g_iload_n hX 3 dX7_worth_17 rfl rfl ?_
    refine g_callV (t := 0) (ci := 4) (rest := []) [(0, jx2)] hX cw_X7_153 rfl (by decide) (by decide) (fun r σ1 h => T_X4_hasState l D dA b0  jv4 jx2 σ3 σ1 r h) ⟨by decide, by decide⟩ rfl rfl (Nat.le_of_ble_eq_true rfl) dX7_worth_18 hF (fun jv5 σ6 hF => ?_)
    refine g_if_eq (tgt := 31) hX dX7_worth_21 (by decide) hF (fun hc hF => ?_) (fun hc hF => ?_)
    · refine g_ldc2 (z := -9000000000000000000) hX kc_X7_157 (by decide) dX7_worth_31 ?_
      exact g_lret hX hR hQ hE dX7_worth_34 hF
    · refine g_aload_n hX 1 dX7_worth_24 rfl rfl ?_
      refine g_callV (t := 0) (ci := 7) (rest := []) [] hX cw_X7_149 rfl (by decide) (by decide) (fun r σ1 h => T_X7_isWhole l D dA b0  jx0  σ6 σ1 r h) ⟨by decide, by decide⟩ rfl rfl (Nat.le_of_ble_eq_true rfl) dX7_worth_25 hF (fun jv7 σ8 hF => ?_)
      refine g_if_ne (tgt := 35) hX dX7_worth_28 (by decide) hF (fun hc hF => ?_) (fun hc hF => ?_)
      · refine g_ldc2 (z := -9000000000000000000) hX kc_X7_157 (by decide) dX7_worth_31 ?_
        exact g_lret hX hR hQ hE dX7_worth_34 hF
      · refine g_aload_n hX 1 dX7_worth_35 rfl rfl ?_
        refine g_get hX fl_X7_28 (by decide) (by decide) dX7_worth_36 hF (fun jv9 hF => ?_)
        refine g_aload_n hX 0 dX7_worth_39 rfl rfl ?_
        refine g_iload_n hX 3 dX7_worth_40 rfl rfl ?_
        refine g_callV (t := 1) (ci := 6) (rest := []) [(2, jv2), (0, jx2)] hX cw_X7_159 rfl (by decide) (by decide) (fun r σ1 h => T_X6_worthAt l D dA b0  jv9 jv2 jx2 σ8 σ1 r h) ⟨by decide, by decide⟩ rfl rfl (Nat.le_of_ble_eq_true rfl) dX7_worth_41 hF (fun jv10 σ11 hF => ?_)
        exact g_lret hX hR hQ hE dX7_worth_44 hF
end

section
variable {p : Program} {l : Launch} {e : Env} {R : Room} {s : State} {m : MethodId} {args : Array Value} {below : List Frame} {meth : Method} {c : Code} {D : va_G} {dA : Nat → ClassId} {b0 n0 m0 nE mE : Nat} {Q : State → Prop}
def F_X7_policy (jx0 : Int) (jx1 : Int) (jx2 : Int) (jx3 : Int) (σ : Hp) : Option (Int × Hp) :=
  (rd 8 σ jx0 1).bind fun jv1 => bd (iv 4 σ jv1 (F_X3_nodeAt  jv1 jx1 σ)) fun jv2 σ3 => bN jv2 (some ((-1), σ3)) ((rd 8 σ3 jx0 0).bind fun jv4 => bd (iv 5 σ3 jv4 (F_X4_hasState  jv4 jx2 σ3)) fun jv5 σ6 => bEq jv5 0 (some ((-1), σ6)) ((rd 8 σ6 jx0 0).bind fun jv7 => bd (iv 5 σ6 jv7 (F_X4_lakeAt  jv7 jx3 σ6)) fun jv8 σ9 => bN jv8 (some ((-1), σ9)) (bd (iv 8 σ9 jx0 (F_X7_isWhole  jx0  σ9)) fun jv10 σ11 => bEq jv10 0 (some ((-3), σ11)) ((rd 8 σ11 jx0 1).bind fun jv12 => bd (iv 4 σ11 jv12 (F_X3_isLast  jv12 jv2 σ11)) fun jv13 σ14 => bEq jv13 0 ((rd 8 σ14 jx0 2).bind fun jv15 => bd (iv 7 σ14 jv15 (F_X6_bestLets  jv15 jv2 jx2 σ14)) fun jv16 σ17 => bd (F_X4_letOf jv16 jx3 σ17) fun jv18 σ19 => some (jv18, σ19)) (some ((-4), σ14))))))
theorem M_X7_policy (jx0 : Int) (jx1 : Int) (jx2 : Int) (jx3 : Int) (σ : Hp) : Mn σ (F_X7_policy jx0 jx1 jx2 jx3 σ) := by
  unfold F_X7_policy
  repeat' first | exact Mn_ret | exact Mn_rz | exact M_X3_nodeAt _ _ _ | exact M_X4_hasState _ _ _ | exact M_X4_lakeAt _ _ _ | exact M_X7_isWhole _ _ | exact M_X3_isLast _ _ _ | exact M_X6_bestLets _ _ _ _ | exact M_X4_letOf _ _ _ | refine Mn_nm (fun _ => ?_) | refine Mn_nab (fun _ _ => ?_) | refine Mn_nwb (fun _ _ => ?_) | refine Mn_pw (fun _ => ?_) | refine Mn_pz (fun _ => ?_) | refine Mn_aw (fun _ => ?_) | refine Mn_az (fun _ => ?_) | refine Mn_aq (fun _ => ?_) | refine Mn_bo (fun _ => ?_) | refine Mn_bd ?_ (fun _ _ => ?_) | refine Mn_iv ?_ | refine Mn_bLt ?_ ?_ | refine Mn_bLe ?_ ?_ | refine Mn_bEq ?_ ?_ | refine Mn_bN ?_ ?_ | refine Mn_g3 ?_ | refine Mn_g33 ?_ | refine Mn_g66 ?_ | refine Mn_gD ?_
set_option maxRecDepth 100000 in
set_option maxHeartbeats 4000000 in
theorem T_X7_policy (l : Launch) (D : va_G) (dA : Nat → ClassId) (b0 : Nat) (jx0 : Int) (jx1 : Int) (jx2 : Int) (jx3 : Int) (σ σE : Hp) (r : Int) (hF : F_X7_policy jx0 jx1 jx2 jx3 σ = some (r, σE)) : Ct l D dA b0 yX7_policy cX7_policy 5 (some .int) 300 11578 [(2, jx0), (0, jx1), (0, jx2), (0, jx3)] σ (some (pV 0 r)) σE := by
  refine Ct.of (lv0 := [(0, 2, jx0), (1, 0, jx1), (2, 0, jx2), (3, 0, jx3)]) (by decide) RX7 rfl (Nat.le_of_ble_eq_true rfl) rfl ?_ (M_X7_policy jx0 jx1 jx2 jx3 σ r σE hF)
  intro p e R s m args below meth c hX hR hnm
  obtain ⟨Q, hQ⟩ : ∃ Q, Q = Qm D dA b0 σ.1 σ.2.1 below args s (some (pV 0 r)) σE := ⟨_, rfl⟩
  rw [← hQ]
  have hE : σE.1 = σE.1 ∧ σE.2.1 = σE.2.1 := ⟨rfl, rfl⟩
  unfold F_X7_policy at hF
  refine g_aload_n hX 0 dX7_policy_0 rfl rfl ?_
  refine g_get hX fl_X7_19 (by decide) (by decide) dX7_policy_1 hF (fun jv1 hF => ?_)
  refine g_iload_n hX 1 dX7_policy_4 rfl rfl ?_
  refine g_callV (t := 2) (ci := 3) (rest := []) [(0, jx1)] hX cw_X7_99 rfl (by decide) (by decide) (fun r σ1 h => T_X3_nodeAt l D dA b0  jv1 jx1 σ σ1 r h) ⟨by decide, by decide⟩ rfl rfl (Nat.le_of_ble_eq_true rfl) dX7_policy_5 hF (fun jv2 σ3 hF => ?_)
  refine g_astore (lv' := [(4, 2, jv2), (0, 2, jx0), (1, 0, jx1), (2, 0, jx2), (3, 0, jx3)]) hX dX7_policy_8 (by decide) rfl ?_
  refine g_aload hX 0 dX7_policy_10 rfl ?_
  refine g_ifnull (tgt := 37) hX dX7_policy_12 (by decide) hF (fun hc hF => ?_) (fun hc hF => ?_)
  · refine g_iconst hX dX7_policy_37 ?_
    exact g_iret hX hR hQ hE dX7_policy_38 hF
  · refine g_aload_n hX 1 dX7_policy_15 rfl rfl ?_
    refine g_get hX fl_X7_10 (by decide) (by decide) dX7_policy_16 hF (fun jv4 hF => ?_)
    refine g_iload_n hX 3 dX7_policy_19 rfl rfl ?_
    refine g_callV (t := 0) (ci := 4) (rest := []) [(0, jx2)] hX cw_X7_153 rfl (by decide) (by decide) (fun r σ1 h => T_X4_hasState l D dA b0  jv4 jx2 σ3 σ1 r h) ⟨by decide, by decide⟩ rfl rfl (Nat.le_of_ble_eq_true rfl) dX7_policy_20 hF (fun jv5 σ6 hF => ?_)
    refine g_if_eq (tgt := 37) hX dX7_policy_23 (by decide) hF (fun hc hF => ?_) (fun hc hF => ?_)
    · refine g_iconst hX dX7_policy_37 ?_
      exact g_iret hX hR hQ hE dX7_policy_38 hF
    · refine g_aload_n hX 1 dX7_policy_26 rfl rfl ?_
      refine g_get hX fl_X7_10 (by decide) (by decide) dX7_policy_27 hF (fun jv7 hF => ?_)
      refine g_iload_n hX 4 dX7_policy_30 rfl rfl ?_
      refine g_callV (t := 2) (ci := 4) (rest := []) [(0, jx3)] hX cw_X7_69 rfl (by decide) (by decide) (fun r σ1 h => T_X4_lakeAt l D dA b0  jv7 jx3 σ6 σ1 r h) ⟨by decide, by decide⟩ rfl rfl (Nat.le_of_ble_eq_true rfl) dX7_policy_31 hF (fun jv8 σ9 hF => ?_)
      refine g_ifnonnull (tgt := 39) hX dX7_policy_34 (by decide) hF (fun hc hF => ?_) (fun hc hF => ?_)
      · refine g_iconst hX dX7_policy_37 ?_
        exact g_iret hX hR hQ hE dX7_policy_38 hF
      · refine g_aload_n hX 1 dX7_policy_39 rfl rfl ?_
        refine g_callV (t := 0) (ci := 7) (rest := []) [] hX cw_X7_149 rfl (by decide) (by decide) (fun r σ1 h => T_X7_isWhole l D dA b0  jx0  σ9 σ1 r h) ⟨by decide, by decide⟩ rfl rfl (Nat.le_of_ble_eq_true rfl) dX7_policy_40 hF (fun jv10 σ11 hF => ?_)
        refine g_if_ne (tgt := 49) hX dX7_policy_43 (by decide) hF (fun hc hF => ?_) (fun hc hF => ?_)
        · refine g_bipush hX dX7_policy_46 (by decide) ?_
          exact g_iret hX hR hQ hE dX7_policy_48 hF
        · refine g_aload_n hX 1 dX7_policy_49 rfl rfl ?_
          refine g_get hX fl_X7_19 (by decide) (by decide) dX7_policy_50 hF (fun jv12 hF => ?_)
          refine g_aload hX 0 dX7_policy_53 rfl ?_
          refine g_callV (t := 0) (ci := 3) (rest := []) [(2, jv2)] hX cw_X7_103 rfl (by decide) (by decide) (fun r σ1 h => T_X3_isLast l D dA b0  jv12 jv2 σ11 σ1 r h) ⟨by decide, by decide⟩ rfl rfl (Nat.le_of_ble_eq_true rfl) dX7_policy_55 hF (fun jv13 σ14 hF => ?_)
          refine g_if_eq (tgt := 64) hX dX7_policy_58 (by decide) hF (fun hc hF => ?_) (fun hc hF => ?_)
          · refine g_aload_n hX 1 dX7_policy_64 rfl rfl ?_
            refine g_get hX fl_X7_28 (by decide) (by decide) dX7_policy_65 hF (fun jv15 hF => ?_)
            refine g_aload hX 0 dX7_policy_68 rfl ?_
            refine g_iload_n hX 3 dX7_policy_70 rfl rfl ?_
            refine g_callV (t := 0) (ci := 6) (rest := []) [(2, jv2), (0, jx2)] hX cw_X7_163 rfl (by decide) (by decide) (fun r σ1 h => T_X6_bestLets l D dA b0  jv15 jv2 jx2 σ14 σ1 r h) ⟨by decide, by decide⟩ rfl rfl (Nat.le_of_ble_eq_true rfl) dX7_policy_71 hF (fun jv16 σ17 hF => ?_)
            refine g_iload_n hX 4 dX7_policy_74 rfl rfl ?_
            refine g_callS (t := 0) (rest := []) [(0, jv16), (0, jx3)] hX cw_X7_167 (fun r σ1 h => T_X4_letOf l D dA b0 jv16 jx3 σ17 σ1 r h) ⟨by decide, by decide⟩ rfl rfl (Nat.le_of_ble_eq_true rfl) dX7_policy_75 hF (fun jv18 σ19 hF => ?_)
            exact g_iret hX hR hQ hE dX7_policy_78 hF
          · refine g_bipush hX dX7_policy_61 (by decide) ?_
            exact g_iret hX hR hQ hE dX7_policy_63 hF
end

section
variable {p : Program} {l : Launch} {e : Env} {R : Room} {s : State} {m : MethodId} {args : Array Value} {below : List Frame} {meth : Method} {c : Code} {D : va_G} {dA : Nat → ClassId} {b0 n0 m0 nE mE : Nat} {Q : State → Prop}
def F_X7_water (jx0 : Int) (jx1 : Int) (jx2 : Int) (jx3 : Int) (σ : Hp) : Option (Int × Hp) :=
  (rd 8 σ jx0 1).bind fun jv1 => bd (iv 4 σ jv1 (F_X3_nodeAt  jv1 jx1 σ)) fun jv2 σ3 => (rd 8 σ3 jx0 0).bind fun jv4 => bd (iv 5 σ3 jv4 (F_X4_lakeAt  jv4 jx3 σ3)) fun jv5 σ6 => bN jv2 (some ((-9000000000000000000), σ6)) (bN jv5 (some ((-9000000000000000000), σ6)) ((rd 8 σ6 jx0 0).bind fun jv7 => bd (iv 5 σ6 jv7 (F_X4_hasState  jv7 jx2 σ6)) fun jv8 σ9 => bEq jv8 0 (some ((-9000000000000000000), σ9)) (bd (iv 8 σ9 jx0 (F_X7_isWhole  jx0  σ9)) fun jv10 σ11 => bEq jv10 0 (some ((-9000000000000000000), σ11)) ((rd 8 σ11 jx0 0).bind fun jv12 => bd (iv 5 σ11 jv12 (F_X4_measureOf  jv12 jx2 jx3 σ11)) fun jv13 σ14 => (rd 1 σ14 jv5 2).bind fun jv15 => bLt jv13 jv15 ((rd 8 σ14 jx0 2).bind fun jv16 => (rd 1 σ14 jv5 8).bind fun jv17 => bd (iv 7 σ14 jv16 (F_X6_worthAt  jv16 jv2 (jx2 + jv17) σ14)) fun jv18 σ19 => (rd 8 σ19 jx0 2).bind fun jv20 => bd (iv 7 σ19 jv20 (F_X6_worthAt  jv20 jv2 jx2 σ19)) fun jv21 σ22 => some ((jv18 - jv21), σ22)) (some ((-9000000000000000000), σ14))))))
theorem M_X7_water (jx0 : Int) (jx1 : Int) (jx2 : Int) (jx3 : Int) (σ : Hp) : Mn σ (F_X7_water jx0 jx1 jx2 jx3 σ) := by
  unfold F_X7_water
  repeat' first | exact Mn_ret | exact Mn_rz | exact M_X3_nodeAt _ _ _ | exact M_X4_lakeAt _ _ _ | exact M_X4_hasState _ _ _ | exact M_X7_isWhole _ _ | exact M_X4_measureOf _ _ _ _ | exact M_X6_worthAt _ _ _ _ | refine Mn_nm (fun _ => ?_) | refine Mn_nab (fun _ _ => ?_) | refine Mn_nwb (fun _ _ => ?_) | refine Mn_pw (fun _ => ?_) | refine Mn_pz (fun _ => ?_) | refine Mn_aw (fun _ => ?_) | refine Mn_az (fun _ => ?_) | refine Mn_aq (fun _ => ?_) | refine Mn_bo (fun _ => ?_) | refine Mn_bd ?_ (fun _ _ => ?_) | refine Mn_iv ?_ | refine Mn_bLt ?_ ?_ | refine Mn_bLe ?_ ?_ | refine Mn_bEq ?_ ?_ | refine Mn_bN ?_ ?_ | refine Mn_g3 ?_ | refine Mn_g33 ?_ | refine Mn_g66 ?_ | refine Mn_gD ?_
set_option maxRecDepth 100000 in
set_option maxHeartbeats 4000000 in
theorem T_X7_water (l : Launch) (D : va_G) (dA : Nat → ClassId) (b0 : Nat) (jx0 : Int) (jx1 : Int) (jx2 : Int) (jx3 : Int) (σ σE : Hp) (r : Int) (hF : F_X7_water jx0 jx1 jx2 jx3 σ = some (r, σE)) : Ct l D dA b0 yX7_water cX7_water 6 (some .long) 278 10846 [(2, jx0), (0, jx1), (0, jx2), (0, jx3)] σ (some (pV 1 r)) σE := by
  refine Ct.of (lv0 := [(0, 2, jx0), (1, 0, jx1), (2, 0, jx2), (3, 0, jx3)]) (by decide) RX7 rfl (Nat.le_of_ble_eq_true rfl) rfl ?_ (M_X7_water jx0 jx1 jx2 jx3 σ r σE hF)
  intro p e R s m args below meth c hX hR hnm
  obtain ⟨Q, hQ⟩ : ∃ Q, Q = Qm D dA b0 σ.1 σ.2.1 below args s (some (pV 1 r)) σE := ⟨_, rfl⟩
  rw [← hQ]
  have hE : σE.1 = σE.1 ∧ σE.2.1 = σE.2.1 := ⟨rfl, rfl⟩
  unfold F_X7_water at hF
  refine g_aload_n hX 0 dX7_water_0 rfl rfl ?_
  refine g_get hX fl_X7_19 (by decide) (by decide) dX7_water_1 hF (fun jv1 hF => ?_)
  refine g_iload_n hX 1 dX7_water_4 rfl rfl ?_
  refine g_callV (t := 2) (ci := 3) (rest := []) [(0, jx1)] hX cw_X7_99 rfl (by decide) (by decide) (fun r σ1 h => T_X3_nodeAt l D dA b0  jv1 jx1 σ σ1 r h) ⟨by decide, by decide⟩ rfl rfl (Nat.le_of_ble_eq_true rfl) dX7_water_5 hF (fun jv2 σ3 hF => ?_)
  refine g_astore (lv' := [(4, 2, jv2), (0, 2, jx0), (1, 0, jx1), (2, 0, jx2), (3, 0, jx3)]) hX dX7_water_8 (by decide) rfl ?_
  refine g_aload_n hX 1 dX7_water_10 rfl rfl ?_
  refine g_get hX fl_X7_10 (by decide) (by decide) dX7_water_11 hF (fun jv4 hF => ?_)
  refine g_iload_n hX 4 dX7_water_14 rfl rfl ?_
  refine g_callV (t := 2) (ci := 4) (rest := []) [(0, jx3)] hX cw_X7_69 rfl (by decide) (by decide) (fun r σ1 h => T_X4_lakeAt l D dA b0  jv4 jx3 σ3 σ1 r h) ⟨by decide, by decide⟩ rfl rfl (Nat.le_of_ble_eq_true rfl) dX7_water_15 hF (fun jv5 σ6 hF => ?_)
  refine g_astore (lv' := [(5, 2, jv5), (4, 2, jv2), (0, 2, jx0), (1, 0, jx1), (2, 0, jx2), (3, 0, jx3)]) hX dX7_water_18 (by decide) rfl ?_
  refine g_aload hX 1 dX7_water_20 rfl ?_
  refine g_ifnull (tgt := 48) hX dX7_water_22 (by decide) hF (fun hc hF => ?_) (fun hc hF => ?_)
  · refine g_ldc2 (z := -9000000000000000000) hX kc_X7_157 (by decide) dX7_water_48 ?_
    exact g_lret hX hR hQ hE dX7_water_51 hF
  · refine g_aload hX 0 dX7_water_25 rfl ?_
    refine g_ifnull (tgt := 48) hX dX7_water_27 (by decide) hF (fun hc hF => ?_) (fun hc hF => ?_)
    · refine g_ldc2 (z := -9000000000000000000) hX kc_X7_157 (by decide) dX7_water_48 ?_
      exact g_lret hX hR hQ hE dX7_water_51 hF
    · refine g_aload_n hX 2 dX7_water_30 rfl rfl ?_
      refine g_get hX fl_X7_10 (by decide) (by decide) dX7_water_31 hF (fun jv7 hF => ?_)
      refine g_iload_n hX 4 dX7_water_34 rfl rfl ?_
      refine g_callV (t := 0) (ci := 4) (rest := []) [(0, jx2)] hX cw_X7_153 rfl (by decide) (by decide) (fun r σ1 h => T_X4_hasState l D dA b0  jv7 jx2 σ6 σ1 r h) ⟨by decide, by decide⟩ rfl rfl (Nat.le_of_ble_eq_true rfl) dX7_water_35 hF (fun jv8 σ9 hF => ?_)
      refine g_if_eq (tgt := 48) hX dX7_water_38 (by decide) hF (fun hc hF => ?_) (fun hc hF => ?_)
      · refine g_ldc2 (z := -9000000000000000000) hX kc_X7_157 (by decide) dX7_water_48 ?_
        exact g_lret hX hR hQ hE dX7_water_51 hF
      · refine g_aload_n hX 2 dX7_water_41 rfl rfl ?_
        refine g_callV (t := 0) (ci := 7) (rest := []) [] hX cw_X7_149 rfl (by decide) (by decide) (fun r σ1 h => T_X7_isWhole l D dA b0  jx0  σ9 σ1 r h) ⟨by decide, by decide⟩ rfl rfl (Nat.le_of_ble_eq_true rfl) dX7_water_42 hF (fun jv10 σ11 hF => ?_)
        refine g_if_ne (tgt := 52) hX dX7_water_45 (by decide) hF (fun hc hF => ?_) (fun hc hF => ?_)
        · refine g_ldc2 (z := -9000000000000000000) hX kc_X7_157 (by decide) dX7_water_48 ?_
          exact g_lret hX hR hQ hE dX7_water_51 hF
        · refine g_aload_n hX 2 dX7_water_52 rfl rfl ?_
          refine g_get hX fl_X7_10 (by decide) (by decide) dX7_water_53 hF (fun jv12 hF => ?_)
          refine g_iload_n hX 4 dX7_water_56 rfl rfl ?_
          refine g_iload_n hX 5 dX7_water_57 rfl rfl ?_
          refine g_callV (t := 0) (ci := 4) (rest := []) [(0, jx2), (0, jx3)] hX cw_X7_171 rfl (by decide) (by decide) (fun r σ1 h => T_X4_measureOf l D dA b0  jv12 jx2 jx3 σ11 σ1 r h) ⟨by decide, by decide⟩ rfl rfl (Nat.le_of_ble_eq_true rfl) dX7_water_58 hF (fun jv13 σ14 hF => ?_)
          refine g_aload hX 0 dX7_water_61 rfl ?_
          refine g_get hX fl_X7_73 (by decide) (by decide) dX7_water_63 hF (fun jv15 hF => ?_)
          refine g_icmp_lt (tgt := 73) hX dX7_water_66 (by decide) hF (fun hc hF => ?_) (fun hc hF => ?_)
          · refine g_aload_n hX 2 dX7_water_73 rfl rfl ?_
            refine g_get hX fl_X7_28 (by decide) (by decide) dX7_water_74 hF (fun jv16 hF => ?_)
            refine g_aload hX 1 dX7_water_77 rfl ?_
            refine g_iload_n hX 4 dX7_water_79 rfl rfl ?_
            refine g_aload hX 0 dX7_water_80 rfl ?_
            refine g_get hX fl_X7_174 (by decide) (by decide) dX7_water_82 hF (fun jv17 hF => ?_)
            refine g_iadd hX dX7_water_85 ?_
            refine g_callV (t := 1) (ci := 6) (rest := []) [(2, jv2), (0, (jx2 + jv17))] hX cw_X7_159 rfl (by decide) (by decide) (fun r σ1 h => T_X6_worthAt l D dA b0  jv16 jv2 (jx2 + jv17) σ14 σ1 r h) ⟨by decide, by decide⟩ rfl rfl (Nat.le_of_ble_eq_true rfl) dX7_water_86 hF (fun jv18 σ19 hF => ?_)
            refine g_aload_n hX 2 dX7_water_89 rfl rfl ?_
            refine g_get hX fl_X7_28 (by decide) (by decide) dX7_water_90 hF (fun jv20 hF => ?_)
            refine g_aload hX 1 dX7_water_93 rfl ?_
            refine g_iload_n hX 4 dX7_water_95 rfl rfl ?_
            refine g_callV (t := 1) (ci := 6) (rest := [(1, jv18)]) [(2, jv2), (0, jx2)] hX cw_X7_159 rfl (by decide) (by decide) (fun r σ1 h => T_X6_worthAt l D dA b0  jv20 jv2 jx2 σ19 σ1 r h) ⟨by decide, by decide⟩ rfl rfl (Nat.le_of_ble_eq_true rfl) dX7_water_96 hF (fun jv21 σ22 hF => ?_)
            refine g_lsub hX dX7_water_99 ?_
            exact g_lret hX hR hQ hE dX7_water_100 hF
          · refine g_ldc2 (z := -9000000000000000000) hX kc_X7_157 (by decide) dX7_water_69 ?_
            exact g_lret hX hR hQ hE dX7_water_72 hF
end

section
variable {p : Program} {l : Launch} {e : Env} {R : Room} {s : State} {m : MethodId} {args : Array Value} {below : List Frame} {meth : Method} {c : Code} {D : va_G} {dA : Nat → ClassId} {b0 n0 m0 nE mE : Nat} {Q : State → Prop}
def F_X7_needs_B92 (k38 : Int → Int → Int → Hp → Option (Int × Hp)) (jx0 : Int) (jx2 : Int) (jx4 : Int) (jx5 : Int) (jx6 : Int) (jx7 : Int) (σ : Hp) : Option (Int × Hp) :=
  k38 jx5 jx6 (jx7 + 1) σ
theorem M_X7_needs_B92 (k38 : Int → Int → Int → Hp → Option (Int × Hp)) (hk38 : ∀ (jx5 : Int) (jx6 : Int) (jx7 : Int) (σ : Hp), Mn σ (k38 jx5 jx6 jx7 σ)) (jx0 : Int) (jx2 : Int) (jx4 : Int) (jx5 : Int) (jx6 : Int) (jx7 : Int) (σ : Hp) : Mn σ (F_X7_needs_B92 k38 jx0 jx2 jx4 jx5 jx6 jx7 σ) := by
  unfold F_X7_needs_B92
  repeat' first | exact Mn_ret | exact Mn_rz | exact hk38 _ _ _  _ | refine Mn_nm (fun _ => ?_) | refine Mn_nab (fun _ _ => ?_) | refine Mn_nwb (fun _ _ => ?_) | refine Mn_pw (fun _ => ?_) | refine Mn_pz (fun _ => ?_) | refine Mn_aw (fun _ => ?_) | refine Mn_az (fun _ => ?_) | refine Mn_aq (fun _ => ?_) | refine Mn_bo (fun _ => ?_) | refine Mn_bd ?_ (fun _ _ => ?_) | refine Mn_iv ?_ | refine Mn_bLt ?_ ?_ | refine Mn_bLe ?_ ?_ | refine Mn_bEq ?_ ?_ | refine Mn_bN ?_ ?_ | refine Mn_g3 ?_ | refine Mn_g33 ?_ | refine Mn_g66 ?_ | refine Mn_gD ?_
set_option maxRecDepth 100000 in
set_option maxHeartbeats 4000000 in
theorem T_X7_needs_B92 {r : Int} {σE : Hp} (hX : Cx p R s m args meth c D dA b0 n0 m0 9 nE mE cX7_needs RX7 278 10846) (hR : Rx meth (some .int)) (hnm : meth.name = yX7_needs.name) (hQ : Q = Qm D dA b0 n0 m0 below args s (some (pV 0 r)) σE) (hE : nE = σE.1 ∧ mE = σE.2.1) (k38 : Int → Int → Int → Hp → Option (Int × Hp)) (jx0 : Int) (jx2 : Int) (jx4 : Int) (jx5 : Int) (jx6 : Int) (jx7 : Int) (hk38 : ∀ (jx5 : Int) (jx6 : Int) (jx7 : Int) (σ : Hp), k38 jx5 jx6 jx7 σ = some (r, σE) → G p l e R s m args below meth c D dA b0 n0 m0 9 nE mE Q 38 [(0, 2, jx0), (2, 1, jx2), (4, 2, jx4), (5, 0, jx5), (6, 0, jx6), (7, 0, jx7)] [] σ) (σ : Hp) (hF : F_X7_needs_B92 k38 jx0 jx2 jx4 jx5 jx6 jx7 σ = some (r, σE)) : G p l e R s m args below meth c D dA b0 n0 m0 9 nE mE Q 92 [(0, 2, jx0), (2, 1, jx2), (4, 2, jx4), (5, 0, jx5), (6, 0, jx6), (7, 0, jx7)] [] σ := by
  unfold F_X7_needs_B92 at hF
  refine g_iinc (lv' := [(7, 0, (jx7 + 1)), (0, 2, jx0), (2, 1, jx2), (4, 2, jx4), (5, 0, jx5), (6, 0, jx6)]) hX 5 dX7_needs_92 rfl (by decide) rfl ?_
  refine g_goto (tgt := 38) hX dX7_needs_95 (by decide) ?_
  refine g_lvp (lv' := [(0, 2, jx0), (2, 1, jx2), (4, 2, jx4), (5, 0, jx5), (6, 0, jx6), (7, 0, (jx7 + 1))]) [1, 2, 3, 4, 5, 0] rfl ?_
  exact hk38 jx5 jx6 (jx7 + 1) σ hF
def F_X7_needs_L38 (jx0 : Int) (jx2 : Int) (jx4 : Int) : Nat → Int → Int → Int → Hp → Option (Int × Hp)
  | 0, _, _, _, _ => none
  | n + 1, jx5, jx6, jx7, σ => (rd 8 σ jx0 0).bind fun jv6 => (rd 5 σ jv6 2).bind fun jv7 => bLt jx7 jv7 ((rd 8 σ jx0 0).bind fun jv8 => bd (iv 5 σ jv8 (F_X4_sumOf  jv8 jx7 σ)) fun jv9 σ10 => bLt jv9 jx6 ((rd 8 σ10 jx0 2).bind fun jv11 => bd (iv 7 σ10 jv11 (F_X6_worthAt  jv11 jx4 jx7 σ10)) fun jv12 σ13 => g66 jv12 jx2 (bLt (cmpL jv12 jx2) 0 (F_X7_needs_B92 (F_X7_needs_L38 jx0 jx2 jx4 n) jx0 jx2 jx4 jx5 jx6 jx7  σ13) (F_X7_needs_B92 (F_X7_needs_L38 jx0 jx2 jx4 n) jx0 jx2 jx4 jx7 jv9 jx7  σ13))) (F_X7_needs_B92 (F_X7_needs_L38 jx0 jx2 jx4 n) jx0 jx2 jx4 jx5 jx6 jx7  σ10)) (some (jx5, σ))
theorem M_X7_needs_L38 (jx0 : Int) (jx2 : Int) (jx4 : Int) : ∀ (n : Nat) (jx5 : Int) (jx6 : Int) (jx7 : Int) (σ : Hp), Mn σ (F_X7_needs_L38 jx0 jx2 jx4 n jx5 jx6 jx7 σ) := by
  intro n
  induction n with
  | zero => intros; rw [F_X7_needs_L38]; exact Mn_none
  | succ n hk38 =>
    intros
    rw [F_X7_needs_L38]
    repeat' first | exact Mn_ret | exact Mn_rz | exact hk38 _ _ _  _ | exact M_X4_sumOf _ _ _ | exact M_X6_worthAt _ _ _ _ | exact M_X7_needs_B92 (F_X7_needs_L38 jx0 jx2 jx4 n) hk38 _ _ _ _ _ _  _ | refine Mn_nm (fun _ => ?_) | refine Mn_nab (fun _ _ => ?_) | refine Mn_nwb (fun _ _ => ?_) | refine Mn_pw (fun _ => ?_) | refine Mn_pz (fun _ => ?_) | refine Mn_aw (fun _ => ?_) | refine Mn_az (fun _ => ?_) | refine Mn_aq (fun _ => ?_) | refine Mn_bo (fun _ => ?_) | refine Mn_bd ?_ (fun _ _ => ?_) | refine Mn_iv ?_ | refine Mn_bLt ?_ ?_ | refine Mn_bLe ?_ ?_ | refine Mn_bEq ?_ ?_ | refine Mn_bN ?_ ?_ | refine Mn_g3 ?_ | refine Mn_g33 ?_ | refine Mn_g66 ?_ | refine Mn_gD ?_
set_option maxRecDepth 100000 in
set_option maxHeartbeats 4000000 in
theorem T_X7_needs_L38 {r : Int} {σE : Hp} (hX : Cx p R s m args meth c D dA b0 n0 m0 9 nE mE cX7_needs RX7 278 10846) (hR : Rx meth (some .int)) (hnm : meth.name = yX7_needs.name) (hQ : Q = Qm D dA b0 n0 m0 below args s (some (pV 0 r)) σE) (hE : nE = σE.1 ∧ mE = σE.2.1) (jx0 : Int) (jx2 : Int) (jx4 : Int) : ∀ (n : Nat) (jx5 : Int) (jx6 : Int) (jx7 : Int) (σ : Hp), F_X7_needs_L38 jx0 jx2 jx4 n jx5 jx6 jx7 σ = some (r, σE) → G p l e R s m args below meth c D dA b0 n0 m0 9 nE mE Q 38 [(0, 2, jx0), (2, 1, jx2), (4, 2, jx4), (5, 0, jx5), (6, 0, jx6), (7, 0, jx7)] [] σ := by
  intro n
  induction n with
  | zero =>
    intro jx5 jx6 jx7 σ hF
    rw [F_X7_needs_L38] at hF
    cases hF
  | succ n hk38 =>
    intro jx5 jx6 jx7 σ hF
    rw [F_X7_needs_L38] at hF
    refine g_iload hX 5 dX7_needs_38 rfl ?_
    refine g_aload_n hX 0 dX7_needs_40 rfl rfl ?_
    refine g_get hX fl_X7_10 (by decide) (by decide) dX7_needs_41 hF (fun jv6 hF => ?_)
    refine g_get hX fl_X7_54 (by decide) (by decide) dX7_needs_44 hF (fun jv7 hF => ?_)
    refine g_icmp_ge (tgt := 98) hX dX7_needs_47 (by decide) hF (fun hc hF => ?_) (fun hc hF => ?_)
    · refine g_aload_n hX 0 dX7_needs_50 rfl rfl ?_
      refine g_get hX fl_X7_10 (by decide) (by decide) dX7_needs_51 hF (fun jv8 hF => ?_)
      refine g_iload hX 5 dX7_needs_54 rfl ?_
      refine g_callV (t := 0) (ci := 4) (rest := []) [(0, jx7)] hX cw_X7_177 rfl (by decide) (by decide) (fun r σ1 h => T_X4_sumOf l D dA b0  jv8 jx7 σ σ1 r h) ⟨by decide, by decide⟩ rfl rfl (Nat.le_of_ble_eq_true rfl) dX7_needs_56 hF (fun jv9 σ10 hF => ?_)
      refine g_istore (lv' := [(8, 0, jv9), (0, 2, jx0), (2, 1, jx2), (4, 2, jx4), (5, 0, jx5), (6, 0, jx6), (7, 0, jx7)]) hX dX7_needs_59 (by decide) rfl ?_
      refine g_iload hX 0 dX7_needs_61 rfl ?_
      refine g_iload hX 5 dX7_needs_63 rfl ?_
      refine g_icmp_ge (tgt := 92) hX dX7_needs_65 (by decide) hF (fun hc hF => ?_) (fun hc hF => ?_)
      · refine g_aload_n hX 1 dX7_needs_68 rfl rfl ?_
        refine g_get hX fl_X7_28 (by decide) (by decide) dX7_needs_69 hF (fun jv11 hF => ?_)
        refine g_aload hX 3 dX7_needs_72 rfl ?_
        refine g_iload hX 6 dX7_needs_74 rfl ?_
        refine g_callV (t := 1) (ci := 6) (rest := []) [(2, jx4), (0, jx7)] hX cw_X7_159 rfl (by decide) (by decide) (fun r σ1 h => T_X6_worthAt l D dA b0  jv11 jx4 jx7 σ10 σ1 r h) ⟨by decide, by decide⟩ rfl rfl (Nat.le_of_ble_eq_true rfl) dX7_needs_76 hF (fun jv12 σ13 hF => ?_)
        refine g_lload_n hX 2 dX7_needs_79 rfl rfl ?_
        refine g_lcmp hX dX7_needs_80 hF (fun hF => ?_)
        refine g_if_lt (tgt := 92) hX dX7_needs_81 (by decide) hF (fun hc hF => ?_) (fun hc hF => ?_)
        · refine g_lvp (lv' := [(0, 2, jx0), (2, 1, jx2), (4, 2, jx4), (5, 0, jx5), (6, 0, jx6), (7, 0, jx7)]) [1, 2, 3, 4, 5, 6] rfl ?_
          exact T_X7_needs_B92 hX hR hnm hQ hE (F_X7_needs_L38 jx0 jx2 jx4 n) jx0 jx2 jx4 jx5 jx6 jx7  hk38  σ13 hF
        · refine g_iload hX 0 dX7_needs_84 rfl ?_
          refine g_istore (lv' := [(6, 0, jv9), (8, 0, jv9), (0, 2, jx0), (2, 1, jx2), (4, 2, jx4), (5, 0, jx5), (7, 0, jx7)]) hX dX7_needs_86 (by decide) rfl ?_
          refine g_iload hX 6 dX7_needs_88 rfl ?_
          refine g_istore (lv' := [(5, 0, jx7), (6, 0, jv9), (8, 0, jv9), (0, 2, jx0), (2, 1, jx2), (4, 2, jx4), (7, 0, jx7)]) hX dX7_needs_90 (by decide) rfl ?_
          refine g_lvp (lv' := [(0, 2, jx0), (2, 1, jx2), (4, 2, jx4), (5, 0, jx7), (6, 0, jv9), (7, 0, jx7)]) [3, 4, 5, 0, 1, 6] rfl ?_
          exact T_X7_needs_B92 hX hR hnm hQ hE (F_X7_needs_L38 jx0 jx2 jx4 n) jx0 jx2 jx4 jx7 jv9 jx7  hk38  σ13 hF
      · refine g_lvp (lv' := [(0, 2, jx0), (2, 1, jx2), (4, 2, jx4), (5, 0, jx5), (6, 0, jx6), (7, 0, jx7)]) [1, 2, 3, 4, 5, 6] rfl ?_
        exact T_X7_needs_B92 hX hR hnm hQ hE (F_X7_needs_L38 jx0 jx2 jx4 n) jx0 jx2 jx4 jx5 jx6 jx7  hk38  σ10 hF
    · refine g_iload hX 3 dX7_needs_98 rfl ?_
      exact g_iret hX hR hQ hE dX7_needs_100 hF
def F_X7_needs (jx0 : Int) (jx1 : Int) (jx2 : Int) (σ : Hp) : Option (Int × Hp) :=
  (rd 8 σ jx0 1).bind fun jv1 => bd (iv 4 σ jv1 (F_X3_nodeAt  jv1 jx1 σ)) fun jv2 σ3 => bN jv2 (some ((-1), σ3)) (bd (iv 8 σ3 jx0 (F_X7_isWhole  jx0  σ3)) fun jv4 σ5 => bEq jv4 0 (some ((-3), σ5)) (F_X7_needs_L38 jx0 jx2 jv2 fu (-6) 91 0 σ5))
theorem M_X7_needs (jx0 : Int) (jx1 : Int) (jx2 : Int) (σ : Hp) : Mn σ (F_X7_needs jx0 jx1 jx2 σ) := by
  unfold F_X7_needs
  repeat' first | exact Mn_ret | exact Mn_rz | exact M_X3_nodeAt _ _ _ | exact M_X7_isWhole _ _ | exact M_X7_needs_L38 _ _ _ _ _ _ _ _ | refine Mn_nm (fun _ => ?_) | refine Mn_nab (fun _ _ => ?_) | refine Mn_nwb (fun _ _ => ?_) | refine Mn_pw (fun _ => ?_) | refine Mn_pz (fun _ => ?_) | refine Mn_aw (fun _ => ?_) | refine Mn_az (fun _ => ?_) | refine Mn_aq (fun _ => ?_) | refine Mn_bo (fun _ => ?_) | refine Mn_bd ?_ (fun _ _ => ?_) | refine Mn_iv ?_ | refine Mn_bLt ?_ ?_ | refine Mn_bLe ?_ ?_ | refine Mn_bEq ?_ ?_ | refine Mn_bN ?_ ?_ | refine Mn_g3 ?_ | refine Mn_g33 ?_ | refine Mn_g66 ?_ | refine Mn_gD ?_
set_option maxRecDepth 100000 in
set_option maxHeartbeats 4000000 in
theorem T_X7_needs (l : Launch) (D : va_G) (dA : Nat → ClassId) (b0 : Nat) (jx0 : Int) (jx1 : Int) (jx2 : Int) (σ σE : Hp) (r : Int) (hF : F_X7_needs jx0 jx1 jx2 σ = some (r, σE)) : Ct l D dA b0 yX7_needs cX7_needs 9 (some .int) 278 10846 [(2, jx0), (0, jx1), (1, jx2)] σ (some (pV 0 r)) σE := by
  refine Ct.of (lv0 := [(0, 2, jx0), (1, 0, jx1), (2, 1, jx2)]) (by decide) RX7 rfl (Nat.le_of_ble_eq_true rfl) rfl ?_ (M_X7_needs jx0 jx1 jx2 σ r σE hF)
  intro p e R s m args below meth c hX hR hnm
  obtain ⟨Q, hQ⟩ : ∃ Q, Q = Qm D dA b0 σ.1 σ.2.1 below args s (some (pV 0 r)) σE := ⟨_, rfl⟩
  rw [← hQ]
  have hE : σE.1 = σE.1 ∧ σE.2.1 = σE.2.1 := ⟨rfl, rfl⟩
  unfold F_X7_needs at hF
  refine g_aload_n hX 0 dX7_needs_0 rfl rfl ?_
  refine g_get hX fl_X7_19 (by decide) (by decide) dX7_needs_1 hF (fun jv1 hF => ?_)
  refine g_iload_n hX 1 dX7_needs_4 rfl rfl ?_
  refine g_callV (t := 2) (ci := 3) (rest := []) [(0, jx1)] hX cw_X7_99 rfl (by decide) (by decide) (fun r σ1 h => T_X3_nodeAt l D dA b0  jv1 jx1 σ σ1 r h) ⟨by decide, by decide⟩ rfl rfl (Nat.le_of_ble_eq_true rfl) dX7_needs_5 hF (fun jv2 σ3 hF => ?_)
  refine g_astore (lv' := [(4, 2, jv2), (0, 2, jx0), (1, 0, jx1), (2, 1, jx2)]) hX dX7_needs_8 (by decide) rfl ?_
  refine g_aload hX 0 dX7_needs_10 rfl ?_
  refine g_ifnonnull (tgt := 17) hX dX7_needs_12 (by decide) hF (fun hc hF => ?_) (fun hc hF => ?_)
  · refine g_iconst hX dX7_needs_15 ?_
    exact g_iret hX hR hQ hE dX7_needs_16 hF
  · refine g_aload_n hX 1 dX7_needs_17 rfl rfl ?_
    refine g_callV (t := 0) (ci := 7) (rest := []) [] hX cw_X7_149 rfl (by decide) (by decide) (fun r σ1 h => T_X7_isWhole l D dA b0  jx0  σ3 σ1 r h) ⟨by decide, by decide⟩ rfl rfl (Nat.le_of_ble_eq_true rfl) dX7_needs_18 hF (fun jv4 σ5 hF => ?_)
    refine g_if_ne (tgt := 27) hX dX7_needs_21 (by decide) hF (fun hc hF => ?_) (fun hc hF => ?_)
    · refine g_bipush hX dX7_needs_24 (by decide) ?_
      exact g_iret hX hR hQ hE dX7_needs_26 hF
    · refine g_bipush hX dX7_needs_27 (by decide) ?_
      refine g_istore (lv' := [(5, 0, (-6)), (4, 2, jv2), (0, 2, jx0), (1, 0, jx1), (2, 1, jx2)]) hX dX7_needs_29 (by decide) rfl ?_
      refine g_bipush hX dX7_needs_31 (by decide) ?_
      refine g_istore (lv' := [(6, 0, 91), (5, 0, (-6)), (4, 2, jv2), (0, 2, jx0), (1, 0, jx1), (2, 1, jx2)]) hX dX7_needs_33 (by decide) rfl ?_
      refine g_iconst hX dX7_needs_35 ?_
      refine g_istore (lv' := [(7, 0, 0), (6, 0, 91), (5, 0, (-6)), (4, 2, jv2), (0, 2, jx0), (1, 0, jx1), (2, 1, jx2)]) hX dX7_needs_36 (by decide) rfl ?_
      refine g_lvp (lv' := [(0, 2, jx0), (2, 1, jx2), (4, 2, jv2), (5, 0, (-6)), (6, 0, 91), (7, 0, 0)]) [4, 6, 3, 2, 1, 0] rfl ?_
      exact T_X7_needs_L38 hX hR hnm hQ hE jx0 jx2 jv2  fu (-6) 91 0 σ5 hF
end

section
variable {p : Program} {l : Launch} {e : Env} {R : Room} {s : State} {m : MethodId} {args : Array Value} {below : List Frame} {meth : Method} {c : Code} {D : va_G} {dA : Nat → ClassId} {b0 n0 m0 nE mE : Nat} {Q : State → Prop}
def F_X7_rule (jx0 : Int) (jx1 : Int) (jx2 : Int) (jx3 : Int) (σ : Hp) : Option (Int × Hp) :=
  (rd 8 σ jx0 0).bind fun jv1 => bd (iv 5 σ jv1 (F_X4_lakeAt  jv1 jx1 σ)) fun jv2 σ3 => bN jv2 (some ((-1), σ3)) (bd (F_X7_isWithin jx2 30 σ3) fun jv4 σ5 => bEq jv4 0 (some ((-1), σ5)) (bd (F_X7_isWithin jx3 30 σ5) fun jv6 σ7 => bEq jv6 0 (some ((-1), σ7)) ((pw 1 σ7 jv2 6 jx2).bind fun σ8 => (pw 1 σ8 jv2 7 jx3).bind fun σ9 => some (1, σ9))))
theorem M_X7_rule (jx0 : Int) (jx1 : Int) (jx2 : Int) (jx3 : Int) (σ : Hp) : Mn σ (F_X7_rule jx0 jx1 jx2 jx3 σ) := by
  unfold F_X7_rule
  repeat' first | exact Mn_ret | exact Mn_rz | exact M_X4_lakeAt _ _ _ | exact M_X7_isWithin _ _ _ | refine Mn_nm (fun _ => ?_) | refine Mn_nab (fun _ _ => ?_) | refine Mn_nwb (fun _ _ => ?_) | refine Mn_pw (fun _ => ?_) | refine Mn_pz (fun _ => ?_) | refine Mn_aw (fun _ => ?_) | refine Mn_az (fun _ => ?_) | refine Mn_aq (fun _ => ?_) | refine Mn_bo (fun _ => ?_) | refine Mn_bd ?_ (fun _ _ => ?_) | refine Mn_iv ?_ | refine Mn_bLt ?_ ?_ | refine Mn_bLe ?_ ?_ | refine Mn_bEq ?_ ?_ | refine Mn_bN ?_ ?_ | refine Mn_g3 ?_ | refine Mn_g33 ?_ | refine Mn_g66 ?_ | refine Mn_gD ?_
set_option maxRecDepth 100000 in
set_option maxHeartbeats 4000000 in
theorem T_X7_rule (l : Launch) (D : va_G) (dA : Nat → ClassId) (b0 : Nat) (jx0 : Int) (jx1 : Int) (jx2 : Int) (jx3 : Int) (σ σE : Hp) (r : Int) (hF : F_X7_rule jx0 jx1 jx2 jx3 σ = some (r, σE)) : Ct l D dA b0 yX7_rule cX7_rule 5 (some .int) 1 21 [(2, jx0), (0, jx1), (0, jx2), (0, jx3)] σ (some (pV 0 r)) σE := by
  refine Ct.of (lv0 := [(0, 2, jx0), (1, 0, jx1), (2, 0, jx2), (3, 0, jx3)]) (by decide) RX7 rfl (Nat.le_of_ble_eq_true rfl) rfl ?_ (M_X7_rule jx0 jx1 jx2 jx3 σ r σE hF)
  intro p e R s m args below meth c hX hR hnm
  obtain ⟨Q, hQ⟩ : ∃ Q, Q = Qm D dA b0 σ.1 σ.2.1 below args s (some (pV 0 r)) σE := ⟨_, rfl⟩
  rw [← hQ]
  have hE : σE.1 = σE.1 ∧ σE.2.1 = σE.2.1 := ⟨rfl, rfl⟩
  unfold F_X7_rule at hF
  refine g_aload_n hX 0 dX7_rule_0 rfl rfl ?_
  refine g_get hX fl_X7_10 (by decide) (by decide) dX7_rule_1 hF (fun jv1 hF => ?_)
  refine g_iload_n hX 1 dX7_rule_4 rfl rfl ?_
  refine g_callV (t := 2) (ci := 4) (rest := []) [(0, jx1)] hX cw_X7_69 rfl (by decide) (by decide) (fun r σ1 h => T_X4_lakeAt l D dA b0  jv1 jx1 σ σ1 r h) ⟨by decide, by decide⟩ rfl rfl (Nat.le_of_ble_eq_true rfl) dX7_rule_5 hF (fun jv2 σ3 hF => ?_)
  refine g_astore (lv' := [(4, 2, jv2), (0, 2, jx0), (1, 0, jx1), (2, 0, jx2), (3, 0, jx3)]) hX dX7_rule_8 (by decide) rfl ?_
  refine g_aload hX 0 dX7_rule_10 rfl ?_
  refine g_ifnull (tgt := 33) hX dX7_rule_12 (by decide) hF (fun hc hF => ?_) (fun hc hF => ?_)
  · refine g_iconst hX dX7_rule_33 ?_
    exact g_iret hX hR hQ hE dX7_rule_34 hF
  · refine g_iload_n hX 3 dX7_rule_15 rfl rfl ?_
    refine g_bipush hX dX7_rule_16 (by decide) ?_
    refine g_callS (t := 0) (rest := []) [(0, jx2), (0, 30)] hX cw_X7_46 (fun r σ1 h => T_X7_isWithin l D dA b0 jx2 30 σ3 σ1 r h) ⟨by decide, by decide⟩ rfl rfl (Nat.le_of_ble_eq_true rfl) dX7_rule_18 hF (fun jv4 σ5 hF => ?_)
    refine g_if_eq (tgt := 33) hX dX7_rule_21 (by decide) hF (fun hc hF => ?_) (fun hc hF => ?_)
    · refine g_iconst hX dX7_rule_33 ?_
      exact g_iret hX hR hQ hE dX7_rule_34 hF
    · refine g_iload_n hX 4 dX7_rule_24 rfl rfl ?_
      refine g_bipush hX dX7_rule_25 (by decide) ?_
      refine g_callS (t := 0) (rest := []) [(0, jx3), (0, 30)] hX cw_X7_46 (fun r σ1 h => T_X7_isWithin l D dA b0 jx3 30 σ5 σ1 r h) ⟨by decide, by decide⟩ rfl rfl (Nat.le_of_ble_eq_true rfl) dX7_rule_27 hF (fun jv6 σ7 hF => ?_)
      refine g_if_ne (tgt := 35) hX dX7_rule_30 (by decide) hF (fun hc hF => ?_) (fun hc hF => ?_)
      · refine g_iconst hX dX7_rule_33 ?_
        exact g_iret hX hR hQ hE dX7_rule_34 hF
      · refine g_aload hX 0 dX7_rule_35 rfl ?_
        refine g_iload_n hX 3 dX7_rule_37 rfl rfl ?_
        refine u_put hX fp_X7_180 (by decide) (by decide) dX7_rule_38 hF (fun σ8 hF => ?_)
        refine g_aload hX 0 dX7_rule_41 rfl ?_
        refine g_iload_n hX 4 dX7_rule_43 rfl rfl ?_
        refine u_put hX fp_X7_183 (by decide) (by decide) dX7_rule_44 hF (fun σ9 hF => ?_)
        refine g_iconst hX dX7_rule_47 ?_
        exact g_iret hX hR hQ hE dX7_rule_48 hF
end
