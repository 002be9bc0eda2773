section
variable {p : Program} {l : Launch} {e : Env} {R : Room} {s : State} {m : MethodId} {args : Array Value} {below : List Frame} {meth : Method} {c : Code} {D : va_G} {dA : Nat → ClassId} {b0 n0 m0 nE mE : Nat} {Q : State → Prop}
def F_X0_headAt (jx0 : Int) (jx1 : Int) (σ : Hp) : Option (Int × Hp) :=
  bLt jx1 0 (some (0, σ)) ((rd 1 σ jx0 0).bind fun jv1 => (al 11 σ jv1).bind fun jv2 => bLt jx1 jv2 ((rd 1 σ jx0 0).bind fun jv3 => (ar 11 σ jv3 jx1).bind fun jv4 => some (jv4, σ)) (some (0, σ)))
theorem M_X0_headAt (jx0 : Int) (jx1 : Int) (σ : Hp) : Mn σ (F_X0_headAt jx0 jx1 σ) := by
  unfold F_X0_headAt
  repeat' first | exact Mn_ret | exact Mn_rz | refine Mn_nm (fun _ => ?_) | refine Mn_nab (fun _ _ => ?_) | refine Mn_nwb (fun _ _ => ?_) | refine Mn_pw (fun _ => ?_) | refine Mn_pz (fun _ => ?_) | refine Mn_aw (fun _ => ?_) | refine Mn_az (fun _ => ?_) | refine Mn_aq (fun _ => ?_) | refine Mn_bo (fun _ => ?_) | refine Mn_bd ?_ (fun _ _ => ?_) | refine Mn_iv ?_ | refine Mn_bLt ?_ ?_ | refine Mn_bLe ?_ ?_ | refine Mn_bEq ?_ ?_ | refine Mn_bN ?_ ?_ | refine Mn_g3 ?_ | refine Mn_g33 ?_ | refine Mn_g66 ?_ | refine Mn_gD ?_
set_option maxRecDepth 100000 in
set_option maxHeartbeats 4000000 in
theorem T_X0_headAt (l : Launch) (D : va_G) (dA : Nat → ClassId) (b0 : Nat) (jx0 : Int) (jx1 : Int) (σ σE : Hp) (r : Int) (hF : F_X0_headAt jx0 jx1 σ = some (r, σE)) : Ct l D dA b0 yX0_headAt cX0_headAt 2 (some .int) 0 0 [(2, jx0), (0, jx1)] σ (some (pV 0 r)) σE := by
  refine Ct.of (lv0 := [(0, 2, jx0), (1, 0, jx1)]) (by decide) RX0 rfl (Nat.le_of_ble_eq_true rfl) rfl ?_ (M_X0_headAt jx0 jx1 σ r σE hF)
  intro p e R s m args below meth c hX hR hnm
  obtain ⟨Q, hQ⟩ : ∃ Q, Q = Qm D dA b0 σ.1 σ.2.1 below args s (some (pV 0 r)) σE := ⟨_, rfl⟩
  rw [← hQ]
  have hE : σE.1 = σE.1 ∧ σE.2.1 = σE.2.1 := ⟨rfl, rfl⟩
  unfold F_X0_headAt at hF
  refine g_iload_n hX 1 dX0_headAt_0 rfl rfl ?_
  refine g_if_lt (tgt := 22) hX dX0_headAt_1 (by decide) hF (fun hc hF => ?_) (fun hc hF => ?_)
  · refine g_iconst hX dX0_headAt_22 ?_
    exact g_iret hX hR hQ hE dX0_headAt_23 hF
  · refine g_iload_n hX 1 dX0_headAt_4 rfl rfl ?_
    refine g_aload_n hX 0 dX0_headAt_5 rfl rfl ?_
    refine g_get hX fl_X0_9 (by decide) (by decide) dX0_headAt_6 hF (fun jv1 hF => ?_)
    refine g_alen hX (by decide) dX0_headAt_9 hF (fun jv2 hF => ?_)
    refine g_icmp_ge (tgt := 22) hX dX0_headAt_10 (by decide) hF (fun hc hF => ?_) (fun hc hF => ?_)
    · refine g_aload_n hX 0 dX0_headAt_13 rfl rfl ?_
      refine g_get hX fl_X0_9 (by decide) (by decide) dX0_headAt_14 hF (fun jv3 hF => ?_)
      refine g_iload_n hX 1 dX0_headAt_17 rfl rfl ?_
      refine g_iald hX dX0_headAt_18 hF (fun jv4 hF => ?_)
      refine g_goto (tgt := 23) hX dX0_headAt_19 (by decide) ?_
      exact g_iret hX hR hQ hE dX0_headAt_23 hF
    · refine g_iconst hX dX0_headAt_22 ?_
      exact g_iret hX hR hQ hE dX0_headAt_23 hF
end

section
variable {p : Program} {l : Launch} {e : Env} {R : Room} {s : State} {m : MethodId} {args : Array Value} {below : List Frame} {meth : Method} {c : Code} {D : va_G} {dA : Nat → ClassId} {b0 n0 m0 nE mE : Nat} {Q : State → Prop}
def F_X0_takesHead_B17 (jx0 : Int) (jx1 : Int) (jx2 : Int) (σ : Hp) : Option (Int × Hp) :=
  (rd 1 σ jx0 2).bind fun jv1 => bLt jx1 jv1 (bd (iv 1 σ jx0 (F_X0_headAt  jx0 (jx1 + 1) σ)) fun jv2 σ3 => bLt jv2 jx2 (rz 0 σ3) (rz 1 σ3)) (rz 1 σ)
theorem M_X0_takesHead_B17 (jx0 : Int) (jx1 : Int) (jx2 : Int) (σ : Hp) : Mn σ (F_X0_takesHead_B17 jx0 jx1 jx2 σ) := by
  unfold F_X0_takesHead_B17
  repeat' first | exact Mn_ret | exact Mn_rz | exact M_X0_headAt _ _ _ | refine Mn_nm (fun _ => ?_) | refine Mn_nab (fun _ _ => ?_) | refine Mn_nwb (fun _ _ => ?_) | refine Mn_pw (fun _ => ?_) | refine Mn_pz (fun _ => ?_) | refine Mn_aw (fun _ => ?_) | refine Mn_az (fun _ => ?_) | refine Mn_aq (fun _ => ?_) | refine Mn_bo (fun _ => ?_) | refine Mn_bd ?_ (fun _ _ => ?_) | refine Mn_iv ?_ | refine Mn_bLt ?_ ?_ | refine Mn_bLe ?_ ?_ | refine Mn_bEq ?_ ?_ | refine Mn_bN ?_ ?_ | refine Mn_g3 ?_ | refine Mn_g33 ?_ | refine Mn_g66 ?_ | refine Mn_gD ?_
set_option maxRecDepth 100000 in
set_option maxHeartbeats 4000000 in
theorem T_X0_takesHead_B17 {r : Int} {σE : Hp} (hX : Cx p R s m args meth c D dA b0 n0 m0 3 nE mE cX0_takesHead RX0 1 21) (hR : Rx meth (some .boolean)) (hnm : meth.name = yX0_takesHead.name) (hQ : Q = Qm D dA b0 n0 m0 below args s (some (pV 0 r)) σE) (hE : nE = σE.1 ∧ mE = σE.2.1) (jx0 : Int) (jx1 : Int) (jx2 : Int) (σ : Hp) (hF : F_X0_takesHead_B17 jx0 jx1 jx2 σ = some (r, σE)) : G p l e R s m args below meth c D dA b0 n0 m0 3 nE mE Q 17 [(0, 2, jx0), (1, 0, jx1), (2, 0, jx2)] [] σ := by
  unfold F_X0_takesHead_B17 at hF
  refine g_iload_n hX 1 dX0_takesHead_17 rfl rfl ?_
  refine g_aload_n hX 0 dX0_takesHead_18 rfl rfl ?_
  refine g_get hX fl_X0_32 (by decide) (by decide) dX0_takesHead_19 hF (fun jv1 hF => ?_)
  refine g_icmp_ge (tgt := 36) hX dX0_takesHead_22 (by decide) hF (fun hc hF => ?_) (fun hc hF => ?_)
  · refine g_aload_n hX 0 dX0_takesHead_25 rfl rfl ?_
    refine g_iload_n hX 1 dX0_takesHead_26 rfl rfl ?_
    refine g_iconst hX dX0_takesHead_27 ?_
    refine g_iadd hX dX0_takesHead_28 ?_
    refine g_callV (t := 0) (ci := 0) (rest := []) [(0, (jx1 + 1))] hX cw_X0_28 rfl (by decide) (by decide) (fun r σ1 h => T_X0_headAt l D dA b0  jx0 (jx1 + 1) σ σ1 r h) ⟨by decide, by decide⟩ rfl rfl (Nat.le_of_ble_eq_true rfl) dX0_takesHead_29 hF (fun jv2 σ3 hF => ?_)
    refine g_iload_n hX 2 dX0_takesHead_32 rfl rfl ?_
    refine g_icmp_lt (tgt := 40) hX dX0_takesHead_33 (by decide) hF (fun hc hF => ?_) (fun hc hF => ?_)
    · refine g_iconst hX dX0_takesHead_40 ?_
      exact g_zret hX hR hQ hE dX0_takesHead_41 hF
    · refine g_iconst hX dX0_takesHead_36 ?_
      refine g_goto (tgt := 41) hX dX0_takesHead_37 (by decide) ?_
      exact g_zret hX hR hQ hE dX0_takesHead_41 hF
  · refine g_iconst hX dX0_takesHead_36 ?_
    refine g_goto (tgt := 41) hX dX0_takesHead_37 (by decide) ?_
    exact g_zret hX hR hQ hE dX0_takesHead_41 hF
def F_X0_takesHead (jx0 : Int) (jx1 : Int) (jx2 : Int) (σ : Hp) : Option (Int × Hp) :=
  bLe jx1 0 (F_X0_takesHead_B17 jx0 jx1 jx2  σ) (bd (iv 1 σ jx0 (F_X0_headAt  jx0 (jx1 - 1) σ)) fun jv4 σ5 => bLe jv4 jx2 (F_X0_takesHead_B17 jx0 jx1 jx2  σ5) (rz 0 σ5))
theorem M_X0_takesHead (jx0 : Int) (jx1 : Int) (jx2 : Int) (σ : Hp) : Mn σ (F_X0_takesHead jx0 jx1 jx2 σ) := by
  unfold F_X0_takesHead
  repeat' first | exact Mn_ret | exact Mn_rz | exact M_X0_takesHead_B17 _ _ _  _ | exact M_X0_headAt _ _ _ | refine Mn_nm (fun _ => ?_) | refine Mn_nab (fun _ _ => ?_) | refine Mn_nwb (fun _ _ => ?_) | refine Mn_pw (fun _ => ?_) | refine Mn_pz (fun _ => ?_) | refine Mn_aw (fun _ => ?_) | refine Mn_az (fun _ => ?_) | refine Mn_aq (fun _ => ?_) | refine Mn_bo (fun _ => ?_) | refine Mn_bd ?_ (fun _ _ => ?_) | refine Mn_iv ?_ | refine Mn_bLt ?_ ?_ | refine Mn_bLe ?_ ?_ | refine Mn_bEq ?_ ?_ | refine Mn_bN ?_ ?_ | refine Mn_g3 ?_ | refine Mn_g33 ?_ | refine Mn_g66 ?_ | refine Mn_gD ?_
set_option maxRecDepth 100000 in
set_option maxHeartbeats 4000000 in
theorem T_X0_takesHead (l : Launch) (D : va_G) (dA : Nat → ClassId) (b0 : Nat) (jx0 : Int) (jx1 : Int) (jx2 : Int) (σ σE : Hp) (r : Int) (hF : F_X0_takesHead jx0 jx1 jx2 σ = some (r, σE)) : Ct l D dA b0 yX0_takesHead cX0_takesHead 3 (some .boolean) 1 21 [(2, jx0), (0, jx1), (0, jx2)] σ (some (pV 0 r)) σE := by
  refine Ct.of (lv0 := [(0, 2, jx0), (1, 0, jx1), (2, 0, jx2)]) (by decide) RX0 rfl (Nat.le_of_ble_eq_true rfl) rfl ?_ (M_X0_takesHead jx0 jx1 jx2 σ r σE hF)
  intro p e R s m args below meth c hX hR hnm
  obtain ⟨Q, hQ⟩ : ∃ Q, Q = Qm D dA b0 σ.1 σ.2.1 below args s (some (pV 0 r)) σE := ⟨_, rfl⟩
  rw [← hQ]
  have hE : σE.1 = σE.1 ∧ σE.2.1 = σE.2.1 := ⟨rfl, rfl⟩
  unfold F_X0_takesHead at hF
  refine g_iload_n hX 1 dX0_takesHead_0 rfl rfl ?_
  refine g_if_le (tgt := 17) hX dX0_takesHead_1 (by decide) hF (fun hc hF => ?_) (fun hc hF => ?_)
  · exact T_X0_takesHead_B17 hX hR hnm hQ hE jx0 jx1 jx2   σ hF
  · refine g_aload_n hX 0 dX0_takesHead_4 rfl rfl ?_
    refine g_iload_n hX 1 dX0_takesHead_5 rfl rfl ?_
    refine g_iconst hX dX0_takesHead_6 ?_
    refine g_isub hX dX0_takesHead_7 ?_
    refine g_callV (t := 0) (ci := 0) (rest := []) [(0, (jx1 - 1))] hX cw_X0_28 rfl (by decide) (by decide) (fun r σ1 h => T_X0_headAt l D dA b0  jx0 (jx1 - 1) σ σ1 r h) ⟨by decide, by decide⟩ rfl rfl (Nat.le_of_ble_eq_true rfl) dX0_takesHead_8 hF (fun jv4 σ5 hF => ?_)
    refine g_iload_n hX 2 dX0_takesHead_11 rfl rfl ?_
    refine g_icmp_le (tgt := 17) hX dX0_takesHead_12 (by decide) hF (fun hc hF => ?_) (fun hc hF => ?_)
    · exact T_X0_takesHead_B17 hX hR hnm hQ hE jx0 jx1 jx2   σ5 hF
    · refine g_iconst hX dX0_takesHead_15 ?_
      exact g_zret hX hR hQ hE dX0_takesHead_16 hF
end

section
variable {p : Program} {l : Launch} {e : Env} {R : Room} {s : State} {m : MethodId} {args : Array Value} {below : List Frame} {meth : Method} {c : Code} {D : va_G} {dA : Nat → ClassId} {b0 n0 m0 nE mE : Nat} {Q : State → Prop}
def F_X0_leastLet (jx0 : Int) (jx1 : Int) (σ : Hp) : Option (Int × Hp) :=
  (rd 1 σ jx0 4).bind fun jv1 => g33 jv1 jx1 (some ((min jv1 jx1), σ))
theorem M_X0_leastLet (jx0 : Int) (jx1 : Int) (σ : Hp) : Mn σ (F_X0_leastLet jx0 jx1 σ) := by
  unfold F_X0_leastLet
  repeat' first | exact Mn_ret | exact Mn_rz | refine Mn_nm (fun _ => ?_) | refine Mn_nab (fun _ _ => ?_) | refine Mn_nwb (fun _ _ => ?_) | refine Mn_pw (fun _ => ?_) | refine Mn_pz (fun _ => ?_) | refine Mn_aw (fun _ => ?_) | refine Mn_az (fun _ => ?_) | refine Mn_aq (fun _ => ?_) | refine Mn_bo (fun _ => ?_) | refine Mn_bd ?_ (fun _ _ => ?_) | refine Mn_iv ?_ | refine Mn_bLt ?_ ?_ | refine Mn_bLe ?_ ?_ | refine Mn_bEq ?_ ?_ | refine Mn_bN ?_ ?_ | refine Mn_g3 ?_ | refine Mn_g33 ?_ | refine Mn_g66 ?_ | refine Mn_gD ?_
set_option maxRecDepth 100000 in
set_option maxHeartbeats 4000000 in
theorem T_X0_leastLet (l : Launch) (D : va_G) (dA : Nat → ClassId) (b0 : Nat) (jx0 : Int) (jx1 : Int) (σ σE : Hp) (r : Int) (hF : F_X0_leastLet jx0 jx1 σ = some (r, σE)) : Ct l D dA b0 yX0_leastLet cX0_leastLet 2 (some .int) 1 21 [(2, jx0), (0, jx1)] σ (some (pV 0 r)) σE := by
  refine Ct.of (lv0 := [(0, 2, jx0), (1, 0, jx1)]) (by decide) RX0 rfl (Nat.le_of_ble_eq_true rfl) rfl ?_ (M_X0_leastLet jx0 jx1 σ r σE hF)
  intro p e R s m args below meth c hX hR hnm
  obtain ⟨Q, hQ⟩ : ∃ Q, Q = Qm D dA b0 σ.1 σ.2.1 below args s (some (pV 0 r)) σE := ⟨_, rfl⟩
  rw [← hQ]
  have hE : σE.1 = σE.1 ∧ σE.2.1 = σE.2.1 := ⟨rfl, rfl⟩
  unfold F_X0_leastLet at hF
  refine g_aload_n hX 0 dX0_leastLet_0 rfl rfl ?_
  refine g_get hX fl_X0_35 (by decide) (by decide) dX0_leastLet_1 hF (fun jv1 hF => ?_)
  refine g_iload_n hX 1 dX0_leastLet_4 rfl rfl ?_
  refine g_min hX mw_X0_38 (by decide) (Nat.le_of_ble_eq_true rfl) dX0_leastLet_5 hF (fun hF => ?_)
  exact g_iret hX hR hQ hE dX0_leastLet_8 hF
end

section
variable {p : Program} {l : Launch} {e : Env} {R : Room} {s : State} {m : MethodId} {args : Array Value} {below : List Frame} {meth : Method} {c : Code} {D : va_G} {dA : Nat → ClassId} {b0 n0 m0 nE mE : Nat} {Q : State → Prop}
def F_X0_mostLet (jx0 : Int) (jx1 : Int) (σ : Hp) : Option (Int × Hp) :=
  bd (iv 1 σ jx0 (F_X0_leastLet  jx0 jx1 σ)) fun jv1 σ2 => (rd 1 σ2 jx0 3).bind fun jv3 => (rd 1 σ2 jx0 1).bind fun jv4 => g33 jv3 (jx1 - jv4) (g33 jv1 (min jv3 (jx1 - jv4)) (some ((max jv1 (min jv3 (jx1 - jv4))), σ2)))
theorem M_X0_mostLet (jx0 : Int) (jx1 : Int) (σ : Hp) : Mn σ (F_X0_mostLet jx0 jx1 σ) := by
  unfold F_X0_mostLet
  repeat' first | exact Mn_ret | exact Mn_rz | exact M_X0_leastLet _ _ _ | refine Mn_nm (fun _ => ?_) | refine Mn_nab (fun _ _ => ?_) | refine Mn_nwb (fun _ _ => ?_) | refine Mn_pw (fun _ => ?_) | refine Mn_pz (fun _ => ?_) | refine Mn_aw (fun _ => ?_) | refine Mn_az (fun _ => ?_) | refine Mn_aq (fun _ => ?_) | refine Mn_bo (fun _ => ?_) | refine Mn_bd ?_ (fun _ _ => ?_) | refine Mn_iv ?_ | refine Mn_bLt ?_ ?_ | refine Mn_bLe ?_ ?_ | refine Mn_bEq ?_ ?_ | refine Mn_bN ?_ ?_ | refine Mn_g3 ?_ | refine Mn_g33 ?_ | refine Mn_g66 ?_ | refine Mn_gD ?_
set_option maxRecDepth 100000 in
set_option maxHeartbeats 4000000 in
theorem T_X0_mostLet (l : Launch) (D : va_G) (dA : Nat → ClassId) (b0 : Nat) (jx0 : Int) (jx1 : Int) (σ σE : Hp) (r : Int) (hF : F_X0_mostLet jx0 jx1 σ = some (r, σE)) : Ct l D dA b0 yX0_mostLet cX0_mostLet 2 (some .int) 2 42 [(2, jx0), (0, jx1)] σ (some (pV 0 r)) σE := by
  refine Ct.of (lv0 := [(0, 2, jx0), (1, 0, jx1)]) (by decide) RX0 rfl (Nat.le_of_ble_eq_true rfl) rfl ?_ (M_X0_mostLet jx0 jx1 σ r σE hF)
  intro p e R s m args below meth c hX hR hnm
  obtain ⟨Q, hQ⟩ : ∃ Q, Q = Qm D dA b0 σ.1 σ.2.1 below args s (some (pV 0 r)) σE := ⟨_, rfl⟩
  rw [← hQ]
  have hE : σE.1 = σE.1 ∧ σE.2.1 = σE.2.1 := ⟨rfl, rfl⟩
  unfold F_X0_mostLet at hF
  refine g_aload_n hX 0 dX0_mostLet_0 rfl rfl ?_
  refine g_iload_n hX 1 dX0_mostLet_1 rfl rfl ?_
  refine g_callV (t := 0) (ci := 0) (rest := []) [(0, jx1)] hX cw_X0_44 rfl (by decide) (by decide) (fun r σ1 h => T_X0_leastLet l D dA b0  jx0 jx1 σ σ1 r h) ⟨by decide, by decide⟩ rfl rfl (Nat.le_of_ble_eq_true rfl) dX0_mostLet_2 hF (fun jv1 σ2 hF => ?_)
  refine g_aload_n hX 0 dX0_mostLet_5 rfl rfl ?_
  refine g_get hX fl_X0_47 (by decide) (by decide) dX0_mostLet_6 hF (fun jv3 hF => ?_)
  refine g_iload_n hX 1 dX0_mostLet_9 rfl rfl ?_
  refine g_aload_n hX 0 dX0_mostLet_10 rfl rfl ?_
  refine g_get hX fl_X0_50 (by decide) (by decide) dX0_mostLet_11 hF (fun jv4 hF => ?_)
  refine g_isub hX dX0_mostLet_14 ?_
  refine g_min hX mw_X0_38 (by decide) (Nat.le_of_ble_eq_true rfl) dX0_mostLet_15 hF (fun hF => ?_)
  refine g_max hX mw_X0_53 (by decide) (Nat.le_of_ble_eq_true rfl) dX0_mostLet_18 hF (fun hF => ?_)
  exact g_iret hX hR hQ hE dX0_mostLet_21 hF
end

section
variable {p : Program} {l : Launch} {e : Env} {R : Room} {s : State} {m : MethodId} {args : Array Value} {below : List Frame} {meth : Method} {c : Code} {D : va_G} {dA : Nat → ClassId} {b0 n0 m0 nE mE : Nat} {Q : State → Prop}
def F_X0_ruleLet (jx0 : Int) (jx1 : Int) (σ : Hp) : Option (Int × Hp) :=
  (rd 1 σ jx0 6).bind fun jv1 => g33 (jx1 - jv1) 0 ((rd 1 σ jx0 7).bind fun jv2 => g33 (max (jx1 - jv1) 0) jv2 (nm ((min (max (jx1 - jv1) 0) jv2)) fun jv3 => bd (iv 1 σ jx0 (F_X0_leastLet  jx0 jx1 σ)) fun jv4 σ5 => bd (iv 1 σ5 jx0 (F_X0_mostLet  jx0 jx1 σ5)) fun jv6 σ7 => g33 jv6 jv3 (g33 jv4 (min jv6 jv3) (some ((max jv4 (min jv6 jv3)), σ7)))))
theorem M_X0_ruleLet (jx0 : Int) (jx1 : Int) (σ : Hp) : Mn σ (F_X0_ruleLet jx0 jx1 σ) := by
  unfold F_X0_ruleLet
  repeat' first | exact Mn_ret | exact Mn_rz | exact M_X0_leastLet _ _ _ | exact M_X0_mostLet _ _ _ | refine Mn_nm (fun _ => ?_) | refine Mn_nab (fun _ _ => ?_) | refine Mn_nwb (fun _ _ => ?_) | refine Mn_pw (fun _ => ?_) | refine Mn_pz (fun _ => ?_) | refine Mn_aw (fun _ => ?_) | refine Mn_az (fun _ => ?_) | refine Mn_aq (fun _ => ?_) | refine Mn_bo (fun _ => ?_) | refine Mn_bd ?_ (fun _ _ => ?_) | refine Mn_iv ?_ | refine Mn_bLt ?_ ?_ | refine Mn_bLe ?_ ?_ | refine Mn_bEq ?_ ?_ | refine Mn_bN ?_ ?_ | refine Mn_g3 ?_ | refine Mn_g33 ?_ | refine Mn_g66 ?_ | refine Mn_gD ?_
set_option maxRecDepth 100000 in
set_option maxHeartbeats 4000000 in
theorem T_X0_ruleLet (l : Launch) (D : va_G) (dA : Nat → ClassId) (b0 : Nat) (jx0 : Int) (jx1 : Int) (σ σE : Hp) (r : Int) (hF : F_X0_ruleLet jx0 jx1 σ = some (r, σE)) : Ct l D dA b0 yX0_ruleLet cX0_ruleLet 3 (some .int) 3 63 [(2, jx0), (0, jx1)] σ (some (pV 0 r)) σE := by
  refine Ct.of (lv0 := [(0, 2, jx0), (1, 0, jx1)]) (by decide) RX0 rfl (Nat.le_of_ble_eq_true rfl) rfl ?_ (M_X0_ruleLet jx0 jx1 σ r σE hF)
  intro p e R s m args below meth c hX hR hnm
  obtain ⟨Q, hQ⟩ : ∃ Q, Q = Qm D dA b0 σ.1 σ.2.1 below args s (some (pV 0 r)) σE := ⟨_, rfl⟩
  rw [← hQ]
  have hE : σE.1 = σE.1 ∧ σE.2.1 = σE.2.1 := ⟨rfl, rfl⟩
  unfold F_X0_ruleLet at hF
  refine g_iload_n hX 1 dX0_ruleLet_0 rfl rfl ?_
  refine g_aload_n hX 0 dX0_ruleLet_1 rfl rfl ?_
  refine g_get hX fl_X0_56 (by decide) (by decide) dX0_ruleLet_2 hF (fun jv1 hF => ?_)
  refine g_isub hX dX0_ruleLet_5 ?_
  refine g_iconst hX dX0_ruleLet_6 ?_
  refine g_max hX mw_X0_53 (by decide) (Nat.le_of_ble_eq_true rfl) dX0_ruleLet_7 hF (fun hF => ?_)
  refine g_aload_n hX 0 dX0_ruleLet_10 rfl rfl ?_
  refine g_get hX fl_X0_15 (by decide) (by decide) dX0_ruleLet_11 hF (fun jv2 hF => ?_)
  refine g_min hX mw_X0_38 (by decide) (Nat.le_of_ble_eq_true rfl) dX0_ruleLet_14 hF (fun hF => ?_)
  refine g_nm hF (fun jv3 hF => ?_)
  refine g_istore_n (lv' := [(2, 0, jv3), (0, 2, jx0), (1, 0, jx1)]) hX dX0_ruleLet_17 rfl (by decide) rfl ?_
  refine g_aload_n hX 1 dX0_ruleLet_18 rfl rfl ?_
  refine g_iload_n hX 2 dX0_ruleLet_19 rfl rfl ?_
  refine g_callV (t := 0) (ci := 0) (rest := []) [(0, jx1)] hX cw_X0_44 rfl (by decide) (by decide) (fun r σ1 h => T_X0_leastLet l D dA b0  jx0 jx1 σ σ1 r h) ⟨by decide, by decide⟩ rfl rfl (Nat.le_of_ble_eq_true rfl) dX0_ruleLet_20 hF (fun jv4 σ5 hF => ?_)
  refine g_aload_n hX 1 dX0_ruleLet_23 rfl rfl ?_
  refine g_iload_n hX 2 dX0_ruleLet_24 rfl rfl ?_
  refine g_callV (t := 0) (ci := 0) (rest := [(0, jv4)]) [(0, jx1)] hX cw_X0_59 rfl (by decide) (by decide) (fun r σ1 h => T_X0_mostLet l D dA b0  jx0 jx1 σ5 σ1 r h) ⟨by decide, by decide⟩ rfl rfl (Nat.le_of_ble_eq_true rfl) dX0_ruleLet_25 hF (fun jv6 σ7 hF => ?_)
  refine g_iload_n hX 0 dX0_ruleLet_28 rfl rfl ?_
  refine g_min hX mw_X0_38 (by decide) (Nat.le_of_ble_eq_true rfl) dX0_ruleLet_29 hF (fun hF => ?_)
  refine g_max hX mw_X0_53 (by decide) (Nat.le_of_ble_eq_true rfl) dX0_ruleLet_32 hF (fun hF => ?_)
  exact g_iret hX hR hQ hE dX0_ruleLet_35 hF
end
