section
variable {p : Program} {l : Launch} {e : Env} {R : Room} {s : State} {m : MethodId} {args : Array Value} {below : List Frame} {meth : Method} {c : Code} {D : va_G} {dA : Nat → ClassId} {b0 n0 m0 nE mE : Nat} {Q : State → Prop}
def F_J7_fill_53178_L5 (jx0 : Int) (jx1 : Int) (jx3 : Int) : Nat → Int → Hp → Option (Int × Hp)
  | 0, _, _ => none
  | n + 1, jx2, σ => bLt jx2 jx3 ((aw 11 σ jx0 jx2 jx1).bind fun σ2 => (F_J7_fill_53178_L5 jx0 jx1 jx3 n) (jx2 + 1) σ2) (some (0, σ))
theorem M_J7_fill_53178_L5 (jx0 : Int) (jx1 : Int) (jx3 : Int) : ∀ (n : Nat) (jx2 : Int) (σ : Hp), Mn σ (F_J7_fill_53178_L5 jx0 jx1 jx3 n jx2 σ) := by
  intro n
  induction n with
  | zero => intros; rw [F_J7_fill_53178_L5]; exact Mn_none
  | succ n hk5 =>
    intros
    rw [F_J7_fill_53178_L5]
    repeat' first | exact Mn_ret | exact Mn_rz | exact hk5 _  _ | refine Mn_nm (fun _ => ?_) | refine Mn_nab (fun _ _ => ?_) | refine Mn_nwb (fun _ _ => ?_) | refine Mn_pw (fun _ => ?_) | refine Mn_pz (fun _ => ?_) | refine Mn_aw (fun _ => ?_) | refine Mn_az (fun _ => ?_) | refine Mn_aq (fun _ => ?_) | refine Mn_bo (fun _ => ?_) | refine Mn_bd ?_ (fun _ _ => ?_) | refine Mn_iv ?_ | refine Mn_bLt ?_ ?_ | refine Mn_bLe ?_ ?_ | refine Mn_bEq ?_ ?_ | refine Mn_bN ?_ ?_ | refine Mn_g3 ?_ | refine Mn_g33 ?_ | refine Mn_g66 ?_ | refine Mn_gD ?_
set_option maxRecDepth 100000 in
set_option maxHeartbeats 4000000 in
theorem T_J7_fill_53178_L5 {r : Int} {σE : Hp} (hX : Cx p R s m args meth c D dA b0 n0 m0 4 nE mE cJ7_fill_53178 RJ7 0 0) (hR : Rx meth none) (hnm : meth.name = yJ7_fill_53178.name) (hQ : Q = Qm D dA b0 n0 m0 below args s none σE) (hE : nE = σE.1 ∧ mE = σE.2.1) (jx0 : Int) (jx1 : Int) (jx3 : Int) : ∀ (n : Nat) (jx2 : Int) (σ : Hp), F_J7_fill_53178_L5 jx0 jx1 jx3 n jx2 σ = some (r, σE) → G p l e R s m args below meth c D dA b0 n0 m0 4 nE mE Q 5 [(0, 2, jx0), (1, 0, jx1), (2, 0, jx2), (3, 0, jx3)] [] σ := by
  intro n
  induction n with
  | zero =>
    intro jx2 σ hF
    rw [F_J7_fill_53178_L5] at hF
    cases hF
  | succ n hk5 =>
    intro jx2 σ hF
    rw [F_J7_fill_53178_L5] at hF
    refine g_iload_n hX 2 dJ7_fill_53178_5 rfl rfl ?_
    refine g_iload_n hX 3 dJ7_fill_53178_6 rfl rfl ?_
    refine g_icmp_ge (tgt := 20) hX dJ7_fill_53178_7 (by decide) hF (fun hc hF => ?_) (fun hc hF => ?_)
    · refine g_aload_n hX 0 dJ7_fill_53178_10 rfl rfl ?_
      refine g_iload_n hX 2 dJ7_fill_53178_11 rfl rfl ?_
      refine g_iload_n hX 1 dJ7_fill_53178_12 rfl rfl ?_
      refine u_iast hX dJ7_fill_53178_13 hF (fun σ2 hF => ?_)
      refine g_iinc (lv' := [(2, 0, (jx2 + 1)), (0, 2, jx0), (1, 0, jx1), (3, 0, jx3)]) hX 2 dJ7_fill_53178_14 rfl (by decide) rfl ?_
      refine g_goto (tgt := 5) hX dJ7_fill_53178_17 (by decide) ?_
      refine g_lvp (lv' := [(0, 2, jx0), (1, 0, jx1), (2, 0, (jx2 + 1)), (3, 0, jx3)]) [1, 2, 0, 3] rfl ?_
      exact hk5 (jx2 + 1) σ2 hF
    · exact g_vret hX hR hQ hE dJ7_fill_53178_20 hF
def F_J7_fill_53178 (jx0 : Int) (jx1 : Int) (σ : Hp) : Option (Int × Hp) :=
  (al 11 σ jx0).bind fun jv1 => F_J7_fill_53178_L5 jx0 jx1 jv1 fu 0 σ
theorem M_J7_fill_53178 (jx0 : Int) (jx1 : Int) (σ : Hp) : Mn σ (F_J7_fill_53178 jx0 jx1 σ) := by
  unfold F_J7_fill_53178
  repeat' first | exact Mn_ret | exact Mn_rz | exact M_J7_fill_53178_L5 _ _ _ _ _ _ | refine Mn_nm (fun _ => ?_) | refine Mn_nab (fun _ _ => ?_) | refine Mn_nwb (fun _ _ => ?_) | refine Mn_pw (fun _ => ?_) | refine Mn_pz (fun _ => ?_) | refine Mn_aw (fun _ => ?_) | refine Mn_az (fun _ => ?_) | refine Mn_aq (fun _ => ?_) | refine Mn_bo (fun _ => ?_) | refine Mn_bd ?_ (fun _ _ => ?_) | refine Mn_iv ?_ | refine Mn_bLt ?_ ?_ | refine Mn_bLe ?_ ?_ | refine Mn_bEq ?_ ?_ | refine Mn_bN ?_ ?_ | refine Mn_g3 ?_ | refine Mn_g33 ?_ | refine Mn_g66 ?_ | refine Mn_gD ?_
set_option maxRecDepth 100000 in
set_option maxHeartbeats 4000000 in
theorem T_J7_fill_53178 (l : Launch) (D : va_G) (dA : Nat → ClassId) (b0 : Nat) (jx0 : Int) (jx1 : Int) (σ σE : Hp) (r : Int) (hF : F_J7_fill_53178 jx0 jx1 σ = some (r, σE)) : Ct l D dA b0 yJ7_fill_53178 cJ7_fill_53178 4 none 0 0 [(2, jx0), (0, jx1)] σ none σE := by
  refine Ct.of (lv0 := [(0, 2, jx0), (1, 0, jx1)]) (by decide) RJ7 rfl (Nat.le_of_ble_eq_true rfl) rfl ?_ (M_J7_fill_53178 jx0 jx1 σ r σE hF)
  intro p e R s m args below meth c hX hR hnm
  obtain ⟨Q, hQ⟩ : ∃ Q, Q = Qm D dA b0 σ.1 σ.2.1 below args s none σE := ⟨_, rfl⟩
  rw [← hQ]
  have hE : σE.1 = σE.1 ∧ σE.2.1 = σE.2.1 := ⟨rfl, rfl⟩
  unfold F_J7_fill_53178 at hF
  refine g_iconst hX dJ7_fill_53178_0 ?_
  refine g_istore_n (lv' := [(2, 0, 0), (0, 2, jx0), (1, 0, jx1)]) hX dJ7_fill_53178_1 rfl (by decide) rfl ?_
  refine g_aload_n hX 1 dJ7_fill_53178_2 rfl rfl ?_
  refine g_alen hX (by decide) dJ7_fill_53178_3 hF (fun jv1 hF => ?_)
  refine g_istore_n (lv' := [(3, 0, jv1), (2, 0, 0), (0, 2, jx0), (1, 0, jx1)]) hX dJ7_fill_53178_4 rfl (by decide) rfl ?_
  refine g_lvp (lv' := [(0, 2, jx0), (1, 0, jx1), (2, 0, 0), (3, 0, jv1)]) [2, 3, 1, 0] rfl ?_
  exact T_J7_fill_53178_L5 hX hR hnm hQ hE jx0 jx1 jv1  fu 0 σ hF
end

section
variable {p : Program} {l : Launch} {e : Env} {R : Room} {s : State} {m : MethodId} {args : Array Value} {below : List Frame} {meth : Method} {c : Code} {D : va_G} {dA : Nat → ClassId} {b0 n0 m0 nE mE : Nat} {Q : State → Prop}
def F_J7_fill_d0a16_L6 (jx0 : Int) (jx1 : Int) (jx4 : Int) : Nat → Int → Hp → Option (Int × Hp)
  | 0, _, _ => none
  | n + 1, jx3, σ => bLt jx3 jx4 ((aw 12 σ jx0 jx3 jx1).bind fun σ2 => (F_J7_fill_d0a16_L6 jx0 jx1 jx4 n) (jx3 + 1) σ2) (some (0, σ))
theorem M_J7_fill_d0a16_L6 (jx0 : Int) (jx1 : Int) (jx4 : Int) : ∀ (n : Nat) (jx3 : Int) (σ : Hp), Mn σ (F_J7_fill_d0a16_L6 jx0 jx1 jx4 n jx3 σ) := by
  intro n
  induction n with
  | zero => intros; rw [F_J7_fill_d0a16_L6]; exact Mn_none
  | succ n hk6 =>
    intros
    rw [F_J7_fill_d0a16_L6]
    repeat' first | exact Mn_ret | exact Mn_rz | exact hk6 _  _ | refine Mn_nm (fun _ => ?_) | refine Mn_nab (fun _ _ => ?_) | refine Mn_nwb (fun _ _ => ?_) | refine Mn_pw (fun _ => ?_) | refine Mn_pz (fun _ => ?_) | refine Mn_aw (fun _ => ?_) | refine Mn_az (fun _ => ?_) | refine Mn_aq (fun _ => ?_) | refine Mn_bo (fun _ => ?_) | refine Mn_bd ?_ (fun _ _ => ?_) | refine Mn_iv ?_ | refine Mn_bLt ?_ ?_ | refine Mn_bLe ?_ ?_ | refine Mn_bEq ?_ ?_ | refine Mn_bN ?_ ?_ | refine Mn_g3 ?_ | refine Mn_g33 ?_ | refine Mn_g66 ?_ | refine Mn_gD ?_
set_option maxRecDepth 100000 in
set_option maxHeartbeats 4000000 in
theorem T_J7_fill_d0a16_L6 {r : Int} {σE : Hp} (hX : Cx p R s m args meth c D dA b0 n0 m0 5 nE mE cJ7_fill_d0a16 RJ7 0 0) (hR : Rx meth none) (hnm : meth.name = yJ7_fill_d0a16.name) (hQ : Q = Qm D dA b0 n0 m0 below args s none σE) (hE : nE = σE.1 ∧ mE = σE.2.1) (jx0 : Int) (jx1 : Int) (jx4 : Int) : ∀ (n : Nat) (jx3 : Int) (σ : Hp), F_J7_fill_d0a16_L6 jx0 jx1 jx4 n jx3 σ = some (r, σE) → G p l e R s m args below meth c D dA b0 n0 m0 5 nE mE Q 6 [(0, 2, jx0), (1, 1, jx1), (3, 0, jx3), (4, 0, jx4)] [] σ := by
  intro n
  induction n with
  | zero =>
    intro jx3 σ hF
    rw [F_J7_fill_d0a16_L6] at hF
    cases hF
  | succ n hk6 =>
    intro jx3 σ hF
    rw [F_J7_fill_d0a16_L6] at hF
    refine g_iload_n hX 2 dJ7_fill_d0a16_6 rfl rfl ?_
    refine g_iload hX 3 dJ7_fill_d0a16_7 rfl ?_
    refine g_icmp_ge (tgt := 22) hX dJ7_fill_d0a16_9 (by decide) hF (fun hc hF => ?_) (fun hc hF => ?_)
    · refine g_aload_n hX 0 dJ7_fill_d0a16_12 rfl rfl ?_
      refine g_iload_n hX 2 dJ7_fill_d0a16_13 rfl rfl ?_
      refine g_lload_n hX 1 dJ7_fill_d0a16_14 rfl rfl ?_
      refine u_last hX dJ7_fill_d0a16_15 hF (fun σ2 hF => ?_)
      refine g_iinc (lv' := [(3, 0, (jx3 + 1)), (0, 2, jx0), (1, 1, jx1), (4, 0, jx4)]) hX 2 dJ7_fill_d0a16_16 rfl (by decide) rfl ?_
      refine g_goto (tgt := 6) hX dJ7_fill_d0a16_19 (by decide) ?_
      refine g_lvp (lv' := [(0, 2, jx0), (1, 1, jx1), (3, 0, (jx3 + 1)), (4, 0, jx4)]) [1, 2, 0, 3] rfl ?_
      exact hk6 (jx3 + 1) σ2 hF
    · exact g_vret hX hR hQ hE dJ7_fill_d0a16_22 hF
def F_J7_fill_d0a16 (jx0 : Int) (jx1 : Int) (σ : Hp) : Option (Int × Hp) :=
  (al 12 σ jx0).bind fun jv1 => F_J7_fill_d0a16_L6 jx0 jx1 jv1 fu 0 σ
theorem M_J7_fill_d0a16 (jx0 : Int) (jx1 : Int) (σ : Hp) : Mn σ (F_J7_fill_d0a16 jx0 jx1 σ) := by
  unfold F_J7_fill_d0a16
  repeat' first | exact Mn_ret | exact Mn_rz | exact M_J7_fill_d0a16_L6 _ _ _ _ _ _ | refine Mn_nm (fun _ => ?_) | refine Mn_nab (fun _ _ => ?_) | refine Mn_nwb (fun _ _ => ?_) | refine Mn_pw (fun _ => ?_) | refine Mn_pz (fun _ => ?_) | refine Mn_aw (fun _ => ?_) | refine Mn_az (fun _ => ?_) | refine Mn_aq (fun _ => ?_) | refine Mn_bo (fun _ => ?_) | refine Mn_bd ?_ (fun _ _ => ?_) | refine Mn_iv ?_ | refine Mn_bLt ?_ ?_ | refine Mn_bLe ?_ ?_ | refine Mn_bEq ?_ ?_ | refine Mn_bN ?_ ?_ | refine Mn_g3 ?_ | refine Mn_g33 ?_ | refine Mn_g66 ?_ | refine Mn_gD ?_
set_option maxRecDepth 100000 in
set_option maxHeartbeats 4000000 in
theorem T_J7_fill_d0a16 (l : Launch) (D : va_G) (dA : Nat → ClassId) (b0 : Nat) (jx0 : Int) (jx1 : Int) (σ σE : Hp) (r : Int) (hF : F_J7_fill_d0a16 jx0 jx1 σ = some (r, σE)) : Ct l D dA b0 yJ7_fill_d0a16 cJ7_fill_d0a16 5 none 0 0 [(2, jx0), (1, jx1)] σ none σE := by
  refine Ct.of (lv0 := [(0, 2, jx0), (1, 1, jx1)]) (by decide) RJ7 rfl (Nat.le_of_ble_eq_true rfl) rfl ?_ (M_J7_fill_d0a16 jx0 jx1 σ r σE hF)
  intro p e R s m args below meth c hX hR hnm
  obtain ⟨Q, hQ⟩ : ∃ Q, Q = Qm D dA b0 σ.1 σ.2.1 below args s none σE := ⟨_, rfl⟩
  rw [← hQ]
  have hE : σE.1 = σE.1 ∧ σE.2.1 = σE.2.1 := ⟨rfl, rfl⟩
  unfold F_J7_fill_d0a16 at hF
  refine g_iconst hX dJ7_fill_d0a16_0 ?_
  refine g_istore_n (lv' := [(3, 0, 0), (0, 2, jx0), (1, 1, jx1)]) hX dJ7_fill_d0a16_1 rfl (by decide) rfl ?_
  refine g_aload_n hX 1 dJ7_fill_d0a16_2 rfl rfl ?_
  refine g_alen hX (by decide) dJ7_fill_d0a16_3 hF (fun jv1 hF => ?_)
  refine g_istore (lv' := [(4, 0, jv1), (3, 0, 0), (0, 2, jx0), (1, 1, jx1)]) hX dJ7_fill_d0a16_4 (by decide) rfl ?_
  refine g_lvp (lv' := [(0, 2, jx0), (1, 1, jx1), (3, 0, 0), (4, 0, jv1)]) [2, 3, 1, 0] rfl ?_
  exact T_J7_fill_d0a16_L6 hX hR hnm hQ hE jx0 jx1 jv1  fu 0 σ hF
end

section
variable {p : Program} {l : Launch} {e : Env} {R : Room} {s : State} {m : MethodId} {args : Array Value} {below : List Frame} {meth : Method} {c : Code} {D : va_G} {dA : Nat → ClassId} {b0 n0 m0 nE mE : Nat} {Q : State → Prop}
def F_X0_init (jx0 : Int) (σ : Hp) : Option (Int × Hp) :=
  iv 1 σ jx0 (nab 11 σ 31 0 fun ja1 σ2 => (pw 1 σ2 jx0 0 ja1).bind fun σ3 => (pw 1 σ3 jx0 7 30).bind fun σ4 => (pw 1 σ4 jx0 8 1).bind fun σ5 => (rd 1 σ5 jx0 0).bind fun jv6 => bd (F_J7_fill_53178 jv6 1 σ5) fun jv7 σ8 => some (0, σ8))
theorem M_X0_init (jx0 : Int) (σ : Hp) : Mn σ (F_X0_init jx0 σ) := by
  unfold F_X0_init
  repeat' first | exact Mn_ret | exact Mn_rz | exact M_J7_fill_53178 _ _ _ | refine Mn_nm (fun _ => ?_) | refine Mn_nab (fun _ _ => ?_) | refine Mn_nwb (fun _ _ => ?_) | refine Mn_pw (fun _ => ?_) | refine Mn_pz (fun _ => ?_) | refine Mn_aw (fun _ => ?_) | refine Mn_az (fun _ => ?_) | refine Mn_aq (fun _ => ?_) | refine Mn_bo (fun _ => ?_) | refine Mn_bd ?_ (fun _ _ => ?_) | refine Mn_iv ?_ | refine Mn_bLt ?_ ?_ | refine Mn_bLe ?_ ?_ | refine Mn_bEq ?_ ?_ | refine Mn_bN ?_ ?_ | refine Mn_g3 ?_ | refine Mn_g33 ?_ | refine Mn_g66 ?_ | refine Mn_gD ?_
set_option maxRecDepth 100000 in
set_option maxHeartbeats 4000000 in
theorem T_X0_init (l : Launch) (D : va_G) (dA : Nat → ClassId) (b0 : Nat) (jx0 : Int) (σ σE : Hp) (r : Int) (hF : F_X0_init jx0 σ = some (r, σE)) : Ct l D dA b0 yX0_init cX0_init 1 none 1 23 [(2, jx0)] σ none σE := by
  refine Ct.of (lv0 := [(0, 2, jx0)]) (by decide) RX0 rfl (Nat.le_of_ble_eq_true rfl) rfl ?_ (M_X0_init jx0 σ r σE hF)
  intro p e R s m args below meth c hX hR hnm
  obtain ⟨Q, hQ⟩ : ∃ Q, Q = Qm D dA b0 σ.1 σ.2.1 below args s none σE := ⟨_, rfl⟩
  rw [← hQ]
  have hE : σE.1 = σE.1 ∧ σE.2.1 = σE.2.1 := ⟨rfl, rfl⟩
  unfold F_X0_init at hF
  refine g_aload_n hX 0 dX0_init_0 rfl rfl ?_
  refine u_objInit hX ow_X0_3 (by decide) (by decide) (Nat.le_of_ble_eq_true rfl) dX0_init_1 hF (fun hF => ?_)
  refine g_aload_n hX 0 dX0_init_4 rfl rfl ?_
  refine g_bipush hX dX0_init_5 (by decide) ?_
  refine u_newa (atype := .int) (ty := .int) hX rfl (Or.inl ⟨rfl, rfl⟩) ac_int dX0_init_7 hF (fun ja1 σ2 hja1 hF => ?_)
  refine u_putF hX fp_X0_9 hnm (by decide) (by decide) dX0_init_9 hF (fun σ3 hF => ?_)
  refine g_aload_n hX 0 dX0_init_12 rfl rfl ?_
  refine g_bipush hX dX0_init_13 (by decide) ?_
  refine u_put hX fp_X0_15 (by decide) (by decide) dX0_init_15 hF (fun σ4 hF => ?_)
  refine g_aload_n hX 0 dX0_init_18 rfl rfl ?_
  refine g_iconst hX dX0_init_19 ?_
  refine u_put hX fp_X0_19 (by decide) (by decide) dX0_init_20 hF (fun σ5 hF => ?_)
  refine g_aload_n hX 0 dX0_init_23 rfl rfl ?_
  refine g_get hX fl_X0_9 (by decide) (by decide) dX0_init_24 hF (fun jv6 hF => ?_)
  refine g_iconst hX dX0_init_27 ?_
  refine g_callSv (rest := []) [(2, jv6), (0, 1)] hX cw_X0_22 (fun r σ1 h => T_J7_fill_53178 l D dA b0 jv6 1 σ5 σ1 r h) ⟨by decide, by decide⟩ rfl rfl (Nat.le_of_ble_eq_true rfl) dX0_init_28 hF (fun jv7 σ8 hF => ?_)
  exact g_vret hX hR hQ hE dX0_init_31 hF
end

section
variable {p : Program} {l : Launch} {e : Env} {R : Room} {s : State} {m : MethodId} {args : Array Value} {below : List Frame} {meth : Method} {c : Code} {D : va_G} {dA : Nat → ClassId} {b0 n0 m0 nE mE : Nat} {Q : State → Prop}
def F_X1_init (jx0 : Int) (jx1 : Int) (σ : Hp) : Option (Int × Hp) :=
  iv 2 σ jx0 (nab 11 σ 3 0 fun ja1 σ2 => (pw 2 σ2 jx0 1 ja1).bind fun σ3 => nab 15 σ3 6 (-1) fun ja4 σ5 => (pw 2 σ5 jx0 2 ja4).bind fun σ6 => (pw 2 σ6 jx0 5 (-1)).bind fun σ7 => (pw 2 σ7 jx0 0 jx1).bind fun σ8 => some (0, σ8))
theorem M_X1_init (jx0 : Int) (jx1 : Int) (σ : Hp) : Mn σ (F_X1_init jx0 jx1 σ) := by
  unfold F_X1_init
  repeat' first | exact Mn_ret | exact Mn_rz | refine Mn_nm (fun _ => ?_) | refine Mn_nab (fun _ _ => ?_) | refine Mn_nwb (fun _ _ => ?_) | refine Mn_pw (fun _ => ?_) | refine Mn_pz (fun _ => ?_) | refine Mn_aw (fun _ => ?_) | refine Mn_az (fun _ => ?_) | refine Mn_aq (fun _ => ?_) | refine Mn_bo (fun _ => ?_) | refine Mn_bd ?_ (fun _ _ => ?_) | refine Mn_iv ?_ | refine Mn_bLt ?_ ?_ | refine Mn_bLe ?_ ?_ | refine Mn_bEq ?_ ?_ | refine Mn_bN ?_ ?_ | refine Mn_g3 ?_ | refine Mn_g33 ?_ | refine Mn_g66 ?_ | refine Mn_gD ?_
set_option maxRecDepth 100000 in
set_option maxHeartbeats 4000000 in
theorem T_X1_init (l : Launch) (D : va_G) (dA : Nat → ClassId) (b0 : Nat) (jx0 : Int) (jx1 : Int) (σ σE : Hp) (r : Int) (hF : F_X1_init jx0 jx1 σ = some (r, σE)) : Ct l D dA b0 yX1_init cX1_init 2 none 1 20 [(2, jx0), (0, jx1)] σ none σE := by
  refine Ct.of (lv0 := [(0, 2, jx0), (1, 0, jx1)]) (by decide) RX1 rfl (Nat.le_of_ble_eq_true rfl) rfl ?_ (M_X1_init jx0 jx1 σ r σE hF)
  intro p e R s m args below meth c hX hR hnm
  obtain ⟨Q, hQ⟩ : ∃ Q, Q = Qm D dA b0 σ.1 σ.2.1 below args s none σE := ⟨_, rfl⟩
  rw [← hQ]
  have hE : σE.1 = σE.1 ∧ σE.2.1 = σE.2.1 := ⟨rfl, rfl⟩
  unfold F_X1_init at hF
  refine g_aload_n hX 0 dX1_init_0 rfl rfl ?_
  refine u_objInit hX ow_X1_3 (by decide) (by decide) (Nat.le_of_ble_eq_true rfl) dX1_init_1 hF (fun hF => ?_)
  refine g_aload_n hX 0 dX1_init_4 rfl rfl ?_
  refine g_iconst hX dX1_init_5 ?_
  refine u_newa (atype := .int) (ty := .int) hX rfl (Or.inl ⟨rfl, rfl⟩) ac_int dX1_init_6 hF (fun ja1 σ2 hja1 hF => ?_)
  refine u_putF hX fp_X1_9 hnm (by decide) (by decide) dX1_init_8 hF (fun σ3 hF => ?_)
  refine g_aload_n hX 0 dX1_init_11 rfl rfl ?_
  refine g_bipush hX dX1_init_12 (by decide) ?_
  refine u_anew hX (Or.inr ⟨rfl, rfl⟩) kl_X1_10 dX1_init_14 hF (fun ja4 σ5 hja4 hF => ?_)
  refine u_putF hX fp_X1_15 hnm (by decide) (by decide) dX1_init_17 hF (fun σ6 hF => ?_)
  refine g_aload_n hX 0 dX1_init_20 rfl rfl ?_
  refine g_iconst hX dX1_init_21 ?_
  refine u_put hX fp_X1_19 (by decide) (by decide) dX1_init_22 hF (fun σ7 hF => ?_)
  refine g_aload_n hX 0 dX1_init_25 rfl rfl ?_
  refine g_iload_n hX 1 dX1_init_26 rfl rfl ?_
  refine u_putF hX fp_X1_23 hnm (by decide) (by decide) dX1_init_27 hF (fun σ8 hF => ?_)
  exact g_vret hX hR hQ hE dX1_init_30 hF
end

section
variable {p : Program} {l : Launch} {e : Env} {R : Room} {s : State} {m : MethodId} {args : Array Value} {below : List Frame} {meth : Method} {c : Code} {D : va_G} {dA : Nat → ClassId} {b0 n0 m0 nE mE : Nat} {Q : State → Prop}
def F_X1_childAt (jx0 : Int) (jx1 : Int) (σ : Hp) : Option (Int × Hp) :=
  bLt jx1 0 (some ((-1), σ)) ((rd 2 σ jx0 6).bind fun jv1 => bLt jx1 jv1 ((rd 2 σ jx0 2).bind fun jv2 => (al 15 σ jv2).bind fun jv3 => bLt jx1 jv3 ((rd 2 σ jx0 2).bind fun jv4 => (ar 15 σ jv4 jx1).bind fun jv5 => some (jv5, σ)) (some ((-1), σ))) (some ((-1), σ)))
theorem M_X1_childAt (jx0 : Int) (jx1 : Int) (σ : Hp) : Mn σ (F_X1_childAt jx0 jx1 σ) := by
  unfold F_X1_childAt
  repeat' first | exact Mn_ret | exact Mn_rz | refine Mn_nm (fun _ => ?_) | refine Mn_nab (fun _ _ => ?_) | refine Mn_nwb (fun _ _ => ?_) | refine Mn_pw (fun _ => ?_) | refine Mn_pz (fun _ => ?_) | refine Mn_aw (fun _ => ?_) | refine Mn_az (fun _ => ?_) | refine Mn_aq (fun _ => ?_) | refine Mn_bo (fun _ => ?_) | refine Mn_bd ?_ (fun _ _ => ?_) | refine Mn_iv ?_ | refine Mn_bLt ?_ ?_ | refine Mn_bLe ?_ ?_ | refine Mn_bEq ?_ ?_ | refine Mn_bN ?_ ?_ | refine Mn_g3 ?_ | refine Mn_g33 ?_ | refine Mn_g66 ?_ | refine Mn_gD ?_
set_option maxRecDepth 100000 in
set_option maxHeartbeats 4000000 in
theorem T_X1_childAt (l : Launch) (D : va_G) (dA : Nat → ClassId) (b0 : Nat) (jx0 : Int) (jx1 : Int) (σ σE : Hp) (r : Int) (hF : F_X1_childAt jx0 jx1 σ = some (r, σE)) : Ct l D dA b0 yX1_childAt cX1_childAt 2 (some (.object "LakeChain$Node")) 0 0 [(2, jx0), (0, jx1)] σ (some (pV 2 r)) σE := by
  refine Ct.of (lv0 := [(0, 2, jx0), (1, 0, jx1)]) (by decide) RX1 rfl (Nat.le_of_ble_eq_true rfl) rfl ?_ (M_X1_childAt jx0 jx1 σ r σE hF)
  intro p e R s m args below meth c hX hR hnm
  obtain ⟨Q, hQ⟩ : ∃ Q, Q = Qm D dA b0 σ.1 σ.2.1 below args s (some (pV 2 r)) σE := ⟨_, rfl⟩
  rw [← hQ]
  have hE : σE.1 = σE.1 ∧ σE.2.1 = σE.2.1 := ⟨rfl, rfl⟩
  unfold F_X1_childAt at hF
  refine g_iload_n hX 1 dX1_childAt_0 rfl rfl ?_
  refine g_if_lt (tgt := 30) hX dX1_childAt_1 (by decide) hF (fun hc hF => ?_) (fun hc hF => ?_)
  · refine g_null hX dX1_childAt_30 ?_
    exact g_aret hX hR hQ hE dX1_childAt_31 hF
  · refine g_iload_n hX 1 dX1_childAt_4 rfl rfl ?_
    refine g_aload_n hX 0 dX1_childAt_5 rfl rfl ?_
    refine g_get hX fl_X1_26 (by decide) (by decide) dX1_childAt_6 hF (fun jv1 hF => ?_)
    refine g_icmp_ge (tgt := 30) hX dX1_childAt_9 (by decide) hF (fun hc hF => ?_) (fun hc hF => ?_)
    · refine g_iload_n hX 1 dX1_childAt_12 rfl rfl ?_
      refine g_aload_n hX 0 dX1_childAt_13 rfl rfl ?_
      refine g_get hX fl_X1_15 (by decide) (by decide) dX1_childAt_14 hF (fun jv2 hF => ?_)
      refine g_alen hX (by decide) dX1_childAt_17 hF (fun jv3 hF => ?_)
      refine g_icmp_ge (tgt := 30) hX dX1_childAt_18 (by decide) hF (fun hc hF => ?_) (fun hc hF => ?_)
      · refine g_aload_n hX 0 dX1_childAt_21 rfl rfl ?_
        refine g_get hX fl_X1_15 (by decide) (by decide) dX1_childAt_22 hF (fun jv4 hF => ?_)
        refine g_iload_n hX 1 dX1_childAt_25 rfl rfl ?_
        refine g_aald hX (by decide) dX1_childAt_26 hF (fun jv5 hF => ?_)
        refine g_goto (tgt := 31) hX dX1_childAt_27 (by decide) ?_
        exact g_aret hX hR hQ hE dX1_childAt_31 hF
      · refine g_null hX dX1_childAt_30 ?_
        exact g_aret hX hR hQ hE dX1_childAt_31 hF
    · refine g_null hX dX1_childAt_30 ?_
      exact g_aret hX hR hQ hE dX1_childAt_31 hF
end

section
variable {p : Program} {l : Launch} {e : Env} {R : Room} {s : State} {m : MethodId} {args : Array Value} {below : List Frame} {meth : Method} {c : Code} {D : va_G} {dA : Nat → ClassId} {b0 n0 m0 nE mE : Nat} {Q : State → Prop}
def F_X1_sumIn_L4 (jx0 : Int) : Nat → Int → Int → Hp → Option (Int × Hp)
  | 0, _, _, _ => none
  | n + 1, jx1, jx2, σ => (rd 2 σ jx0 1).bind fun jv1 => (al 11 σ jv1).bind fun jv2 => bLt jx2 jv2 ((rd 2 σ jx0 1).bind fun jv3 => (ar 11 σ jv3 jx2).bind fun jv4 => (F_X1_sumIn_L4 jx0 n) (jx1 + jv4) (jx2 + 1) σ) (some (jx1, σ))
theorem M_X1_sumIn_L4 (jx0 : Int) : ∀ (n : Nat) (jx1 : Int) (jx2 : Int) (σ : Hp), Mn σ (F_X1_sumIn_L4 jx0 n jx1 jx2 σ) := by
  intro n
  induction n with
  | zero => intros; rw [F_X1_sumIn_L4]; exact Mn_none
  | succ n hk4 =>
    intros
    rw [F_X1_sumIn_L4]
    repeat' first | exact Mn_ret | exact Mn_rz | exact hk4 _ _  _ | refine Mn_nm (fun _ => ?_) | refine Mn_nab (fun _ _ => ?_) | refine Mn_nwb (fun _ _ => ?_) | refine Mn_pw (fun _ => ?_) | refine Mn_pz (fun _ => ?_) | refine Mn_aw (fun _ => ?_) | refine Mn_az (fun _ => ?_) | refine Mn_aq (fun _ => ?_) | refine Mn_bo (fun _ => ?_) | refine Mn_bd ?_ (fun _ _ => ?_) | refine Mn_iv ?_ | refine Mn_bLt ?_ ?_ | refine Mn_bLe ?_ ?_ | refine Mn_bEq ?_ ?_ | refine Mn_bN ?_ ?_ | refine Mn_g3 ?_ | refine Mn_g33 ?_ | refine Mn_g66 ?_ | refine Mn_gD ?_
set_option maxRecDepth 100000 in
set_option maxHeartbeats 4000000 in
theorem T_X1_sumIn_L4 {r : Int} {σE : Hp} (hX : Cx p R s m args meth c D dA b0 n0 m0 3 nE mE cX1_sumIn RX1 0 0) (hR : Rx meth (some .int)) (hnm : meth.name = yX1_sumIn.name) (hQ : Q = Qm D dA b0 n0 m0 below args s (some (pV 0 r)) σE) (hE : nE = σE.1 ∧ mE = σE.2.1) (jx0 : Int) : ∀ (n : Nat) (jx1 : Int) (jx2 : Int) (σ : Hp), F_X1_sumIn_L4 jx0 n jx1 jx2 σ = some (r, σE) → G p l e R s m args below meth c D dA b0 n0 m0 3 nE mE Q 4 [(0, 2, jx0), (1, 0, jx1), (2, 0, jx2)] [] σ := by
  intro n
  induction n with
  | zero =>
    intro jx1 jx2 σ hF
    rw [F_X1_sumIn_L4] at hF
    cases hF
  | succ n hk4 =>
    intro jx1 jx2 σ hF
    rw [F_X1_sumIn_L4] at hF
    refine g_iload_n hX 2 dX1_sumIn_4 rfl rfl ?_
    refine g_aload_n hX 0 dX1_sumIn_5 rfl rfl ?_
    refine g_get hX fl_X1_9 (by decide) (by decide) dX1_sumIn_6 hF (fun jv1 hF => ?_)
    refine g_alen hX (by decide) dX1_sumIn_9 hF (fun jv2 hF => ?_)
    refine g_icmp_ge (tgt := 28) hX dX1_sumIn_10 (by decide) hF (fun hc hF => ?_) (fun hc hF => ?_)
    · refine g_iload_n hX 1 dX1_sumIn_13 rfl rfl ?_
      refine g_aload_n hX 0 dX1_sumIn_14 rfl rfl ?_
      refine g_get hX fl_X1_9 (by decide) (by decide) dX1_sumIn_15 hF (fun jv3 hF => ?_)
      refine g_iload_n hX 2 dX1_sumIn_18 rfl rfl ?_
      refine g_iald hX dX1_sumIn_19 hF (fun jv4 hF => ?_)
      refine g_iadd hX dX1_sumIn_20 ?_
      refine g_istore_n (lv' := [(1, 0, (jx1 + jv4)), (0, 2, jx0), (2, 0, jx2)]) hX dX1_sumIn_21 rfl (by decide) rfl ?_
      refine g_iinc (lv' := [(2, 0, (jx2 + 1)), (1, 0, (jx1 + jv4)), (0, 2, jx0)]) hX 2 dX1_sumIn_22 rfl (by decide) rfl ?_
      refine g_goto (tgt := 4) hX dX1_sumIn_25 (by decide) ?_
      refine g_lvp (lv' := [(0, 2, jx0), (1, 0, (jx1 + jv4)), (2, 0, (jx2 + 1))]) [2, 1, 0] rfl ?_
      exact hk4 (jx1 + jv4) (jx2 + 1) σ hF
    · refine g_iload_n hX 1 dX1_sumIn_28 rfl rfl ?_
      exact g_iret hX hR hQ hE dX1_sumIn_29 hF
def F_X1_sumIn (jx0 : Int) (σ : Hp) : Option (Int × Hp) :=
  F_X1_sumIn_L4 jx0 fu 0 0 σ
theorem M_X1_sumIn (jx0 : Int) (σ : Hp) : Mn σ (F_X1_sumIn jx0 σ) := by
  unfold F_X1_sumIn
  repeat' first | exact Mn_ret | exact Mn_rz | exact M_X1_sumIn_L4 _ _ _ _ _ | refine Mn_nm (fun _ => ?_) | refine Mn_nab (fun _ _ => ?_) | refine Mn_nwb (fun _ _ => ?_) | refine Mn_pw (fun _ => ?_) | refine Mn_pz (fun _ => ?_) | refine Mn_aw (fun _ => ?_) | refine Mn_az (fun _ => ?_) | refine Mn_aq (fun _ => ?_) | refine Mn_bo (fun _ => ?_) | refine Mn_bd ?_ (fun _ _ => ?_) | refine Mn_iv ?_ | refine Mn_bLt ?_ ?_ | refine Mn_bLe ?_ ?_ | refine Mn_bEq ?_ ?_ | refine Mn_bN ?_ ?_ | refine Mn_g3 ?_ | refine Mn_g33 ?_ | refine Mn_g66 ?_ | refine Mn_gD ?_
set_option maxRecDepth 100000 in
set_option maxHeartbeats 4000000 in
theorem T_X1_sumIn (l : Launch) (D : va_G) (dA : Nat → ClassId) (b0 : Nat) (jx0 : Int) (σ σE : Hp) (r : Int) (hF : F_X1_sumIn jx0 σ = some (r, σE)) : Ct l D dA b0 yX1_sumIn cX1_sumIn 3 (some .int) 0 0 [(2, jx0)] σ (some (pV 0 r)) σE := by
  refine Ct.of (lv0 := [(0, 2, jx0)]) (by decide) RX1 rfl (Nat.le_of_ble_eq_true rfl) rfl ?_ (M_X1_sumIn jx0 σ r σE hF)
  intro p e R s m args below meth c hX hR hnm
  obtain ⟨Q, hQ⟩ : ∃ Q, Q = Qm D dA b0 σ.1 σ.2.1 below args s (some (pV 0 r)) σE := ⟨_, rfl⟩
  rw [← hQ]
  have hE : σE.1 = σE.1 ∧ σE.2.1 = σE.2.1 := ⟨rfl, rfl⟩
  unfold F_X1_sumIn at hF
  refine g_iconst hX dX1_sumIn_0 ?_
  refine g_istore_n (lv' := [(1, 0, 0), (0, 2, jx0)]) hX dX1_sumIn_1 rfl (by decide) rfl ?_
  refine g_iconst hX dX1_sumIn_2 ?_
  refine g_istore_n (lv' := [(2, 0, 0), (1, 0, 0), (0, 2, jx0)]) hX dX1_sumIn_3 rfl (by decide) rfl ?_
  refine g_lvp (lv' := [(0, 2, jx0), (1, 0, 0), (2, 0, 0)]) [2, 1, 0] rfl ?_
  exact T_X1_sumIn_L4 hX hR hnm hQ hE jx0  fu 0 0 σ hF
end

section
variable {p : Program} {l : Launch} {e : Env} {R : Room} {s : State} {m : MethodId} {args : Array Value} {below : List Frame} {meth : Method} {c : Code} {D : va_G} {dA : Nat → ClassId} {b0 n0 m0 nE mE : Nat} {Q : State → Prop}
def F_X1_dropChildren (jx0 : Int) (σ : Hp) : Option (Int × Hp) :=
  (pw 2 σ jx0 6 0).bind fun σ1 => (pw 2 σ1 jx0 7 0).bind fun σ2 => some (0, σ2)
theorem M_X1_dropChildren (jx0 : Int) (σ : Hp) : Mn σ (F_X1_dropChildren jx0 σ) := by
  unfold F_X1_dropChildren
  repeat' first | exact Mn_ret | exact Mn_rz | refine Mn_nm (fun _ => ?_) | refine Mn_nab (fun _ _ => ?_) | refine Mn_nwb (fun _ _ => ?_) | refine Mn_pw (fun _ => ?_) | refine Mn_pz (fun _ => ?_) | refine Mn_aw (fun _ => ?_) | refine Mn_az (fun _ => ?_) | refine Mn_aq (fun _ => ?_) | refine Mn_bo (fun _ => ?_) | refine Mn_bd ?_ (fun _ _ => ?_) | refine Mn_iv ?_ | refine Mn_bLt ?_ ?_ | refine Mn_bLe ?_ ?_ | refine Mn_bEq ?_ ?_ | refine Mn_bN ?_ ?_ | refine Mn_g3 ?_ | refine Mn_g33 ?_ | refine Mn_g66 ?_ | refine Mn_gD ?_
set_option maxRecDepth 100000 in
set_option maxHeartbeats 4000000 in
theorem T_X1_dropChildren (l : Launch) (D : va_G) (dA : Nat → ClassId) (b0 : Nat) (jx0 : Int) (σ σE : Hp) (r : Int) (hF : F_X1_dropChildren jx0 σ = some (r, σE)) : Ct l D dA b0 yX1_dropChildren cX1_dropChildren 1 none 0 0 [(2, jx0)] σ none σE := by
  refine Ct.of (lv0 := [(0, 2, jx0)]) (by decide) RX1 rfl (Nat.le_of_ble_eq_true rfl) rfl ?_ (M_X1_dropChildren jx0 σ r σE hF)
  intro p e R s m args below meth c hX hR hnm
  obtain ⟨Q, hQ⟩ : ∃ Q, Q = Qm D dA b0 σ.1 σ.2.1 below args s none σE := ⟨_, rfl⟩
  rw [← hQ]
  have hE : σE.1 = σE.1 ∧ σE.2.1 = σE.2.1 := ⟨rfl, rfl⟩
  unfold F_X1_dropChildren at hF
  refine g_aload_n hX 0 dX1_dropChildren_0 rfl rfl ?_
  refine g_iconst hX dX1_dropChildren_1 ?_
  refine u_put hX fp_X1_26 (by decide) (by decide) dX1_dropChildren_2 hF (fun σ1 hF => ?_)
  refine g_aload_n hX 0 dX1_dropChildren_5 rfl rfl ?_
  refine g_iconst hX dX1_dropChildren_6 ?_
  refine u_put hX fp_X1_29 (by decide) (by decide) dX1_dropChildren_7 hF (fun σ2 hF => ?_)
  exact g_vret hX hR hQ hE dX1_dropChildren_10 hF
end

section
variable {p : Program} {l : Launch} {e : Env} {R : Room} {s : State} {m : MethodId} {args : Array Value} {below : List Frame} {meth : Method} {c : Code} {D : va_G} {dA : Nat → ClassId} {b0 n0 m0 nE mE : Nat} {Q : State → Prop}
def F_X1_addChild (jx0 : Int) (jx1 : Int) (σ : Hp) : Option (Int × Hp) :=
  (rd 2 σ jx0 6).bind fun jv1 => (rd 2 σ jx0 2).bind fun jv2 => (al 15 σ jv2).bind fun jv3 => bLt jv1 jv3 ((rd 2 σ jx0 2).bind fun jv4 => (rd 2 σ jx0 6).bind fun jv5 => (aq 15 2 σ jv4 jv5 jx1).bind fun σ6 => (rd 2 σ6 jx0 6).bind fun jv7 => (pw 2 σ6 jx0 6 (jv7 + 1)).bind fun σ8 => (rd 2 σ8 jx0 7).bind fun jv9 => (rd 2 σ8 jx1 4).bind fun jv10 => (pw 2 σ8 jx0 7 (jv9 + jv10)).bind fun σ11 => some (0, σ11)) (some (0, σ))
theorem M_X1_addChild (jx0 : Int) (jx1 : Int) (σ : Hp) : Mn σ (F_X1_addChild jx0 jx1 σ) := by
  unfold F_X1_addChild
  repeat' first | exact Mn_ret | exact Mn_rz | refine Mn_nm (fun _ => ?_) | refine Mn_nab (fun _ _ => ?_) | refine Mn_nwb (fun _ _ => ?_) | refine Mn_pw (fun _ => ?_) | refine Mn_pz (fun _ => ?_) | refine Mn_aw (fun _ => ?_) | refine Mn_az (fun _ => ?_) | refine Mn_aq (fun _ => ?_) | refine Mn_bo (fun _ => ?_) | refine Mn_bd ?_ (fun _ _ => ?_) | refine Mn_iv ?_ | refine Mn_bLt ?_ ?_ | refine Mn_bLe ?_ ?_ | refine Mn_bEq ?_ ?_ | refine Mn_bN ?_ ?_ | refine Mn_g3 ?_ | refine Mn_g33 ?_ | refine Mn_g66 ?_ | refine Mn_gD ?_
set_option maxRecDepth 100000 in
set_option maxHeartbeats 4000000 in
theorem T_X1_addChild (l : Launch) (D : va_G) (dA : Nat → ClassId) (b0 : Nat) (jx0 : Int) (jx1 : Int) (σ σE : Hp) (r : Int) (hF : F_X1_addChild jx0 jx1 σ = some (r, σE)) : Ct l D dA b0 yX1_addChild cX1_addChild 2 none 0 0 [(2, jx0), (2, jx1)] σ none σE := by
  refine Ct.of (lv0 := [(0, 2, jx0), (1, 2, jx1)]) (by decide) RX1 rfl (Nat.le_of_ble_eq_true rfl) rfl ?_ (M_X1_addChild jx0 jx1 σ r σE hF)
  intro p e R s m args below meth c hX hR hnm
  obtain ⟨Q, hQ⟩ : ∃ Q, Q = Qm D dA b0 σ.1 σ.2.1 below args s none σE := ⟨_, rfl⟩
  rw [← hQ]
  have hE : σE.1 = σE.1 ∧ σE.2.1 = σE.2.1 := ⟨rfl, rfl⟩
  unfold F_X1_addChild at hF
  refine g_aload_n hX 0 dX1_addChild_0 rfl rfl ?_
  refine g_get hX fl_X1_26 (by decide) (by decide) dX1_addChild_1 hF (fun jv1 hF => ?_)
  refine g_aload_n hX 0 dX1_addChild_4 rfl rfl ?_
  refine g_get hX fl_X1_15 (by decide) (by decide) dX1_addChild_5 hF (fun jv2 hF => ?_)
  refine g_alen hX (by decide) dX1_addChild_8 hF (fun jv3 hF => ?_)
  refine g_icmp_lt (tgt := 13) hX dX1_addChild_9 (by decide) hF (fun hc hF => ?_) (fun hc hF => ?_)
  · refine g_aload_n hX 0 dX1_addChild_13 rfl rfl ?_
    refine g_get hX fl_X1_15 (by decide) (by decide) dX1_addChild_14 hF (fun jv4 hF => ?_)
    refine g_aload_n hX 0 dX1_addChild_17 rfl rfl ?_
    refine g_get hX fl_X1_26 (by decide) (by decide) dX1_addChild_18 hF (fun jv5 hF => ?_)
    refine g_aload_n hX 1 dX1_addChild_21 rfl rfl ?_
    refine u_aast hX (by decide) dX1_addChild_22 hF (fun σ6 hF => ?_)
    refine g_aload_n hX 0 dX1_addChild_23 rfl rfl ?_
    refine g_dup hX dX1_addChild_24 (by decide) ?_
    refine g_get hX fl_X1_26 (by decide) (by decide) dX1_addChild_25 hF (fun jv7 hF => ?_)
    refine g_iconst hX dX1_addChild_28 ?_
    refine g_iadd hX dX1_addChild_29 ?_
    refine u_put hX fp_X1_26 (by decide) (by decide) dX1_addChild_30 hF (fun σ8 hF => ?_)
    refine g_aload_n hX 0 dX1_addChild_33 rfl rfl ?_
    refine g_dup hX dX1_addChild_34 (by decide) ?_
    refine g_get hX fl_X1_29 (by decide) (by decide) dX1_addChild_35 hF (fun jv9 hF => ?_)
    refine g_aload_n hX 1 dX1_addChild_38 rfl rfl ?_
    refine g_get hX fl_X1_32 (by decide) (by decide) dX1_addChild_39 hF (fun jv10 hF => ?_)
    refine g_iadd hX dX1_addChild_42 ?_
    refine u_put hX fp_X1_29 (by decide) (by decide) dX1_addChild_43 hF (fun σ11 hF => ?_)
    exact g_vret hX hR hQ hE dX1_addChild_46 hF
  · exact g_vret hX hR hQ hE dX1_addChild_12 hF
end

section
variable {p : Program} {l : Launch} {e : Env} {R : Room} {s : State} {m : MethodId} {args : Array Value} {below : List Frame} {meth : Method} {c : Code} {D : va_G} {dA : Nat → ClassId} {b0 n0 m0 nE mE : Nat} {Q : State → Prop}
def F_X2_init (jx0 : Int) (σ : Hp) : Option (Int × Hp) :=
  iv 3 σ jx0 (nab 11 σ 11 0 fun ja1 σ2 => (pw 3 σ2 jx0 0 ja1).bind fun σ3 => nab 11 σ3 11 0 fun ja4 σ5 => (pw 3 σ5 jx0 1 ja4).bind fun σ6 => nab 11 σ6 11 0 fun ja7 σ8 => (pw 3 σ8 jx0 2 ja7).bind fun σ9 => nab 11 σ9 11 0 fun ja10 σ11 => (pw 3 σ11 jx0 3 ja10).bind fun σ12 => nab 11 σ12 11 0 fun ja13 σ14 => (pw 3 σ14 jx0 4 ja13).bind fun σ15 => some (0, σ15))
theorem M_X2_init (jx0 : Int) (σ : Hp) : Mn σ (F_X2_init jx0 σ) := by
  unfold F_X2_init
  repeat' first | exact Mn_ret | exact Mn_rz | refine Mn_nm (fun _ => ?_) | refine Mn_nab (fun _ _ => ?_) | refine Mn_nwb (fun _ _ => ?_) | refine Mn_pw (fun _ => ?_) | refine Mn_pz (fun _ => ?_) | refine Mn_aw (fun _ => ?_) | refine Mn_az (fun _ => ?_) | refine Mn_aq (fun _ => ?_) | refine Mn_bo (fun _ => ?_) | refine Mn_bd ?_ (fun _ _ => ?_) | refine Mn_iv ?_ | refine Mn_bLt ?_ ?_ | refine Mn_bLe ?_ ?_ | refine Mn_bEq ?_ ?_ | refine Mn_bN ?_ ?_ | refine Mn_g3 ?_ | refine Mn_g33 ?_ | refine Mn_g66 ?_ | refine Mn_gD ?_
set_option maxRecDepth 100000 in
set_option maxHeartbeats 4000000 in
theorem T_X2_init (l : Launch) (D : va_G) (dA : Nat → ClassId) (b0 : Nat) (jx0 : Int) (σ σE : Hp) (r : Int) (hF : F_X2_init jx0 σ = some (r, σE)) : Ct l D dA b0 yX2_init cX2_init 1 none 1 20 [(2, jx0)] σ none σE := by
  refine Ct.of (lv0 := [(0, 2, jx0)]) (by decide) RX2 rfl (Nat.le_of_ble_eq_true rfl) rfl ?_ (M_X2_init jx0 σ r σE hF)
  intro p e R s m args below meth c hX hR hnm
  obtain ⟨Q, hQ⟩ : ∃ Q, Q = Qm D dA b0 σ.1 σ.2.1 below args s none σE := ⟨_, rfl⟩
  rw [← hQ]
  have hE : σE.1 = σE.1 ∧ σE.2.1 = σE.2.1 := ⟨rfl, rfl⟩
  unfold F_X2_init at hF
  refine g_aload_n hX 0 dX2_init_0 rfl rfl ?_
  refine u_objInit hX ow_X2_3 (by decide) (by decide) (Nat.le_of_ble_eq_true rfl) dX2_init_1 hF (fun hF => ?_)
  refine g_aload_n hX 0 dX2_init_4 rfl rfl ?_
  refine g_bipush hX dX2_init_5 (by decide) ?_
  refine u_newa (atype := .int) (ty := .int) hX rfl (Or.inl ⟨rfl, rfl⟩) ac_int dX2_init_7 hF (fun ja1 σ2 hja1 hF => ?_)
  refine u_putF hX fp_X2_9 hnm (by decide) (by decide) dX2_init_9 hF (fun σ3 hF => ?_)
  refine g_aload_n hX 0 dX2_init_12 rfl rfl ?_
  refine g_bipush hX dX2_init_13 (by decide) ?_
  refine u_newa (atype := .int) (ty := .int) hX rfl (Or.inl ⟨rfl, rfl⟩) ac_int dX2_init_15 hF (fun ja4 σ5 hja4 hF => ?_)
  refine u_putF hX fp_X2_15 hnm (by decide) (by decide) dX2_init_17 hF (fun σ6 hF => ?_)
  refine g_aload_n hX 0 dX2_init_20 rfl rfl ?_
  refine g_bipush hX dX2_init_21 (by decide) ?_
  refine u_newa (atype := .int) (ty := .int) hX rfl (Or.inl ⟨rfl, rfl⟩) ac_int dX2_init_23 hF (fun ja7 σ8 hja7 hF => ?_)
  refine u_putF hX fp_X2_18 hnm (by decide) (by decide) dX2_init_25 hF (fun σ9 hF => ?_)
  refine g_aload_n hX 0 dX2_init_28 rfl rfl ?_
  refine g_bipush hX dX2_init_29 (by decide) ?_
  refine u_newa (atype := .int) (ty := .int) hX rfl (Or.inl ⟨rfl, rfl⟩) ac_int dX2_init_31 hF (fun ja10 σ11 hja10 hF => ?_)
  refine u_putF hX fp_X2_21 hnm (by decide) (by decide) dX2_init_33 hF (fun σ12 hF => ?_)
  refine g_aload_n hX 0 dX2_init_36 rfl rfl ?_
  refine g_bipush hX dX2_init_37 (by decide) ?_
  refine u_newa (atype := .int) (ty := .int) hX rfl (Or.inl ⟨rfl, rfl⟩) ac_int dX2_init_39 hF (fun ja13 σ14 hja13 hF => ?_)
  refine u_putF hX fp_X2_24 hnm (by decide) (by decide) dX2_init_41 hF (fun σ15 hF => ?_)
  exact g_vret hX hR hQ hE dX2_init_44 hF
end

section
variable {p : Program} {l : Launch} {e : Env} {R : Room} {s : State} {m : MethodId} {args : Array Value} {below : List Frame} {meth : Method} {c : Code} {D : va_G} {dA : Nat → ClassId} {b0 n0 m0 nE mE : Nat} {Q : State → Prop}
def F_X2_startAt (jx0 : Int) (jx1 : Int) (jx2 : Int) (σ : Hp) : Option (Int × Hp) :=
  (pz 3 σ jx0 5 1).bind fun σ1 => (pw 3 σ1 jx0 6 0).bind fun σ2 => (pw 3 σ2 jx0 7 jx1).bind fun σ3 => (rd 3 σ3 jx0 0).bind fun jv4 => (aw 11 σ3 jv4 0 jx2).bind fun σ5 => some (0, σ5)
theorem M_X2_startAt (jx0 : Int) (jx1 : Int) (jx2 : Int) (σ : Hp) : Mn σ (F_X2_startAt jx0 jx1 jx2 σ) := by
  unfold F_X2_startAt
  repeat' first | exact Mn_ret | exact Mn_rz | refine Mn_nm (fun _ => ?_) | refine Mn_nab (fun _ _ => ?_) | refine Mn_nwb (fun _ _ => ?_) | refine Mn_pw (fun _ => ?_) | refine Mn_pz (fun _ => ?_) | refine Mn_aw (fun _ => ?_) | refine Mn_az (fun _ => ?_) | refine Mn_aq (fun _ => ?_) | refine Mn_bo (fun _ => ?_) | refine Mn_bd ?_ (fun _ _ => ?_) | refine Mn_iv ?_ | refine Mn_bLt ?_ ?_ | refine Mn_bLe ?_ ?_ | refine Mn_bEq ?_ ?_ | refine Mn_bN ?_ ?_ | refine Mn_g3 ?_ | refine Mn_g33 ?_ | refine Mn_g66 ?_ | refine Mn_gD ?_
set_option maxRecDepth 100000 in
set_option maxHeartbeats 4000000 in
theorem T_X2_startAt (l : Launch) (D : va_G) (dA : Nat → ClassId) (b0 : Nat) (jx0 : Int) (jx1 : Int) (jx2 : Int) (σ σE : Hp) (r : Int) (hF : F_X2_startAt jx0 jx1 jx2 σ = some (r, σE)) : Ct l D dA b0 yX2_startAt cX2_startAt 3 none 0 0 [(2, jx0), (2, jx1), (0, jx2)] σ none σE := by
  refine Ct.of (lv0 := [(0, 2, jx0), (1, 2, jx1), (2, 0, jx2)]) (by decide) RX2 rfl (Nat.le_of_ble_eq_true rfl) rfl ?_ (M_X2_startAt jx0 jx1 jx2 σ r σE hF)
  intro p e R s m args below meth c hX hR hnm
  obtain ⟨Q, hQ⟩ : ∃ Q, Q = Qm D dA b0 σ.1 σ.2.1 below args s none σE := ⟨_, rfl⟩
  rw [← hQ]
  have hE : σE.1 = σE.1 ∧ σE.2.1 = σE.2.1 := ⟨rfl, rfl⟩
  unfold F_X2_startAt at hF
  refine g_aload_n hX 0 dX2_startAt_0 rfl rfl ?_
  refine g_iconst hX dX2_startAt_1 ?_
  refine u_putZ hX fp_X2_27 (by decide) (by decide) dX2_startAt_2 hF (fun σ1 hF => ?_)
  refine g_aload_n hX 0 dX2_startAt_5 rfl rfl ?_
  refine g_iconst hX dX2_startAt_6 ?_
  refine u_put hX fp_X2_31 (by decide) (by decide) dX2_startAt_7 hF (fun σ2 hF => ?_)
  refine g_aload_n hX 0 dX2_startAt_10 rfl rfl ?_
  refine g_aload_n hX 1 dX2_startAt_11 rfl rfl ?_
  refine u_put hX fp_X2_35 (by decide) (by decide) dX2_startAt_12 hF (fun σ3 hF => ?_)
  refine g_aload_n hX 0 dX2_startAt_15 rfl rfl ?_
  refine g_get hX fl_X2_9 (by decide) (by decide) dX2_startAt_16 hF (fun jv4 hF => ?_)
  refine g_iconst hX dX2_startAt_19 ?_
  refine g_iload_n hX 2 dX2_startAt_20 rfl rfl ?_
  refine u_iast hX dX2_startAt_21 hF (fun σ5 hF => ?_)
  exact g_vret hX hR hQ hE dX2_startAt_22 hF
end

section
variable {p : Program} {l : Launch} {e : Env} {R : Room} {s : State} {m : MethodId} {args : Array Value} {below : List Frame} {meth : Method} {c : Code} {D : va_G} {dA : Nat → ClassId} {b0 n0 m0 nE mE : Nat} {Q : State → Prop}
def F_X2_toldNow (jx0 : Int) (jx1 : Int) (σ : Hp) : Option (Int × Hp) :=
  (rd 3 σ jx0 6).bind fun jv1 => bLt jv1 0 (some (0, σ)) ((rd 3 σ jx0 6).bind fun jv2 => (al 11 σ jx1).bind fun jv3 => bLt jv2 jv3 ((rd 3 σ jx0 6).bind fun jv4 => (ar 11 σ jx1 jv4).bind fun jv5 => some (jv5, σ)) (some (0, σ)))
theorem M_X2_toldNow (jx0 : Int) (jx1 : Int) (σ : Hp) : Mn σ (F_X2_toldNow jx0 jx1 σ) := by
  unfold F_X2_toldNow
  repeat' first | exact Mn_ret | exact Mn_rz | refine Mn_nm (fun _ => ?_) | refine Mn_nab (fun _ _ => ?_) | refine Mn_nwb (fun _ _ => ?_) | refine Mn_pw (fun _ => ?_) | refine Mn_pz (fun _ => ?_) | refine Mn_aw (fun _ => ?_) | refine Mn_az (fun _ => ?_) | refine Mn_aq (fun _ => ?_) | refine Mn_bo (fun _ => ?_) | refine Mn_bd ?_ (fun _ _ => ?_) | refine Mn_iv ?_ | refine Mn_bLt ?_ ?_ | refine Mn_bLe ?_ ?_ | refine Mn_bEq ?_ ?_ | refine Mn_bN ?_ ?_ | refine Mn_g3 ?_ | refine Mn_g33 ?_ | refine Mn_g66 ?_ | refine Mn_gD ?_
set_option maxRecDepth 100000 in
set_option maxHeartbeats 4000000 in
theorem T_X2_toldNow (l : Launch) (D : va_G) (dA : Nat → ClassId) (b0 : Nat) (jx0 : Int) (jx1 : Int) (σ σE : Hp) (r : Int) (hF : F_X2_toldNow jx0 jx1 σ = some (r, σE)) : Ct l D dA b0 yX2_toldNow cX2_toldNow 2 (some .int) 0 0 [(2, jx0), (2, jx1)] σ (some (pV 0 r)) σE := by
  refine Ct.of (lv0 := [(0, 2, jx0), (1, 2, jx1)]) (by decide) RX2 rfl (Nat.le_of_ble_eq_true rfl) rfl ?_ (M_X2_toldNow jx0 jx1 σ r σE hF)
  intro p e R s m args below meth c hX hR hnm
  obtain ⟨Q, hQ⟩ : ∃ Q, Q = Qm D dA b0 σ.1 σ.2.1 below args s (some (pV 0 r)) σE := ⟨_, rfl⟩
  rw [← hQ]
  have hE : σE.1 = σE.1 ∧ σE.2.1 = σE.2.1 := ⟨rfl, rfl⟩
  unfold F_X2_toldNow at hF
  refine g_aload_n hX 0 dX2_toldNow_0 rfl rfl ?_
  refine g_get hX fl_X2_31 (by decide) (by decide) dX2_toldNow_1 hF (fun jv1 hF => ?_)
  refine g_if_lt (tgt := 25) hX dX2_toldNow_4 (by decide) hF (fun hc hF => ?_) (fun hc hF => ?_)
  · refine g_iconst hX dX2_toldNow_25 ?_
    exact g_iret hX hR hQ hE dX2_toldNow_26 hF
  · refine g_aload_n hX 0 dX2_toldNow_7 rfl rfl ?_
    refine g_get hX fl_X2_31 (by decide) (by decide) dX2_toldNow_8 hF (fun jv2 hF => ?_)
    refine g_aload_n hX 1 dX2_toldNow_11 rfl rfl ?_
    refine g_alen hX (by decide) dX2_toldNow_12 hF (fun jv3 hF => ?_)
    refine g_icmp_ge (tgt := 25) hX dX2_toldNow_13 (by decide) hF (fun hc hF => ?_) (fun hc hF => ?_)
    · refine g_aload_n hX 1 dX2_toldNow_16 rfl rfl ?_
      refine g_aload_n hX 0 dX2_toldNow_17 rfl rfl ?_
      refine g_get hX fl_X2_31 (by decide) (by decide) dX2_toldNow_18 hF (fun jv4 hF => ?_)
      refine g_iald hX dX2_toldNow_21 hF (fun jv5 hF => ?_)
      refine g_goto (tgt := 26) hX dX2_toldNow_22 (by decide) ?_
      exact g_iret hX hR hQ hE dX2_toldNow_26 hF
    · refine g_iconst hX dX2_toldNow_25 ?_
      exact g_iret hX hR hQ hE dX2_toldNow_26 hF
end

section
variable {p : Program} {l : Launch} {e : Env} {R : Room} {s : State} {m : MethodId} {args : Array Value} {below : List Frame} {meth : Method} {c : Code} {D : va_G} {dA : Nat → ClassId} {b0 n0 m0 nE mE : Nat} {Q : State → Prop}
def F_X2_stateNow (jx0 : Int) (σ : Hp) : Option (Int × Hp) :=
  (rd 3 σ jx0 0).bind fun jv1 => bd (iv 3 σ jx0 (F_X2_toldNow  jx0 jv1 σ)) fun jv2 σ3 => some (jv2, σ3)
theorem M_X2_stateNow (jx0 : Int) (σ : Hp) : Mn σ (F_X2_stateNow jx0 σ) := by
  unfold F_X2_stateNow
  repeat' first | exact Mn_ret | exact Mn_rz | exact M_X2_toldNow _ _ _ | refine Mn_nm (fun _ => ?_) | refine Mn_nab (fun _ _ => ?_) | refine Mn_nwb (fun _ _ => ?_) | refine Mn_pw (fun _ => ?_) | refine Mn_pz (fun _ => ?_) | refine Mn_aw (fun _ => ?_) | refine Mn_az (fun _ => ?_) | refine Mn_aq (fun _ => ?_) | refine Mn_bo (fun _ => ?_) | refine Mn_bd ?_ (fun _ _ => ?_) | refine Mn_iv ?_ | refine Mn_bLt ?_ ?_ | refine Mn_bLe ?_ ?_ | refine Mn_bEq ?_ ?_ | refine Mn_bN ?_ ?_ | refine Mn_g3 ?_ | refine Mn_g33 ?_ | refine Mn_g66 ?_ | refine Mn_gD ?_
set_option maxRecDepth 100000 in
set_option maxHeartbeats 4000000 in
theorem T_X2_stateNow (l : Launch) (D : va_G) (dA : Nat → ClassId) (b0 : Nat) (jx0 : Int) (σ σE : Hp) (r : Int) (hF : F_X2_stateNow jx0 σ = some (r, σE)) : Ct l D dA b0 yX2_stateNow cX2_stateNow 1 (some .int) 1 21 [(2, jx0)] σ (some (pV 0 r)) σE := by
  refine Ct.of (lv0 := [(0, 2, jx0)]) (by decide) RX2 rfl (Nat.le_of_ble_eq_true rfl) rfl ?_ (M_X2_stateNow jx0 σ r σE hF)
  intro p e R s m args below meth c hX hR hnm
  obtain ⟨Q, hQ⟩ : ∃ Q, Q = Qm D dA b0 σ.1 σ.2.1 below args s (some (pV 0 r)) σE := ⟨_, rfl⟩
  rw [← hQ]
  have hE : σE.1 = σE.1 ∧ σE.2.1 = σE.2.1 := ⟨rfl, rfl⟩
  unfold F_X2_stateNow at hF
  refine g_aload_n hX 0 dX2_stateNow_0 rfl rfl ?_
  refine g_aload_n hX 0 dX2_stateNow_1 rfl rfl ?_
  refine g_get hX fl_X2_9 (by decide) (by decide) dX2_stateNow_2 hF (fun jv1 hF => ?_)
  refine g_callV (t := 0) (ci := 2) (rest := []) [(2, jv1)] hX cw_X2_39 rfl (by decide) (by decide) (fun r σ1 h => T_X2_toldNow l D dA b0  jx0 jv1 σ σ1 r h) ⟨by decide, by decide⟩ rfl rfl (Nat.le_of_ble_eq_true rfl) dX2_stateNow_5 hF (fun jv2 σ3 hF => ?_)
  exact g_iret hX hR hQ hE dX2_stateNow_8 hF
end

section
variable {p : Program} {l : Launch} {e : Env} {R : Room} {s : State} {m : MethodId} {args : Array Value} {below : List Frame} {meth : Method} {c : Code} {D : va_G} {dA : Nat → ClassId} {b0 n0 m0 nE mE : Nat} {Q : State → Prop}
def F_X2_goOn (jx0 : Int) (jx1 : Int) (jx2 : Int) (jx3 : Int) (jx4 : Int) (jx5 : Int) (σ : Hp) : Option (Int × Hp) :=
  (rd 3 σ jx0 6).bind fun jv1 => bLt jv1 10 ((rd 3 σ jx0 6).bind fun jv2 => (rd 3 σ jx0 6).bind fun jv3 => (pw 3 σ jx0 6 (jv3 + 1)).bind fun σ4 => (pw 3 σ4 jx0 7 jx1).bind fun σ5 => (rd 3 σ5 jx0 0).bind fun jv6 => (rd 3 σ5 jx0 6).bind fun jv7 => (aw 11 σ5 jv6 jv7 jx2).bind fun σ8 => (rd 3 σ8 jx0 1).bind fun jv9 => (rd 3 σ8 jx0 6).bind fun jv10 => (rd 3 σ8 jx0 1).bind fun jv11 => (ar 11 σ8 jv11 jv2).bind fun jv12 => (aw 11 σ8 jv9 jv10 (jv12 + jx3)).bind fun σ13 => (rd 3 σ13 jx0 2).bind fun jv14 => (rd 3 σ13 jx0 6).bind fun jv15 => (rd 3 σ13 jx0 2).bind fun jv16 => (ar 11 σ13 jv16 jv2).bind fun jv17 => (aw 11 σ13 jv14 jv15 (jv17 + jx4)).bind fun σ18 => (rd 3 σ18 jx0 3).bind fun jv19 => (rd 3 σ18 jx0 6).bind fun jv20 => (rd 3 σ18 jx0 3).bind fun jv21 => (ar 11 σ18 jv21 jv2).bind fun jv22 => (aw 11 σ18 jv19 jv20 (jv22 + jx5)).bind fun σ23 => (rd 3 σ23 jx0 4).bind fun jv24 => (rd 3 σ23 jx0 6).bind fun jv25 => (rd 3 σ23 jx0 4).bind fun jv26 => (ar 11 σ23 jv26 jv2).bind fun jv27 => bd (iv 2 σ23 jx1 (F_X1_sumIn  jx1  σ23)) fun jv28 σ29 => (aw 11 σ29 jv24 jv25 (jv27 + jv28)).bind fun σ30 => some (0, σ30)) (some (0, σ))
theorem M_X2_goOn (jx0 : Int) (jx1 : Int) (jx2 : Int) (jx3 : Int) (jx4 : Int) (jx5 : Int) (σ : Hp) : Mn σ (F_X2_goOn jx0 jx1 jx2 jx3 jx4 jx5 σ) := by
  unfold F_X2_goOn
  repeat' first | exact Mn_ret | exact Mn_rz | exact M_X1_sumIn _ _ | refine Mn_nm (fun _ => ?_) | refine Mn_nab (fun _ _ => ?_) | refine Mn_nwb (fun _ _ => ?_) | refine Mn_pw (fun _ => ?_) | refine Mn_pz (fun _ => ?_) | refine Mn_aw (fun _ => ?_) | refine Mn_az (fun _ => ?_) | refine Mn_aq (fun _ => ?_) | refine Mn_bo (fun _ => ?_) | refine Mn_bd ?_ (fun _ _ => ?_) | refine Mn_iv ?_ | refine Mn_bLt ?_ ?_ | refine Mn_bLe ?_ ?_ | refine Mn_bEq ?_ ?_ | refine Mn_bN ?_ ?_ | refine Mn_g3 ?_ | refine Mn_g33 ?_ | refine Mn_g66 ?_ | refine Mn_gD ?_
set_option maxRecDepth 100000 in
set_option maxHeartbeats 4000000 in
theorem T_X2_goOn (l : Launch) (D : va_G) (dA : Nat → ClassId) (b0 : Nat) (jx0 : Int) (jx1 : Int) (jx2 : Int) (jx3 : Int) (jx4 : Int) (jx5 : Int) (σ σE : Hp) (r : Int) (hF : F_X2_goOn jx0 jx1 jx2 jx3 jx4 jx5 σ = some (r, σE)) : Ct l D dA b0 yX2_goOn cX2_goOn 7 none 1 22 [(2, jx0), (2, jx1), (0, jx2), (0, jx3), (0, jx4), (0, jx5)] σ none σE := by
  refine Ct.of (lv0 := [(0, 2, jx0), (1, 2, jx1), (2, 0, jx2), (3, 0, jx3), (4, 0, jx4), (5, 0, jx5)]) (by decide) RX2 rfl (Nat.le_of_ble_eq_true rfl) rfl ?_ (M_X2_goOn jx0 jx1 jx2 jx3 jx4 jx5 σ r σE hF)
  intro p e R s m args below meth c hX hR hnm
  obtain ⟨Q, hQ⟩ : ∃ Q, Q = Qm D dA b0 σ.1 σ.2.1 below args s none σE := ⟨_, rfl⟩
  rw [← hQ]
  have hE : σE.1 = σE.1 ∧ σE.2.1 = σE.2.1 := ⟨rfl, rfl⟩
  unfold F_X2_goOn at hF
  refine g_aload_n hX 0 dX2_goOn_0 rfl rfl ?_
  refine g_get hX fl_X2_31 (by decide) (by decide) dX2_goOn_1 hF (fun jv1 hF => ?_)
  refine g_bipush hX dX2_goOn_4 (by decide) ?_
  refine g_icmp_lt (tgt := 10) hX dX2_goOn_6 (by decide) hF (fun hc hF => ?_) (fun hc hF => ?_)
  · refine g_aload_n hX 0 dX2_goOn_10 rfl rfl ?_
    refine g_get hX fl_X2_31 (by decide) (by decide) dX2_goOn_11 hF (fun jv2 hF => ?_)
    refine g_istore (lv' := [(6, 0, jv2), (0, 2, jx0), (1, 2, jx1), (2, 0, jx2), (3, 0, jx3), (4, 0, jx4), (5, 0, jx5)]) hX dX2_goOn_14 (by decide) rfl ?_
    refine g_aload_n hX 1 dX2_goOn_16 rfl rfl ?_
    refine g_dup hX dX2_goOn_17 (by decide) ?_
    refine g_get hX fl_X2_31 (by decide) (by decide) dX2_goOn_18 hF (fun jv3 hF => ?_)
    refine g_iconst hX dX2_goOn_21 ?_
    refine g_iadd hX dX2_goOn_22 ?_
    refine u_put hX fp_X2_31 (by decide) (by decide) dX2_goOn_23 hF (fun σ4 hF => ?_)
    refine g_aload_n hX 1 dX2_goOn_26 rfl rfl ?_
    refine g_aload_n hX 2 dX2_goOn_27 rfl rfl ?_
    refine u_put hX fp_X2_35 (by decide) (by decide) dX2_goOn_28 hF (fun σ5 hF => ?_)
    refine g_aload_n hX 1 dX2_goOn_31 rfl rfl ?_
    refine g_get hX fl_X2_9 (by decide) (by decide) dX2_goOn_32 hF (fun jv6 hF => ?_)
    refine g_aload_n hX 1 dX2_goOn_35 rfl rfl ?_
    refine g_get hX fl_X2_31 (by decide) (by decide) dX2_goOn_36 hF (fun jv7 hF => ?_)
    refine g_iload_n hX 3 dX2_goOn_39 rfl rfl ?_
    refine u_iast hX dX2_goOn_40 hF (fun σ8 hF => ?_)
    refine g_aload_n hX 1 dX2_goOn_41 rfl rfl ?_
    refine g_get hX fl_X2_15 (by decide) (by decide) dX2_goOn_42 hF (fun jv9 hF => ?_)
    refine g_aload_n hX 1 dX2_goOn_45 rfl rfl ?_
    refine g_get hX fl_X2_31 (by decide) (by decide) dX2_goOn_46 hF (fun jv10 hF => ?_)
    refine g_aload_n hX 1 dX2_goOn_49 rfl rfl ?_
    refine g_get hX fl_X2_15 (by decide) (by decide) dX2_goOn_50 hF (fun jv11 hF => ?_)
    refine g_iload hX 0 dX2_goOn_53 rfl ?_
    refine g_iald hX dX2_goOn_55 hF (fun jv12 hF => ?_)
    refine g_iload_n hX 4 dX2_goOn_56 rfl rfl ?_
    refine g_iadd hX dX2_goOn_57 ?_
    refine u_iast hX dX2_goOn_58 hF (fun σ13 hF => ?_)
    refine g_aload_n hX 1 dX2_goOn_59 rfl rfl ?_
    refine g_get hX fl_X2_18 (by decide) (by decide) dX2_goOn_60 hF (fun jv14 hF => ?_)
    refine g_aload_n hX 1 dX2_goOn_63 rfl rfl ?_
    refine g_get hX fl_X2_31 (by decide) (by decide) dX2_goOn_64 hF (fun jv15 hF => ?_)
    refine g_aload_n hX 1 dX2_goOn_67 rfl rfl ?_
    refine g_get hX fl_X2_18 (by decide) (by decide) dX2_goOn_68 hF (fun jv16 hF => ?_)
    refine g_iload hX 0 dX2_goOn_71 rfl ?_
    refine g_iald hX dX2_goOn_73 hF (fun jv17 hF => ?_)
    refine g_iload hX 5 dX2_goOn_74 rfl ?_
    refine g_iadd hX dX2_goOn_76 ?_
    refine u_iast hX dX2_goOn_77 hF (fun σ18 hF => ?_)
    refine g_aload_n hX 1 dX2_goOn_78 rfl rfl ?_
    refine g_get hX fl_X2_21 (by decide) (by decide) dX2_goOn_79 hF (fun jv19 hF => ?_)
    refine g_aload_n hX 1 dX2_goOn_82 rfl rfl ?_
    refine g_get hX fl_X2_31 (by decide) (by decide) dX2_goOn_83 hF (fun jv20 hF => ?_)
    refine g_aload_n hX 1 dX2_goOn_86 rfl rfl ?_
    refine g_get hX fl_X2_21 (by decide) (by decide) dX2_goOn_87 hF (fun jv21 hF => ?_)
    refine g_iload hX 0 dX2_goOn_90 rfl ?_
    refine g_iald hX dX2_goOn_92 hF (fun jv22 hF => ?_)
    refine g_iload hX 6 dX2_goOn_93 rfl ?_
    refine g_iadd hX dX2_goOn_95 ?_
    refine u_iast hX dX2_goOn_96 hF (fun σ23 hF => ?_)
    refine g_aload_n hX 1 dX2_goOn_97 rfl rfl ?_
    refine g_get hX fl_X2_24 (by decide) (by decide) dX2_goOn_98 hF (fun jv24 hF => ?_)
    refine g_aload_n hX 1 dX2_goOn_101 rfl rfl ?_
    refine g_get hX fl_X2_31 (by decide) (by decide) dX2_goOn_102 hF (fun jv25 hF => ?_)
    refine g_aload_n hX 1 dX2_goOn_105 rfl rfl ?_
    refine g_get hX fl_X2_24 (by decide) (by decide) dX2_goOn_106 hF (fun jv26 hF => ?_)
    refine g_iload hX 0 dX2_goOn_109 rfl ?_
    refine g_iald hX dX2_goOn_111 hF (fun jv27 hF => ?_)
    refine g_aload_n hX 2 dX2_goOn_112 rfl rfl ?_
    refine g_callV (t := 0) (ci := 1) (rest := [(0, jv27), (0, jv25), (2, jv24)]) [] hX cw_X2_43 rfl (by decide) (by decide) (fun r σ1 h => T_X1_sumIn l D dA b0  jx1  σ23 σ1 r h) ⟨by decide, by decide⟩ rfl rfl (Nat.le_of_ble_eq_true rfl) dX2_goOn_113 hF (fun jv28 σ29 hF => ?_)
    refine g_iadd hX dX2_goOn_116 ?_
    refine u_iast hX dX2_goOn_117 hF (fun σ30 hF => ?_)
    exact g_vret hX hR hQ hE dX2_goOn_118 hF
  · exact g_vret hX hR hQ hE dX2_goOn_9 hF
end
