section
variable {p : Program} {l : Launch} {e : Env} {R : Room} {s : State} {m : MethodId} {args : Array Value} {below : List Frame} {meth : Method} {c : Code} {D : va_G} {dA : Nat → ClassId} {b0 n0 m0 nE mE : Nat} {Q : State → Prop}
def F_X4_init_L19 (jx0 : Int) : Nat → Int → Hp → Option (Int × Hp)
  | 0, _, _ => none
  | n + 1, jx1, σ => (rd 5 σ jx0 0).bind fun jv5 => (al 14 σ jv5).bind fun jv6 => bLt jx1 jv6 ((rd 5 σ jx0 0).bind fun jv7 => nwb 1 σ 9 0 fun ja8 σ9 => bd (F_X0_init ja8  σ9) fun jv10 σ11 => (aq 14 1 σ11 jv7 jx1 ja8).bind fun σ12 => (F_X4_init_L19 jx0 n) (jx1 + 1) σ12) (some (0, σ))
theorem M_X4_init_L19 (jx0 : Int) : ∀ (n : Nat) (jx1 : Int) (σ : Hp), Mn σ (F_X4_init_L19 jx0 n jx1 σ) := by
  intro n
  induction n with
  | zero => intros; rw [F_X4_init_L19]; exact Mn_none
  | succ n hk19 =>
    intros
    rw [F_X4_init_L19]
    repeat' first | exact Mn_ret | exact Mn_rz | exact hk19 _  _ | exact M_X0_init _ _ | refine Mn_nm (fun _ => ?_) | refine Mn_nab (fun _ _ => ?_) | refine Mn_nwb (fun _ _ => ?_) | refine Mn_pw (fun _ => ?_) | refine Mn_pz (fun _ => ?_) | refine Mn_aw (fun _ => ?_) | refine Mn_az (fun _ => ?_) | refine Mn_aq (fun _ => ?_) | refine Mn_bo (fun _ => ?_) | refine Mn_bd ?_ (fun _ _ => ?_) | refine Mn_iv ?_ | refine Mn_bLt ?_ ?_ | refine Mn_bLe ?_ ?_ | refine Mn_bEq ?_ ?_ | refine Mn_bN ?_ ?_ | refine Mn_g3 ?_ | refine Mn_g33 ?_ | refine Mn_g66 ?_ | refine Mn_gD ?_
set_option maxRecDepth 100000 in
set_option maxHeartbeats 4000000 in
theorem T_X4_init_L19 {r : Int} {σE : Hp} (hX : Cx p R s m args meth c D dA b0 n0 m0 2 nE mE cX4_init RX4 2 43) (hR : Rx meth none) (hnm : meth.name = yX4_init.name) (hQ : Q = Qm D dA b0 n0 m0 below args s none σE) (hE : nE = σE.1 ∧ mE = σE.2.1) (jx0 : Int) : ∀ (n : Nat) (jx1 : Int) (σ : Hp), F_X4_init_L19 jx0 n jx1 σ = some (r, σE) → G p l e R s m args below meth c D dA b0 n0 m0 2 nE mE Q 19 [(0, 2, jx0), (1, 0, jx1)] [] σ := by
  intro n
  induction n with
  | zero =>
    intro jx1 σ hF
    rw [F_X4_init_L19] at hF
    cases hF
  | succ n hk19 =>
    intro jx1 σ hF
    rw [F_X4_init_L19] at hF
    refine g_iload_n hX 1 dX4_init_19 rfl rfl ?_
    refine g_aload_n hX 0 dX4_init_20 rfl rfl ?_
    refine g_get hX fl_X4_11 (by decide) (by decide) dX4_init_21 hF (fun jv5 hF => ?_)
    refine g_alen hX (by decide) dX4_init_24 hF (fun jv6 hF => ?_)
    refine g_icmp_ge (tgt := 47) hX dX4_init_25 (by decide) hF (fun hc hF => ?_) (fun hc hF => ?_)
    · refine g_aload_n hX 0 dX4_init_28 rfl rfl ?_
      refine g_get hX fl_X4_11 (by decide) (by decide) dX4_init_29 hF (fun jv7 hF => ?_)
      refine g_iload_n hX 1 dX4_init_32 rfl rfl ?_
      refine u_new hX nw_X4_9 (by decide) rfl dX4_init_33 hF (fun ja8 σ9 hja8 hF => ?_)
      refine g_dup hX dX4_init_36 (by decide) ?_
      refine g_callI (K := 0) (rest := [(2, ja8), (0, jx1), (2, jv7)]) [] hX cw_X4_21 hja8 (fun r σ1 h => T_X0_init l D dA b0 ja8  σ9 σ1 r h) ⟨by decide, by decide⟩ rfl rfl (Nat.le_of_ble_eq_true rfl) dX4_init_37 hF (fun jv10 σ11 hF => ?_)
      refine u_aast hX (by decide) dX4_init_40 hF (fun σ12 hF => ?_)
      refine g_iinc (lv' := [(1, 0, (jx1 + 1)), (0, 2, jx0)]) hX 1 dX4_init_41 rfl (by decide) rfl ?_
      refine g_goto (tgt := 19) hX dX4_init_44 (by decide) ?_
      refine g_lvp (lv' := [(0, 2, jx0), (1, 0, (jx1 + 1))]) [1, 0] rfl ?_
      exact hk19 (jx1 + 1) σ12 hF
    · exact g_vret hX hR hQ hE dX4_init_47 hF
def F_X4_init (jx0 : Int) (σ : Hp) : Option (Int × Hp) :=
  iv 5 σ jx0 (nab 14 σ 3 (-1) fun ja1 σ2 => (pw 5 σ2 jx0 0 ja1).bind fun σ3 => (pw 5 σ3 jx0 2 1).bind fun σ4 => F_X4_init_L19 jx0 fu 0 σ4)
theorem M_X4_init (jx0 : Int) (σ : Hp) : Mn σ (F_X4_init jx0 σ) := by
  unfold F_X4_init
  repeat' first | exact Mn_ret | exact Mn_rz | exact M_X4_init_L19 _ _ _ _ | refine Mn_nm (fun _ => ?_) | refine Mn_nab (fun _ _ => ?_) | refine Mn_nwb (fun _ _ => ?_) | refine Mn_pw (fun _ => ?_) | refine Mn_pz (fun _ => ?_) | refine Mn_aw (fun _ => ?_) | refine Mn_az (fun _ => ?_) | refine Mn_aq (fun _ => ?_) | refine Mn_bo (fun _ => ?_) | refine Mn_bd ?_ (fun _ _ => ?_) | refine Mn_iv ?_ | refine Mn_bLt ?_ ?_ | refine Mn_bLe ?_ ?_ | refine Mn_bEq ?_ ?_ | refine Mn_bN ?_ ?_ | refine Mn_g3 ?_ | refine Mn_g33 ?_ | refine Mn_g66 ?_ | refine Mn_gD ?_
set_option maxRecDepth 100000 in
set_option maxHeartbeats 4000000 in
theorem T_X4_init (l : Launch) (D : va_G) (dA : Nat → ClassId) (b0 : Nat) (jx0 : Int) (σ σE : Hp) (r : Int) (hF : F_X4_init jx0 σ = some (r, σE)) : Ct l D dA b0 yX4_init cX4_init 2 none 2 43 [(2, jx0)] σ none σE := by
  refine Ct.of (lv0 := [(0, 2, jx0)]) (by decide) RX4 rfl (Nat.le_of_ble_eq_true rfl) rfl ?_ (M_X4_init jx0 σ r σE hF)
  intro p e R s m args below meth c hX hR hnm
  obtain ⟨Q, hQ⟩ : ∃ Q, Q = Qm D dA b0 σ.1 σ.2.1 below args s none σE := ⟨_, rfl⟩
  rw [← hQ]
  have hE : σE.1 = σE.1 ∧ σE.2.1 = σE.2.1 := ⟨rfl, rfl⟩
  unfold F_X4_init at hF
  refine g_aload_n hX 0 dX4_init_0 rfl rfl ?_
  refine u_objInit hX ow_X4_3 (by decide) (by decide) (Nat.le_of_ble_eq_true rfl) dX4_init_1 hF (fun hF => ?_)
  refine g_aload_n hX 0 dX4_init_4 rfl rfl ?_
  refine g_iconst hX dX4_init_5 ?_
  refine u_anew hX (Or.inl ⟨rfl, rfl⟩) kl_X4_9 dX4_init_6 hF (fun ja1 σ2 hja1 hF => ?_)
  refine u_putF hX fp_X4_11 hnm (by decide) (by decide) dX4_init_9 hF (fun σ3 hF => ?_)
  refine g_aload_n hX 0 dX4_init_12 rfl rfl ?_
  refine g_iconst hX dX4_init_13 ?_
  refine u_put hX fp_X4_17 (by decide) (by decide) dX4_init_14 hF (fun σ4 hF => ?_)
  refine g_iconst hX dX4_init_17 ?_
  refine g_istore_n (lv' := [(1, 0, 0), (0, 2, jx0)]) hX dX4_init_18 rfl (by decide) rfl ?_
  refine g_lvp (lv' := [(0, 2, jx0), (1, 0, 0)]) [1, 0] rfl ?_
  exact T_X4_init_L19 hX hR hnm hQ hE jx0  fu 0 σ4 hF
end

section
variable {p : Program} {l : Launch} {e : Env} {R : Room} {s : State} {m : MethodId} {args : Array Value} {below : List Frame} {meth : Method} {c : Code} {D : va_G} {dA : Nat → ClassId} {b0 n0 m0 nE mE : Nat} {Q : State → Prop}
def F_X4_addLake_L18 (jx0 : Int) (jx1 : Int) (jx2 : Int) (jx3 : Int) (jx4 : Int) : Nat → Int → Hp → Option (Int × Hp)
  | 0, _, _ => none
  | n + 1, jx5, σ => (rd 5 σ jx0 1).bind fun jv4 => bLt jx5 jv4 ((rd 5 σ jx0 0).bind fun jv5 => (ar 14 σ jv5 jx5).bind fun jv6 => (rd 1 σ jv6 8).bind fun jv7 => (pw 1 σ jv6 8 (jv7 * (jx2 + 1))).bind fun σ8 => (F_X4_addLake_L18 jx0 jx1 jx2 jx3 jx4 n) (jx5 + 1) σ8) ((rd 5 σ jx0 2).bind fun jv9 => (pw 5 σ jx0 2 (jv9 * (jx2 + 1))).bind fun σ10 => (rd 5 σ10 jx0 0).bind fun jv11 => (rd 5 σ10 jx0 1).bind fun jv12 => (ar 14 σ10 jv11 jv12).bind fun jv13 => (pw 1 σ10 jv13 1 jx1).bind fun σ14 => (pw 1 σ14 jv13 2 jx2).bind fun σ15 => (pw 1 σ15 jv13 3 jx3).bind fun σ16 => (pw 1 σ16 jv13 4 jx4).bind fun σ17 => (rd 5 σ17 jx0 1).bind fun jv18 => (pw 5 σ17 jx0 1 (jv18 + 1)).bind fun σ19 => (rd 5 σ19 jx0 1).bind fun jv20 => some ((jv20 - 1), σ19))
theorem M_X4_addLake_L18 (jx0 : Int) (jx1 : Int) (jx2 : Int) (jx3 : Int) (jx4 : Int) : ∀ (n : Nat) (jx5 : Int) (σ : Hp), Mn σ (F_X4_addLake_L18 jx0 jx1 jx2 jx3 jx4 n jx5 σ) := by
  intro n
  induction n with
  | zero => intros; rw [F_X4_addLake_L18]; exact Mn_none
  | succ n hk18 =>
    intros
    rw [F_X4_addLake_L18]
    repeat' first | exact Mn_ret | exact Mn_rz | exact hk18 _  _ | refine Mn_nm (fun _ => ?_) | refine Mn_nab (fun _ _ => ?_) | refine Mn_nwb (fun _ _ => ?_) | refine Mn_pw (fun _ => ?_) | refine Mn_pz (fun _ => ?_) | refine Mn_aw (fun _ => ?_) | refine Mn_az (fun _ => ?_) | refine Mn_aq (fun _ => ?_) | refine Mn_bo (fun _ => ?_) | refine Mn_bd ?_ (fun _ _ => ?_) | refine Mn_iv ?_ | refine Mn_bLt ?_ ?_ | refine Mn_bLe ?_ ?_ | refine Mn_bEq ?_ ?_ | refine Mn_bN ?_ ?_ | refine Mn_g3 ?_ | refine Mn_g33 ?_ | refine Mn_g66 ?_ | refine Mn_gD ?_
set_option maxRecDepth 100000 in
set_option maxHeartbeats 4000000 in
theorem T_X4_addLake_L18 {r : Int} {σE : Hp} (hX : Cx p R s m args meth c D dA b0 n0 m0 6 nE mE cX4_addLake RX4 0 0) (hR : Rx meth (some .int)) (hnm : meth.name = yX4_addLake.name) (hQ : Q = Qm D dA b0 n0 m0 below args s (some (pV 0 r)) σE) (hE : nE = σE.1 ∧ mE = σE.2.1) (jx0 : Int) (jx1 : Int) (jx2 : Int) (jx3 : Int) (jx4 : Int) : ∀ (n : Nat) (jx5 : Int) (σ : Hp), F_X4_addLake_L18 jx0 jx1 jx2 jx3 jx4 n jx5 σ = some (r, σE) → G p l e R s m args below meth c D dA b0 n0 m0 6 nE mE Q 18 [(0, 2, jx0), (1, 0, jx1), (2, 0, jx2), (3, 0, jx3), (4, 0, jx4), (5, 0, jx5)] [] σ := by
  intro n
  induction n with
  | zero =>
    intro jx5 σ hF
    rw [F_X4_addLake_L18] at hF
    cases hF
  | succ n hk18 =>
    intro jx5 σ hF
    rw [F_X4_addLake_L18] at hF
    refine g_iload hX 5 dX4_addLake_18 rfl ?_
    refine g_aload_n hX 0 dX4_addLake_20 rfl rfl ?_
    refine g_get hX fl_X4_22 (by decide) (by decide) dX4_addLake_21 hF (fun jv4 hF => ?_)
    refine g_icmp_ge (tgt := 51) hX dX4_addLake_24 (by decide) hF (fun hc hF => ?_) (fun hc hF => ?_)
    · refine g_aload_n hX 0 dX4_addLake_27 rfl rfl ?_
      refine g_get hX fl_X4_11 (by decide) (by decide) dX4_addLake_28 hF (fun jv5 hF => ?_)
      refine g_iload hX 5 dX4_addLake_31 rfl ?_
      refine g_aald hX (by decide) dX4_addLake_33 hF (fun jv6 hF => ?_)
      refine g_dup hX dX4_addLake_34 (by decide) ?_
      refine g_get hX fl_X4_25 (by decide) (by decide) dX4_addLake_35 hF (fun jv7 hF => ?_)
      refine g_iload_n hX 2 dX4_addLake_38 rfl rfl ?_
      refine g_iconst hX dX4_addLake_39 ?_
      refine g_iadd hX dX4_addLake_40 ?_
      refine g_imul hX dX4_addLake_41 ?_
      refine u_put hX fp_X4_25 (by decide) (by decide) dX4_addLake_42 hF (fun σ8 hF => ?_)
      refine g_iinc (lv' := [(5, 0, (jx5 + 1)), (0, 2, jx0), (1, 0, jx1), (2, 0, jx2), (3, 0, jx3), (4, 0, jx4)]) hX 5 dX4_addLake_45 rfl (by decide) rfl ?_
      refine g_goto (tgt := 18) hX dX4_addLake_48 (by decide) ?_
      refine g_lvp (lv' := [(0, 2, jx0), (1, 0, jx1), (2, 0, jx2), (3, 0, jx3), (4, 0, jx4), (5, 0, (jx5 + 1))]) [1, 2, 3, 4, 5, 0] rfl ?_
      exact hk18 (jx5 + 1) σ8 hF
    · refine g_aload_n hX 0 dX4_addLake_51 rfl rfl ?_
      refine g_dup hX dX4_addLake_52 (by decide) ?_
      refine g_get hX fl_X4_17 (by decide) (by decide) dX4_addLake_53 hF (fun jv9 hF => ?_)
      refine g_iload_n hX 2 dX4_addLake_56 rfl rfl ?_
      refine g_iconst hX dX4_addLake_57 ?_
      refine g_iadd hX dX4_addLake_58 ?_
      refine g_imul hX dX4_addLake_59 ?_
      refine u_put hX fp_X4_17 (by decide) (by decide) dX4_addLake_60 hF (fun σ10 hF => ?_)
      refine g_aload_n hX 0 dX4_addLake_63 rfl rfl ?_
      refine g_get hX fl_X4_11 (by decide) (by decide) dX4_addLake_64 hF (fun jv11 hF => ?_)
      refine g_aload_n hX 0 dX4_addLake_67 rfl rfl ?_
      refine g_get hX fl_X4_22 (by decide) (by decide) dX4_addLake_68 hF (fun jv12 hF => ?_)
      refine g_aald hX (by decide) dX4_addLake_71 hF (fun jv13 hF => ?_)
      refine g_astore (lv' := [(5, 2, jv13), (0, 2, jx0), (1, 0, jx1), (2, 0, jx2), (3, 0, jx3), (4, 0, jx4)]) hX dX4_addLake_72 (by decide) rfl ?_
      refine g_aload hX 0 dX4_addLake_74 rfl ?_
      refine g_iload_n hX 2 dX4_addLake_76 rfl rfl ?_
      refine u_put hX fp_X4_28 (by decide) (by decide) dX4_addLake_77 hF (fun σ14 hF => ?_)
      refine g_aload hX 0 dX4_addLake_80 rfl ?_
      refine g_iload_n hX 3 dX4_addLake_82 rfl rfl ?_
      refine u_put hX fp_X4_31 (by decide) (by decide) dX4_addLake_83 hF (fun σ15 hF => ?_)
      refine g_aload hX 0 dX4_addLake_86 rfl ?_
      refine g_iload_n hX 4 dX4_addLake_88 rfl rfl ?_
      refine u_put hX fp_X4_34 (by decide) (by decide) dX4_addLake_89 hF (fun σ16 hF => ?_)
      refine g_aload hX 0 dX4_addLake_92 rfl ?_
      refine g_iload hX 5 dX4_addLake_94 rfl ?_
      refine u_put hX fp_X4_37 (by decide) (by decide) dX4_addLake_96 hF (fun σ17 hF => ?_)
      refine g_aload_n hX 1 dX4_addLake_99 rfl rfl ?_
      refine g_dup hX dX4_addLake_100 (by decide) ?_
      refine g_get hX fl_X4_22 (by decide) (by decide) dX4_addLake_101 hF (fun jv18 hF => ?_)
      refine g_iconst hX dX4_addLake_104 ?_
      refine g_iadd hX dX4_addLake_105 ?_
      refine u_put hX fp_X4_22 (by decide) (by decide) dX4_addLake_106 hF (fun σ19 hF => ?_)
      refine g_aload_n hX 1 dX4_addLake_109 rfl rfl ?_
      refine g_get hX fl_X4_22 (by decide) (by decide) dX4_addLake_110 hF (fun jv20 hF => ?_)
      refine g_iconst hX dX4_addLake_113 ?_
      refine g_isub hX dX4_addLake_114 ?_
      exact g_iret hX hR hQ hE dX4_addLake_115 hF
def F_X4_addLake (jx0 : Int) (jx1 : Int) (jx2 : Int) (jx3 : Int) (jx4 : Int) (σ : Hp) : Option (Int × Hp) :=
  (rd 5 σ jx0 1).bind fun jv1 => (rd 5 σ jx0 0).bind fun jv2 => (al 14 σ jv2).bind fun jv3 => bLt jv1 jv3 (F_X4_addLake_L18 jx0 jx1 jx2 jx3 jx4 fu 0 σ) (some ((-5), σ))
theorem M_X4_addLake (jx0 : Int) (jx1 : Int) (jx2 : Int) (jx3 : Int) (jx4 : Int) (σ : Hp) : Mn σ (F_X4_addLake jx0 jx1 jx2 jx3 jx4 σ) := by
  unfold F_X4_addLake
  repeat' first | exact Mn_ret | exact Mn_rz | exact M_X4_addLake_L18 _ _ _ _ _ _ _ _ | refine Mn_nm (fun _ => ?_) | refine Mn_nab (fun _ _ => ?_) | refine Mn_nwb (fun _ _ => ?_) | refine Mn_pw (fun _ => ?_) | refine Mn_pz (fun _ => ?_) | refine Mn_aw (fun _ => ?_) | refine Mn_az (fun _ => ?_) | refine Mn_aq (fun _ => ?_) | refine Mn_bo (fun _ => ?_) | refine Mn_bd ?_ (fun _ _ => ?_) | refine Mn_iv ?_ | refine Mn_bLt ?_ ?_ | refine Mn_bLe ?_ ?_ | refine Mn_bEq ?_ ?_ | refine Mn_bN ?_ ?_ | refine Mn_g3 ?_ | refine Mn_g33 ?_ | refine Mn_g66 ?_ | refine Mn_gD ?_
set_option maxRecDepth 100000 in
set_option maxHeartbeats 4000000 in
theorem T_X4_addLake (l : Launch) (D : va_G) (dA : Nat → ClassId) (b0 : Nat) (jx0 : Int) (jx1 : Int) (jx2 : Int) (jx3 : Int) (jx4 : Int) (σ σE : Hp) (r : Int) (hF : F_X4_addLake jx0 jx1 jx2 jx3 jx4 σ = some (r, σE)) : Ct l D dA b0 yX4_addLake cX4_addLake 6 (some .int) 0 0 [(2, jx0), (0, jx1), (0, jx2), (0, jx3), (0, jx4)] σ (some (pV 0 r)) σE := by
  refine Ct.of (lv0 := [(0, 2, jx0), (1, 0, jx1), (2, 0, jx2), (3, 0, jx3), (4, 0, jx4)]) (by decide) RX4 rfl (Nat.le_of_ble_eq_true rfl) rfl ?_ (M_X4_addLake jx0 jx1 jx2 jx3 jx4 σ r σE hF)
  intro p e R s m args below meth c hX hR hnm
  obtain ⟨Q, hQ⟩ : ∃ Q, Q = Qm D dA b0 σ.1 σ.2.1 below args s (some (pV 0 r)) σE := ⟨_, rfl⟩
  rw [← hQ]
  have hE : σE.1 = σE.1 ∧ σE.2.1 = σE.2.1 := ⟨rfl, rfl⟩
  unfold F_X4_addLake at hF
  refine g_aload_n hX 0 dX4_addLake_0 rfl rfl ?_
  refine g_get hX fl_X4_22 (by decide) (by decide) dX4_addLake_1 hF (fun jv1 hF => ?_)
  refine g_aload_n hX 0 dX4_addLake_4 rfl rfl ?_
  refine g_get hX fl_X4_11 (by decide) (by decide) dX4_addLake_5 hF (fun jv2 hF => ?_)
  refine g_alen hX (by decide) dX4_addLake_8 hF (fun jv3 hF => ?_)
  refine g_icmp_lt (tgt := 15) hX dX4_addLake_9 (by decide) hF (fun hc hF => ?_) (fun hc hF => ?_)
  · refine g_iconst hX dX4_addLake_15 ?_
    refine g_istore (lv' := [(5, 0, 0), (0, 2, jx0), (1, 0, jx1), (2, 0, jx2), (3, 0, jx3), (4, 0, jx4)]) hX dX4_addLake_16 (by decide) rfl ?_
    refine g_lvp (lv' := [(0, 2, jx0), (1, 0, jx1), (2, 0, jx2), (3, 0, jx3), (4, 0, jx4), (5, 0, 0)]) [1, 2, 3, 4, 5, 0] rfl ?_
    exact T_X4_addLake_L18 hX hR hnm hQ hE jx0 jx1 jx2 jx3 jx4  fu 0 σ hF
  · refine g_bipush hX dX4_addLake_12 (by decide) ?_
    exact g_iret hX hR hQ hE dX4_addLake_14 hF
end

section
variable {p : Program} {l : Launch} {e : Env} {R : Room} {s : State} {m : MethodId} {args : Array Value} {below : List Frame} {meth : Method} {c : Code} {D : va_G} {dA : Nat → ClassId} {b0 n0 m0 nE mE : Nat} {Q : State → Prop}
def F_X4_lakeAt (jx0 : Int) (jx1 : Int) (σ : Hp) : Option (Int × Hp) :=
  bLt jx1 0 (some ((-1), σ)) ((rd 5 σ jx0 1).bind fun jv1 => bLt jx1 jv1 ((rd 5 σ jx0 0).bind fun jv2 => (al 14 σ jv2).bind fun jv3 => bLt jx1 jv3 ((rd 5 σ jx0 0).bind fun jv4 => (ar 14 σ jv4 jx1).bind fun jv5 => some (jv5, σ)) (some ((-1), σ))) (some ((-1), σ)))
theorem M_X4_lakeAt (jx0 : Int) (jx1 : Int) (σ : Hp) : Mn σ (F_X4_lakeAt jx0 jx1 σ) := by
  unfold F_X4_lakeAt
  repeat' first | exact Mn_ret | exact Mn_rz | refine Mn_nm (fun _ => ?_) | refine Mn_nab (fun _ _ => ?_) | refine Mn_nwb (fun _ _ => ?_) | refine Mn_pw (fun _ => ?_) | refine Mn_pz (fun _ => ?_) | refine Mn_aw (fun _ => ?_) | refine Mn_az (fun _ => ?_) | refine Mn_aq (fun _ => ?_) | refine Mn_bo (fun _ => ?_) | refine Mn_bd ?_ (fun _ _ => ?_) | refine Mn_iv ?_ | refine Mn_bLt ?_ ?_ | refine Mn_bLe ?_ ?_ | refine Mn_bEq ?_ ?_ | refine Mn_bN ?_ ?_ | refine Mn_g3 ?_ | refine Mn_g33 ?_ | refine Mn_g66 ?_ | refine Mn_gD ?_
set_option maxRecDepth 100000 in
set_option maxHeartbeats 4000000 in
theorem T_X4_lakeAt (l : Launch) (D : va_G) (dA : Nat → ClassId) (b0 : Nat) (jx0 : Int) (jx1 : Int) (σ σE : Hp) (r : Int) (hF : F_X4_lakeAt jx0 jx1 σ = some (r, σE)) : Ct l D dA b0 yX4_lakeAt cX4_lakeAt 2 (some (.object "LakeChain$Lake")) 0 0 [(2, jx0), (0, jx1)] σ (some (pV 2 r)) σE := by
  refine Ct.of (lv0 := [(0, 2, jx0), (1, 0, jx1)]) (by decide) RX4 rfl (Nat.le_of_ble_eq_true rfl) rfl ?_ (M_X4_lakeAt jx0 jx1 σ r σE hF)
  intro p e R s m args below meth c hX hR hnm
  obtain ⟨Q, hQ⟩ : ∃ Q, Q = Qm D dA b0 σ.1 σ.2.1 below args s (some (pV 2 r)) σE := ⟨_, rfl⟩
  rw [← hQ]
  have hE : σE.1 = σE.1 ∧ σE.2.1 = σE.2.1 := ⟨rfl, rfl⟩
  unfold F_X4_lakeAt at hF
  refine g_iload_n hX 1 dX4_lakeAt_0 rfl rfl ?_
  refine g_if_lt (tgt := 30) hX dX4_lakeAt_1 (by decide) hF (fun hc hF => ?_) (fun hc hF => ?_)
  · refine g_null hX dX4_lakeAt_30 ?_
    exact g_aret hX hR hQ hE dX4_lakeAt_31 hF
  · refine g_iload_n hX 1 dX4_lakeAt_4 rfl rfl ?_
    refine g_aload_n hX 0 dX4_lakeAt_5 rfl rfl ?_
    refine g_get hX fl_X4_22 (by decide) (by decide) dX4_lakeAt_6 hF (fun jv1 hF => ?_)
    refine g_icmp_ge (tgt := 30) hX dX4_lakeAt_9 (by decide) hF (fun hc hF => ?_) (fun hc hF => ?_)
    · refine g_iload_n hX 1 dX4_lakeAt_12 rfl rfl ?_
      refine g_aload_n hX 0 dX4_lakeAt_13 rfl rfl ?_
      refine g_get hX fl_X4_11 (by decide) (by decide) dX4_lakeAt_14 hF (fun jv2 hF => ?_)
      refine g_alen hX (by decide) dX4_lakeAt_17 hF (fun jv3 hF => ?_)
      refine g_icmp_ge (tgt := 30) hX dX4_lakeAt_18 (by decide) hF (fun hc hF => ?_) (fun hc hF => ?_)
      · refine g_aload_n hX 0 dX4_lakeAt_21 rfl rfl ?_
        refine g_get hX fl_X4_11 (by decide) (by decide) dX4_lakeAt_22 hF (fun jv4 hF => ?_)
        refine g_iload_n hX 1 dX4_lakeAt_25 rfl rfl ?_
        refine g_aald hX (by decide) dX4_lakeAt_26 hF (fun jv5 hF => ?_)
        refine g_goto (tgt := 31) hX dX4_lakeAt_27 (by decide) ?_
        exact g_aret hX hR hQ hE dX4_lakeAt_31 hF
      · refine g_null hX dX4_lakeAt_30 ?_
        exact g_aret hX hR hQ hE dX4_lakeAt_31 hF
    · refine g_null hX dX4_lakeAt_30 ?_
      exact g_aret hX hR hQ hE dX4_lakeAt_31 hF
end

section
variable {p : Program} {l : Launch} {e : Env} {R : Room} {s : State} {m : MethodId} {args : Array Value} {below : List Frame} {meth : Method} {c : Code} {D : va_G} {dA : Nat → ClassId} {b0 n0 m0 nE mE : Nat} {Q : State → Prop}
def F_X4_hasState (jx0 : Int) (jx1 : Int) (σ : Hp) : Option (Int × Hp) :=
  bLt jx1 0 (rz 0 σ) ((rd 5 σ jx0 2).bind fun jv1 => bLt jx1 jv1 (rz 1 σ) (rz 0 σ))
theorem M_X4_hasState (jx0 : Int) (jx1 : Int) (σ : Hp) : Mn σ (F_X4_hasState jx0 jx1 σ) := by
  unfold F_X4_hasState
  repeat' first | exact Mn_ret | exact Mn_rz | refine Mn_nm (fun _ => ?_) | refine Mn_nab (fun _ _ => ?_) | refine Mn_nwb (fun _ _ => ?_) | refine Mn_pw (fun _ => ?_) | refine Mn_pz (fun _ => ?_) | refine Mn_aw (fun _ => ?_) | refine Mn_az (fun _ => ?_) | refine Mn_aq (fun _ => ?_) | refine Mn_bo (fun _ => ?_) | refine Mn_bd ?_ (fun _ _ => ?_) | refine Mn_iv ?_ | refine Mn_bLt ?_ ?_ | refine Mn_bLe ?_ ?_ | refine Mn_bEq ?_ ?_ | refine Mn_bN ?_ ?_ | refine Mn_g3 ?_ | refine Mn_g33 ?_ | refine Mn_g66 ?_ | refine Mn_gD ?_
set_option maxRecDepth 100000 in
set_option maxHeartbeats 4000000 in
theorem T_X4_hasState (l : Launch) (D : va_G) (dA : Nat → ClassId) (b0 : Nat) (jx0 : Int) (jx1 : Int) (σ σE : Hp) (r : Int) (hF : F_X4_hasState jx0 jx1 σ = some (r, σE)) : Ct l D dA b0 yX4_hasState cX4_hasState 2 (some .boolean) 0 0 [(2, jx0), (0, jx1)] σ (some (pV 0 r)) σE := by
  refine Ct.of (lv0 := [(0, 2, jx0), (1, 0, jx1)]) (by decide) RX4 rfl (Nat.le_of_ble_eq_true rfl) rfl ?_ (M_X4_hasState jx0 jx1 σ r σE hF)
  intro p e R s m args below meth c hX hR hnm
  obtain ⟨Q, hQ⟩ : ∃ Q, Q = Qm D dA b0 σ.1 σ.2.1 below args s (some (pV 0 r)) σE := ⟨_, rfl⟩
  rw [← hQ]
  have hE : σE.1 = σE.1 ∧ σE.2.1 = σE.2.1 := ⟨rfl, rfl⟩
  unfold F_X4_hasState at hF
  refine g_iload_n hX 1 dX4_hasState_0 rfl rfl ?_
  refine g_if_lt (tgt := 16) hX dX4_hasState_1 (by decide) hF (fun hc hF => ?_) (fun hc hF => ?_)
  · refine g_iconst hX dX4_hasState_16 ?_
    exact g_zret hX hR hQ hE dX4_hasState_17 hF
  · refine g_iload_n hX 1 dX4_hasState_4 rfl rfl ?_
    refine g_aload_n hX 0 dX4_hasState_5 rfl rfl ?_
    refine g_get hX fl_X4_17 (by decide) (by decide) dX4_hasState_6 hF (fun jv1 hF => ?_)
    refine g_icmp_ge (tgt := 16) hX dX4_hasState_9 (by decide) hF (fun hc hF => ?_) (fun hc hF => ?_)
    · refine g_iconst hX dX4_hasState_12 ?_
      refine g_goto (tgt := 17) hX dX4_hasState_13 (by decide) ?_
      exact g_zret hX hR hQ hE dX4_hasState_17 hF
    · refine g_iconst hX dX4_hasState_16 ?_
      exact g_zret hX hR hQ hE dX4_hasState_17 hF
end

section
variable {p : Program} {l : Launch} {e : Env} {R : Room} {s : State} {m : MethodId} {args : Array Value} {below : List Frame} {meth : Method} {c : Code} {D : va_G} {dA : Nat → ClassId} {b0 n0 m0 nE mE : Nat} {Q : State → Prop}
def F_X4_measureOf (jx0 : Int) (jx1 : Int) (jx2 : Int) (σ : Hp) : Option (Int × Hp) :=
  bLt jx2 0 (some (0, σ)) ((rd 5 σ jx0 0).bind fun jv1 => (al 14 σ jv1).bind fun jv2 => bLt jx2 jv2 ((rd 5 σ jx0 0).bind fun jv3 => (ar 14 σ jv3 jx2).bind fun jv4 => (rd 1 σ jv4 8).bind fun jv5 => (rd 5 σ jx0 0).bind fun jv6 => (ar 14 σ jv6 jx2).bind fun jv7 => (rd 1 σ jv7 2).bind fun jv8 => bLt jv5 1 (some (0, σ)) (bLt (jv8 + 1) 1 (some (0, σ)) (gD jx1 jv5 (gD (Int.tdiv jx1 jv5) (jv8 + 1) (some ((Int.tmod (Int.tdiv jx1 jv5) (jv8 + 1)), σ)))))) (some (0, σ)))
theorem M_X4_measureOf (jx0 : Int) (jx1 : Int) (jx2 : Int) (σ : Hp) : Mn σ (F_X4_measureOf jx0 jx1 jx2 σ) := by
  unfold F_X4_measureOf
  repeat' first | exact Mn_ret | exact Mn_rz | refine Mn_nm (fun _ => ?_) | refine Mn_nab (fun _ _ => ?_) | refine Mn_nwb (fun _ _ => ?_) | refine Mn_pw (fun _ => ?_) | refine Mn_pz (fun _ => ?_) | refine Mn_aw (fun _ => ?_) | refine Mn_az (fun _ => ?_) | refine Mn_aq (fun _ => ?_) | refine Mn_bo (fun _ => ?_) | refine Mn_bd ?_ (fun _ _ => ?_) | refine Mn_iv ?_ | refine Mn_bLt ?_ ?_ | refine Mn_bLe ?_ ?_ | refine Mn_bEq ?_ ?_ | refine Mn_bN ?_ ?_ | refine Mn_g3 ?_ | refine Mn_g33 ?_ | refine Mn_g66 ?_ | refine Mn_gD ?_
set_option maxRecDepth 100000 in
set_option maxHeartbeats 4000000 in
theorem T_X4_measureOf (l : Launch) (D : va_G) (dA : Nat → ClassId) (b0 : Nat) (jx0 : Int) (jx1 : Int) (jx2 : Int) (σ σE : Hp) (r : Int) (hF : F_X4_measureOf jx0 jx1 jx2 σ = some (r, σE)) : Ct l D dA b0 yX4_measureOf cX4_measureOf 5 (some .int) 0 0 [(2, jx0), (0, jx1), (0, jx2)] σ (some (pV 0 r)) σE := by
  refine Ct.of (lv0 := [(0, 2, jx0), (1, 0, jx1), (2, 0, jx2)]) (by decide) RX4 rfl (Nat.le_of_ble_eq_true rfl) rfl ?_ (M_X4_measureOf jx0 jx1 jx2 σ r σE hF)
  intro p e R s m args below meth c hX hR hnm
  obtain ⟨Q, hQ⟩ : ∃ Q, Q = Qm D dA b0 σ.1 σ.2.1 below args s (some (pV 0 r)) σE := ⟨_, rfl⟩
  rw [← hQ]
  have hE : σE.1 = σE.1 ∧ σE.2.1 = σE.2.1 := ⟨rfl, rfl⟩
  unfold F_X4_measureOf at hF
  refine g_iload_n hX 2 dX4_measureOf_0 rfl rfl ?_
  refine g_if_lt (tgt := 13) hX dX4_measureOf_1 (by decide) hF (fun hc hF => ?_) (fun hc hF => ?_)
  · refine g_iconst hX dX4_measureOf_13 ?_
    exact g_iret hX hR hQ hE dX4_measureOf_14 hF
  · refine g_iload_n hX 2 dX4_measureOf_4 rfl rfl ?_
    refine g_aload_n hX 0 dX4_measureOf_5 rfl rfl ?_
    refine g_get hX fl_X4_11 (by decide) (by decide) dX4_measureOf_6 hF (fun jv1 hF => ?_)
    refine g_alen hX (by decide) dX4_measureOf_9 hF (fun jv2 hF => ?_)
    refine g_icmp_lt (tgt := 15) hX dX4_measureOf_10 (by decide) hF (fun hc hF => ?_) (fun hc hF => ?_)
    · refine g_aload_n hX 0 dX4_measureOf_15 rfl rfl ?_
      refine g_get hX fl_X4_11 (by decide) (by decide) dX4_measureOf_16 hF (fun jv3 hF => ?_)
      refine g_iload_n hX 2 dX4_measureOf_19 rfl rfl ?_
      refine g_aald hX (by decide) dX4_measureOf_20 hF (fun jv4 hF => ?_)
      refine g_get hX fl_X4_25 (by decide) (by decide) dX4_measureOf_21 hF (fun jv5 hF => ?_)
      refine g_istore_n (lv' := [(3, 0, jv5), (0, 2, jx0), (1, 0, jx1), (2, 0, jx2)]) hX dX4_measureOf_24 rfl (by decide) rfl ?_
      refine g_aload_n hX 1 dX4_measureOf_25 rfl rfl ?_
      refine g_get hX fl_X4_11 (by decide) (by decide) dX4_measureOf_26 hF (fun jv6 hF => ?_)
      refine g_iload_n hX 3 dX4_measureOf_29 rfl rfl ?_
      refine g_aald hX (by decide) dX4_measureOf_30 hF (fun jv7 hF => ?_)
      refine g_get hX fl_X4_31 (by decide) (by decide) dX4_measureOf_31 hF (fun jv8 hF => ?_)
      refine g_iconst hX dX4_measureOf_34 ?_
      refine g_iadd hX dX4_measureOf_35 ?_
      refine g_istore (lv' := [(4, 0, (jv8 + 1)), (3, 0, jv5), (0, 2, jx0), (1, 0, jx1), (2, 0, jx2)]) hX dX4_measureOf_36 (by decide) rfl ?_
      refine g_iload_n hX 1 dX4_measureOf_38 rfl rfl ?_
      refine g_iconst hX dX4_measureOf_39 ?_
      refine g_icmp_lt (tgt := 49) hX dX4_measureOf_40 (by decide) hF (fun hc hF => ?_) (fun hc hF => ?_)
      · refine g_iconst hX dX4_measureOf_49 ?_
        refine g_goto (tgt := 59) hX dX4_measureOf_50 (by decide) ?_
        exact g_iret hX hR hQ hE dX4_measureOf_59 hF
      · refine g_iload hX 0 dX4_measureOf_43 rfl ?_
        refine g_iconst hX dX4_measureOf_45 ?_
        refine g_icmp_ge (tgt := 53) hX dX4_measureOf_46 (by decide) hF (fun hc hF => ?_) (fun hc hF => ?_)
        · refine g_iconst hX dX4_measureOf_49 ?_
          refine g_goto (tgt := 59) hX dX4_measureOf_50 (by decide) ?_
          exact g_iret hX hR hQ hE dX4_measureOf_59 hF
        · refine g_iload_n hX 3 dX4_measureOf_53 rfl rfl ?_
          refine g_iload_n hX 1 dX4_measureOf_54 rfl rfl ?_
          refine g_idiv hX dX4_measureOf_55 hF (fun hF => ?_)
          refine g_iload hX 0 dX4_measureOf_56 rfl ?_
          refine g_irem hX dX4_measureOf_58 hF (fun hF => ?_)
          exact g_iret hX hR hQ hE dX4_measureOf_59 hF
    · refine g_iconst hX dX4_measureOf_13 ?_
      exact g_iret hX hR hQ hE dX4_measureOf_14 hF
end

section
variable {p : Program} {l : Launch} {e : Env} {R : Room} {s : State} {m : MethodId} {args : Array Value} {below : List Frame} {meth : Method} {c : Code} {D : va_G} {dA : Nat → ClassId} {b0 n0 m0 nE mE : Nat} {Q : State → Prop}
def F_X4_sumOf_L4 (jx0 : Int) (jx1 : Int) : Nat → Int → Int → Hp → Option (Int × Hp)
  | 0, _, _, _ => none
  | n + 1, jx2, jx3, σ => (rd 5 σ jx0 1).bind fun jv1 => bLt jx3 jv1 (bd (iv 5 σ jx0 (F_X4_measureOf  jx0 jx1 jx3 σ)) fun jv2 σ3 => (F_X4_sumOf_L4 jx0 jx1 n) (jx2 + jv2) (jx3 + 1) σ3) (some (jx2, σ))
theorem M_X4_sumOf_L4 (jx0 : Int) (jx1 : Int) : ∀ (n : Nat) (jx2 : Int) (jx3 : Int) (σ : Hp), Mn σ (F_X4_sumOf_L4 jx0 jx1 n jx2 jx3 σ) := by
  intro n
  induction n with
  | zero => intros; rw [F_X4_sumOf_L4]; exact Mn_none
  | succ n hk4 =>
    intros
    rw [F_X4_sumOf_L4]
    repeat' first | exact Mn_ret | exact Mn_rz | exact hk4 _ _  _ | exact M_X4_measureOf _ _ _ _ | refine Mn_nm (fun _ => ?_) | refine Mn_nab (fun _ _ => ?_) | refine Mn_nwb (fun _ _ => ?_) | refine Mn_pw (fun _ => ?_) | refine Mn_pz (fun _ => ?_) | refine Mn_aw (fun _ => ?_) | refine Mn_az (fun _ => ?_) | refine Mn_aq (fun _ => ?_) | refine Mn_bo (fun _ => ?_) | refine Mn_bd ?_ (fun _ _ => ?_) | refine Mn_iv ?_ | refine Mn_bLt ?_ ?_ | refine Mn_bLe ?_ ?_ | refine Mn_bEq ?_ ?_ | refine Mn_bN ?_ ?_ | refine Mn_g3 ?_ | refine Mn_g33 ?_ | refine Mn_g66 ?_ | refine Mn_gD ?_
set_option maxRecDepth 100000 in
set_option maxHeartbeats 4000000 in
theorem T_X4_sumOf_L4 {r : Int} {σE : Hp} (hX : Cx p R s m args meth c D dA b0 n0 m0 4 nE mE cX4_sumOf RX4 1 24) (hR : Rx meth (some .int)) (hnm : meth.name = yX4_sumOf.name) (hQ : Q = Qm D dA b0 n0 m0 below args s (some (pV 0 r)) σE) (hE : nE = σE.1 ∧ mE = σE.2.1) (jx0 : Int) (jx1 : Int) : ∀ (n : Nat) (jx2 : Int) (jx3 : Int) (σ : Hp), F_X4_sumOf_L4 jx0 jx1 n jx2 jx3 σ = some (r, σE) → G p l e R s m args below meth c D dA b0 n0 m0 4 nE mE Q 4 [(0, 2, jx0), (1, 0, jx1), (2, 0, jx2), (3, 0, jx3)] [] σ := by
  intro n
  induction n with
  | zero =>
    intro jx2 jx3 σ hF
    rw [F_X4_sumOf_L4] at hF
    cases hF
  | succ n hk4 =>
    intro jx2 jx3 σ hF
    rw [F_X4_sumOf_L4] at hF
    refine g_iload_n hX 3 dX4_sumOf_4 rfl rfl ?_
    refine g_aload_n hX 0 dX4_sumOf_5 rfl rfl ?_
    refine g_get hX fl_X4_22 (by decide) (by decide) dX4_sumOf_6 hF (fun jv1 hF => ?_)
    refine g_icmp_ge (tgt := 27) hX dX4_sumOf_9 (by decide) hF (fun hc hF => ?_) (fun hc hF => ?_)
    · refine g_iload_n hX 2 dX4_sumOf_12 rfl rfl ?_
      refine g_aload_n hX 0 dX4_sumOf_13 rfl rfl ?_
      refine g_iload_n hX 1 dX4_sumOf_14 rfl rfl ?_
      refine g_iload_n hX 3 dX4_sumOf_15 rfl rfl ?_
      refine g_callV (t := 0) (ci := 4) (rest := [(0, jx2)]) [(0, jx1), (0, jx3)] hX cw_X4_40 rfl (by decide) (by decide) (fun r σ1 h => T_X4_measureOf l D dA b0  jx0 jx1 jx3 σ σ1 r h) ⟨by decide, by decide⟩ rfl rfl (Nat.le_of_ble_eq_true rfl) dX4_sumOf_16 hF (fun jv2 σ3 hF => ?_)
      refine g_iadd hX dX4_sumOf_19 ?_
      refine g_istore_n (lv' := [(2, 0, (jx2 + jv2)), (0, 2, jx0), (1, 0, jx1), (3, 0, jx3)]) hX dX4_sumOf_20 rfl (by decide) rfl ?_
      refine g_iinc (lv' := [(3, 0, (jx3 + 1)), (2, 0, (jx2 + jv2)), (0, 2, jx0), (1, 0, jx1)]) hX 3 dX4_sumOf_21 rfl (by decide) rfl ?_
      refine g_goto (tgt := 4) hX dX4_sumOf_24 (by decide) ?_
      refine g_lvp (lv' := [(0, 2, jx0), (1, 0, jx1), (2, 0, (jx2 + jv2)), (3, 0, (jx3 + 1))]) [2, 3, 1, 0] rfl ?_
      exact hk4 (jx2 + jv2) (jx3 + 1) σ3 hF
    · refine g_iload_n hX 2 dX4_sumOf_27 rfl rfl ?_
      exact g_iret hX hR hQ hE dX4_sumOf_28 hF
def F_X4_sumOf (jx0 : Int) (jx1 : Int) (σ : Hp) : Option (Int × Hp) :=
  F_X4_sumOf_L4 jx0 jx1 fu 0 0 σ
theorem M_X4_sumOf (jx0 : Int) (jx1 : Int) (σ : Hp) : Mn σ (F_X4_sumOf jx0 jx1 σ) := by
  unfold F_X4_sumOf
  repeat' first | exact Mn_ret | exact Mn_rz | exact M_X4_sumOf_L4 _ _ _ _ _ _ | refine Mn_nm (fun _ => ?_) | refine Mn_nab (fun _ _ => ?_) | refine Mn_nwb (fun _ _ => ?_) | refine Mn_pw (fun _ => ?_) | refine Mn_pz (fun _ => ?_) | refine Mn_aw (fun _ => ?_) | refine Mn_az (fun _ => ?_) | refine Mn_aq (fun _ => ?_) | refine Mn_bo (fun _ => ?_) | refine Mn_bd ?_ (fun _ _ => ?_) | refine Mn_iv ?_ | refine Mn_bLt ?_ ?_ | refine Mn_bLe ?_ ?_ | refine Mn_bEq ?_ ?_ | refine Mn_bN ?_ ?_ | refine Mn_g3 ?_ | refine Mn_g33 ?_ | refine Mn_g66 ?_ | refine Mn_gD ?_
set_option maxRecDepth 100000 in
set_option maxHeartbeats 4000000 in
theorem T_X4_sumOf (l : Launch) (D : va_G) (dA : Nat → ClassId) (b0 : Nat) (jx0 : Int) (jx1 : Int) (σ σE : Hp) (r : Int) (hF : F_X4_sumOf jx0 jx1 σ = some (r, σE)) : Ct l D dA b0 yX4_sumOf cX4_sumOf 4 (some .int) 1 24 [(2, jx0), (0, jx1)] σ (some (pV 0 r)) σE := by
  refine Ct.of (lv0 := [(0, 2, jx0), (1, 0, jx1)]) (by decide) RX4 rfl (Nat.le_of_ble_eq_true rfl) rfl ?_ (M_X4_sumOf jx0 jx1 σ r σE hF)
  intro p e R s m args below meth c hX hR hnm
  obtain ⟨Q, hQ⟩ : ∃ Q, Q = Qm D dA b0 σ.1 σ.2.1 below args s (some (pV 0 r)) σE := ⟨_, rfl⟩
  rw [← hQ]
  have hE : σE.1 = σE.1 ∧ σE.2.1 = σE.2.1 := ⟨rfl, rfl⟩
  unfold F_X4_sumOf at hF
  refine g_iconst hX dX4_sumOf_0 ?_
  refine g_istore_n (lv' := [(2, 0, 0), (0, 2, jx0), (1, 0, jx1)]) hX dX4_sumOf_1 rfl (by decide) rfl ?_
  refine g_iconst hX dX4_sumOf_2 ?_
  refine g_istore_n (lv' := [(3, 0, 0), (2, 0, 0), (0, 2, jx0), (1, 0, jx1)]) hX dX4_sumOf_3 rfl (by decide) rfl ?_
  refine g_lvp (lv' := [(0, 2, jx0), (1, 0, jx1), (2, 0, 0), (3, 0, 0)]) [2, 3, 1, 0] rfl ?_
  exact T_X4_sumOf_L4 hX hR hnm hQ hE jx0 jx1  fu 0 0 σ hF
end

section
variable {p : Program} {l : Launch} {e : Env} {R : Room} {s : State} {m : MethodId} {args : Array Value} {below : List Frame} {meth : Method} {c : Code} {D : va_G} {dA : Nat → ClassId} {b0 n0 m0 nE mE : Nat} {Q : State → Prop}
def F_X4_endWorth_L5 (jx0 : Int) (jx1 : Int) : Nat → Int → Int → Hp → Option (Int × Hp)
  | 0, _, _, _ => none
  | n + 1, jx2, jx4, σ => (rd 5 σ jx0 1).bind fun jv1 => bLt jx4 jv1 ((rd 5 σ jx0 0).bind fun jv2 => (ar 14 σ jv2 jx4).bind fun jv3 => (rd 1 σ jv3 5).bind fun jv4 => g3 jv4 (bd (iv 5 σ jx0 (F_X4_measureOf  jx0 jx1 jx4 σ)) fun jv5 σ6 => g3 jv5 (nm ((jx2 + (jv4 * jv5))) fun jv7 => (F_X4_endWorth_L5 jx0 jx1 n) jv7 (jx4 + 1) σ6))) (some (jx2, σ))
theorem M_X4_endWorth_L5 (jx0 : Int) (jx1 : Int) : ∀ (n : Nat) (jx2 : Int) (jx4 : Int) (σ : Hp), Mn σ (F_X4_endWorth_L5 jx0 jx1 n jx2 jx4 σ) := by
  intro n
  induction n with
  | zero => intros; rw [F_X4_endWorth_L5]; exact Mn_none
  | succ n hk5 =>
    intros
    rw [F_X4_endWorth_L5]
    repeat' first | exact Mn_ret | exact Mn_rz | exact hk5 _ _  _ | exact M_X4_measureOf _ _ _ _ | refine Mn_nm (fun _ => ?_) | refine Mn_nab (fun _ _ => ?_) | refine Mn_nwb (fun _ _ => ?_) | refine Mn_pw (fun _ => ?_) | refine Mn_pz (fun _ => ?_) | refine Mn_aw (fun _ => ?_) | refine Mn_az (fun _ => ?_) | refine Mn_aq (fun _ => ?_) | refine Mn_bo (fun _ => ?_) | refine Mn_bd ?_ (fun _ _ => ?_) | refine Mn_iv ?_ | refine Mn_bLt ?_ ?_ | refine Mn_bLe ?_ ?_ | refine Mn_bEq ?_ ?_ | refine Mn_bN ?_ ?_ | refine Mn_g3 ?_ | refine Mn_g33 ?_ | refine Mn_g66 ?_ | refine Mn_gD ?_
set_option maxRecDepth 100000 in
set_option maxHeartbeats 4000000 in
theorem T_X4_endWorth_L5 {r : Int} {σE : Hp} (hX : Cx p R s m args meth c D dA b0 n0 m0 5 nE mE cX4_endWorth RX4 1 24) (hR : Rx meth (some .long)) (hnm : meth.name = yX4_endWorth.name) (hQ : Q = Qm D dA b0 n0 m0 below args s (some (pV 1 r)) σE) (hE : nE = σE.1 ∧ mE = σE.2.1) (jx0 : Int) (jx1 : Int) : ∀ (n : Nat) (jx2 : Int) (jx4 : Int) (σ : Hp), F_X4_endWorth_L5 jx0 jx1 n jx2 jx4 σ = some (r, σE) → G p l e R s m args below meth c D dA b0 n0 m0 5 nE mE Q 5 [(0, 2, jx0), (1, 0, jx1), (2, 1, jx2), (4, 0, jx4)] [] σ := by
  intro n
  induction n with
  | zero =>
    intro jx2 jx4 σ hF
    rw [F_X4_endWorth_L5] at hF
    cases hF
  | succ n hk5 =>
    intro jx2 jx4 σ hF
    rw [F_X4_endWorth_L5] at hF
    refine g_iload hX 3 dX4_endWorth_5 rfl ?_
    refine g_aload_n hX 0 dX4_endWorth_7 rfl rfl ?_
    refine g_get hX fl_X4_22 (by decide) (by decide) dX4_endWorth_8 hF (fun jv1 hF => ?_)
    refine g_icmp_ge (tgt := 43) hX dX4_endWorth_11 (by decide) hF (fun hc hF => ?_) (fun hc hF => ?_)
    · refine g_lload_n hX 2 dX4_endWorth_14 rfl rfl ?_
      refine g_aload_n hX 0 dX4_endWorth_15 rfl rfl ?_
      refine g_get hX fl_X4_11 (by decide) (by decide) dX4_endWorth_16 hF (fun jv2 hF => ?_)
      refine g_iload hX 3 dX4_endWorth_19 rfl ?_
      refine g_aald hX (by decide) dX4_endWorth_21 hF (fun jv3 hF => ?_)
      refine g_get hX fl_X4_44 (by decide) (by decide) dX4_endWorth_22 hF (fun jv4 hF => ?_)
      refine g_i2l hX dX4_endWorth_25 hF (fun hF => ?_)
      refine g_aload_n hX 0 dX4_endWorth_26 rfl rfl ?_
      refine g_iload_n hX 1 dX4_endWorth_27 rfl rfl ?_
      refine g_iload hX 3 dX4_endWorth_28 rfl ?_
      refine g_callV (t := 0) (ci := 4) (rest := [(1, jv4), (1, jx2)]) [(0, jx1), (0, jx4)] hX cw_X4_40 rfl (by decide) (by decide) (fun r σ1 h => T_X4_measureOf l D dA b0  jx0 jx1 jx4 σ σ1 r h) ⟨by decide, by decide⟩ rfl rfl (Nat.le_of_ble_eq_true rfl) dX4_endWorth_30 hF (fun jv5 σ6 hF => ?_)
      refine g_i2l hX dX4_endWorth_33 hF (fun hF => ?_)
      refine g_lmul hX dX4_endWorth_34 ?_
      refine g_ladd hX dX4_endWorth_35 ?_
      refine g_nm hF (fun jv7 hF => ?_)
      refine g_lstore_n (lv' := [(2, 1, jv7), (0, 2, jx0), (1, 0, jx1), (4, 0, jx4)]) hX dX4_endWorth_36 rfl (by decide) rfl ?_
      refine g_iinc (lv' := [(4, 0, (jx4 + 1)), (2, 1, jv7), (0, 2, jx0), (1, 0, jx1)]) hX 3 dX4_endWorth_37 rfl (by decide) rfl ?_
      refine g_goto (tgt := 5) hX dX4_endWorth_40 (by decide) ?_
      refine g_lvp (lv' := [(0, 2, jx0), (1, 0, jx1), (2, 1, jv7), (4, 0, (jx4 + 1))]) [2, 3, 1, 0] rfl ?_
      exact hk5 jv7 (jx4 + 1) σ6 hF
    · refine g_lload_n hX 2 dX4_endWorth_43 rfl rfl ?_
      exact g_lret hX hR hQ hE dX4_endWorth_44 hF
def F_X4_endWorth (jx0 : Int) (jx1 : Int) (σ : Hp) : Option (Int × Hp) :=
  F_X4_endWorth_L5 jx0 jx1 fu 0 0 σ
theorem M_X4_endWorth (jx0 : Int) (jx1 : Int) (σ : Hp) : Mn σ (F_X4_endWorth jx0 jx1 σ) := by
  unfold F_X4_endWorth
  repeat' first | exact Mn_ret | exact Mn_rz | exact M_X4_endWorth_L5 _ _ _ _ _ _ | refine Mn_nm (fun _ => ?_) | refine Mn_nab (fun _ _ => ?_) | refine Mn_nwb (fun _ _ => ?_) | refine Mn_pw (fun _ => ?_) | refine Mn_pz (fun _ => ?_) | refine Mn_aw (fun _ => ?_) | refine Mn_az (fun _ => ?_) | refine Mn_aq (fun _ => ?_) | refine Mn_bo (fun _ => ?_) | refine Mn_bd ?_ (fun _ _ => ?_) | refine Mn_iv ?_ | refine Mn_bLt ?_ ?_ | refine Mn_bLe ?_ ?_ | refine Mn_bEq ?_ ?_ | refine Mn_bN ?_ ?_ | refine Mn_g3 ?_ | refine Mn_g33 ?_ | refine Mn_g66 ?_ | refine Mn_gD ?_
set_option maxRecDepth 100000 in
set_option maxHeartbeats 4000000 in
theorem T_X4_endWorth (l : Launch) (D : va_G) (dA : Nat → ClassId) (b0 : Nat) (jx0 : Int) (jx1 : Int) (σ σE : Hp) (r : Int) (hF : F_X4_endWorth jx0 jx1 σ = some (r, σE)) : Ct l D dA b0 yX4_endWorth cX4_endWorth 5 (some .long) 1 24 [(2, jx0), (0, jx1)] σ (some (pV 1 r)) σE := by
  refine Ct.of (lv0 := [(0, 2, jx0), (1, 0, jx1)]) (by decide) RX4 rfl (Nat.le_of_ble_eq_true rfl) rfl ?_ (M_X4_endWorth jx0 jx1 σ r σE hF)
  intro p e R s m args below meth c hX hR hnm
  obtain ⟨Q, hQ⟩ : ∃ Q, Q = Qm D dA b0 σ.1 σ.2.1 below args s (some (pV 1 r)) σE := ⟨_, rfl⟩
  rw [← hQ]
  have hE : σE.1 = σE.1 ∧ σE.2.1 = σE.2.1 := ⟨rfl, rfl⟩
  unfold F_X4_endWorth at hF
  refine g_lconst (z := 0) hX dX4_endWorth_0 rfl ?_
  refine g_lstore_n (lv' := [(2, 1, 0), (0, 2, jx0), (1, 0, jx1)]) hX dX4_endWorth_1 rfl (by decide) rfl ?_
  refine g_iconst hX dX4_endWorth_2 ?_
  refine g_istore (lv' := [(4, 0, 0), (2, 1, 0), (0, 2, jx0), (1, 0, jx1)]) hX dX4_endWorth_3 (by decide) rfl ?_
  refine g_lvp (lv' := [(0, 2, jx0), (1, 0, jx1), (2, 1, 0), (4, 0, 0)]) [2, 3, 1, 0] rfl ?_
  exact T_X4_endWorth_L5 hX hR hnm hQ hE jx0 jx1  fu 0 0 σ hF
end

section
variable {p : Program} {l : Launch} {e : Env} {R : Room} {s : State} {m : MethodId} {args : Array Value} {below : List Frame} {meth : Method} {c : Code} {D : va_G} {dA : Nat → ClassId} {b0 n0 m0 nE mE : Nat} {Q : State → Prop}
def F_X4_isBelowLeast_L2 (jx0 : Int) (jx1 : Int) : Nat → Int → Hp → Option (Int × Hp)
  | 0, _, _ => none
  | n + 1, jx2, σ => (rd 5 σ jx0 1).bind fun jv1 => bLt jx2 jv1 (bd (iv 5 σ jx0 (F_X4_measureOf  jx0 jx1 jx2 σ)) fun jv2 σ3 => (rd 5 σ3 jx0 0).bind fun jv4 => (ar 14 σ3 jv4 jx2).bind fun jv5 => (rd 1 σ3 jv5 1).bind fun jv6 => bLt jv2 jv6 (rz 1 σ3) ((F_X4_isBelowLeast_L2 jx0 jx1 n) (jx2 + 1) σ3)) (rz 0 σ)
theorem M_X4_isBelowLeast_L2 (jx0 : Int) (jx1 : Int) : ∀ (n : Nat) (jx2 : Int) (σ : Hp), Mn σ (F_X4_isBelowLeast_L2 jx0 jx1 n jx2 σ) := by
  intro n
  induction n with
  | zero => intros; rw [F_X4_isBelowLeast_L2]; exact Mn_none
  | succ n hk2 =>
    intros
    rw [F_X4_isBelowLeast_L2]
    repeat' first | exact Mn_ret | exact Mn_rz | exact hk2 _  _ | exact M_X4_measureOf _ _ _ _ | refine Mn_nm (fun _ => ?_) | refine Mn_nab (fun _ _ => ?_) | refine Mn_nwb (fun _ _ => ?_) | refine Mn_pw (fun _ => ?_) | refine Mn_pz (fun _ => ?_) | refine Mn_aw (fun _ => ?_) | refine Mn_az (fun _ => ?_) | refine Mn_aq (fun _ => ?_) | refine Mn_bo (fun _ => ?_) | refine Mn_bd ?_ (fun _ _ => ?_) | refine Mn_iv ?_ | refine Mn_bLt ?_ ?_ | refine Mn_bLe ?_ ?_ | refine Mn_bEq ?_ ?_ | refine Mn_bN ?_ ?_ | refine Mn_g3 ?_ | refine Mn_g33 ?_ | refine Mn_g66 ?_ | refine Mn_gD ?_
set_option maxRecDepth 100000 in
set_option maxHeartbeats 4000000 in
theorem T_X4_isBelowLeast_L2 {r : Int} {σE : Hp} (hX : Cx p R s m args meth c D dA b0 n0 m0 3 nE mE cX4_isBelowLeast RX4 1 24) (hR : Rx meth (some .boolean)) (hnm : meth.name = yX4_isBelowLeast.name) (hQ : Q = Qm D dA b0 n0 m0 below args s (some (pV 0 r)) σE) (hE : nE = σE.1 ∧ mE = σE.2.1) (jx0 : Int) (jx1 : Int) : ∀ (n : Nat) (jx2 : Int) (σ : Hp), F_X4_isBelowLeast_L2 jx0 jx1 n jx2 σ = some (r, σE) → G p l e R s m args below meth c D dA b0 n0 m0 3 nE mE Q 2 [(0, 2, jx0), (1, 0, jx1), (2, 0, jx2)] [] σ := by
  intro n
  induction n with
  | zero =>
    intro jx2 σ hF
    rw [F_X4_isBelowLeast_L2] at hF
    cases hF
  | succ n hk2 =>
    intro jx2 σ hF
    rw [F_X4_isBelowLeast_L2] at hF
    refine g_iload_n hX 2 dX4_isBelowLeast_2 rfl rfl ?_
    refine g_aload_n hX 0 dX4_isBelowLeast_3 rfl rfl ?_
    refine g_get hX fl_X4_22 (by decide) (by decide) dX4_isBelowLeast_4 hF (fun jv1 hF => ?_)
    refine g_icmp_ge (tgt := 36) hX dX4_isBelowLeast_7 (by decide) hF (fun hc hF => ?_) (fun hc hF => ?_)
    · refine g_aload_n hX 0 dX4_isBelowLeast_10 rfl rfl ?_
      refine g_iload_n hX 1 dX4_isBelowLeast_11 rfl rfl ?_
      refine g_iload_n hX 2 dX4_isBelowLeast_12 rfl rfl ?_
      refine g_callV (t := 0) (ci := 4) (rest := []) [(0, jx1), (0, jx2)] hX cw_X4_40 rfl (by decide) (by decide) (fun r σ1 h => T_X4_measureOf l D dA b0  jx0 jx1 jx2 σ σ1 r h) ⟨by decide, by decide⟩ rfl rfl (Nat.le_of_ble_eq_true rfl) dX4_isBelowLeast_13 hF (fun jv2 σ3 hF => ?_)
      refine g_aload_n hX 0 dX4_isBelowLeast_16 rfl rfl ?_
      refine g_get hX fl_X4_11 (by decide) (by decide) dX4_isBelowLeast_17 hF (fun jv4 hF => ?_)
      refine g_iload_n hX 2 dX4_isBelowLeast_20 rfl rfl ?_
      refine g_aald hX (by decide) dX4_isBelowLeast_21 hF (fun jv5 hF => ?_)
      refine g_get hX fl_X4_28 (by decide) (by decide) dX4_isBelowLeast_22 hF (fun jv6 hF => ?_)
      refine g_icmp_ge (tgt := 30) hX dX4_isBelowLeast_25 (by decide) hF (fun hc hF => ?_) (fun hc hF => ?_)
      · refine g_iconst hX dX4_isBelowLeast_28 ?_
        exact g_zret hX hR hQ hE dX4_isBelowLeast_29 hF
      · refine g_iinc (lv' := [(2, 0, (jx2 + 1)), (0, 2, jx0), (1, 0, jx1)]) hX 2 dX4_isBelowLeast_30 rfl (by decide) rfl ?_
        refine g_goto (tgt := 2) hX dX4_isBelowLeast_33 (by decide) ?_
        refine g_lvp (lv' := [(0, 2, jx0), (1, 0, jx1), (2, 0, (jx2 + 1))]) [1, 2, 0] rfl ?_
        exact hk2 (jx2 + 1) σ3 hF
    · refine g_iconst hX dX4_isBelowLeast_36 ?_
      exact g_zret hX hR hQ hE dX4_isBelowLeast_37 hF
def F_X4_isBelowLeast (jx0 : Int) (jx1 : Int) (σ : Hp) : Option (Int × Hp) :=
  F_X4_isBelowLeast_L2 jx0 jx1 fu 0 σ
theorem M_X4_isBelowLeast (jx0 : Int) (jx1 : Int) (σ : Hp) : Mn σ (F_X4_isBelowLeast jx0 jx1 σ) := by
  unfold F_X4_isBelowLeast
  repeat' first | exact Mn_ret | exact Mn_rz | exact M_X4_isBelowLeast_L2 _ _ _ _ _ | refine Mn_nm (fun _ => ?_) | refine Mn_nab (fun _ _ => ?_) | refine Mn_nwb (fun _ _ => ?_) | refine Mn_pw (fun _ => ?_) | refine Mn_pz (fun _ => ?_) | refine Mn_aw (fun _ => ?_) | refine Mn_az (fun _ => ?_) | refine Mn_aq (fun _ => ?_) | refine Mn_bo (fun _ => ?_) | refine Mn_bd ?_ (fun _ _ => ?_) | refine Mn_iv ?_ | refine Mn_bLt ?_ ?_ | refine Mn_bLe ?_ ?_ | refine Mn_bEq ?_ ?_ | refine Mn_bN ?_ ?_ | refine Mn_g3 ?_ | refine Mn_g33 ?_ | refine Mn_g66 ?_ | refine Mn_gD ?_
set_option maxRecDepth 100000 in
set_option maxHeartbeats 4000000 in
theorem T_X4_isBelowLeast (l : Launch) (D : va_G) (dA : Nat → ClassId) (b0 : Nat) (jx0 : Int) (jx1 : Int) (σ σE : Hp) (r : Int) (hF : F_X4_isBelowLeast jx0 jx1 σ = some (r, σE)) : Ct l D dA b0 yX4_isBelowLeast cX4_isBelowLeast 3 (some .boolean) 1 24 [(2, jx0), (0, jx1)] σ (some (pV 0 r)) σE := by
  refine Ct.of (lv0 := [(0, 2, jx0), (1, 0, jx1)]) (by decide) RX4 rfl (Nat.le_of_ble_eq_true rfl) rfl ?_ (M_X4_isBelowLeast jx0 jx1 σ r σE hF)
  intro p e R s m args below meth c hX hR hnm
  obtain ⟨Q, hQ⟩ : ∃ Q, Q = Qm D dA b0 σ.1 σ.2.1 below args s (some (pV 0 r)) σE := ⟨_, rfl⟩
  rw [← hQ]
  have hE : σE.1 = σE.1 ∧ σE.2.1 = σE.2.1 := ⟨rfl, rfl⟩
  unfold F_X4_isBelowLeast at hF
  refine g_iconst hX dX4_isBelowLeast_0 ?_
  refine g_istore_n (lv' := [(2, 0, 0), (0, 2, jx0), (1, 0, jx1)]) hX dX4_isBelowLeast_1 rfl (by decide) rfl ?_
  refine g_lvp (lv' := [(0, 2, jx0), (1, 0, jx1), (2, 0, 0)]) [1, 2, 0] rfl ?_
  exact T_X4_isBelowLeast_L2 hX hR hnm hQ hE jx0 jx1  fu 0 σ hF
end

section
variable {p : Program} {l : Launch} {e : Env} {R : Room} {s : State} {m : MethodId} {args : Array Value} {below : List Frame} {meth : Method} {c : Code} {D : va_G} {dA : Nat → ClassId} {b0 n0 m0 nE mE : Nat} {Q : State → Prop}
def F_X4_mostIn_L4 (jx0 : Int) : Nat → Int → Int → Hp → Option (Int × Hp)
  | 0, _, _, _ => none
  | n + 1, jx1, jx2, σ => (rd 5 σ jx0 1).bind fun jv1 => bLt jx2 jv1 (nm ((jx1 * 10)) fun jv2 => (F_X4_mostIn_L4 jx0 n) jv2 (jx2 + 1) σ) (some ((jx1 - 1), σ))
theorem M_X4_mostIn_L4 (jx0 : Int) : ∀ (n : Nat) (jx1 : Int) (jx2 : Int) (σ : Hp), Mn σ (F_X4_mostIn_L4 jx0 n jx1 jx2 σ) := by
  intro n
  induction n with
  | zero => intros; rw [F_X4_mostIn_L4]; exact Mn_none
  | succ n hk4 =>
    intros
    rw [F_X4_mostIn_L4]
    repeat' first | exact Mn_ret | exact Mn_rz | exact hk4 _ _  _ | refine Mn_nm (fun _ => ?_) | refine Mn_nab (fun _ _ => ?_) | refine Mn_nwb (fun _ _ => ?_) | refine Mn_pw (fun _ => ?_) | refine Mn_pz (fun _ => ?_) | refine Mn_aw (fun _ => ?_) | refine Mn_az (fun _ => ?_) | refine Mn_aq (fun _ => ?_) | refine Mn_bo (fun _ => ?_) | refine Mn_bd ?_ (fun _ _ => ?_) | refine Mn_iv ?_ | refine Mn_bLt ?_ ?_ | refine Mn_bLe ?_ ?_ | refine Mn_bEq ?_ ?_ | refine Mn_bN ?_ ?_ | refine Mn_g3 ?_ | refine Mn_g33 ?_ | refine Mn_g66 ?_ | refine Mn_gD ?_
set_option maxRecDepth 100000 in
set_option maxHeartbeats 4000000 in
theorem T_X4_mostIn_L4 {r : Int} {σE : Hp} (hX : Cx p R s m args meth c D dA b0 n0 m0 3 nE mE cX4_mostIn RX4 0 0) (hR : Rx meth (some .int)) (hnm : meth.name = yX4_mostIn.name) (hQ : Q = Qm D dA b0 n0 m0 below args s (some (pV 0 r)) σE) (hE : nE = σE.1 ∧ mE = σE.2.1) (jx0 : Int) : ∀ (n : Nat) (jx1 : Int) (jx2 : Int) (σ : Hp), F_X4_mostIn_L4 jx0 n jx1 jx2 σ = some (r, σE) → G p l e R s m args below meth c D dA b0 n0 m0 3 nE mE Q 4 [(0, 2, jx0), (1, 0, jx1), (2, 0, jx2)] [] σ := by
  intro n
  induction n with
  | zero =>
    intro jx1 jx2 σ hF
    rw [F_X4_mostIn_L4] at hF
    cases hF
  | succ n hk4 =>
    intro jx1 jx2 σ hF
    rw [F_X4_mostIn_L4] at hF
    refine g_iload_n hX 2 dX4_mostIn_4 rfl rfl ?_
    refine g_aload_n hX 0 dX4_mostIn_5 rfl rfl ?_
    refine g_get hX fl_X4_22 (by decide) (by decide) dX4_mostIn_6 hF (fun jv1 hF => ?_)
    refine g_icmp_ge (tgt := 23) hX dX4_mostIn_9 (by decide) hF (fun hc hF => ?_) (fun hc hF => ?_)
    · refine g_iload_n hX 1 dX4_mostIn_12 rfl rfl ?_
      refine g_bipush hX dX4_mostIn_13 (by decide) ?_
      refine g_imul hX dX4_mostIn_15 ?_
      refine g_nm hF (fun jv2 hF => ?_)
      refine g_istore_n (lv' := [(1, 0, jv2), (0, 2, jx0), (2, 0, jx2)]) hX dX4_mostIn_16 rfl (by decide) rfl ?_
      refine g_iinc (lv' := [(2, 0, (jx2 + 1)), (1, 0, jv2), (0, 2, jx0)]) hX 2 dX4_mostIn_17 rfl (by decide) rfl ?_
      refine g_goto (tgt := 4) hX dX4_mostIn_20 (by decide) ?_
      refine g_lvp (lv' := [(0, 2, jx0), (1, 0, jv2), (2, 0, (jx2 + 1))]) [2, 1, 0] rfl ?_
      exact hk4 jv2 (jx2 + 1) σ hF
    · refine g_iload_n hX 1 dX4_mostIn_23 rfl rfl ?_
      refine g_iconst hX dX4_mostIn_24 ?_
      refine g_isub hX dX4_mostIn_25 ?_
      exact g_iret hX hR hQ hE dX4_mostIn_26 hF
def F_X4_mostIn (jx0 : Int) (σ : Hp) : Option (Int × Hp) :=
  F_X4_mostIn_L4 jx0 fu 1 0 σ
theorem M_X4_mostIn (jx0 : Int) (σ : Hp) : Mn σ (F_X4_mostIn jx0 σ) := by
  unfold F_X4_mostIn
  repeat' first | exact Mn_ret | exact Mn_rz | exact M_X4_mostIn_L4 _ _ _ _ _ | refine Mn_nm (fun _ => ?_) | refine Mn_nab (fun _ _ => ?_) | refine Mn_nwb (fun _ _ => ?_) | refine Mn_pw (fun _ => ?_) | refine Mn_pz (fun _ => ?_) | refine Mn_aw (fun _ => ?_) | refine Mn_az (fun _ => ?_) | refine Mn_aq (fun _ => ?_) | refine Mn_bo (fun _ => ?_) | refine Mn_bd ?_ (fun _ _ => ?_) | refine Mn_iv ?_ | refine Mn_bLt ?_ ?_ | refine Mn_bLe ?_ ?_ | refine Mn_bEq ?_ ?_ | refine Mn_bN ?_ ?_ | refine Mn_g3 ?_ | refine Mn_g33 ?_ | refine Mn_g66 ?_ | refine Mn_gD ?_
set_option maxRecDepth 100000 in
set_option maxHeartbeats 4000000 in
theorem T_X4_mostIn (l : Launch) (D : va_G) (dA : Nat → ClassId) (b0 : Nat) (jx0 : Int) (σ σE : Hp) (r : Int) (hF : F_X4_mostIn jx0 σ = some (r, σE)) : Ct l D dA b0 yX4_mostIn cX4_mostIn 3 (some .int) 0 0 [(2, jx0)] σ (some (pV 0 r)) σE := by
  refine Ct.of (lv0 := [(0, 2, jx0)]) (by decide) RX4 rfl (Nat.le_of_ble_eq_true rfl) rfl ?_ (M_X4_mostIn jx0 σ r σE hF)
  intro p e R s m args below meth c hX hR hnm
  obtain ⟨Q, hQ⟩ : ∃ Q, Q = Qm D dA b0 σ.1 σ.2.1 below args s (some (pV 0 r)) σE := ⟨_, rfl⟩
  rw [← hQ]
  have hE : σE.1 = σE.1 ∧ σE.2.1 = σE.2.1 := ⟨rfl, rfl⟩
  unfold F_X4_mostIn at hF
  refine g_iconst hX dX4_mostIn_0 ?_
  refine g_istore_n (lv' := [(1, 0, 1), (0, 2, jx0)]) hX dX4_mostIn_1 rfl (by decide) rfl ?_
  refine g_iconst hX dX4_mostIn_2 ?_
  refine g_istore_n (lv' := [(2, 0, 0), (1, 0, 1), (0, 2, jx0)]) hX dX4_mostIn_3 rfl (by decide) rfl ?_
  refine g_lvp (lv' := [(0, 2, jx0), (1, 0, 1), (2, 0, 0)]) [2, 1, 0] rfl ?_
  exact T_X4_mostIn_L4 hX hR hnm hQ hE jx0  fu 1 0 σ hF
end

section
variable {p : Program} {l : Launch} {e : Env} {R : Room} {s : State} {m : MethodId} {args : Array Value} {below : List Frame} {meth : Method} {c : Code} {D : va_G} {dA : Nat → ClassId} {b0 n0 m0 nE mE : Nat} {Q : State → Prop}
def F_X4_tellIn_B48 (k8 : Int → Int → Hp → Option (Int × Hp)) (jx0 : Int) (jx2 : Int) (jx3 : Int) (jx4 : Int) (σ : Hp) : Option (Int × Hp) :=
  k8 jx3 (jx4 + (-1)) σ
theorem M_X4_tellIn_B48 (k8 : Int → Int → Hp → Option (Int × Hp)) (hk8 : ∀ (jx3 : Int) (jx4 : Int) (σ : Hp), Mn σ (k8 jx3 jx4 σ)) (jx0 : Int) (jx2 : Int) (jx3 : Int) (jx4 : Int) (σ : Hp) : Mn σ (F_X4_tellIn_B48 k8 jx0 jx2 jx3 jx4 σ) := by
  unfold F_X4_tellIn_B48
  repeat' first | exact Mn_ret | exact Mn_rz | exact hk8 _ _  _ | refine Mn_nm (fun _ => ?_) | refine Mn_nab (fun _ _ => ?_) | refine Mn_nwb (fun _ _ => ?_) | refine Mn_pw (fun _ => ?_) | refine Mn_pz (fun _ => ?_) | refine Mn_aw (fun _ => ?_) | refine Mn_az (fun _ => ?_) | refine Mn_aq (fun _ => ?_) | refine Mn_bo (fun _ => ?_) | refine Mn_bd ?_ (fun _ _ => ?_) | refine Mn_iv ?_ | refine Mn_bLt ?_ ?_ | refine Mn_bLe ?_ ?_ | refine Mn_bEq ?_ ?_ | refine Mn_bN ?_ ?_ | refine Mn_g3 ?_ | refine Mn_g33 ?_ | refine Mn_g66 ?_ | refine Mn_gD ?_
set_option maxRecDepth 100000 in
set_option maxHeartbeats 4000000 in
theorem T_X4_tellIn_B48 {r : Int} {σE : Hp} (hX : Cx p R s m args meth c D dA b0 n0 m0 5 nE mE cX4_tellIn RX4 0 0) (hR : Rx meth none) (hnm : meth.name = yX4_tellIn.name) (hQ : Q = Qm D dA b0 n0 m0 below args s none σE) (hE : nE = σE.1 ∧ mE = σE.2.1) (k8 : Int → Int → Hp → Option (Int × Hp)) (jx0 : Int) (jx2 : Int) (jx3 : Int) (jx4 : Int) (hk8 : ∀ (jx3 : Int) (jx4 : Int) (σ : Hp), k8 jx3 jx4 σ = some (r, σE) → G p l e R s m args below meth c D dA b0 n0 m0 5 nE mE Q 8 [(0, 2, jx0), (2, 2, jx2), (3, 0, jx3), (4, 0, jx4)] [] σ) (σ : Hp) (hF : F_X4_tellIn_B48 k8 jx0 jx2 jx3 jx4 σ = some (r, σE)) : G p l e R s m args below meth c D dA b0 n0 m0 5 nE mE Q 48 [(0, 2, jx0), (2, 2, jx2), (3, 0, jx3), (4, 0, jx4)] [] σ := by
  unfold F_X4_tellIn_B48 at hF
  refine g_iinc (lv' := [(4, 0, (jx4 + (-1))), (0, 2, jx0), (2, 2, jx2), (3, 0, jx3)]) hX 3 dX4_tellIn_48 rfl (by decide) rfl ?_
  refine g_goto (tgt := 8) hX dX4_tellIn_51 (by decide) ?_
  refine g_lvp (lv' := [(0, 2, jx0), (2, 2, jx2), (3, 0, jx3), (4, 0, (jx4 + (-1)))]) [1, 2, 3, 0] rfl ?_
  exact hk8 jx3 (jx4 + (-1)) σ hF
def F_X4_tellIn_B33 (k8 : Int → Int → Hp → Option (Int × Hp)) (jx0 : Int) (jx2 : Int) (jx3 : Int) (jx4 : Int) (js0 : Int) (js1 : Int) (js2 : Int) (σ : Hp) : Option (Int × Hp) :=
  (aw 11 σ js2 js1 js0).bind fun σ3 => (rd 5 σ3 jx0 1).bind fun jv4 => bLt jx4 jv4 (gD jx3 10 (nm ((Int.tdiv jx3 10)) fun jv5 => F_X4_tellIn_B48 k8 jx0 jx2 jv5 jx4  σ3)) (F_X4_tellIn_B48 k8 jx0 jx2 jx3 jx4  σ3)
theorem M_X4_tellIn_B33 (k8 : Int → Int → Hp → Option (Int × Hp)) (hk8 : ∀ (jx3 : Int) (jx4 : Int) (σ : Hp), Mn σ (k8 jx3 jx4 σ)) (jx0 : Int) (jx2 : Int) (jx3 : Int) (jx4 : Int) (js0 : Int) (js1 : Int) (js2 : Int) (σ : Hp) : Mn σ (F_X4_tellIn_B33 k8 jx0 jx2 jx3 jx4 js0 js1 js2 σ) := by
  unfold F_X4_tellIn_B33
  repeat' first | exact Mn_ret | exact Mn_rz | exact hk8 _ _  _ | exact M_X4_tellIn_B48 k8 hk8 _ _ _ _  _ | refine Mn_nm (fun _ => ?_) | refine Mn_nab (fun _ _ => ?_) | refine Mn_nwb (fun _ _ => ?_) | refine Mn_pw (fun _ => ?_) | refine Mn_pz (fun _ => ?_) | refine Mn_aw (fun _ => ?_) | refine Mn_az (fun _ => ?_) | refine Mn_aq (fun _ => ?_) | refine Mn_bo (fun _ => ?_) | refine Mn_bd ?_ (fun _ _ => ?_) | refine Mn_iv ?_ | refine Mn_bLt ?_ ?_ | refine Mn_bLe ?_ ?_ | refine Mn_bEq ?_ ?_ | refine Mn_bN ?_ ?_ | refine Mn_g3 ?_ | refine Mn_g33 ?_ | refine Mn_g66 ?_ | refine Mn_gD ?_
set_option maxRecDepth 100000 in
set_option maxHeartbeats 4000000 in
theorem T_X4_tellIn_B33 {r : Int} {σE : Hp} (hX : Cx p R s m args meth c D dA b0 n0 m0 5 nE mE cX4_tellIn RX4 0 0) (hR : Rx meth none) (hnm : meth.name = yX4_tellIn.name) (hQ : Q = Qm D dA b0 n0 m0 below args s none σE) (hE : nE = σE.1 ∧ mE = σE.2.1) (k8 : Int → Int → Hp → Option (Int × Hp)) (jx0 : Int) (jx2 : Int) (jx3 : Int) (jx4 : Int) (js0 : Int) (js1 : Int) (js2 : Int) (hk8 : ∀ (jx3 : Int) (jx4 : Int) (σ : Hp), k8 jx3 jx4 σ = some (r, σE) → G p l e R s m args below meth c D dA b0 n0 m0 5 nE mE Q 8 [(0, 2, jx0), (2, 2, jx2), (3, 0, jx3), (4, 0, jx4)] [] σ) (σ : Hp) (hF : F_X4_tellIn_B33 k8 jx0 jx2 jx3 jx4 js0 js1 js2 σ = some (r, σE)) : G p l e R s m args below meth c D dA b0 n0 m0 5 nE mE Q 33 [(0, 2, jx0), (2, 2, jx2), (3, 0, jx3), (4, 0, jx4)] [(0, js0), (0, js1), (2, js2)] σ := by
  unfold F_X4_tellIn_B33 at hF
  refine u_iast hX dX4_tellIn_33 hF (fun σ3 hF => ?_)
  refine g_iload hX 3 dX4_tellIn_34 rfl ?_
  refine g_aload_n hX 0 dX4_tellIn_36 rfl rfl ?_
  refine g_get hX fl_X4_22 (by decide) (by decide) dX4_tellIn_37 hF (fun jv4 hF => ?_)
  refine g_icmp_ge (tgt := 48) hX dX4_tellIn_40 (by decide) hF (fun hc hF => ?_) (fun hc hF => ?_)
  · refine g_iload_n hX 2 dX4_tellIn_43 rfl rfl ?_
    refine g_bipush hX dX4_tellIn_44 (by decide) ?_
    refine g_idiv hX dX4_tellIn_46 hF (fun hF => ?_)
    refine g_nm hF (fun jv5 hF => ?_)
    refine g_istore_n (lv' := [(3, 0, jv5), (0, 2, jx0), (2, 2, jx2), (4, 0, jx4)]) hX dX4_tellIn_47 rfl (by decide) rfl ?_
    refine g_lvp (lv' := [(0, 2, jx0), (2, 2, jx2), (3, 0, jv5), (4, 0, jx4)]) [1, 2, 0, 3] rfl ?_
    exact T_X4_tellIn_B48 hX hR hnm hQ hE k8 jx0 jx2 jv5 jx4  hk8  σ3 hF
  · exact T_X4_tellIn_B48 hX hR hnm hQ hE k8 jx0 jx2 jx3 jx4  hk8  σ3 hF
def F_X4_tellIn_L8 (jx0 : Int) (jx2 : Int) : Nat → Int → Int → Hp → Option (Int × Hp)
  | 0, _, _, _ => none
  | n + 1, jx3, jx4, σ => bLt jx4 0 (some (0, σ)) ((rd 5 σ jx0 1).bind fun jv2 => bLt jx4 jv2 (gD jx3 10 (F_X4_tellIn_B33 (F_X4_tellIn_L8 jx0 jx2 n) jx0 jx2 jx3 jx4 (Int.tmod jx3 10) jx4 jx2 σ)) (F_X4_tellIn_B33 (F_X4_tellIn_L8 jx0 jx2 n) jx0 jx2 jx3 jx4 0 jx4 jx2 σ))
theorem M_X4_tellIn_L8 (jx0 : Int) (jx2 : Int) : ∀ (n : Nat) (jx3 : Int) (jx4 : Int) (σ : Hp), Mn σ (F_X4_tellIn_L8 jx0 jx2 n jx3 jx4 σ) := by
  intro n
  induction n with
  | zero => intros; rw [F_X4_tellIn_L8]; exact Mn_none
  | succ n hk8 =>
    intros
    rw [F_X4_tellIn_L8]
    repeat' first | exact Mn_ret | exact Mn_rz | exact hk8 _ _  _ | exact M_X4_tellIn_B33 (F_X4_tellIn_L8 jx0 jx2 n) hk8 _ _ _ _ _ _ _ _ | refine Mn_nm (fun _ => ?_) | refine Mn_nab (fun _ _ => ?_) | refine Mn_nwb (fun _ _ => ?_) | refine Mn_pw (fun _ => ?_) | refine Mn_pz (fun _ => ?_) | refine Mn_aw (fun _ => ?_) | refine Mn_az (fun _ => ?_) | refine Mn_aq (fun _ => ?_) | refine Mn_bo (fun _ => ?_) | refine Mn_bd ?_ (fun _ _ => ?_) | refine Mn_iv ?_ | refine Mn_bLt ?_ ?_ | refine Mn_bLe ?_ ?_ | refine Mn_bEq ?_ ?_ | refine Mn_bN ?_ ?_ | refine Mn_g3 ?_ | refine Mn_g33 ?_ | refine Mn_g66 ?_ | refine Mn_gD ?_
set_option maxRecDepth 100000 in
set_option maxHeartbeats 4000000 in
theorem T_X4_tellIn_L8 {r : Int} {σE : Hp} (hX : Cx p R s m args meth c D dA b0 n0 m0 5 nE mE cX4_tellIn RX4 0 0) (hR : Rx meth none) (hnm : meth.name = yX4_tellIn.name) (hQ : Q = Qm D dA b0 n0 m0 below args s none σE) (hE : nE = σE.1 ∧ mE = σE.2.1) (jx0 : Int) (jx2 : Int) : ∀ (n : Nat) (jx3 : Int) (jx4 : Int) (σ : Hp), F_X4_tellIn_L8 jx0 jx2 n jx3 jx4 σ = some (r, σE) → G p l e R s m args below meth c D dA b0 n0 m0 5 nE mE Q 8 [(0, 2, jx0), (2, 2, jx2), (3, 0, jx3), (4, 0, jx4)] [] σ := by
  intro n
  induction n with
  | zero =>
    intro jx3 jx4 σ hF
    rw [F_X4_tellIn_L8] at hF
    cases hF
  | succ n hk8 =>
    intro jx3 jx4 σ hF
    rw [F_X4_tellIn_L8] at hF
    refine g_iload hX 3 dX4_tellIn_8 rfl ?_
    refine g_if_lt (tgt := 54) hX dX4_tellIn_10 (by decide) hF (fun hc hF => ?_) (fun hc hF => ?_)
    · exact g_vret hX hR hQ hE dX4_tellIn_54 hF
    · refine g_aload_n hX 1 dX4_tellIn_13 rfl rfl ?_
      refine g_iload hX 3 dX4_tellIn_14 rfl ?_
      refine g_iload hX 3 dX4_tellIn_16 rfl ?_
      refine g_aload_n hX 0 dX4_tellIn_18 rfl rfl ?_
      refine g_get hX fl_X4_22 (by decide) (by decide) dX4_tellIn_19 hF (fun jv2 hF => ?_)
      refine g_icmp_ge (tgt := 32) hX dX4_tellIn_22 (by decide) hF (fun hc hF => ?_) (fun hc hF => ?_)
      · refine g_iload_n hX 2 dX4_tellIn_25 rfl rfl ?_
        refine g_bipush hX dX4_tellIn_26 (by decide) ?_
        refine g_irem hX dX4_tellIn_28 hF (fun hF => ?_)
        refine g_goto (tgt := 33) hX dX4_tellIn_29 (by decide) ?_
        exact T_X4_tellIn_B33 hX hR hnm hQ hE (F_X4_tellIn_L8 jx0 jx2 n) jx0 jx2 jx3 jx4 (Int.tmod jx3 10) jx4 jx2 hk8  σ hF
      · refine g_iconst hX dX4_tellIn_32 ?_
        exact T_X4_tellIn_B33 hX hR hnm hQ hE (F_X4_tellIn_L8 jx0 jx2 n) jx0 jx2 jx3 jx4 0 jx4 jx2 hk8  σ hF
def F_X4_tellIn (jx0 : Int) (jx1 : Int) (jx2 : Int) (σ : Hp) : Option (Int × Hp) :=
  (al 11 σ jx2).bind fun jv1 => F_X4_tellIn_L8 jx0 jx2 fu jx1 (jv1 - 1) σ
theorem M_X4_tellIn (jx0 : Int) (jx1 : Int) (jx2 : Int) (σ : Hp) : Mn σ (F_X4_tellIn jx0 jx1 jx2 σ) := by
  unfold F_X4_tellIn
  repeat' first | exact Mn_ret | exact Mn_rz | exact M_X4_tellIn_L8 _ _ _ _ _ _ | refine Mn_nm (fun _ => ?_) | refine Mn_nab (fun _ _ => ?_) | refine Mn_nwb (fun _ _ => ?_) | refine Mn_pw (fun _ => ?_) | refine Mn_pz (fun _ => ?_) | refine Mn_aw (fun _ => ?_) | refine Mn_az (fun _ => ?_) | refine Mn_aq (fun _ => ?_) | refine Mn_bo (fun _ => ?_) | refine Mn_bd ?_ (fun _ _ => ?_) | refine Mn_iv ?_ | refine Mn_bLt ?_ ?_ | refine Mn_bLe ?_ ?_ | refine Mn_bEq ?_ ?_ | refine Mn_bN ?_ ?_ | refine Mn_g3 ?_ | refine Mn_g33 ?_ | refine Mn_g66 ?_ | refine Mn_gD ?_
set_option maxRecDepth 100000 in
set_option maxHeartbeats 4000000 in
theorem T_X4_tellIn (l : Launch) (D : va_G) (dA : Nat → ClassId) (b0 : Nat) (jx0 : Int) (jx1 : Int) (jx2 : Int) (σ σE : Hp) (r : Int) (hF : F_X4_tellIn jx0 jx1 jx2 σ = some (r, σE)) : Ct l D dA b0 yX4_tellIn cX4_tellIn 5 none 0 0 [(2, jx0), (0, jx1), (2, jx2)] σ none σE := by
  refine Ct.of (lv0 := [(0, 2, jx0), (1, 0, jx1), (2, 2, jx2)]) (by decide) RX4 rfl (Nat.le_of_ble_eq_true rfl) rfl ?_ (M_X4_tellIn jx0 jx1 jx2 σ r σE hF)
  intro p e R s m args below meth c hX hR hnm
  obtain ⟨Q, hQ⟩ : ∃ Q, Q = Qm D dA b0 σ.1 σ.2.1 below args s none σE := ⟨_, rfl⟩
  rw [← hQ]
  have hE : σE.1 = σE.1 ∧ σE.2.1 = σE.2.1 := ⟨rfl, rfl⟩
  unfold F_X4_tellIn at hF
  refine g_iload_n hX 1 dX4_tellIn_0 rfl rfl ?_
  refine g_istore_n (lv' := [(3, 0, jx1), (0, 2, jx0), (1, 0, jx1), (2, 2, jx2)]) hX dX4_tellIn_1 rfl (by decide) rfl ?_
  refine g_aload_n hX 3 dX4_tellIn_2 rfl rfl ?_
  refine g_alen hX (by decide) dX4_tellIn_3 hF (fun jv1 hF => ?_)
  refine g_iconst hX dX4_tellIn_4 ?_
  refine g_isub hX dX4_tellIn_5 ?_
  refine g_istore (lv' := [(4, 0, (jv1 - 1)), (3, 0, jx1), (0, 2, jx0), (1, 0, jx1), (2, 2, jx2)]) hX dX4_tellIn_6 (by decide) rfl ?_
  refine g_lvp (lv' := [(0, 2, jx0), (2, 2, jx2), (3, 0, jx1), (4, 0, (jv1 - 1))]) [2, 4, 1, 0] rfl ?_
  exact T_X4_tellIn_L8 hX hR hnm hQ hE jx0 jx2  fu jx1 (jv1 - 1) σ hF
end

section
variable {p : Program} {l : Launch} {e : Env} {R : Room} {s : State} {m : MethodId} {args : Array Value} {below : List Frame} {meth : Method} {c : Code} {D : va_G} {dA : Nat → ClassId} {b0 n0 m0 nE mE : Nat} {Q : State → Prop}
def F_X4_mostLets (jx0 : Int) (σ : Hp) : Option (Int × Hp) :=
  (rd 5 σ jx0 1).bind fun jv1 => some (((shlI 1 (4 * jv1)) - 1), σ)
theorem M_X4_mostLets (jx0 : Int) (σ : Hp) : Mn σ (F_X4_mostLets jx0 σ) := by
  unfold F_X4_mostLets
  repeat' first | exact Mn_ret | exact Mn_rz | refine Mn_nm (fun _ => ?_) | refine Mn_nab (fun _ _ => ?_) | refine Mn_nwb (fun _ _ => ?_) | refine Mn_pw (fun _ => ?_) | refine Mn_pz (fun _ => ?_) | refine Mn_aw (fun _ => ?_) | refine Mn_az (fun _ => ?_) | refine Mn_aq (fun _ => ?_) | refine Mn_bo (fun _ => ?_) | refine Mn_bd ?_ (fun _ _ => ?_) | refine Mn_iv ?_ | refine Mn_bLt ?_ ?_ | refine Mn_bLe ?_ ?_ | refine Mn_bEq ?_ ?_ | refine Mn_bN ?_ ?_ | refine Mn_g3 ?_ | refine Mn_g33 ?_ | refine Mn_g66 ?_ | refine Mn_gD ?_
set_option maxRecDepth 100000 in
set_option maxHeartbeats 4000000 in
theorem T_X4_mostLets (l : Launch) (D : va_G) (dA : Nat → ClassId) (b0 : Nat) (jx0 : Int) (σ σE : Hp) (r : Int) (hF : F_X4_mostLets jx0 σ = some (r, σE)) : Ct l D dA b0 yX4_mostLets cX4_mostLets 1 (some .int) 0 0 [(2, jx0)] σ (some (pV 0 r)) σE := by
  refine Ct.of (lv0 := [(0, 2, jx0)]) (by decide) RX4 rfl (Nat.le_of_ble_eq_true rfl) rfl ?_ (M_X4_mostLets jx0 σ r σE hF)
  intro p e R s m args below meth c hX hR hnm
  obtain ⟨Q, hQ⟩ : ∃ Q, Q = Qm D dA b0 σ.1 σ.2.1 below args s (some (pV 0 r)) σE := ⟨_, rfl⟩
  rw [← hQ]
  have hE : σE.1 = σE.1 ∧ σE.2.1 = σE.2.1 := ⟨rfl, rfl⟩
  unfold F_X4_mostLets at hF
  refine g_iconst hX dX4_mostLets_0 ?_
  refine g_iconst hX dX4_mostLets_1 ?_
  refine g_aload_n hX 0 dX4_mostLets_2 rfl rfl ?_
  refine g_get hX fl_X4_22 (by decide) (by decide) dX4_mostLets_3 hF (fun jv1 hF => ?_)
  refine g_imul hX dX4_mostLets_6 ?_
  refine g_ishl hX dX4_mostLets_7 ?_
  refine g_iconst hX dX4_mostLets_8 ?_
  refine g_isub hX dX4_mostLets_9 ?_
  exact g_iret hX hR hQ hE dX4_mostLets_10 hF
end

section
variable {p : Program} {l : Launch} {e : Env} {R : Room} {s : State} {m : MethodId} {args : Array Value} {below : List Frame} {meth : Method} {c : Code} {D : va_G} {dA : Nat → ClassId} {b0 n0 m0 nE mE : Nat} {Q : State → Prop}
def F_X4_allLets (jx0 : Int) (jx1 : Int) (σ : Hp) : Option (Int × Hp) :=
  (rd 5 σ jx0 1).bind fun jv1 => some ((shlI jx1 (4 * (3 - jv1))), σ)
theorem M_X4_allLets (jx0 : Int) (jx1 : Int) (σ : Hp) : Mn σ (F_X4_allLets jx0 jx1 σ) := by
  unfold F_X4_allLets
  repeat' first | exact Mn_ret | exact Mn_rz | refine Mn_nm (fun _ => ?_) | refine Mn_nab (fun _ _ => ?_) | refine Mn_nwb (fun _ _ => ?_) | refine Mn_pw (fun _ => ?_) | refine Mn_pz (fun _ => ?_) | refine Mn_aw (fun _ => ?_) | refine Mn_az (fun _ => ?_) | refine Mn_aq (fun _ => ?_) | refine Mn_bo (fun _ => ?_) | refine Mn_bd ?_ (fun _ _ => ?_) | refine Mn_iv ?_ | refine Mn_bLt ?_ ?_ | refine Mn_bLe ?_ ?_ | refine Mn_bEq ?_ ?_ | refine Mn_bN ?_ ?_ | refine Mn_g3 ?_ | refine Mn_g33 ?_ | refine Mn_g66 ?_ | refine Mn_gD ?_
set_option maxRecDepth 100000 in
set_option maxHeartbeats 4000000 in
theorem T_X4_allLets (l : Launch) (D : va_G) (dA : Nat → ClassId) (b0 : Nat) (jx0 : Int) (jx1 : Int) (σ σE : Hp) (r : Int) (hF : F_X4_allLets jx0 jx1 σ = some (r, σE)) : Ct l D dA b0 yX4_allLets cX4_allLets 2 (some .int) 0 0 [(2, jx0), (0, jx1)] σ (some (pV 0 r)) σE := by
  refine Ct.of (lv0 := [(0, 2, jx0), (1, 0, jx1)]) (by decide) RX4 rfl (Nat.le_of_ble_eq_true rfl) rfl ?_ (M_X4_allLets jx0 jx1 σ r σE hF)
  intro p e R s m args below meth c hX hR hnm
  obtain ⟨Q, hQ⟩ : ∃ Q, Q = Qm D dA b0 σ.1 σ.2.1 below args s (some (pV 0 r)) σE := ⟨_, rfl⟩
  rw [← hQ]
  have hE : σE.1 = σE.1 ∧ σE.2.1 = σE.2.1 := ⟨rfl, rfl⟩
  unfold F_X4_allLets at hF
  refine g_iload_n hX 1 dX4_allLets_0 rfl rfl ?_
  refine g_iconst hX dX4_allLets_1 ?_
  refine g_iconst hX dX4_allLets_2 ?_
  refine g_aload_n hX 0 dX4_allLets_3 rfl rfl ?_
  refine g_get hX fl_X4_22 (by decide) (by decide) dX4_allLets_4 hF (fun jv1 hF => ?_)
  refine g_isub hX dX4_allLets_7 ?_
  refine g_imul hX dX4_allLets_8 ?_
  refine g_ishl hX dX4_allLets_9 ?_
  exact g_iret hX hR hQ hE dX4_allLets_10 hF
end

section
variable {p : Program} {l : Launch} {e : Env} {R : Room} {s : State} {m : MethodId} {args : Array Value} {below : List Frame} {meth : Method} {c : Code} {D : va_G} {dA : Nat → ClassId} {b0 n0 m0 nE mE : Nat} {Q : State → Prop}
def F_X4_letOf (jx0 : Int) (jx1 : Int) (σ : Hp) : Option (Int × Hp) :=
  bLt jx1 0 (some (0, σ)) (bLt jx1 3 (some ((andI (shrI jx0 (4 * (2 - jx1))) 15), σ)) (some (0, σ)))
theorem M_X4_letOf (jx0 : Int) (jx1 : Int) (σ : Hp) : Mn σ (F_X4_letOf jx0 jx1 σ) := by
  unfold F_X4_letOf
  repeat' first | exact Mn_ret | exact Mn_rz | refine Mn_nm (fun _ => ?_) | refine Mn_nab (fun _ _ => ?_) | refine Mn_nwb (fun _ _ => ?_) | refine Mn_pw (fun _ => ?_) | refine Mn_pz (fun _ => ?_) | refine Mn_aw (fun _ => ?_) | refine Mn_az (fun _ => ?_) | refine Mn_aq (fun _ => ?_) | refine Mn_bo (fun _ => ?_) | refine Mn_bd ?_ (fun _ _ => ?_) | refine Mn_iv ?_ | refine Mn_bLt ?_ ?_ | refine Mn_bLe ?_ ?_ | refine Mn_bEq ?_ ?_ | refine Mn_bN ?_ ?_ | refine Mn_g3 ?_ | refine Mn_g33 ?_ | refine Mn_g66 ?_ | refine Mn_gD ?_
set_option maxRecDepth 100000 in
set_option maxHeartbeats 4000000 in
theorem T_X4_letOf (l : Launch) (D : va_G) (dA : Nat → ClassId) (b0 : Nat) (jx0 : Int) (jx1 : Int) (σ σE : Hp) (r : Int) (hF : F_X4_letOf jx0 jx1 σ = some (r, σE)) : Ct l D dA b0 yX4_letOf cX4_letOf 2 (some .int) 0 0 [(0, jx0), (0, jx1)] σ (some (pV 0 r)) σE := by
  refine Ct.of (lv0 := [(0, 0, jx0), (1, 0, jx1)]) (by decide) RX4 rfl (Nat.le_of_ble_eq_true rfl) rfl ?_ (M_X4_letOf jx0 jx1 σ r σE hF)
  intro p e R s m args below meth c hX hR hnm
  obtain ⟨Q, hQ⟩ : ∃ Q, Q = Qm D dA b0 σ.1 σ.2.1 below args s (some (pV 0 r)) σE := ⟨_, rfl⟩
  rw [← hQ]
  have hE : σE.1 = σE.1 ∧ σE.2.1 = σE.2.1 := ⟨rfl, rfl⟩
  unfold F_X4_letOf at hF
  refine g_iload_n hX 1 dX4_letOf_0 rfl rfl ?_
  refine g_if_lt (tgt := 9) hX dX4_letOf_1 (by decide) hF (fun hc hF => ?_) (fun hc hF => ?_)
  · refine g_iconst hX dX4_letOf_9 ?_
    refine g_goto (tgt := 23) hX dX4_letOf_10 (by decide) ?_
    exact g_iret hX hR hQ hE dX4_letOf_23 hF
  · refine g_iload_n hX 1 dX4_letOf_4 rfl rfl ?_
    refine g_iconst hX dX4_letOf_5 ?_
    refine g_icmp_lt (tgt := 13) hX dX4_letOf_6 (by decide) hF (fun hc hF => ?_) (fun hc hF => ?_)
    · refine g_iload_n hX 0 dX4_letOf_13 rfl rfl ?_
      refine g_iconst hX dX4_letOf_14 ?_
      refine g_iconst hX dX4_letOf_15 ?_
      refine g_iload_n hX 1 dX4_letOf_16 rfl rfl ?_
      refine g_isub hX dX4_letOf_17 ?_
      refine g_imul hX dX4_letOf_18 ?_
      refine g_ishr hX dX4_letOf_19 ?_
      refine g_bipush hX dX4_letOf_20 (by decide) ?_
      refine g_iand hX dX4_letOf_22 ?_
      exact g_iret hX hR hQ hE dX4_letOf_23 hF
    · refine g_iconst hX dX4_letOf_9 ?_
      refine g_goto (tgt := 23) hX dX4_letOf_10 (by decide) ?_
      exact g_iret hX hR hQ hE dX4_letOf_23 hF
end

section
variable {p : Program} {l : Launch} {e : Env} {R : Room} {s : State} {m : MethodId} {args : Array Value} {below : List Frame} {meth : Method} {c : Code} {D : va_G} {dA : Nat → ClassId} {b0 n0 m0 nE mE : Nat} {Q : State → Prop}
def F_X4_mayLet_L2 (jx0 : Int) (jx1 : Int) (jx2 : Int) : Nat → Int → Hp → Option (Int × Hp)
  | 0, _, _ => none
  | n + 1, jx3, σ => (rd 5 σ jx0 1).bind fun jv1 => bLt jx3 jv1 (bd (iv 5 σ jx0 (F_X4_measureOf  jx0 jx1 jx3 σ)) fun jv2 σ3 => bd (F_X4_letOf jx2 jx3 σ3) fun jv4 σ5 => (rd 5 σ5 jx0 0).bind fun jv6 => (ar 14 σ5 jv6 jx3).bind fun jv7 => bd (iv 1 σ5 jv7 (F_X0_leastLet  jv7 jv2 σ5)) fun jv8 σ9 => bLt jv4 jv8 (rz 0 σ9) ((rd 5 σ9 jx0 0).bind fun jv10 => (ar 14 σ9 jv10 jx3).bind fun jv11 => bd (iv 1 σ9 jv11 (F_X0_mostLet  jv11 jv2 σ9)) fun jv12 σ13 => bLe jv4 jv12 ((F_X4_mayLet_L2 jx0 jx1 jx2 n) (jx3 + 1) σ13) (rz 0 σ13))) (rz 1 σ)
theorem M_X4_mayLet_L2 (jx0 : Int) (jx1 : Int) (jx2 : Int) : ∀ (n : Nat) (jx3 : Int) (σ : Hp), Mn σ (F_X4_mayLet_L2 jx0 jx1 jx2 n jx3 σ) := by
  intro n
  induction n with
  | zero => intros; rw [F_X4_mayLet_L2]; exact Mn_none
  | succ n hk2 =>
    intros
    rw [F_X4_mayLet_L2]
    repeat' first | exact Mn_ret | exact Mn_rz | exact hk2 _  _ | exact M_X4_measureOf _ _ _ _ | exact M_X4_letOf _ _ _ | exact M_X0_leastLet _ _ _ | exact M_X0_mostLet _ _ _ | refine Mn_nm (fun _ => ?_) | refine Mn_nab (fun _ _ => ?_) | refine Mn_nwb (fun _ _ => ?_) | refine Mn_pw (fun _ => ?_) | refine Mn_pz (fun _ => ?_) | refine Mn_aw (fun _ => ?_) | refine Mn_az (fun _ => ?_) | refine Mn_aq (fun _ => ?_) | refine Mn_bo (fun _ => ?_) | refine Mn_bd ?_ (fun _ _ => ?_) | refine Mn_iv ?_ | refine Mn_bLt ?_ ?_ | refine Mn_bLe ?_ ?_ | refine Mn_bEq ?_ ?_ | refine Mn_bN ?_ ?_ | refine Mn_g3 ?_ | refine Mn_g33 ?_ | refine Mn_g66 ?_ | refine Mn_gD ?_
set_option maxRecDepth 100000 in
set_option maxHeartbeats 4000000 in
theorem T_X4_mayLet_L2 {r : Int} {σE : Hp} (hX : Cx p R s m args meth c D dA b0 n0 m0 6 nE mE cX4_mayLet RX4 3 63) (hR : Rx meth (some .boolean)) (hnm : meth.name = yX4_mayLet.name) (hQ : Q = Qm D dA b0 n0 m0 below args s (some (pV 0 r)) σE) (hE : nE = σE.1 ∧ mE = σE.2.1) (jx0 : Int) (jx1 : Int) (jx2 : Int) : ∀ (n : Nat) (jx3 : Int) (σ : Hp), F_X4_mayLet_L2 jx0 jx1 jx2 n jx3 σ = some (r, σE) → G p l e R s m args below meth c D dA b0 n0 m0 6 nE mE Q 2 [(0, 2, jx0), (1, 0, jx1), (2, 0, jx2), (3, 0, jx3)] [] σ := by
  intro n
  induction n with
  | zero =>
    intro jx3 σ hF
    rw [F_X4_mayLet_L2] at hF
    cases hF
  | succ n hk2 =>
    intro jx3 σ hF
    rw [F_X4_mayLet_L2] at hF
    refine g_iload_n hX 3 dX4_mayLet_2 rfl rfl ?_
    refine g_aload_n hX 0 dX4_mayLet_3 rfl rfl ?_
    refine g_get hX fl_X4_22 (by decide) (by decide) dX4_mayLet_4 hF (fun jv1 hF => ?_)
    refine g_icmp_ge (tgt := 65) hX dX4_mayLet_7 (by decide) hF (fun hc hF => ?_) (fun hc hF => ?_)
    · refine g_aload_n hX 0 dX4_mayLet_10 rfl rfl ?_
      refine g_iload_n hX 1 dX4_mayLet_11 rfl rfl ?_
      refine g_iload_n hX 3 dX4_mayLet_12 rfl rfl ?_
      refine g_callV (t := 0) (ci := 4) (rest := []) [(0, jx1), (0, jx3)] hX cw_X4_40 rfl (by decide) (by decide) (fun r σ1 h => T_X4_measureOf l D dA b0  jx0 jx1 jx3 σ σ1 r h) ⟨by decide, by decide⟩ rfl rfl (Nat.le_of_ble_eq_true rfl) dX4_mayLet_13 hF (fun jv2 σ3 hF => ?_)
      refine g_istore (lv' := [(4, 0, jv2), (0, 2, jx0), (1, 0, jx1), (2, 0, jx2), (3, 0, jx3)]) hX dX4_mayLet_16 (by decide) rfl ?_
      refine g_iload_n hX 3 dX4_mayLet_18 rfl rfl ?_
      refine g_iload_n hX 4 dX4_mayLet_19 rfl rfl ?_
      refine g_callS (t := 0) (rest := []) [(0, jx2), (0, jx3)] hX cw_X4_47 (fun r σ1 h => T_X4_letOf l D dA b0 jx2 jx3 σ3 σ1 r h) ⟨by decide, by decide⟩ rfl rfl (Nat.le_of_ble_eq_true rfl) dX4_mayLet_20 hF (fun jv4 σ5 hF => ?_)
      refine g_istore (lv' := [(5, 0, jv4), (4, 0, jv2), (0, 2, jx0), (1, 0, jx1), (2, 0, jx2), (3, 0, jx3)]) hX dX4_mayLet_23 (by decide) rfl ?_
      refine g_iload hX 0 dX4_mayLet_25 rfl ?_
      refine g_aload_n hX 2 dX4_mayLet_27 rfl rfl ?_
      refine g_get hX fl_X4_11 (by decide) (by decide) dX4_mayLet_28 hF (fun jv6 hF => ?_)
      refine g_iload_n hX 5 dX4_mayLet_31 rfl rfl ?_
      refine g_aald hX (by decide) dX4_mayLet_32 hF (fun jv7 hF => ?_)
      refine g_iload hX 1 dX4_mayLet_33 rfl ?_
      refine g_callV (t := 0) (ci := 0) (rest := [(0, jv4)]) [(0, jv2)] hX cw_X4_50 rfl (by decide) (by decide) (fun r σ1 h => T_X0_leastLet l D dA b0  jv7 jv2 σ5 σ1 r h) ⟨by decide, by decide⟩ rfl rfl (Nat.le_of_ble_eq_true rfl) dX4_mayLet_35 hF (fun jv8 σ9 hF => ?_)
      refine g_icmp_lt (tgt := 57) hX dX4_mayLet_38 (by decide) hF (fun hc hF => ?_) (fun hc hF => ?_)
      · refine g_iconst hX dX4_mayLet_57 ?_
        exact g_zret hX hR hQ hE dX4_mayLet_58 hF
      · refine g_iload hX 0 dX4_mayLet_41 rfl ?_
        refine g_aload_n hX 2 dX4_mayLet_43 rfl rfl ?_
        refine g_get hX fl_X4_11 (by decide) (by decide) dX4_mayLet_44 hF (fun jv10 hF => ?_)
        refine g_iload_n hX 5 dX4_mayLet_47 rfl rfl ?_
        refine g_aald hX (by decide) dX4_mayLet_48 hF (fun jv11 hF => ?_)
        refine g_iload hX 1 dX4_mayLet_49 rfl ?_
        refine g_callV (t := 0) (ci := 0) (rest := [(0, jv4)]) [(0, jv2)] hX cw_X4_54 rfl (by decide) (by decide) (fun r σ1 h => T_X0_mostLet l D dA b0  jv11 jv2 σ9 σ1 r h) ⟨by decide, by decide⟩ rfl rfl (Nat.le_of_ble_eq_true rfl) dX4_mayLet_51 hF (fun jv12 σ13 hF => ?_)
        refine g_icmp_le (tgt := 59) hX dX4_mayLet_54 (by decide) hF (fun hc hF => ?_) (fun hc hF => ?_)
        · refine g_iinc (lv' := [(3, 0, (jx3 + 1)), (5, 0, jv4), (4, 0, jv2), (0, 2, jx0), (1, 0, jx1), (2, 0, jx2)]) hX 5 dX4_mayLet_59 rfl (by decide) rfl ?_
          refine g_goto (tgt := 2) hX dX4_mayLet_62 (by decide) ?_
          refine g_lvp (lv' := [(0, 2, jx0), (1, 0, jx1), (2, 0, jx2), (3, 0, (jx3 + 1))]) [3, 4, 5, 0] rfl ?_
          exact hk2 (jx3 + 1) σ13 hF
        · refine g_iconst hX dX4_mayLet_57 ?_
          exact g_zret hX hR hQ hE dX4_mayLet_58 hF
    · refine g_iconst hX dX4_mayLet_65 ?_
      exact g_zret hX hR hQ hE dX4_mayLet_66 hF
def F_X4_mayLet (jx0 : Int) (jx1 : Int) (jx2 : Int) (σ : Hp) : Option (Int × Hp) :=
  F_X4_mayLet_L2 jx0 jx1 jx2 fu 0 σ
theorem M_X4_mayLet (jx0 : Int) (jx1 : Int) (jx2 : Int) (σ : Hp) : Mn σ (F_X4_mayLet jx0 jx1 jx2 σ) := by
  unfold F_X4_mayLet
  repeat' first | exact Mn_ret | exact Mn_rz | exact M_X4_mayLet_L2 _ _ _ _ _ _ | refine Mn_nm (fun _ => ?_) | refine Mn_nab (fun _ _ => ?_) | refine Mn_nwb (fun _ _ => ?_) | refine Mn_pw (fun _ => ?_) | refine Mn_pz (fun _ => ?_) | refine Mn_aw (fun _ => ?_) | refine Mn_az (fun _ => ?_) | refine Mn_aq (fun _ => ?_) | refine Mn_bo (fun _ => ?_) | refine Mn_bd ?_ (fun _ _ => ?_) | refine Mn_iv ?_ | refine Mn_bLt ?_ ?_ | refine Mn_bLe ?_ ?_ | refine Mn_bEq ?_ ?_ | refine Mn_bN ?_ ?_ | refine Mn_g3 ?_ | refine Mn_g33 ?_ | refine Mn_g66 ?_ | refine Mn_gD ?_
set_option maxRecDepth 100000 in
set_option maxHeartbeats 4000000 in
theorem T_X4_mayLet (l : Launch) (D : va_G) (dA : Nat → ClassId) (b0 : Nat) (jx0 : Int) (jx1 : Int) (jx2 : Int) (σ σE : Hp) (r : Int) (hF : F_X4_mayLet jx0 jx1 jx2 σ = some (r, σE)) : Ct l D dA b0 yX4_mayLet cX4_mayLet 6 (some .boolean) 3 63 [(2, jx0), (0, jx1), (0, jx2)] σ (some (pV 0 r)) σE := by
  refine Ct.of (lv0 := [(0, 2, jx0), (1, 0, jx1), (2, 0, jx2)]) (by decide) RX4 rfl (Nat.le_of_ble_eq_true rfl) rfl ?_ (M_X4_mayLet jx0 jx1 jx2 σ r σE hF)
  intro p e R s m args below meth c hX hR hnm
  obtain ⟨Q, hQ⟩ : ∃ Q, Q = Qm D dA b0 σ.1 σ.2.1 below args s (some (pV 0 r)) σE := ⟨_, rfl⟩
  rw [← hQ]
  have hE : σE.1 = σE.1 ∧ σE.2.1 = σE.2.1 := ⟨rfl, rfl⟩
  unfold F_X4_mayLet at hF
  refine g_iconst hX dX4_mayLet_0 ?_
  refine g_istore_n (lv' := [(3, 0, 0), (0, 2, jx0), (1, 0, jx1), (2, 0, jx2)]) hX dX4_mayLet_1 rfl (by decide) rfl ?_
  refine g_lvp (lv' := [(0, 2, jx0), (1, 0, jx1), (2, 0, jx2), (3, 0, 0)]) [1, 2, 3, 0] rfl ?_
  exact T_X4_mayLet_L2 hX hR hnm hQ hE jx0 jx1 jx2  fu 0 σ hF
end

section
variable {p : Program} {l : Launch} {e : Env} {R : Room} {s : State} {m : MethodId} {args : Array Value} {below : List Frame} {meth : Method} {c : Code} {D : va_G} {dA : Nat → ClassId} {b0 n0 m0 nE mE : Nat} {Q : State → Prop}
def F_X4_ruleLets_L4 (jx0 : Int) (jx1 : Int) : Nat → Int → Int → Hp → Option (Int × Hp)
  | 0, _, _, _ => none
  | n + 1, jx2, jx3, σ => (rd 5 σ jx0 0).bind fun jv1 => (al 14 σ jv1).bind fun jv2 => bLt jx3 jv2 ((rd 5 σ jx0 0).bind fun jv3 => (ar 14 σ jv3 jx3).bind fun jv4 => bd (iv 5 σ jx0 (F_X4_measureOf  jx0 jx1 jx3 σ)) fun jv5 σ6 => bd (iv 1 σ6 jv4 (F_X0_ruleLet  jv4 jv5 σ6)) fun jv7 σ8 => nm ((orI (shlI jx2 4) jv7)) fun jv9 => (F_X4_ruleLets_L4 jx0 jx1 n) jv9 (jx3 + 1) σ8) (some (jx2, σ))
theorem M_X4_ruleLets_L4 (jx0 : Int) (jx1 : Int) : ∀ (n : Nat) (jx2 : Int) (jx3 : Int) (σ : Hp), Mn σ (F_X4_ruleLets_L4 jx0 jx1 n jx2 jx3 σ) := by
  intro n
  induction n with
  | zero => intros; rw [F_X4_ruleLets_L4]; exact Mn_none
  | succ n hk4 =>
    intros
    rw [F_X4_ruleLets_L4]
    repeat' first | exact Mn_ret | exact Mn_rz | exact hk4 _ _  _ | exact M_X4_measureOf _ _ _ _ | exact M_X0_ruleLet _ _ _ | refine Mn_nm (fun _ => ?_) | refine Mn_nab (fun _ _ => ?_) | refine Mn_nwb (fun _ _ => ?_) | refine Mn_pw (fun _ => ?_) | refine Mn_pz (fun _ => ?_) | refine Mn_aw (fun _ => ?_) | refine Mn_az (fun _ => ?_) | refine Mn_aq (fun _ => ?_) | refine Mn_bo (fun _ => ?_) | refine Mn_bd ?_ (fun _ _ => ?_) | refine Mn_iv ?_ | refine Mn_bLt ?_ ?_ | refine Mn_bLe ?_ ?_ | refine Mn_bEq ?_ ?_ | refine Mn_bN ?_ ?_ | refine Mn_g3 ?_ | refine Mn_g33 ?_ | refine Mn_g66 ?_ | refine Mn_gD ?_
set_option maxRecDepth 100000 in
set_option maxHeartbeats 4000000 in
theorem T_X4_ruleLets_L4 {r : Int} {σE : Hp} (hX : Cx p R s m args meth c D dA b0 n0 m0 4 nE mE cX4_ruleLets RX4 4 85) (hR : Rx meth (some .int)) (hnm : meth.name = yX4_ruleLets.name) (hQ : Q = Qm D dA b0 n0 m0 below args s (some (pV 0 r)) σE) (hE : nE = σE.1 ∧ mE = σE.2.1) (jx0 : Int) (jx1 : Int) : ∀ (n : Nat) (jx2 : Int) (jx3 : Int) (σ : Hp), F_X4_ruleLets_L4 jx0 jx1 n jx2 jx3 σ = some (r, σE) → G p l e R s m args below meth c D dA b0 n0 m0 4 nE mE Q 4 [(0, 2, jx0), (1, 0, jx1), (2, 0, jx2), (3, 0, jx3)] [] σ := by
  intro n
  induction n with
  | zero =>
    intro jx2 jx3 σ hF
    rw [F_X4_ruleLets_L4] at hF
    cases hF
  | succ n hk4 =>
    intro jx2 jx3 σ hF
    rw [F_X4_ruleLets_L4] at hF
    refine g_iload_n hX 3 dX4_ruleLets_4 rfl rfl ?_
    refine g_aload_n hX 0 dX4_ruleLets_5 rfl rfl ?_
    refine g_get hX fl_X4_11 (by decide) (by decide) dX4_ruleLets_6 hF (fun jv1 hF => ?_)
    refine g_alen hX (by decide) dX4_ruleLets_9 hF (fun jv2 hF => ?_)
    refine g_icmp_ge (tgt := 39) hX dX4_ruleLets_10 (by decide) hF (fun hc hF => ?_) (fun hc hF => ?_)
    · refine g_iload_n hX 2 dX4_ruleLets_13 rfl rfl ?_
      refine g_iconst hX dX4_ruleLets_14 ?_
      refine g_ishl hX dX4_ruleLets_15 ?_
      refine g_aload_n hX 0 dX4_ruleLets_16 rfl rfl ?_
      refine g_get hX fl_X4_11 (by decide) (by decide) dX4_ruleLets_17 hF (fun jv3 hF => ?_)
      refine g_iload_n hX 3 dX4_ruleLets_20 rfl rfl ?_
      refine g_aald hX (by decide) dX4_ruleLets_21 hF (fun jv4 hF => ?_)
      refine g_aload_n hX 0 dX4_ruleLets_22 rfl rfl ?_
      refine g_iload_n hX 1 dX4_ruleLets_23 rfl rfl ?_
      refine g_iload_n hX 3 dX4_ruleLets_24 rfl rfl ?_
      refine g_callV (t := 0) (ci := 4) (rest := [(2, jv4), (0, (shlI jx2 4))]) [(0, jx1), (0, jx3)] hX cw_X4_40 rfl (by decide) (by decide) (fun r σ1 h => T_X4_measureOf l D dA b0  jx0 jx1 jx3 σ σ1 r h) ⟨by decide, by decide⟩ rfl rfl (Nat.le_of_ble_eq_true rfl) dX4_ruleLets_25 hF (fun jv5 σ6 hF => ?_)
      refine g_callV (t := 0) (ci := 0) (rest := [(0, (shlI jx2 4))]) [(0, jv5)] hX cw_X4_57 rfl (by decide) (by decide) (fun r σ1 h => T_X0_ruleLet l D dA b0  jv4 jv5 σ6 σ1 r h) ⟨by decide, by decide⟩ rfl rfl (Nat.le_of_ble_eq_true rfl) dX4_ruleLets_28 hF (fun jv7 σ8 hF => ?_)
      refine g_ior hX dX4_ruleLets_31 ?_
      refine g_nm hF (fun jv9 hF => ?_)
      refine g_istore_n (lv' := [(2, 0, jv9), (0, 2, jx0), (1, 0, jx1), (3, 0, jx3)]) hX dX4_ruleLets_32 rfl (by decide) rfl ?_
      refine g_iinc (lv' := [(3, 0, (jx3 + 1)), (2, 0, jv9), (0, 2, jx0), (1, 0, jx1)]) hX 3 dX4_ruleLets_33 rfl (by decide) rfl ?_
      refine g_goto (tgt := 4) hX dX4_ruleLets_36 (by decide) ?_
      refine g_lvp (lv' := [(0, 2, jx0), (1, 0, jx1), (2, 0, jv9), (3, 0, (jx3 + 1))]) [2, 3, 1, 0] rfl ?_
      exact hk4 jv9 (jx3 + 1) σ8 hF
    · refine g_iload_n hX 2 dX4_ruleLets_39 rfl rfl ?_
      exact g_iret hX hR hQ hE dX4_ruleLets_40 hF
def F_X4_ruleLets (jx0 : Int) (jx1 : Int) (σ : Hp) : Option (Int × Hp) :=
  F_X4_ruleLets_L4 jx0 jx1 fu 0 0 σ
theorem M_X4_ruleLets (jx0 : Int) (jx1 : Int) (σ : Hp) : Mn σ (F_X4_ruleLets jx0 jx1 σ) := by
  unfold F_X4_ruleLets
  repeat' first | exact Mn_ret | exact Mn_rz | exact M_X4_ruleLets_L4 _ _ _ _ _ _ | refine Mn_nm (fun _ => ?_) | refine Mn_nab (fun _ _ => ?_) | refine Mn_nwb (fun _ _ => ?_) | refine Mn_pw (fun _ => ?_) | refine Mn_pz (fun _ => ?_) | refine Mn_aw (fun _ => ?_) | refine Mn_az (fun _ => ?_) | refine Mn_aq (fun _ => ?_) | refine Mn_bo (fun _ => ?_) | refine Mn_bd ?_ (fun _ _ => ?_) | refine Mn_iv ?_ | refine Mn_bLt ?_ ?_ | refine Mn_bLe ?_ ?_ | refine Mn_bEq ?_ ?_ | refine Mn_bN ?_ ?_ | refine Mn_g3 ?_ | refine Mn_g33 ?_ | refine Mn_g66 ?_ | refine Mn_gD ?_
set_option maxRecDepth 100000 in
set_option maxHeartbeats 4000000 in
theorem T_X4_ruleLets (l : Launch) (D : va_G) (dA : Nat → ClassId) (b0 : Nat) (jx0 : Int) (jx1 : Int) (σ σE : Hp) (r : Int) (hF : F_X4_ruleLets jx0 jx1 σ = some (r, σE)) : Ct l D dA b0 yX4_ruleLets cX4_ruleLets 4 (some .int) 4 85 [(2, jx0), (0, jx1)] σ (some (pV 0 r)) σE := by
  refine Ct.of (lv0 := [(0, 2, jx0), (1, 0, jx1)]) (by decide) RX4 rfl (Nat.le_of_ble_eq_true rfl) rfl ?_ (M_X4_ruleLets jx0 jx1 σ r σE hF)
  intro p e R s m args below meth c hX hR hnm
  obtain ⟨Q, hQ⟩ : ∃ Q, Q = Qm D dA b0 σ.1 σ.2.1 below args s (some (pV 0 r)) σE := ⟨_, rfl⟩
  rw [← hQ]
  have hE : σE.1 = σE.1 ∧ σE.2.1 = σE.2.1 := ⟨rfl, rfl⟩
  unfold F_X4_ruleLets at hF
  refine g_iconst hX dX4_ruleLets_0 ?_
  refine g_istore_n (lv' := [(2, 0, 0), (0, 2, jx0), (1, 0, jx1)]) hX dX4_ruleLets_1 rfl (by decide) rfl ?_
  refine g_iconst hX dX4_ruleLets_2 ?_
  refine g_istore_n (lv' := [(3, 0, 0), (2, 0, 0), (0, 2, jx0), (1, 0, jx1)]) hX dX4_ruleLets_3 rfl (by decide) rfl ?_
  refine g_lvp (lv' := [(0, 2, jx0), (1, 0, jx1), (2, 0, 0), (3, 0, 0)]) [2, 3, 1, 0] rfl ?_
  exact T_X4_ruleLets_L4 hX hR hnm hQ hE jx0 jx1  fu 0 0 σ hF
end

section
variable {p : Program} {l : Launch} {e : Env} {R : Room} {s : State} {m : MethodId} {args : Array Value} {below : List Frame} {meth : Method} {c : Code} {D : va_G} {dA : Nat → ClassId} {b0 n0 m0 nE mE : Nat} {Q : State → Prop}
def F_X4_headsTimesLets_L5 (jx0 : Int) (jx1 : Int) (jx2 : Int) : Nat → Int → Int → Hp → Option (Int × Hp)
  | 0, _, _, _ => none
  | n + 1, jx3, jx4, σ => (rd 5 σ jx0 1).bind fun jv1 => bLt jx4 jv1 ((rd 5 σ jx0 0).bind fun jv2 => (ar 14 σ jv2 jx4).bind fun jv3 => bd (iv 5 σ jx0 (F_X4_measureOf  jx0 jx1 jx4 σ)) fun jv4 σ5 => bd (iv 1 σ5 jv3 (F_X0_headAt  jv3 jv4 σ5)) fun jv6 σ7 => bd (F_X4_letOf jx2 jx4 σ7) fun jv8 σ9 => nm ((jx3 + (jv6 * jv8))) fun jv10 => (F_X4_headsTimesLets_L5 jx0 jx1 jx2 n) jv10 (jx4 + 1) σ9) (some (jx3, σ))
theorem M_X4_headsTimesLets_L5 (jx0 : Int) (jx1 : Int) (jx2 : Int) : ∀ (n : Nat) (jx3 : Int) (jx4 : Int) (σ : Hp), Mn σ (F_X4_headsTimesLets_L5 jx0 jx1 jx2 n jx3 jx4 σ) := by
  intro n
  induction n with
  | zero => intros; rw [F_X4_headsTimesLets_L5]; exact Mn_none
  | succ n hk5 =>
    intros
    rw [F_X4_headsTimesLets_L5]
    repeat' first | exact Mn_ret | exact Mn_rz | exact hk5 _ _  _ | exact M_X4_measureOf _ _ _ _ | exact M_X0_headAt _ _ _ | exact M_X4_letOf _ _ _ | refine Mn_nm (fun _ => ?_) | refine Mn_nab (fun _ _ => ?_) | refine Mn_nwb (fun _ _ => ?_) | refine Mn_pw (fun _ => ?_) | refine Mn_pz (fun _ => ?_) | refine Mn_aw (fun _ => ?_) | refine Mn_az (fun _ => ?_) | refine Mn_aq (fun _ => ?_) | refine Mn_bo (fun _ => ?_) | refine Mn_bd ?_ (fun _ _ => ?_) | refine Mn_iv ?_ | refine Mn_bLt ?_ ?_ | refine Mn_bLe ?_ ?_ | refine Mn_bEq ?_ ?_ | refine Mn_bN ?_ ?_ | refine Mn_g3 ?_ | refine Mn_g33 ?_ | refine Mn_g66 ?_ | refine Mn_gD ?_
set_option maxRecDepth 100000 in
set_option maxHeartbeats 4000000 in
theorem T_X4_headsTimesLets_L5 {r : Int} {σE : Hp} (hX : Cx p R s m args meth c D dA b0 n0 m0 5 nE mE cX4_headsTimesLets RX4 1 24) (hR : Rx meth (some .int)) (hnm : meth.name = yX4_headsTimesLets.name) (hQ : Q = Qm D dA b0 n0 m0 below args s (some (pV 0 r)) σE) (hE : nE = σE.1 ∧ mE = σE.2.1) (jx0 : Int) (jx1 : Int) (jx2 : Int) : ∀ (n : Nat) (jx3 : Int) (jx4 : Int) (σ : Hp), F_X4_headsTimesLets_L5 jx0 jx1 jx2 n jx3 jx4 σ = some (r, σE) → G p l e R s m args below meth c D dA b0 n0 m0 5 nE mE Q 5 [(0, 2, jx0), (1, 0, jx1), (2, 0, jx2), (3, 0, jx3), (4, 0, jx4)] [] σ := by
  intro n
  induction n with
  | zero =>
    intro jx3 jx4 σ hF
    rw [F_X4_headsTimesLets_L5] at hF
    cases hF
  | succ n hk5 =>
    intro jx3 jx4 σ hF
    rw [F_X4_headsTimesLets_L5] at hF
    refine g_iload hX 4 dX4_headsTimesLets_5 rfl ?_
    refine g_aload_n hX 0 dX4_headsTimesLets_7 rfl rfl ?_
    refine g_get hX fl_X4_22 (by decide) (by decide) dX4_headsTimesLets_8 hF (fun jv1 hF => ?_)
    refine g_icmp_ge (tgt := 47) hX dX4_headsTimesLets_11 (by decide) hF (fun hc hF => ?_) (fun hc hF => ?_)
    · refine g_iload_n hX 3 dX4_headsTimesLets_14 rfl rfl ?_
      refine g_aload_n hX 0 dX4_headsTimesLets_15 rfl rfl ?_
      refine g_get hX fl_X4_11 (by decide) (by decide) dX4_headsTimesLets_16 hF (fun jv2 hF => ?_)
      refine g_iload hX 4 dX4_headsTimesLets_19 rfl ?_
      refine g_aald hX (by decide) dX4_headsTimesLets_21 hF (fun jv3 hF => ?_)
      refine g_aload_n hX 0 dX4_headsTimesLets_22 rfl rfl ?_
      refine g_iload_n hX 1 dX4_headsTimesLets_23 rfl rfl ?_
      refine g_iload hX 4 dX4_headsTimesLets_24 rfl ?_
      refine g_callV (t := 0) (ci := 4) (rest := [(2, jv3), (0, jx3)]) [(0, jx1), (0, jx4)] hX cw_X4_40 rfl (by decide) (by decide) (fun r σ1 h => T_X4_measureOf l D dA b0  jx0 jx1 jx4 σ σ1 r h) ⟨by decide, by decide⟩ rfl rfl (Nat.le_of_ble_eq_true rfl) dX4_headsTimesLets_26 hF (fun jv4 σ5 hF => ?_)
      refine g_callV (t := 0) (ci := 0) (rest := [(0, jx3)]) [(0, jv4)] hX cw_X4_60 rfl (by decide) (by decide) (fun r σ1 h => T_X0_headAt l D dA b0  jv3 jv4 σ5 σ1 r h) ⟨by decide, by decide⟩ rfl rfl (Nat.le_of_ble_eq_true rfl) dX4_headsTimesLets_29 hF (fun jv6 σ7 hF => ?_)
      refine g_iload_n hX 2 dX4_headsTimesLets_32 rfl rfl ?_
      refine g_iload hX 4 dX4_headsTimesLets_33 rfl ?_
      refine g_callS (t := 0) (rest := [(0, jv6), (0, jx3)]) [(0, jx2), (0, jx4)] hX cw_X4_47 (fun r σ1 h => T_X4_letOf l D dA b0 jx2 jx4 σ7 σ1 r h) ⟨by decide, by decide⟩ rfl rfl (Nat.le_of_ble_eq_true rfl) dX4_headsTimesLets_35 hF (fun jv8 σ9 hF => ?_)
      refine g_imul hX dX4_headsTimesLets_38 ?_
      refine g_iadd hX dX4_headsTimesLets_39 ?_
      refine g_nm hF (fun jv10 hF => ?_)
      refine g_istore_n (lv' := [(3, 0, jv10), (0, 2, jx0), (1, 0, jx1), (2, 0, jx2), (4, 0, jx4)]) hX dX4_headsTimesLets_40 rfl (by decide) rfl ?_
      refine g_iinc (lv' := [(4, 0, (jx4 + 1)), (3, 0, jv10), (0, 2, jx0), (1, 0, jx1), (2, 0, jx2)]) hX 4 dX4_headsTimesLets_41 rfl (by decide) rfl ?_
      refine g_goto (tgt := 5) hX dX4_headsTimesLets_44 (by decide) ?_
      refine g_lvp (lv' := [(0, 2, jx0), (1, 0, jx1), (2, 0, jx2), (3, 0, jv10), (4, 0, (jx4 + 1))]) [2, 3, 4, 1, 0] rfl ?_
      exact hk5 jv10 (jx4 + 1) σ9 hF
    · refine g_iload_n hX 3 dX4_headsTimesLets_47 rfl rfl ?_
      exact g_iret hX hR hQ hE dX4_headsTimesLets_48 hF
def F_X4_headsTimesLets (jx0 : Int) (jx1 : Int) (jx2 : Int) (σ : Hp) : Option (Int × Hp) :=
  F_X4_headsTimesLets_L5 jx0 jx1 jx2 fu 0 0 σ
theorem M_X4_headsTimesLets (jx0 : Int) (jx1 : Int) (jx2 : Int) (σ : Hp) : Mn σ (F_X4_headsTimesLets jx0 jx1 jx2 σ) := by
  unfold F_X4_headsTimesLets
  repeat' first | exact Mn_ret | exact Mn_rz | exact M_X4_headsTimesLets_L5 _ _ _ _ _ _ _ | refine Mn_nm (fun _ => ?_) | refine Mn_nab (fun _ _ => ?_) | refine Mn_nwb (fun _ _ => ?_) | refine Mn_pw (fun _ => ?_) | refine Mn_pz (fun _ => ?_) | refine Mn_aw (fun _ => ?_) | refine Mn_az (fun _ => ?_) | refine Mn_aq (fun _ => ?_) | refine Mn_bo (fun _ => ?_) | refine Mn_bd ?_ (fun _ _ => ?_) | refine Mn_iv ?_ | refine Mn_bLt ?_ ?_ | refine Mn_bLe ?_ ?_ | refine Mn_bEq ?_ ?_ | refine Mn_bN ?_ ?_ | refine Mn_g3 ?_ | refine Mn_g33 ?_ | refine Mn_g66 ?_ | refine Mn_gD ?_
set_option maxRecDepth 100000 in
set_option maxHeartbeats 4000000 in
theorem T_X4_headsTimesLets (l : Launch) (D : va_G) (dA : Nat → ClassId) (b0 : Nat) (jx0 : Int) (jx1 : Int) (jx2 : Int) (σ σE : Hp) (r : Int) (hF : F_X4_headsTimesLets jx0 jx1 jx2 σ = some (r, σE)) : Ct l D dA b0 yX4_headsTimesLets cX4_headsTimesLets 5 (some .int) 1 24 [(2, jx0), (0, jx1), (0, jx2)] σ (some (pV 0 r)) σE := by
  refine Ct.of (lv0 := [(0, 2, jx0), (1, 0, jx1), (2, 0, jx2)]) (by decide) RX4 rfl (Nat.le_of_ble_eq_true rfl) rfl ?_ (M_X4_headsTimesLets jx0 jx1 jx2 σ r σE hF)
  intro p e R s m args below meth c hX hR hnm
  obtain ⟨Q, hQ⟩ : ∃ Q, Q = Qm D dA b0 σ.1 σ.2.1 below args s (some (pV 0 r)) σE := ⟨_, rfl⟩
  rw [← hQ]
  have hE : σE.1 = σE.1 ∧ σE.2.1 = σE.2.1 := ⟨rfl, rfl⟩
  unfold F_X4_headsTimesLets at hF
  refine g_iconst hX dX4_headsTimesLets_0 ?_
  refine g_istore_n (lv' := [(3, 0, 0), (0, 2, jx0), (1, 0, jx1), (2, 0, jx2)]) hX dX4_headsTimesLets_1 rfl (by decide) rfl ?_
  refine g_iconst hX dX4_headsTimesLets_2 ?_
  refine g_istore (lv' := [(4, 0, 0), (3, 0, 0), (0, 2, jx0), (1, 0, jx1), (2, 0, jx2)]) hX dX4_headsTimesLets_3 (by decide) rfl ?_
  refine g_lvp (lv' := [(0, 2, jx0), (1, 0, jx1), (2, 0, jx2), (3, 0, 0), (4, 0, 0)]) [2, 3, 4, 1, 0] rfl ?_
  exact T_X4_headsTimesLets_L5 hX hR hnm hQ hE jx0 jx1 jx2  fu 0 0 σ hF
end

section
variable {p : Program} {l : Launch} {e : Env} {R : Room} {s : State} {m : MethodId} {args : Array Value} {below : List Frame} {meth : Method} {c : Code} {D : va_G} {dA : Nat → ClassId} {b0 n0 m0 nE mE : Nat} {Q : State → Prop}
def F_X4_flow_B108 (k17 : Int → Int → Int → Int → Hp → Option (Int × Hp)) (jx0 : Int) (jx1 : Int) (jx2 : Int) (jx3 : Int) (jx4 : Int) (jx6 : Int) (jx7 : Int) (jx8 : Int) (jx9 : Int) (σ : Hp) : Option (Int × Hp) :=
  (rd 5 σ jx0 0).bind fun jv17 => (ar 14 σ jv17 jx7).bind fun jv18 => (rd 1 σ jv18 2).bind fun jv19 => nm ((((jx4 * (jv19 + 1)) + jx9) - jx6)) fun jv20 => k17 jv20 jx8 jx6 (jx7 + 1) σ
theorem M_X4_flow_B108 (k17 : Int → Int → Int → Int → Hp → Option (Int × Hp)) (hk17 : ∀ (jx4 : Int) (jx5 : Int) (jx6 : Int) (jx7 : Int) (σ : Hp), Mn σ (k17 jx4 jx5 jx6 jx7 σ)) (jx0 : Int) (jx1 : Int) (jx2 : Int) (jx3 : Int) (jx4 : Int) (jx6 : Int) (jx7 : Int) (jx8 : Int) (jx9 : Int) (σ : Hp) : Mn σ (F_X4_flow_B108 k17 jx0 jx1 jx2 jx3 jx4 jx6 jx7 jx8 jx9 σ) := by
  unfold F_X4_flow_B108
  repeat' first | exact Mn_ret | exact Mn_rz | exact hk17 _ _ _ _  _ | refine Mn_nm (fun _ => ?_) | refine Mn_nab (fun _ _ => ?_) | refine Mn_nwb (fun _ _ => ?_) | refine Mn_pw (fun _ => ?_) | refine Mn_pz (fun _ => ?_) | refine Mn_aw (fun _ => ?_) | refine Mn_az (fun _ => ?_) | refine Mn_aq (fun _ => ?_) | refine Mn_bo (fun _ => ?_) | refine Mn_bd ?_ (fun _ _ => ?_) | refine Mn_iv ?_ | refine Mn_bLt ?_ ?_ | refine Mn_bLe ?_ ?_ | refine Mn_bEq ?_ ?_ | refine Mn_bN ?_ ?_ | refine Mn_g3 ?_ | refine Mn_g33 ?_ | refine Mn_g66 ?_ | refine Mn_gD ?_
set_option maxRecDepth 100000 in
set_option maxHeartbeats 4000000 in
theorem T_X4_flow_B108 {r : Int} {σE : Hp} (hX : Cx p R s m args meth c D dA b0 n0 m0 10 nE mE cX4_flow RX4 1 24) (hR : Rx meth (some .int)) (hnm : meth.name = yX4_flow.name) (hQ : Q = Qm D dA b0 n0 m0 below args s (some (pV 0 r)) σE) (hE : nE = σE.1 ∧ mE = σE.2.1) (k17 : Int → Int → Int → Int → Hp → Option (Int × Hp)) (jx0 : Int) (jx1 : Int) (jx2 : Int) (jx3 : Int) (jx4 : Int) (jx6 : Int) (jx7 : Int) (jx8 : Int) (jx9 : Int) (hk17 : ∀ (jx4 : Int) (jx5 : Int) (jx6 : Int) (jx7 : Int) (σ : Hp), k17 jx4 jx5 jx6 jx7 σ = some (r, σE) → G p l e R s m args below meth c D dA b0 n0 m0 10 nE mE Q 17 [(0, 2, jx0), (1, 0, jx1), (2, 0, jx2), (3, 2, jx3), (4, 0, jx4), (5, 0, jx5), (6, 0, jx6), (7, 0, jx7)] [] σ) (σ : Hp) (hF : F_X4_flow_B108 k17 jx0 jx1 jx2 jx3 jx4 jx6 jx7 jx8 jx9 σ = some (r, σE)) : G p l e R s m args below meth c D dA b0 n0 m0 10 nE mE Q 108 [(0, 2, jx0), (1, 0, jx1), (2, 0, jx2), (3, 2, jx3), (4, 0, jx4), (6, 0, jx6), (7, 0, jx7), (8, 0, jx8), (9, 0, jx9)] [] σ := by
  unfold F_X4_flow_B108 at hF
  refine g_iload hX 4 dX4_flow_108 rfl ?_
  refine g_aload_n hX 0 dX4_flow_110 rfl rfl ?_
  refine g_get hX fl_X4_11 (by decide) (by decide) dX4_flow_111 hF (fun jv17 hF => ?_)
  refine g_iload hX 6 dX4_flow_114 rfl ?_
  refine g_aald hX (by decide) dX4_flow_116 hF (fun jv18 hF => ?_)
  refine g_get hX fl_X4_31 (by decide) (by decide) dX4_flow_117 hF (fun jv19 hF => ?_)
  refine g_iconst hX dX4_flow_120 ?_
  refine g_iadd hX dX4_flow_121 ?_
  refine g_imul hX dX4_flow_122 ?_
  refine g_iload hX 8 dX4_flow_123 rfl ?_
  refine g_iadd hX dX4_flow_125 ?_
  refine g_iload hX 5 dX4_flow_126 rfl ?_
  refine g_isub hX dX4_flow_128 ?_
  refine g_nm hF (fun jv20 hF => ?_)
  refine g_istore (lv' := [(4, 0, jv20), (0, 2, jx0), (1, 0, jx1), (2, 0, jx2), (3, 2, jx3), (6, 0, jx6), (7, 0, jx7), (8, 0, jx8), (9, 0, jx9)]) hX dX4_flow_129 (by decide) rfl ?_
  refine g_iload hX 7 dX4_flow_131 rfl ?_
  refine g_istore (lv' := [(5, 0, jx8), (4, 0, jv20), (0, 2, jx0), (1, 0, jx1), (2, 0, jx2), (3, 2, jx3), (6, 0, jx6), (7, 0, jx7), (8, 0, jx8), (9, 0, jx9)]) hX dX4_flow_133 (by decide) rfl ?_
  refine g_iinc (lv' := [(7, 0, (jx7 + 1)), (5, 0, jx8), (4, 0, jv20), (0, 2, jx0), (1, 0, jx1), (2, 0, jx2), (3, 2, jx3), (6, 0, jx6), (8, 0, jx8), (9, 0, jx9)]) hX 7 dX4_flow_135 rfl (by decide) rfl ?_
  refine g_goto (tgt := 17) hX dX4_flow_138 (by decide) ?_
  refine g_lvp (lv' := [(0, 2, jx0), (1, 0, jx1), (2, 0, jx2), (3, 2, jx3), (4, 0, jv20), (5, 0, jx8), (6, 0, jx6), (7, 0, (jx7 + 1))]) [3, 4, 5, 6, 2, 1, 7, 0] rfl ?_
  exact hk17 jv20 jx8 jx6 (jx7 + 1) σ hF
def F_X4_flow_B66 (k17 : Int → Int → Int → Int → Hp → Option (Int × Hp)) (jx0 : Int) (jx1 : Int) (jx2 : Int) (jx3 : Int) (jx4 : Int) (jx7 : Int) (jx8 : Int) (js0 : Int) (js1 : Int) (σ : Hp) : Option (Int × Hp) :=
  (rd 5 σ jx0 0).bind fun jv10 => (ar 14 σ jv10 jx7).bind fun jv11 => (rd 1 σ jv11 2).bind fun jv12 => g33 0 ((js1 + js0) - jv12) (nm ((max 0 ((js1 + js0) - jv12))) fun jv13 => (rd 5 σ jx0 1).bind fun jv14 => bLt jx7 jv14 ((rd 5 σ jx0 3).bind fun jv15 => (pw 5 σ jx0 3 (jv15 + jv13)).bind fun σ16 => F_X4_flow_B108 k17 jx0 jx1 jx2 jx3 jx4 jv13 jx7 jx8 (js1 + js0)  σ16) (F_X4_flow_B108 k17 jx0 jx1 jx2 jx3 jx4 jv13 jx7 jx8 (js1 + js0)  σ))
theorem M_X4_flow_B66 (k17 : Int → Int → Int → Int → Hp → Option (Int × Hp)) (hk17 : ∀ (jx4 : Int) (jx5 : Int) (jx6 : Int) (jx7 : Int) (σ : Hp), Mn σ (k17 jx4 jx5 jx6 jx7 σ)) (jx0 : Int) (jx1 : Int) (jx2 : Int) (jx3 : Int) (jx4 : Int) (jx7 : Int) (jx8 : Int) (js0 : Int) (js1 : Int) (σ : Hp) : Mn σ (F_X4_flow_B66 k17 jx0 jx1 jx2 jx3 jx4 jx7 jx8 js0 js1 σ) := by
  unfold F_X4_flow_B66
  repeat' first | exact Mn_ret | exact Mn_rz | exact hk17 _ _ _ _  _ | exact M_X4_flow_B108 k17 hk17 _ _ _ _ _ _ _ _ _  _ | refine Mn_nm (fun _ => ?_) | refine Mn_nab (fun _ _ => ?_) | refine Mn_nwb (fun _ _ => ?_) | refine Mn_pw (fun _ => ?_) | refine Mn_pz (fun _ => ?_) | refine Mn_aw (fun _ => ?_) | refine Mn_az (fun _ => ?_) | refine Mn_aq (fun _ => ?_) | refine Mn_bo (fun _ => ?_) | refine Mn_bd ?_ (fun _ _ => ?_) | refine Mn_iv ?_ | refine Mn_bLt ?_ ?_ | refine Mn_bLe ?_ ?_ | refine Mn_bEq ?_ ?_ | refine Mn_bN ?_ ?_ | refine Mn_g3 ?_ | refine Mn_g33 ?_ | refine Mn_g66 ?_ | refine Mn_gD ?_
set_option maxRecDepth 100000 in
set_option maxHeartbeats 4000000 in
theorem T_X4_flow_B66 {r : Int} {σE : Hp} (hX : Cx p R s m args meth c D dA b0 n0 m0 10 nE mE cX4_flow RX4 1 24) (hR : Rx meth (some .int)) (hnm : meth.name = yX4_flow.name) (hQ : Q = Qm D dA b0 n0 m0 below args s (some (pV 0 r)) σE) (hE : nE = σE.1 ∧ mE = σE.2.1) (k17 : Int → Int → Int → Int → Hp → Option (Int × Hp)) (jx0 : Int) (jx1 : Int) (jx2 : Int) (jx3 : Int) (jx4 : Int) (jx7 : Int) (jx8 : Int) (js0 : Int) (js1 : Int) (hk17 : ∀ (jx4 : Int) (jx5 : Int) (jx6 : Int) (jx7 : Int) (σ : Hp), k17 jx4 jx5 jx6 jx7 σ = some (r, σE) → G p l e R s m args below meth c D dA b0 n0 m0 10 nE mE Q 17 [(0, 2, jx0), (1, 0, jx1), (2, 0, jx2), (3, 2, jx3), (4, 0, jx4), (5, 0, jx5), (6, 0, jx6), (7, 0, jx7)] [] σ) (σ : Hp) (hF : F_X4_flow_B66 k17 jx0 jx1 jx2 jx3 jx4 jx7 jx8 js0 js1 σ = some (r, σE)) : G p l e R s m args below meth c D dA b0 n0 m0 10 nE mE Q 66 [(0, 2, jx0), (1, 0, jx1), (2, 0, jx2), (3, 2, jx3), (4, 0, jx4), (7, 0, jx7), (8, 0, jx8)] [(0, js0), (0, js1)] σ := by
  unfold F_X4_flow_B66 at hF
  refine g_iadd hX dX4_flow_66 ?_
  refine g_istore (lv' := [(9, 0, (js1 + js0)), (0, 2, jx0), (1, 0, jx1), (2, 0, jx2), (3, 2, jx3), (4, 0, jx4), (7, 0, jx7), (8, 0, jx8)]) hX dX4_flow_67 (by decide) rfl ?_
  refine g_iconst hX dX4_flow_69 ?_
  refine g_iload hX 0 dX4_flow_70 rfl ?_
  refine g_aload_n hX 1 dX4_flow_72 rfl rfl ?_
  refine g_get hX fl_X4_11 (by decide) (by decide) dX4_flow_73 hF (fun jv10 hF => ?_)
  refine g_iload hX 6 dX4_flow_76 rfl ?_
  refine g_aald hX (by decide) dX4_flow_78 hF (fun jv11 hF => ?_)
  refine g_get hX fl_X4_31 (by decide) (by decide) dX4_flow_79 hF (fun jv12 hF => ?_)
  refine g_isub hX dX4_flow_82 ?_
  refine g_max hX mw_X4_66 (by decide) (Nat.le_of_ble_eq_true rfl) dX4_flow_83 hF (fun hF => ?_)
  refine g_nm hF (fun jv13 hF => ?_)
  refine g_istore (lv' := [(6, 0, jv13), (9, 0, (js1 + js0)), (0, 2, jx0), (1, 0, jx1), (2, 0, jx2), (3, 2, jx3), (4, 0, jx4), (7, 0, jx7), (8, 0, jx8)]) hX dX4_flow_86 (by decide) rfl ?_
  refine g_iload hX 7 dX4_flow_88 rfl ?_
  refine g_aload_n hX 2 dX4_flow_90 rfl rfl ?_
  refine g_get hX fl_X4_22 (by decide) (by decide) dX4_flow_91 hF (fun jv14 hF => ?_)
  refine g_icmp_ge (tgt := 108) hX dX4_flow_94 (by decide) hF (fun hc hF => ?_) (fun hc hF => ?_)
  · refine g_aload_n hX 2 dX4_flow_97 rfl rfl ?_
    refine g_dup hX dX4_flow_98 (by decide) ?_
    refine g_get hX fl_X4_63 (by decide) (by decide) dX4_flow_99 hF (fun jv15 hF => ?_)
    refine g_iload hX 0 dX4_flow_102 rfl ?_
    refine g_iadd hX dX4_flow_104 ?_
    refine u_put hX fp_X4_63 (by decide) (by decide) dX4_flow_105 hF (fun σ16 hF => ?_)
    refine g_lvp (lv' := [(0, 2, jx0), (1, 0, jx1), (2, 0, jx2), (3, 2, jx3), (4, 0, jx4), (6, 0, jv13), (7, 0, jx7), (8, 0, jx8), (9, 0, (js1 + js0))]) [2, 3, 4, 5, 6, 0, 7, 8, 1] rfl ?_
    exact T_X4_flow_B108 hX hR hnm hQ hE k17 jx0 jx1 jx2 jx3 jx4 jv13 jx7 jx8 (js1 + js0)  hk17  σ16 hF
  · refine g_lvp (lv' := [(0, 2, jx0), (1, 0, jx1), (2, 0, jx2), (3, 2, jx3), (4, 0, jx4), (6, 0, jv13), (7, 0, jx7), (8, 0, jx8), (9, 0, (js1 + js0))]) [2, 3, 4, 5, 6, 0, 7, 8, 1] rfl ?_
    exact T_X4_flow_B108 hX hR hnm hQ hE k17 jx0 jx1 jx2 jx3 jx4 jv13 jx7 jx8 (js1 + js0)  hk17  σ hF
def F_X4_flow_L17 (jx0 : Int) (jx1 : Int) (jx2 : Int) (jx3 : Int) : Nat → Int → Int → Int → Int → Hp → Option (Int × Hp)
  | 0, _, _, _, _, _ => none
  | n + 1, jx4, jx5, jx6, jx7, σ => (rd 5 σ jx0 0).bind fun jv2 => (al 14 σ jv2).bind fun jv3 => bLt jx7 jv3 (bd (F_X4_letOf jx2 jx7 σ) fun jv4 σ5 => bd (iv 5 σ5 jx0 (F_X4_measureOf  jx0 jx1 jx7 σ5)) fun jv6 σ7 => (al 11 σ7 jx3).bind fun jv8 => bLt jx7 jv8 ((ar 11 σ7 jx3 jx7).bind fun jv9 => F_X4_flow_B66 (F_X4_flow_L17 jx0 jx1 jx2 jx3 n) jx0 jx1 jx2 jx3 jx4 jx7 jv4 jv9 (((jv6 - jv4) + jx5) + jx6) σ7) (F_X4_flow_B66 (F_X4_flow_L17 jx0 jx1 jx2 jx3 n) jx0 jx1 jx2 jx3 jx4 jx7 jv4 0 (((jv6 - jv4) + jx5) + jx6) σ7)) (some (jx4, σ))
theorem M_X4_flow_L17 (jx0 : Int) (jx1 : Int) (jx2 : Int) (jx3 : Int) : ∀ (n : Nat) (jx4 : Int) (jx5 : Int) (jx6 : Int) (jx7 : Int) (σ : Hp), Mn σ (F_X4_flow_L17 jx0 jx1 jx2 jx3 n jx4 jx5 jx6 jx7 σ) := by
  intro n
  induction n with
  | zero => intros; rw [F_X4_flow_L17]; exact Mn_none
  | succ n hk17 =>
    intros
    rw [F_X4_flow_L17]
    repeat' first | exact Mn_ret | exact Mn_rz | exact hk17 _ _ _ _  _ | exact M_X4_letOf _ _ _ | exact M_X4_measureOf _ _ _ _ | exact M_X4_flow_B66 (F_X4_flow_L17 jx0 jx1 jx2 jx3 n) hk17 _ _ _ _ _ _ _ _ _ _ | refine Mn_nm (fun _ => ?_) | refine Mn_nab (fun _ _ => ?_) | refine Mn_nwb (fun _ _ => ?_) | refine Mn_pw (fun _ => ?_) | refine Mn_pz (fun _ => ?_) | refine Mn_aw (fun _ => ?_) | refine Mn_az (fun _ => ?_) | refine Mn_aq (fun _ => ?_) | refine Mn_bo (fun _ => ?_) | refine Mn_bd ?_ (fun _ _ => ?_) | refine Mn_iv ?_ | refine Mn_bLt ?_ ?_ | refine Mn_bLe ?_ ?_ | refine Mn_bEq ?_ ?_ | refine Mn_bN ?_ ?_ | refine Mn_g3 ?_ | refine Mn_g33 ?_ | refine Mn_g66 ?_ | refine Mn_gD ?_
set_option maxRecDepth 100000 in
set_option maxHeartbeats 4000000 in
theorem T_X4_flow_L17 {r : Int} {σE : Hp} (hX : Cx p R s m args meth c D dA b0 n0 m0 10 nE mE cX4_flow RX4 1 24) (hR : Rx meth (some .int)) (hnm : meth.name = yX4_flow.name) (hQ : Q = Qm D dA b0 n0 m0 below args s (some (pV 0 r)) σE) (hE : nE = σE.1 ∧ mE = σE.2.1) (jx0 : Int) (jx1 : Int) (jx2 : Int) (jx3 : Int) : ∀ (n : Nat) (jx4 : Int) (jx5 : Int) (jx6 : Int) (jx7 : Int) (σ : Hp), F_X4_flow_L17 jx0 jx1 jx2 jx3 n jx4 jx5 jx6 jx7 σ = some (r, σE) → G p l e R s m args below meth c D dA b0 n0 m0 10 nE mE Q 17 [(0, 2, jx0), (1, 0, jx1), (2, 0, jx2), (3, 2, jx3), (4, 0, jx4), (5, 0, jx5), (6, 0, jx6), (7, 0, jx7)] [] σ := by
  intro n
  induction n with
  | zero =>
    intro jx4 jx5 jx6 jx7 σ hF
    rw [F_X4_flow_L17] at hF
    cases hF
  | succ n hk17 =>
    intro jx4 jx5 jx6 jx7 σ hF
    rw [F_X4_flow_L17] at hF
    refine g_iload hX 7 dX4_flow_17 rfl ?_
    refine g_aload_n hX 0 dX4_flow_19 rfl rfl ?_
    refine g_get hX fl_X4_11 (by decide) (by decide) dX4_flow_20 hF (fun jv2 hF => ?_)
    refine g_alen hX (by decide) dX4_flow_23 hF (fun jv3 hF => ?_)
    refine g_icmp_ge (tgt := 141) hX dX4_flow_24 (by decide) hF (fun hc hF => ?_) (fun hc hF => ?_)
    · refine g_iload_n hX 2 dX4_flow_27 rfl rfl ?_
      refine g_iload hX 7 dX4_flow_28 rfl ?_
      refine g_callS (t := 0) (rest := []) [(0, jx2), (0, jx7)] hX cw_X4_47 (fun r σ1 h => T_X4_letOf l D dA b0 jx2 jx7 σ σ1 r h) ⟨by decide, by decide⟩ rfl rfl (Nat.le_of_ble_eq_true rfl) dX4_flow_30 hF (fun jv4 σ5 hF => ?_)
      refine g_istore (lv' := [(8, 0, jv4), (0, 2, jx0), (1, 0, jx1), (2, 0, jx2), (3, 2, jx3), (4, 0, jx4), (5, 0, jx5), (6, 0, jx6), (7, 0, jx7)]) hX dX4_flow_33 (by decide) rfl ?_
      refine g_aload_n hX 1 dX4_flow_35 rfl rfl ?_
      refine g_iload_n hX 2 dX4_flow_36 rfl rfl ?_
      refine g_iload hX 8 dX4_flow_37 rfl ?_
      refine g_callV (t := 0) (ci := 4) (rest := []) [(0, jx1), (0, jx7)] hX cw_X4_40 rfl (by decide) (by decide) (fun r σ1 h => T_X4_measureOf l D dA b0  jx0 jx1 jx7 σ5 σ1 r h) ⟨by decide, by decide⟩ rfl rfl (Nat.le_of_ble_eq_true rfl) dX4_flow_39 hF (fun jv6 σ7 hF => ?_)
      refine g_iload hX 0 dX4_flow_42 rfl ?_
      refine g_isub hX dX4_flow_44 ?_
      refine g_iload hX 6 dX4_flow_45 rfl ?_
      refine g_iadd hX dX4_flow_47 ?_
      refine g_iload hX 7 dX4_flow_48 rfl ?_
      refine g_iadd hX dX4_flow_50 ?_
      refine g_iload hX 8 dX4_flow_51 rfl ?_
      refine g_aload_n hX 4 dX4_flow_53 rfl rfl ?_
      refine g_alen hX (by decide) dX4_flow_54 hF (fun jv8 hF => ?_)
      refine g_icmp_ge (tgt := 65) hX dX4_flow_55 (by decide) hF (fun hc hF => ?_) (fun hc hF => ?_)
      · refine g_aload_n hX 4 dX4_flow_58 rfl rfl ?_
        refine g_iload hX 8 dX4_flow_59 rfl ?_
        refine g_iald hX dX4_flow_61 hF (fun jv9 hF => ?_)
        refine g_goto (tgt := 66) hX dX4_flow_62 (by decide) ?_
        refine g_lvp (lv' := [(0, 2, jx0), (1, 0, jx1), (2, 0, jx2), (3, 2, jx3), (4, 0, jx4), (7, 0, jx7), (8, 0, jv4)]) [1, 2, 3, 4, 5, 8, 0] rfl ?_
        exact T_X4_flow_B66 hX hR hnm hQ hE (F_X4_flow_L17 jx0 jx1 jx2 jx3 n) jx0 jx1 jx2 jx3 jx4 jx7 jv4 jv9 (((jv6 - jv4) + jx5) + jx6) hk17  σ7 hF
      · refine g_iconst hX dX4_flow_65 ?_
        refine g_lvp (lv' := [(0, 2, jx0), (1, 0, jx1), (2, 0, jx2), (3, 2, jx3), (4, 0, jx4), (7, 0, jx7), (8, 0, jv4)]) [1, 2, 3, 4, 5, 8, 0] rfl ?_
        exact T_X4_flow_B66 hX hR hnm hQ hE (F_X4_flow_L17 jx0 jx1 jx2 jx3 n) jx0 jx1 jx2 jx3 jx4 jx7 jv4 0 (((jv6 - jv4) + jx5) + jx6) hk17  σ7 hF
    · refine g_iload hX 4 dX4_flow_141 rfl ?_
      exact g_iret hX hR hQ hE dX4_flow_143 hF
def F_X4_flow (jx0 : Int) (jx1 : Int) (jx2 : Int) (jx3 : Int) (σ : Hp) : Option (Int × Hp) :=
  (pw 5 σ jx0 3 0).bind fun σ1 => F_X4_flow_L17 jx0 jx1 jx2 jx3 fu 0 0 0 0 σ1
theorem M_X4_flow (jx0 : Int) (jx1 : Int) (jx2 : Int) (jx3 : Int) (σ : Hp) : Mn σ (F_X4_flow jx0 jx1 jx2 jx3 σ) := by
  unfold F_X4_flow
  repeat' first | exact Mn_ret | exact Mn_rz | exact M_X4_flow_L17 _ _ _ _ _ _ _ _ _ _ | refine Mn_nm (fun _ => ?_) | refine Mn_nab (fun _ _ => ?_) | refine Mn_nwb (fun _ _ => ?_) | refine Mn_pw (fun _ => ?_) | refine Mn_pz (fun _ => ?_) | refine Mn_aw (fun _ => ?_) | refine Mn_az (fun _ => ?_) | refine Mn_aq (fun _ => ?_) | refine Mn_bo (fun _ => ?_) | refine Mn_bd ?_ (fun _ _ => ?_) | refine Mn_iv ?_ | refine Mn_bLt ?_ ?_ | refine Mn_bLe ?_ ?_ | refine Mn_bEq ?_ ?_ | refine Mn_bN ?_ ?_ | refine Mn_g3 ?_ | refine Mn_g33 ?_ | refine Mn_g66 ?_ | refine Mn_gD ?_
set_option maxRecDepth 100000 in
set_option maxHeartbeats 4000000 in
theorem T_X4_flow (l : Launch) (D : va_G) (dA : Nat → ClassId) (b0 : Nat) (jx0 : Int) (jx1 : Int) (jx2 : Int) (jx3 : Int) (σ σE : Hp) (r : Int) (hF : F_X4_flow jx0 jx1 jx2 jx3 σ = some (r, σE)) : Ct l D dA b0 yX4_flow cX4_flow 10 (some .int) 1 24 [(2, jx0), (0, jx1), (0, jx2), (2, jx3)] σ (some (pV 0 r)) σE := by
  refine Ct.of (lv0 := [(0, 2, jx0), (1, 0, jx1), (2, 0, jx2), (3, 2, jx3)]) (by decide) RX4 rfl (Nat.le_of_ble_eq_true rfl) rfl ?_ (M_X4_flow jx0 jx1 jx2 jx3 σ r σE hF)
  intro p e R s m args below meth c hX hR hnm
  obtain ⟨Q, hQ⟩ : ∃ Q, Q = Qm D dA b0 σ.1 σ.2.1 below args s (some (pV 0 r)) σE := ⟨_, rfl⟩
  rw [← hQ]
  have hE : σE.1 = σE.1 ∧ σE.2.1 = σE.2.1 := ⟨rfl, rfl⟩
  unfold F_X4_flow at hF
  refine g_iconst hX dX4_flow_0 ?_
  refine g_istore (lv' := [(4, 0, 0), (0, 2, jx0), (1, 0, jx1), (2, 0, jx2), (3, 2, jx3)]) hX dX4_flow_1 (by decide) rfl ?_
  refine g_iconst hX dX4_flow_3 ?_
  refine g_istore (lv' := [(5, 0, 0), (4, 0, 0), (0, 2, jx0), (1, 0, jx1), (2, 0, jx2), (3, 2, jx3)]) hX dX4_flow_4 (by decide) rfl ?_
  refine g_iconst hX dX4_flow_6 ?_
  refine g_istore (lv' := [(6, 0, 0), (5, 0, 0), (4, 0, 0), (0, 2, jx0), (1, 0, jx1), (2, 0, jx2), (3, 2, jx3)]) hX dX4_flow_7 (by decide) rfl ?_
  refine g_aload_n hX 3 dX4_flow_9 rfl rfl ?_
  refine g_iconst hX dX4_flow_10 ?_
  refine u_put hX fp_X4_63 (by decide) (by decide) dX4_flow_11 hF (fun σ1 hF => ?_)
  refine g_iconst hX dX4_flow_14 ?_
  refine g_istore (lv' := [(7, 0, 0), (6, 0, 0), (5, 0, 0), (4, 0, 0), (0, 2, jx0), (1, 0, jx1), (2, 0, jx2), (3, 2, jx3)]) hX dX4_flow_15 (by decide) rfl ?_
  refine g_lvp (lv' := [(0, 2, jx0), (1, 0, jx1), (2, 0, jx2), (3, 2, jx3), (4, 0, 0), (5, 0, 0), (6, 0, 0), (7, 0, 0)]) [4, 5, 6, 7, 3, 2, 1, 0] rfl ?_
  exact T_X4_flow_L17 hX hR hnm hQ hE jx0 jx1 jx2 jx3  fu 0 0 0 0 σ1 hF
end
