section
variable {p : Program} {l : Launch} {e : Env} {R : Room} {s : State} {m : MethodId} {args : Array Value} {below : List Frame} {meth : Method} {c : Code} {D : va_G} {dA : Nat → ClassId} {b0 n0 m0 nE mE : Nat} {Q : State → Prop}
def F_X8_in (jx0 : Int) (jx1 : Int) (jx2 : Int) (σ : Hp) : Option (Int × Hp) :=
  bLt jx0 jx1 (rz 0 σ) (bLe jx0 jx2 (rz 1 σ) (rz 0 σ))
theorem M_X8_in (jx0 : Int) (jx1 : Int) (jx2 : Int) (σ : Hp) : Mn σ (F_X8_in jx0 jx1 jx2 σ) := by
  unfold F_X8_in
  repeat' first | exact Mn_ret | exact Mn_rz | refine Mn_nm (fun _ => ?_) | refine Mn_nab (fun _ _ => ?_) | refine Mn_nwb (fun _ _ => ?_) | refine Mn_pw (fun _ => ?_) | refine Mn_pz (fun _ => ?_) | refine Mn_aw (fun _ => ?_) | refine Mn_az (fun _ => ?_) | refine Mn_aq (fun _ => ?_) | refine Mn_bo (fun _ => ?_) | refine Mn_bd ?_ (fun _ _ => ?_) | refine Mn_iv ?_ | refine Mn_bLt ?_ ?_ | refine Mn_bLe ?_ ?_ | refine Mn_bEq ?_ ?_ | refine Mn_bN ?_ ?_ | refine Mn_g3 ?_ | refine Mn_g33 ?_ | refine Mn_g66 ?_ | refine Mn_gD ?_
set_option maxRecDepth 100000 in
set_option maxHeartbeats 4000000 in
theorem T_X8_in (l : Launch) (D : va_G) (dA : Nat → ClassId) (b0 : Nat) (jx0 : Int) (jx1 : Int) (jx2 : Int) (σ σE : Hp) (r : Int) (hF : F_X8_in jx0 jx1 jx2 σ = some (r, σE)) : Ct l D dA b0 yX8_in cX8_in 3 (some .boolean) 0 0 [(0, jx0), (0, jx1), (0, jx2)] σ (some (pV 0 r)) σE := by
  refine Ct.of (lv0 := [(0, 0, jx0), (1, 0, jx1), (2, 0, jx2)]) (by decide) RX8 rfl (Nat.le_of_ble_eq_true rfl) rfl ?_ (M_X8_in jx0 jx1 jx2 σ r σE hF)
  intro p e R s m args below meth c hX hR hnm
  obtain ⟨Q, hQ⟩ : ∃ Q, Q = Qm D dA b0 σ.1 σ.2.1 below args s (some (pV 0 r)) σE := ⟨_, rfl⟩
  rw [← hQ]
  have hE : σE.1 = σE.1 ∧ σE.2.1 = σE.2.1 := ⟨rfl, rfl⟩
  unfold F_X8_in at hF
  refine g_iload_n hX 0 dX8_in_0 rfl rfl ?_
  refine g_iload_n hX 1 dX8_in_1 rfl rfl ?_
  refine g_icmp_lt (tgt := 14) hX dX8_in_2 (by decide) hF (fun hc hF => ?_) (fun hc hF => ?_)
  · refine g_iconst hX dX8_in_14 ?_
    exact g_zret hX hR hQ hE dX8_in_15 hF
  · refine g_iload_n hX 0 dX8_in_5 rfl rfl ?_
    refine g_iload_n hX 2 dX8_in_6 rfl rfl ?_
    refine g_icmp_gt (tgt := 14) hX dX8_in_7 (by decide) hF (fun hc hF => ?_) (fun hc hF => ?_)
    · refine g_iconst hX dX8_in_10 ?_
      refine g_goto (tgt := 15) hX dX8_in_11 (by decide) ?_
      exact g_zret hX hR hQ hE dX8_in_15 hF
    · refine g_iconst hX dX8_in_14 ?_
      exact g_zret hX hR hQ hE dX8_in_15 hF
end

section
variable {p : Program} {l : Launch} {e : Env} {R : Room} {s : State} {m : MethodId} {args : Array Value} {below : List Frame} {meth : Method} {c : Code} {D : va_G} {dA : Nat → ClassId} {b0 n0 m0 nE mE : Nat} {Q : State → Prop}
def F_X8_init (jx0 : Int) (σ : Hp) : Option (Int × Hp) :=
  iv 9 σ jx0 (nab 11 σ 3 0 fun ja1 σ2 => (pw 9 σ2 jx0 2 ja1).bind fun σ3 => nab 11 σ3 3 0 fun ja4 σ5 => (pw 9 σ5 jx0 3 ja4).bind fun σ6 => nab 11 σ6 3 0 fun ja7 σ8 => (pw 9 σ8 jx0 4 ja7).bind fun σ9 => nab 11 σ9 3 0 fun ja10 σ11 => (pw 9 σ11 jx0 5 ja10).bind fun σ12 => nab 11 σ12 93 0 fun ja13 σ14 => (pw 9 σ14 jx0 6 ja13).bind fun σ15 => nab 11 σ15 3 0 fun ja16 σ17 => (pw 9 σ17 jx0 7 ja16).bind fun σ18 => (pw 9 σ18 jx0 8 1).bind fun σ19 => (pw 9 σ19 jx0 9 1).bind fun σ20 => nab 11 σ20 10 0 fun ja21 σ22 => (aw 11 σ22 ja21 0 1).bind fun σ23 => (aw 11 σ23 ja21 1 1).bind fun σ24 => (aw 11 σ24 ja21 2 1).bind fun σ25 => (aw 11 σ25 ja21 3 1).bind fun σ26 => (aw 11 σ26 ja21 4 1).bind fun σ27 => (aw 11 σ27 ja21 5 1).bind fun σ28 => (aw 11 σ28 ja21 6 1).bind fun σ29 => (aw 11 σ29 ja21 7 1).bind fun σ30 => (aw 11 σ30 ja21 8 1).bind fun σ31 => (aw 11 σ31 ja21 9 1).bind fun σ32 => (pw 9 σ32 jx0 10 ja21).bind fun σ33 => (pw 9 σ33 jx0 11 1).bind fun σ34 => nab 11 σ34 81 0 fun ja35 σ36 => (pw 9 σ36 jx0 12 ja35).bind fun σ37 => nab 11 σ37 81 0 fun ja38 σ39 => (pw 9 σ39 jx0 13 ja38).bind fun σ40 => nab 11 σ40 81 0 fun ja41 σ42 => (pw 9 σ42 jx0 14 ja41).bind fun σ43 => nab 11 σ43 243 0 fun ja44 σ45 => (pw 9 σ45 jx0 15 ja44).bind fun σ46 => nab 11 σ46 3 0 fun ja47 σ48 => (pw 9 σ48 jx0 16 ja47).bind fun σ49 => nab 11 σ49 3 0 fun ja50 σ51 => (pw 9 σ51 jx0 17 ja50).bind fun σ52 => nab 13 σ52 81000 0 fun ja53 σ54 => (pw 9 σ54 jx0 20 ja53).bind fun σ55 => nab 13 σ55 81000 0 fun ja56 σ57 => (pw 9 σ57 jx0 21 ja56).bind fun σ58 => nab 12 σ58 81000 0 fun ja59 σ60 => (pw 9 σ60 jx0 22 ja59).bind fun σ61 => nab 11 σ61 81000 0 fun ja62 σ63 => (pw 9 σ63 jx0 23 ja62).bind fun σ64 => nab 11 σ64 3 0 fun ja65 σ66 => (pw 9 σ66 jx0 24 ja65).bind fun σ67 => nab 11 σ67 3 0 fun ja68 σ69 => (pw 9 σ69 jx0 25 ja68).bind fun σ70 => nab 13 σ70 81 0 fun ja71 σ72 => (pw 9 σ72 jx0 26 ja71).bind fun σ73 => nab 11 σ73 81 0 fun ja74 σ75 => (pw 9 σ75 jx0 27 ja74).bind fun σ76 => nab 11 σ76 81 0 fun ja77 σ78 => (pw 9 σ78 jx0 28 ja77).bind fun σ79 => nab 13 σ79 81 0 fun ja80 σ81 => (pw 9 σ81 jx0 29 ja80).bind fun σ82 => nab 12 σ82 81 0 fun ja83 σ84 => (pw 9 σ84 jx0 30 ja83).bind fun σ85 => nab 11 σ85 81 0 fun ja86 σ87 => (pw 9 σ87 jx0 31 ja86).bind fun σ88 => nab 11 σ88 11 0 fun ja89 σ90 => (pw 9 σ90 jx0 34 ja89).bind fun σ91 => nab 11 σ91 11 0 fun ja92 σ93 => (pw 9 σ93 jx0 35 ja92).bind fun σ94 => nab 11 σ94 11 0 fun ja95 σ96 => (pw 9 σ96 jx0 36 ja95).bind fun σ97 => nab 11 σ97 11 0 fun ja98 σ99 => (pw 9 σ99 jx0 37 ja98).bind fun σ100 => nab 11 σ100 11 0 fun ja101 σ102 => (pw 9 σ102 jx0 38 ja101).bind fun σ103 => nab 11 σ103 11 0 fun ja104 σ105 => (pw 9 σ105 jx0 39 ja104).bind fun σ106 => (rd 9 σ106 jx0 12).bind fun jv107 => (aw 11 σ106 jv107 0 (-1)).bind fun σ108 => (rd 9 σ108 jx0 14).bind fun jv109 => (aw 11 σ108 jv109 0 (-1)).bind fun σ110 => some (0, σ110))
theorem M_X8_init (jx0 : Int) (σ : Hp) : Mn σ (F_X8_init jx0 σ) := by
  unfold F_X8_init
  repeat' first | exact Mn_ret | exact Mn_rz | refine Mn_nm (fun _ => ?_) | refine Mn_nab (fun _ _ => ?_) | refine Mn_nwb (fun _ _ => ?_) | refine Mn_pw (fun _ => ?_) | refine Mn_pz (fun _ => ?_) | refine Mn_aw (fun _ => ?_) | refine Mn_az (fun _ => ?_) | refine Mn_aq (fun _ => ?_) | refine Mn_bo (fun _ => ?_) | refine Mn_bd ?_ (fun _ _ => ?_) | refine Mn_iv ?_ | refine Mn_bLt ?_ ?_ | refine Mn_bLe ?_ ?_ | refine Mn_bEq ?_ ?_ | refine Mn_bN ?_ ?_ | refine Mn_g3 ?_ | refine Mn_g33 ?_ | refine Mn_g66 ?_ | refine Mn_gD ?_
set_option maxRecDepth 100000 in
set_option maxHeartbeats 4000000 in
theorem T_X8_init (l : Launch) (D : va_G) (dA : Nat → ClassId) (b0 : Nat) (jx0 : Int) (σ σE : Hp) (r : Int) (hF : F_X8_init jx0 σ = some (r, σE)) : Ct l D dA b0 yX8_init cX8_init 1 none 1 20 [(2, jx0)] σ none σE := by
  refine Ct.of (lv0 := [(0, 2, jx0)]) (by decide) RX8 rfl (Nat.le_of_ble_eq_true rfl) rfl ?_ (M_X8_init jx0 σ r σE hF)
  intro p e R s m args below meth c hX hR hnm
  obtain ⟨Q, hQ⟩ : ∃ Q, Q = Qm D dA b0 σ.1 σ.2.1 below args s none σE := ⟨_, rfl⟩
  rw [← hQ]
  have hE : σE.1 = σE.1 ∧ σE.2.1 = σE.2.1 := ⟨rfl, rfl⟩
  unfold F_X8_init at hF
  refine g_aload_n hX 0 dX8_init_0 rfl rfl ?_
  refine u_objInit hX ow_X8_7 (by decide) (by decide) (Nat.le_of_ble_eq_true rfl) dX8_init_1 hF (fun hF => ?_)
  refine g_aload_n hX 0 dX8_init_4 rfl rfl ?_
  refine g_iconst hX dX8_init_5 ?_
  refine u_newa (atype := .int) (ty := .int) hX rfl (Or.inl ⟨rfl, rfl⟩) ac_int dX8_init_6 hF (fun ja1 σ2 hja1 hF => ?_)
  refine u_putF hX fp_X8_13 hnm (by decide) (by decide) dX8_init_8 hF (fun σ3 hF => ?_)
  refine g_aload_n hX 0 dX8_init_11 rfl rfl ?_
  refine g_iconst hX dX8_init_12 ?_
  refine u_newa (atype := .int) (ty := .int) hX rfl (Or.inl ⟨rfl, rfl⟩) ac_int dX8_init_13 hF (fun ja4 σ5 hja4 hF => ?_)
  refine u_putF hX fp_X8_17 hnm (by decide) (by decide) dX8_init_15 hF (fun σ6 hF => ?_)
  refine g_aload_n hX 0 dX8_init_18 rfl rfl ?_
  refine g_iconst hX dX8_init_19 ?_
  refine u_newa (atype := .int) (ty := .int) hX rfl (Or.inl ⟨rfl, rfl⟩) ac_int dX8_init_20 hF (fun ja7 σ8 hja7 hF => ?_)
  refine u_putF hX fp_X8_20 hnm (by decide) (by decide) dX8_init_22 hF (fun σ9 hF => ?_)
  refine g_aload_n hX 0 dX8_init_25 rfl rfl ?_
  refine g_iconst hX dX8_init_26 ?_
  refine u_newa (atype := .int) (ty := .int) hX rfl (Or.inl ⟨rfl, rfl⟩) ac_int dX8_init_27 hF (fun ja10 σ11 hja10 hF => ?_)
  refine u_putF hX fp_X8_23 hnm (by decide) (by decide) dX8_init_29 hF (fun σ12 hF => ?_)
  refine g_aload_n hX 0 dX8_init_32 rfl rfl ?_
  refine g_bipush hX dX8_init_33 (by decide) ?_
  refine u_newa (atype := .int) (ty := .int) hX rfl (Or.inl ⟨rfl, rfl⟩) ac_int dX8_init_35 hF (fun ja13 σ14 hja13 hF => ?_)
  refine u_putF hX fp_X8_26 hnm (by decide) (by decide) dX8_init_37 hF (fun σ15 hF => ?_)
  refine g_aload_n hX 0 dX8_init_40 rfl rfl ?_
  refine g_iconst hX dX8_init_41 ?_
  refine u_newa (atype := .int) (ty := .int) hX rfl (Or.inl ⟨rfl, rfl⟩) ac_int dX8_init_42 hF (fun ja16 σ17 hja16 hF => ?_)
  refine u_putF hX fp_X8_29 hnm (by decide) (by decide) dX8_init_44 hF (fun σ18 hF => ?_)
  refine g_aload_n hX 0 dX8_init_47 rfl rfl ?_
  refine g_iconst hX dX8_init_48 ?_
  refine u_put hX fp_X8_32 (by decide) (by decide) dX8_init_49 hF (fun σ19 hF => ?_)
  refine g_aload_n hX 0 dX8_init_52 rfl rfl ?_
  refine g_iconst hX dX8_init_53 ?_
  refine u_put hX fp_X8_35 (by decide) (by decide) dX8_init_54 hF (fun σ20 hF => ?_)
  refine g_aload_n hX 0 dX8_init_57 rfl rfl ?_
  refine g_bipush hX dX8_init_58 (by decide) ?_
  refine u_newa (atype := .int) (ty := .int) hX rfl (Or.inl ⟨rfl, rfl⟩) ac_int dX8_init_60 hF (fun ja21 σ22 hja21 hF => ?_)
  refine g_dup hX dX8_init_62 (by decide) ?_
  refine g_iconst hX dX8_init_63 ?_
  refine g_iconst hX dX8_init_64 ?_
  refine u_iast hX dX8_init_65 hF (fun σ23 hF => ?_)
  refine g_dup hX dX8_init_66 (by decide) ?_
  refine g_iconst hX dX8_init_67 ?_
  refine g_iconst hX dX8_init_68 ?_
  refine u_iast hX dX8_init_69 hF (fun σ24 hF => ?_)
  refine g_dup hX dX8_init_70 (by decide) ?_
  refine g_iconst hX dX8_init_71 ?_
  refine g_iconst hX dX8_init_72 ?_
  refine u_iast hX dX8_init_73 hF (fun σ25 hF => ?_)
  refine g_dup hX dX8_init_74 (by decide) ?_
  refine g_iconst hX dX8_init_75 ?_
  refine g_iconst hX dX8_init_76 ?_
  refine u_iast hX dX8_init_77 hF (fun σ26 hF => ?_)
  refine g_dup hX dX8_init_78 (by decide) ?_
  refine g_iconst hX dX8_init_79 ?_
  refine g_iconst hX dX8_init_80 ?_
  refine u_iast hX dX8_init_81 hF (fun σ27 hF => ?_)
  refine g_dup hX dX8_init_82 (by decide) ?_
  refine g_iconst hX dX8_init_83 ?_
  refine g_iconst hX dX8_init_84 ?_
  refine u_iast hX dX8_init_85 hF (fun σ28 hF => ?_)
  refine g_dup hX dX8_init_86 (by decide) ?_
  refine g_bipush hX dX8_init_87 (by decide) ?_
  refine g_iconst hX dX8_init_89 ?_
  refine u_iast hX dX8_init_90 hF (fun σ29 hF => ?_)
  refine g_dup hX dX8_init_91 (by decide) ?_
  refine g_bipush hX dX8_init_92 (by decide) ?_
  refine g_iconst hX dX8_init_94 ?_
  refine u_iast hX dX8_init_95 hF (fun σ30 hF => ?_)
  refine g_dup hX dX8_init_96 (by decide) ?_
  refine g_bipush hX dX8_init_97 (by decide) ?_
  refine g_iconst hX dX8_init_99 ?_
  refine u_iast hX dX8_init_100 hF (fun σ31 hF => ?_)
  refine g_dup hX dX8_init_101 (by decide) ?_
  refine g_bipush hX dX8_init_102 (by decide) ?_
  refine g_iconst hX dX8_init_104 ?_
  refine u_iast hX dX8_init_105 hF (fun σ32 hF => ?_)
  refine u_putF hX fp_X8_38 hnm (by decide) (by decide) dX8_init_106 hF (fun σ33 hF => ?_)
  refine g_aload_n hX 0 dX8_init_109 rfl rfl ?_
  refine g_iconst hX dX8_init_110 ?_
  refine u_put hX fp_X8_41 (by decide) (by decide) dX8_init_111 hF (fun σ34 hF => ?_)
  refine g_aload_n hX 0 dX8_init_114 rfl rfl ?_
  refine g_bipush hX dX8_init_115 (by decide) ?_
  refine u_newa (atype := .int) (ty := .int) hX rfl (Or.inl ⟨rfl, rfl⟩) ac_int dX8_init_117 hF (fun ja35 σ36 hja35 hF => ?_)
  refine u_putF hX fp_X8_44 hnm (by decide) (by decide) dX8_init_119 hF (fun σ37 hF => ?_)
  refine g_aload_n hX 0 dX8_init_122 rfl rfl ?_
  refine g_bipush hX dX8_init_123 (by decide) ?_
  refine u_newa (atype := .int) (ty := .int) hX rfl (Or.inl ⟨rfl, rfl⟩) ac_int dX8_init_125 hF (fun ja38 σ39 hja38 hF => ?_)
  refine u_putF hX fp_X8_47 hnm (by decide) (by decide) dX8_init_127 hF (fun σ40 hF => ?_)
  refine g_aload_n hX 0 dX8_init_130 rfl rfl ?_
  refine g_bipush hX dX8_init_131 (by decide) ?_
  refine u_newa (atype := .int) (ty := .int) hX rfl (Or.inl ⟨rfl, rfl⟩) ac_int dX8_init_133 hF (fun ja41 σ42 hja41 hF => ?_)
  refine u_putF hX fp_X8_50 hnm (by decide) (by decide) dX8_init_135 hF (fun σ43 hF => ?_)
  refine g_aload_n hX 0 dX8_init_138 rfl rfl ?_
  refine g_sipush hX dX8_init_139 (by decide) ?_
  refine u_newa (atype := .int) (ty := .int) hX rfl (Or.inl ⟨rfl, rfl⟩) ac_int dX8_init_142 hF (fun ja44 σ45 hja44 hF => ?_)
  refine u_putF hX fp_X8_53 hnm (by decide) (by decide) dX8_init_144 hF (fun σ46 hF => ?_)
  refine g_aload_n hX 0 dX8_init_147 rfl rfl ?_
  refine g_iconst hX dX8_init_148 ?_
  refine u_newa (atype := .int) (ty := .int) hX rfl (Or.inl ⟨rfl, rfl⟩) ac_int dX8_init_149 hF (fun ja47 σ48 hja47 hF => ?_)
  refine u_putF hX fp_X8_56 hnm (by decide) (by decide) dX8_init_151 hF (fun σ49 hF => ?_)
  refine g_aload_n hX 0 dX8_init_154 rfl rfl ?_
  refine g_iconst hX dX8_init_155 ?_
  refine u_newa (atype := .int) (ty := .int) hX rfl (Or.inl ⟨rfl, rfl⟩) ac_int dX8_init_156 hF (fun ja50 σ51 hja50 hF => ?_)
  refine u_putF hX fp_X8_59 hnm (by decide) (by decide) dX8_init_158 hF (fun σ52 hF => ?_)
  refine g_aload_n hX 0 dX8_init_161 rfl rfl ?_
  refine g_ldc (z := 81000) hX kc_X8_62 (by decide) dX8_init_162 ?_
  refine u_newa (atype := .boolean) (ty := .boolean) hX rfl (Or.inr (Or.inr ⟨rfl, rfl⟩)) ac_boolean dX8_init_164 hF (fun ja53 σ54 hja53 hF => ?_)
  refine u_putF hX fp_X8_63 hnm (by decide) (by decide) dX8_init_166 hF (fun σ55 hF => ?_)
  refine g_aload_n hX 0 dX8_init_169 rfl rfl ?_
  refine g_ldc (z := 81000) hX kc_X8_62 (by decide) dX8_init_170 ?_
  refine u_newa (atype := .boolean) (ty := .boolean) hX rfl (Or.inr (Or.inr ⟨rfl, rfl⟩)) ac_boolean dX8_init_172 hF (fun ja56 σ57 hja56 hF => ?_)
  refine u_putF hX fp_X8_67 hnm (by decide) (by decide) dX8_init_174 hF (fun σ58 hF => ?_)
  refine g_aload_n hX 0 dX8_init_177 rfl rfl ?_
  refine g_ldc (z := 81000) hX kc_X8_62 (by decide) dX8_init_178 ?_
  refine u_newa (atype := .long) (ty := .long) hX rfl (Or.inr (Or.inl ⟨rfl, rfl⟩)) ac_long dX8_init_180 hF (fun ja59 σ60 hja59 hF => ?_)
  refine u_putF hX fp_X8_70 hnm (by decide) (by decide) dX8_init_182 hF (fun σ61 hF => ?_)
  refine g_aload_n hX 0 dX8_init_185 rfl rfl ?_
  refine g_ldc (z := 81000) hX kc_X8_62 (by decide) dX8_init_186 ?_
  refine u_newa (atype := .int) (ty := .int) hX rfl (Or.inl ⟨rfl, rfl⟩) ac_int dX8_init_188 hF (fun ja62 σ63 hja62 hF => ?_)
  refine u_putF hX fp_X8_74 hnm (by decide) (by decide) dX8_init_190 hF (fun σ64 hF => ?_)
  refine g_aload_n hX 0 dX8_init_193 rfl rfl ?_
  refine g_iconst hX dX8_init_194 ?_
  refine u_newa (atype := .int) (ty := .int) hX rfl (Or.inl ⟨rfl, rfl⟩) ac_int dX8_init_195 hF (fun ja65 σ66 hja65 hF => ?_)
  refine u_putF hX fp_X8_77 hnm (by decide) (by decide) dX8_init_197 hF (fun σ67 hF => ?_)
  refine g_aload_n hX 0 dX8_init_200 rfl rfl ?_
  refine g_iconst hX dX8_init_201 ?_
  refine u_newa (atype := .int) (ty := .int) hX rfl (Or.inl ⟨rfl, rfl⟩) ac_int dX8_init_202 hF (fun ja68 σ69 hja68 hF => ?_)
  refine u_putF hX fp_X8_80 hnm (by decide) (by decide) dX8_init_204 hF (fun σ70 hF => ?_)
  refine g_aload_n hX 0 dX8_init_207 rfl rfl ?_
  refine g_bipush hX dX8_init_208 (by decide) ?_
  refine u_newa (atype := .boolean) (ty := .boolean) hX rfl (Or.inr (Or.inr ⟨rfl, rfl⟩)) ac_boolean dX8_init_210 hF (fun ja71 σ72 hja71 hF => ?_)
  refine u_putF hX fp_X8_83 hnm (by decide) (by decide) dX8_init_212 hF (fun σ73 hF => ?_)
  refine g_aload_n hX 0 dX8_init_215 rfl rfl ?_
  refine g_bipush hX dX8_init_216 (by decide) ?_
  refine u_newa (atype := .int) (ty := .int) hX rfl (Or.inl ⟨rfl, rfl⟩) ac_int dX8_init_218 hF (fun ja74 σ75 hja74 hF => ?_)
  refine u_putF hX fp_X8_86 hnm (by decide) (by decide) dX8_init_220 hF (fun σ76 hF => ?_)
  refine g_aload_n hX 0 dX8_init_223 rfl rfl ?_
  refine g_bipush hX dX8_init_224 (by decide) ?_
  refine u_newa (atype := .int) (ty := .int) hX rfl (Or.inl ⟨rfl, rfl⟩) ac_int dX8_init_226 hF (fun ja77 σ78 hja77 hF => ?_)
  refine u_putF hX fp_X8_89 hnm (by decide) (by decide) dX8_init_228 hF (fun σ79 hF => ?_)
  refine g_aload_n hX 0 dX8_init_231 rfl rfl ?_
  refine g_bipush hX dX8_init_232 (by decide) ?_
  refine u_newa (atype := .boolean) (ty := .boolean) hX rfl (Or.inr (Or.inr ⟨rfl, rfl⟩)) ac_boolean dX8_init_234 hF (fun ja80 σ81 hja80 hF => ?_)
  refine u_putF hX fp_X8_92 hnm (by decide) (by decide) dX8_init_236 hF (fun σ82 hF => ?_)
  refine g_aload_n hX 0 dX8_init_239 rfl rfl ?_
  refine g_bipush hX dX8_init_240 (by decide) ?_
  refine u_newa (atype := .long) (ty := .long) hX rfl (Or.inr (Or.inl ⟨rfl, rfl⟩)) ac_long dX8_init_242 hF (fun ja83 σ84 hja83 hF => ?_)
  refine u_putF hX fp_X8_95 hnm (by decide) (by decide) dX8_init_244 hF (fun σ85 hF => ?_)
  refine g_aload_n hX 0 dX8_init_247 rfl rfl ?_
  refine g_bipush hX dX8_init_248 (by decide) ?_
  refine u_newa (atype := .int) (ty := .int) hX rfl (Or.inl ⟨rfl, rfl⟩) ac_int dX8_init_250 hF (fun ja86 σ87 hja86 hF => ?_)
  refine u_putF hX fp_X8_98 hnm (by decide) (by decide) dX8_init_252 hF (fun σ88 hF => ?_)
  refine g_aload_n hX 0 dX8_init_255 rfl rfl ?_
  refine g_bipush hX dX8_init_256 (by decide) ?_
  refine u_newa (atype := .int) (ty := .int) hX rfl (Or.inl ⟨rfl, rfl⟩) ac_int dX8_init_258 hF (fun ja89 σ90 hja89 hF => ?_)
  refine u_putF hX fp_X8_101 hnm (by decide) (by decide) dX8_init_260 hF (fun σ91 hF => ?_)
  refine g_aload_n hX 0 dX8_init_263 rfl rfl ?_
  refine g_bipush hX dX8_init_264 (by decide) ?_
  refine u_newa (atype := .int) (ty := .int) hX rfl (Or.inl ⟨rfl, rfl⟩) ac_int dX8_init_266 hF (fun ja92 σ93 hja92 hF => ?_)
  refine u_putF hX fp_X8_104 hnm (by decide) (by decide) dX8_init_268 hF (fun σ94 hF => ?_)
  refine g_aload_n hX 0 dX8_init_271 rfl rfl ?_
  refine g_bipush hX dX8_init_272 (by decide) ?_
  refine u_newa (atype := .int) (ty := .int) hX rfl (Or.inl ⟨rfl, rfl⟩) ac_int dX8_init_274 hF (fun ja95 σ96 hja95 hF => ?_)
  refine u_putF hX fp_X8_107 hnm (by decide) (by decide) dX8_init_276 hF (fun σ97 hF => ?_)
  refine g_aload_n hX 0 dX8_init_279 rfl rfl ?_
  refine g_bipush hX dX8_init_280 (by decide) ?_
  refine u_newa (atype := .int) (ty := .int) hX rfl (Or.inl ⟨rfl, rfl⟩) ac_int dX8_init_282 hF (fun ja98 σ99 hja98 hF => ?_)
  refine u_putF hX fp_X8_110 hnm (by decide) (by decide) dX8_init_284 hF (fun σ100 hF => ?_)
  refine g_aload_n hX 0 dX8_init_287 rfl rfl ?_
  refine g_bipush hX dX8_init_288 (by decide) ?_
  refine u_newa (atype := .int) (ty := .int) hX rfl (Or.inl ⟨rfl, rfl⟩) ac_int dX8_init_290 hF (fun ja101 σ102 hja101 hF => ?_)
  refine u_putF hX fp_X8_113 hnm (by decide) (by decide) dX8_init_292 hF (fun σ103 hF => ?_)
  refine g_aload_n hX 0 dX8_init_295 rfl rfl ?_
  refine g_bipush hX dX8_init_296 (by decide) ?_
  refine u_newa (atype := .int) (ty := .int) hX rfl (Or.inl ⟨rfl, rfl⟩) ac_int dX8_init_298 hF (fun ja104 σ105 hja104 hF => ?_)
  refine u_putF hX fp_X8_116 hnm (by decide) (by decide) dX8_init_300 hF (fun σ106 hF => ?_)
  refine g_aload_n hX 0 dX8_init_303 rfl rfl ?_
  refine g_get hX fl_X8_44 (by decide) (by decide) dX8_init_304 hF (fun jv107 hF => ?_)
  refine g_iconst hX dX8_init_307 ?_
  refine g_iconst hX dX8_init_308 ?_
  refine u_iast hX dX8_init_309 hF (fun σ108 hF => ?_)
  refine g_aload_n hX 0 dX8_init_310 rfl rfl ?_
  refine g_get hX fl_X8_50 (by decide) (by decide) dX8_init_311 hF (fun jv109 hF => ?_)
  refine g_iconst hX dX8_init_314 ?_
  refine g_iconst hX dX8_init_315 ?_
  refine u_iast hX dX8_init_316 hF (fun σ110 hF => ?_)
  exact g_vret hX hR hQ hE dX8_init_317 hF
end

section
variable {p : Program} {l : Launch} {e : Env} {R : Room} {s : State} {m : MethodId} {args : Array Value} {below : List Frame} {meth : Method} {c : Code} {D : va_G} {dA : Nat → ClassId} {b0 n0 m0 nE mE : Nat} {Q : State → Prop}
def F_X8_states_L4 (jx0 : Int) : Nat → Int → Int → Hp → Option (Int × Hp)
  | 0, _, _, _ => none
  | n + 1, jx1, jx2, σ => (rd 9 σ jx0 1).bind fun jv1 => bLt jx2 jv1 ((rd 9 σ jx0 3).bind fun jv2 => (ar 11 σ jv2 jx2).bind fun jv3 => nm ((jx1 * (jv3 + 1))) fun jv4 => (F_X8_states_L4 jx0 n) jv4 (jx2 + 1) σ) (some (jx1, σ))
theorem M_X8_states_L4 (jx0 : Int) : ∀ (n : Nat) (jx1 : Int) (jx2 : Int) (σ : Hp), Mn σ (F_X8_states_L4 jx0 n jx1 jx2 σ) := by
  intro n
  induction n with
  | zero => intros; rw [F_X8_states_L4]; exact Mn_none
  | succ n hk4 =>
    intros
    rw [F_X8_states_L4]
    repeat' first | exact Mn_ret | exact Mn_rz | exact hk4 _ _  _ | refine Mn_nm (fun _ => ?_) | refine Mn_nab (fun _ _ => ?_) | refine Mn_nwb (fun _ _ => ?_) | refine Mn_pw (fun _ => ?_) | refine Mn_pz (fun _ => ?_) | refine Mn_aw (fun _ => ?_) | refine Mn_az (fun _ => ?_) | refine Mn_aq (fun _ => ?_) | refine Mn_bo (fun _ => ?_) | refine Mn_bd ?_ (fun _ _ => ?_) | refine Mn_iv ?_ | refine Mn_bLt ?_ ?_ | refine Mn_bLe ?_ ?_ | refine Mn_bEq ?_ ?_ | refine Mn_bN ?_ ?_ | refine Mn_g3 ?_ | refine Mn_g33 ?_ | refine Mn_g66 ?_ | refine Mn_gD ?_
set_option maxRecDepth 100000 in
set_option maxHeartbeats 4000000 in
theorem T_X8_states_L4 {r : Int} {σE : Hp} (hX : Cx p R s m args meth c D dA b0 n0 m0 3 nE mE cX8_states RX8 0 0) (hR : Rx meth (some .int)) (hnm : meth.name = yX8_states.name) (hQ : Q = Qm D dA b0 n0 m0 below args s (some (pV 0 r)) σE) (hE : nE = σE.1 ∧ mE = σE.2.1) (jx0 : Int) : ∀ (n : Nat) (jx1 : Int) (jx2 : Int) (σ : Hp), F_X8_states_L4 jx0 n jx1 jx2 σ = some (r, σE) → G p l e R s m args below meth c D dA b0 n0 m0 3 nE mE Q 4 [(0, 2, jx0), (1, 0, jx1), (2, 0, jx2)] [] σ := by
  intro n
  induction n with
  | zero =>
    intro jx1 jx2 σ hF
    rw [F_X8_states_L4] at hF
    cases hF
  | succ n hk4 =>
    intro jx1 jx2 σ hF
    rw [F_X8_states_L4] at hF
    refine g_iload_n hX 2 dX8_states_4 rfl rfl ?_
    refine g_aload_n hX 0 dX8_states_5 rfl rfl ?_
    refine g_get hX fl_X8_119 (by decide) (by decide) dX8_states_6 hF (fun jv1 hF => ?_)
    refine g_icmp_ge (tgt := 29) hX dX8_states_9 (by decide) hF (fun hc hF => ?_) (fun hc hF => ?_)
    · refine g_iload_n hX 1 dX8_states_12 rfl rfl ?_
      refine g_aload_n hX 0 dX8_states_13 rfl rfl ?_
      refine g_get hX fl_X8_17 (by decide) (by decide) dX8_states_14 hF (fun jv2 hF => ?_)
      refine g_iload_n hX 2 dX8_states_17 rfl rfl ?_
      refine g_iald hX dX8_states_18 hF (fun jv3 hF => ?_)
      refine g_iconst hX dX8_states_19 ?_
      refine g_iadd hX dX8_states_20 ?_
      refine g_imul hX dX8_states_21 ?_
      refine g_nm hF (fun jv4 hF => ?_)
      refine g_istore_n (lv' := [(1, 0, jv4), (0, 2, jx0), (2, 0, jx2)]) hX dX8_states_22 rfl (by decide) rfl ?_
      refine g_iinc (lv' := [(2, 0, (jx2 + 1)), (1, 0, jv4), (0, 2, jx0)]) hX 2 dX8_states_23 rfl (by decide) rfl ?_
      refine g_goto (tgt := 4) hX dX8_states_26 (by decide) ?_
      refine g_lvp (lv' := [(0, 2, jx0), (1, 0, jv4), (2, 0, (jx2 + 1))]) [2, 1, 0] rfl ?_
      exact hk4 jv4 (jx2 + 1) σ hF
    · refine g_iload_n hX 1 dX8_states_29 rfl rfl ?_
      exact g_iret hX hR hQ hE dX8_states_30 hF
def F_X8_states (jx0 : Int) (σ : Hp) : Option (Int × Hp) :=
  F_X8_states_L4 jx0 fu 1 0 σ
theorem M_X8_states (jx0 : Int) (σ : Hp) : Mn σ (F_X8_states jx0 σ) := by
  unfold F_X8_states
  repeat' first | exact Mn_ret | exact Mn_rz | exact M_X8_states_L4 _ _ _ _ _ | refine Mn_nm (fun _ => ?_) | refine Mn_nab (fun _ _ => ?_) | refine Mn_nwb (fun _ _ => ?_) | refine Mn_pw (fun _ => ?_) | refine Mn_pz (fun _ => ?_) | refine Mn_aw (fun _ => ?_) | refine Mn_az (fun _ => ?_) | refine Mn_aq (fun _ => ?_) | refine Mn_bo (fun _ => ?_) | refine Mn_bd ?_ (fun _ _ => ?_) | refine Mn_iv ?_ | refine Mn_bLt ?_ ?_ | refine Mn_bLe ?_ ?_ | refine Mn_bEq ?_ ?_ | refine Mn_bN ?_ ?_ | refine Mn_g3 ?_ | refine Mn_g33 ?_ | refine Mn_g66 ?_ | refine Mn_gD ?_
set_option maxRecDepth 100000 in
set_option maxHeartbeats 4000000 in
theorem T_X8_states (l : Launch) (D : va_G) (dA : Nat → ClassId) (b0 : Nat) (jx0 : Int) (σ σE : Hp) (r : Int) (hF : F_X8_states jx0 σ = some (r, σE)) : Ct l D dA b0 yX8_states cX8_states 3 (some .int) 0 0 [(2, jx0)] σ (some (pV 0 r)) σE := by
  refine Ct.of (lv0 := [(0, 2, jx0)]) (by decide) RX8 rfl (Nat.le_of_ble_eq_true rfl) rfl ?_ (M_X8_states jx0 σ r σE hF)
  intro p e R s m args below meth c hX hR hnm
  obtain ⟨Q, hQ⟩ : ∃ Q, Q = Qm D dA b0 σ.1 σ.2.1 below args s (some (pV 0 r)) σE := ⟨_, rfl⟩
  rw [← hQ]
  have hE : σE.1 = σE.1 ∧ σE.2.1 = σE.2.1 := ⟨rfl, rfl⟩
  unfold F_X8_states at hF
  refine g_iconst hX dX8_states_0 ?_
  refine g_istore_n (lv' := [(1, 0, 1), (0, 2, jx0)]) hX dX8_states_1 rfl (by decide) rfl ?_
  refine g_iconst hX dX8_states_2 ?_
  refine g_istore_n (lv' := [(2, 0, 0), (1, 0, 1), (0, 2, jx0)]) hX dX8_states_3 rfl (by decide) rfl ?_
  refine g_lvp (lv' := [(0, 2, jx0), (1, 0, 1), (2, 0, 0)]) [2, 1, 0] rfl ?_
  exact T_X8_states_L4 hX hR hnm hQ hE jx0  fu 1 0 σ hF
end

section
variable {p : Program} {l : Launch} {e : Env} {R : Room} {s : State} {m : MethodId} {args : Array Value} {below : List Frame} {meth : Method} {c : Code} {D : va_G} {dA : Nat → ClassId} {b0 n0 m0 nE mE : Nat} {Q : State → Prop}
def F_X8_isLake (jx0 : Int) (jx1 : Int) (σ : Hp) : Option (Int × Hp) :=
  (rd 9 σ jx0 1).bind fun jv1 => bd (F_X8_in jx1 0 (jv1 - 1) σ) fun jv2 σ3 => rz jv2 σ3
theorem M_X8_isLake (jx0 : Int) (jx1 : Int) (σ : Hp) : Mn σ (F_X8_isLake jx0 jx1 σ) := by
  unfold F_X8_isLake
  repeat' first | exact Mn_ret | exact Mn_rz | exact M_X8_in _ _ _ _ | refine Mn_nm (fun _ => ?_) | refine Mn_nab (fun _ _ => ?_) | refine Mn_nwb (fun _ _ => ?_) | refine Mn_pw (fun _ => ?_) | refine Mn_pz (fun _ => ?_) | refine Mn_aw (fun _ => ?_) | refine Mn_az (fun _ => ?_) | refine Mn_aq (fun _ => ?_) | refine Mn_bo (fun _ => ?_) | refine Mn_bd ?_ (fun _ _ => ?_) | refine Mn_iv ?_ | refine Mn_bLt ?_ ?_ | refine Mn_bLe ?_ ?_ | refine Mn_bEq ?_ ?_ | refine Mn_bN ?_ ?_ | refine Mn_g3 ?_ | refine Mn_g33 ?_ | refine Mn_g66 ?_ | refine Mn_gD ?_
set_option maxRecDepth 100000 in
set_option maxHeartbeats 4000000 in
theorem T_X8_isLake (l : Launch) (D : va_G) (dA : Nat → ClassId) (b0 : Nat) (jx0 : Int) (jx1 : Int) (σ σE : Hp) (r : Int) (hF : F_X8_isLake jx0 jx1 σ = some (r, σE)) : Ct l D dA b0 yX8_isLake cX8_isLake 2 (some .boolean) 1 22 [(2, jx0), (0, jx1)] σ (some (pV 0 r)) σE := by
  refine Ct.of (lv0 := [(0, 2, jx0), (1, 0, jx1)]) (by decide) RX8 rfl (Nat.le_of_ble_eq_true rfl) rfl ?_ (M_X8_isLake jx0 jx1 σ r σE hF)
  intro p e R s m args below meth c hX hR hnm
  obtain ⟨Q, hQ⟩ : ∃ Q, Q = Qm D dA b0 σ.1 σ.2.1 below args s (some (pV 0 r)) σE := ⟨_, rfl⟩
  rw [← hQ]
  have hE : σE.1 = σE.1 ∧ σE.2.1 = σE.2.1 := ⟨rfl, rfl⟩
  unfold F_X8_isLake at hF
  refine g_iload_n hX 1 dX8_isLake_0 rfl rfl ?_
  refine g_iconst hX dX8_isLake_1 ?_
  refine g_aload_n hX 0 dX8_isLake_2 rfl rfl ?_
  refine g_get hX fl_X8_119 (by decide) (by decide) dX8_isLake_3 hF (fun jv1 hF => ?_)
  refine g_iconst hX dX8_isLake_6 ?_
  refine g_isub hX dX8_isLake_7 ?_
  refine g_callS (t := 0) (rest := []) [(0, jx1), (0, 0), (0, (jv1 - 1))] hX cw_X8_122 (fun r σ1 h => T_X8_in l D dA b0 jx1 0 (jv1 - 1) σ σ1 r h) ⟨by decide, by decide⟩ rfl rfl (Nat.le_of_ble_eq_true rfl) dX8_isLake_8 hF (fun jv2 σ3 hF => ?_)
  exact g_zret hX hR hQ hE dX8_isLake_11 hF
end

section
variable {p : Program} {l : Launch} {e : Env} {R : Room} {s : State} {m : MethodId} {args : Array Value} {below : List Frame} {meth : Method} {c : Code} {D : va_G} {dA : Nat → ClassId} {b0 n0 m0 nE mE : Nat} {Q : State → Prop}
def F_X8_isNode (jx0 : Int) (jx1 : Int) (σ : Hp) : Option (Int × Hp) :=
  (rd 9 σ jx0 11).bind fun jv1 => bd (F_X8_in jx1 0 (jv1 - 1) σ) fun jv2 σ3 => rz jv2 σ3
theorem M_X8_isNode (jx0 : Int) (jx1 : Int) (σ : Hp) : Mn σ (F_X8_isNode jx0 jx1 σ) := by
  unfold F_X8_isNode
  repeat' first | exact Mn_ret | exact Mn_rz | exact M_X8_in _ _ _ _ | refine Mn_nm (fun _ => ?_) | refine Mn_nab (fun _ _ => ?_) | refine Mn_nwb (fun _ _ => ?_) | refine Mn_pw (fun _ => ?_) | refine Mn_pz (fun _ => ?_) | refine Mn_aw (fun _ => ?_) | refine Mn_az (fun _ => ?_) | refine Mn_aq (fun _ => ?_) | refine Mn_bo (fun _ => ?_) | refine Mn_bd ?_ (fun _ _ => ?_) | refine Mn_iv ?_ | refine Mn_bLt ?_ ?_ | refine Mn_bLe ?_ ?_ | refine Mn_bEq ?_ ?_ | refine Mn_bN ?_ ?_ | refine Mn_g3 ?_ | refine Mn_g33 ?_ | refine Mn_g66 ?_ | refine Mn_gD ?_
set_option maxRecDepth 100000 in
set_option maxHeartbeats 4000000 in
theorem T_X8_isNode (l : Launch) (D : va_G) (dA : Nat → ClassId) (b0 : Nat) (jx0 : Int) (jx1 : Int) (σ σE : Hp) (r : Int) (hF : F_X8_isNode jx0 jx1 σ = some (r, σE)) : Ct l D dA b0 yX8_isNode cX8_isNode 2 (some .boolean) 1 22 [(2, jx0), (0, jx1)] σ (some (pV 0 r)) σE := by
  refine Ct.of (lv0 := [(0, 2, jx0), (1, 0, jx1)]) (by decide) RX8 rfl (Nat.le_of_ble_eq_true rfl) rfl ?_ (M_X8_isNode jx0 jx1 σ r σE hF)
  intro p e R s m args below meth c hX hR hnm
  obtain ⟨Q, hQ⟩ : ∃ Q, Q = Qm D dA b0 σ.1 σ.2.1 below args s (some (pV 0 r)) σE := ⟨_, rfl⟩
  rw [← hQ]
  have hE : σE.1 = σE.1 ∧ σE.2.1 = σE.2.1 := ⟨rfl, rfl⟩
  unfold F_X8_isNode at hF
  refine g_iload_n hX 1 dX8_isNode_0 rfl rfl ?_
  refine g_iconst hX dX8_isNode_1 ?_
  refine g_aload_n hX 0 dX8_isNode_2 rfl rfl ?_
  refine g_get hX fl_X8_41 (by decide) (by decide) dX8_isNode_3 hF (fun jv1 hF => ?_)
  refine g_iconst hX dX8_isNode_6 ?_
  refine g_isub hX dX8_isNode_7 ?_
  refine g_callS (t := 0) (rest := []) [(0, jx1), (0, 0), (0, (jv1 - 1))] hX cw_X8_122 (fun r σ1 h => T_X8_in l D dA b0 jx1 0 (jv1 - 1) σ σ1 r h) ⟨by decide, by decide⟩ rfl rfl (Nat.le_of_ble_eq_true rfl) dX8_isNode_8 hF (fun jv2 σ3 hF => ?_)
  exact g_zret hX hR hQ hE dX8_isNode_11 hF
end

section
variable {p : Program} {l : Launch} {e : Env} {R : Room} {s : State} {m : MethodId} {args : Array Value} {below : List Frame} {meth : Method} {c : Code} {D : va_G} {dA : Nat → ClassId} {b0 n0 m0 nE mE : Nat} {Q : State → Prop}
def F_X8_isState (jx0 : Int) (jx1 : Int) (σ : Hp) : Option (Int × Hp) :=
  bd (iv 9 σ jx0 (F_X8_states  jx0  σ)) fun jv1 σ2 => bd (F_X8_in jx1 0 (jv1 - 1) σ2) fun jv3 σ4 => rz jv3 σ4
theorem M_X8_isState (jx0 : Int) (jx1 : Int) (σ : Hp) : Mn σ (F_X8_isState jx0 jx1 σ) := by
  unfold F_X8_isState
  repeat' first | exact Mn_ret | exact Mn_rz | exact M_X8_states _ _ | exact M_X8_in _ _ _ _ | refine Mn_nm (fun _ => ?_) | refine Mn_nab (fun _ _ => ?_) | refine Mn_nwb (fun _ _ => ?_) | refine Mn_pw (fun _ => ?_) | refine Mn_pz (fun _ => ?_) | refine Mn_aw (fun _ => ?_) | refine Mn_az (fun _ => ?_) | refine Mn_aq (fun _ => ?_) | refine Mn_bo (fun _ => ?_) | refine Mn_bd ?_ (fun _ _ => ?_) | refine Mn_iv ?_ | refine Mn_bLt ?_ ?_ | refine Mn_bLe ?_ ?_ | refine Mn_bEq ?_ ?_ | refine Mn_bN ?_ ?_ | refine Mn_g3 ?_ | refine Mn_g33 ?_ | refine Mn_g66 ?_ | refine Mn_gD ?_
set_option maxRecDepth 100000 in
set_option maxHeartbeats 4000000 in
theorem T_X8_isState (l : Launch) (D : va_G) (dA : Nat → ClassId) (b0 : Nat) (jx0 : Int) (jx1 : Int) (σ σE : Hp) (r : Int) (hF : F_X8_isState jx0 jx1 σ = some (r, σE)) : Ct l D dA b0 yX8_isState cX8_isState 2 (some .boolean) 1 22 [(2, jx0), (0, jx1)] σ (some (pV 0 r)) σE := by
  refine Ct.of (lv0 := [(0, 2, jx0), (1, 0, jx1)]) (by decide) RX8 rfl (Nat.le_of_ble_eq_true rfl) rfl ?_ (M_X8_isState jx0 jx1 σ r σE hF)
  intro p e R s m args below meth c hX hR hnm
  obtain ⟨Q, hQ⟩ : ∃ Q, Q = Qm D dA b0 σ.1 σ.2.1 below args s (some (pV 0 r)) σE := ⟨_, rfl⟩
  rw [← hQ]
  have hE : σE.1 = σE.1 ∧ σE.2.1 = σE.2.1 := ⟨rfl, rfl⟩
  unfold F_X8_isState at hF
  refine g_iload_n hX 1 dX8_isState_0 rfl rfl ?_
  refine g_iconst hX dX8_isState_1 ?_
  refine g_aload_n hX 0 dX8_isState_2 rfl rfl ?_
  refine g_callV (t := 0) (ci := 8) (rest := [(0, 0), (0, jx1)]) [] hX cw_X8_126 rfl (by decide) (by decide) (fun r σ1 h => T_X8_states l D dA b0  jx0  σ σ1 r h) ⟨by decide, by decide⟩ rfl rfl (Nat.le_of_ble_eq_true rfl) dX8_isState_3 hF (fun jv1 σ2 hF => ?_)
  refine g_iconst hX dX8_isState_6 ?_
  refine g_isub hX dX8_isState_7 ?_
  refine g_callS (t := 0) (rest := []) [(0, jx1), (0, 0), (0, (jv1 - 1))] hX cw_X8_122 (fun r σ1 h => T_X8_in l D dA b0 jx1 0 (jv1 - 1) σ2 σ1 r h) ⟨by decide, by decide⟩ rfl rfl (Nat.le_of_ble_eq_true rfl) dX8_isState_8 hF (fun jv3 σ4 hF => ?_)
  exact g_zret hX hR hQ hE dX8_isState_11 hF
end

section
variable {p : Program} {l : Launch} {e : Env} {R : Room} {s : State} {m : MethodId} {args : Array Value} {below : List Frame} {meth : Method} {c : Code} {D : va_G} {dA : Nat → ClassId} {b0 n0 m0 nE mE : Nat} {Q : State → Prop}
def F_X8_forget (jx0 : Int) (σ : Hp) : Option (Int × Hp) :=
  (pz 9 σ jx0 19 0).bind fun σ1 => some (0, σ1)
theorem M_X8_forget (jx0 : Int) (σ : Hp) : Mn σ (F_X8_forget jx0 σ) := by
  unfold F_X8_forget
  repeat' first | exact Mn_ret | exact Mn_rz | refine Mn_nm (fun _ => ?_) | refine Mn_nab (fun _ _ => ?_) | refine Mn_nwb (fun _ _ => ?_) | refine Mn_pw (fun _ => ?_) | refine Mn_pz (fun _ => ?_) | refine Mn_aw (fun _ => ?_) | refine Mn_az (fun _ => ?_) | refine Mn_aq (fun _ => ?_) | refine Mn_bo (fun _ => ?_) | refine Mn_bd ?_ (fun _ _ => ?_) | refine Mn_iv ?_ | refine Mn_bLt ?_ ?_ | refine Mn_bLe ?_ ?_ | refine Mn_bEq ?_ ?_ | refine Mn_bN ?_ ?_ | refine Mn_g3 ?_ | refine Mn_g33 ?_ | refine Mn_g66 ?_ | refine Mn_gD ?_
set_option maxRecDepth 100000 in
set_option maxHeartbeats 4000000 in
theorem T_X8_forget (l : Launch) (D : va_G) (dA : Nat → ClassId) (b0 : Nat) (jx0 : Int) (σ σE : Hp) (r : Int) (hF : F_X8_forget jx0 σ = some (r, σE)) : Ct l D dA b0 yX8_forget cX8_forget 1 none 0 0 [(2, jx0)] σ none σE := by
  refine Ct.of (lv0 := [(0, 2, jx0)]) (by decide) RX8 rfl (Nat.le_of_ble_eq_true rfl) rfl ?_ (M_X8_forget jx0 σ r σE hF)
  intro p e R s m args below meth c hX hR hnm
  obtain ⟨Q, hQ⟩ : ∃ Q, Q = Qm D dA b0 σ.1 σ.2.1 below args s none σE := ⟨_, rfl⟩
  rw [← hQ]
  have hE : σE.1 = σE.1 ∧ σE.2.1 = σE.2.1 := ⟨rfl, rfl⟩
  unfold F_X8_forget at hF
  refine g_aload_n hX 0 dX8_forget_0 rfl rfl ?_
  refine g_iconst hX dX8_forget_1 ?_
  refine u_putZ hX fp_X8_130 (by decide) (by decide) dX8_forget_2 hF (fun σ1 hF => ?_)
  exact g_vret hX hR hQ hE dX8_forget_5 hF
end

section
variable {p : Program} {l : Launch} {e : Env} {R : Room} {s : State} {m : MethodId} {args : Array Value} {below : List Frame} {meth : Method} {c : Code} {D : va_G} {dA : Nat → ClassId} {b0 n0 m0 nE mE : Nat} {Q : State → Prop}
def F_X8_lake_L134 (jx0 : Int) (jx2 : Int) (jx5 : Int) : Nat → Int → Hp → Option (Int × Hp)
  | 0, _, _ => none
  | n + 1, jx6, σ => bLe jx6 jx2 ((rd 9 σ jx0 6).bind fun jv24 => (aw 11 σ jv24 ((31 * jx5) + jx6) 1).bind fun σ25 => (F_X8_lake_L134 jx0 jx2 jx5 n) (jx6 + 1) σ25) ((rd 9 σ jx0 7).bind fun jv26 => (aw 11 σ jv26 jx5 0).bind fun σ27 => (rd 9 σ27 jx0 24).bind fun jv28 => (aw 11 σ27 jv28 jx5 0).bind fun σ29 => (rd 9 σ29 jx0 25).bind fun jv30 => (aw 11 σ29 jv30 jx5 30).bind fun σ31 => (rd 9 σ31 jx0 1).bind fun jv32 => (pw 9 σ31 jx0 1 (jv32 + 1)).bind fun σ33 => bd (iv 9 σ33 jx0 (F_X8_forget  jx0  σ33)) fun jv34 σ35 => some (jx5, σ35))
theorem M_X8_lake_L134 (jx0 : Int) (jx2 : Int) (jx5 : Int) : ∀ (n : Nat) (jx6 : Int) (σ : Hp), Mn σ (F_X8_lake_L134 jx0 jx2 jx5 n jx6 σ) := by
  intro n
  induction n with
  | zero => intros; rw [F_X8_lake_L134]; exact Mn_none
  | succ n hk134 =>
    intros
    rw [F_X8_lake_L134]
    repeat' first | exact Mn_ret | exact Mn_rz | exact hk134 _  _ | exact M_X8_forget _ _ | refine Mn_nm (fun _ => ?_) | refine Mn_nab (fun _ _ => ?_) | refine Mn_nwb (fun _ _ => ?_) | refine Mn_pw (fun _ => ?_) | refine Mn_pz (fun _ => ?_) | refine Mn_aw (fun _ => ?_) | refine Mn_az (fun _ => ?_) | refine Mn_aq (fun _ => ?_) | refine Mn_bo (fun _ => ?_) | refine Mn_bd ?_ (fun _ _ => ?_) | refine Mn_iv ?_ | refine Mn_bLt ?_ ?_ | refine Mn_bLe ?_ ?_ | refine Mn_bEq ?_ ?_ | refine Mn_bN ?_ ?_ | refine Mn_g3 ?_ | refine Mn_g33 ?_ | refine Mn_g66 ?_ | refine Mn_gD ?_
set_option maxRecDepth 100000 in
set_option maxHeartbeats 4000000 in
theorem T_X8_lake_L134 {r : Int} {σE : Hp} (hX : Cx p R s m args meth c D dA b0 n0 m0 7 nE mE cX8_lake RX8 1 22) (hR : Rx meth (some .int)) (hnm : meth.name = yX8_lake.name) (hQ : Q = Qm D dA b0 n0 m0 below args s (some (pV 0 r)) σE) (hE : nE = σE.1 ∧ mE = σE.2.1) (jx0 : Int) (jx2 : Int) (jx5 : Int) : ∀ (n : Nat) (jx6 : Int) (σ : Hp), F_X8_lake_L134 jx0 jx2 jx5 n jx6 σ = some (r, σE) → G p l e R s m args below meth c D dA b0 n0 m0 7 nE mE Q 134 [(0, 2, jx0), (2, 0, jx2), (5, 0, jx5), (6, 0, jx6)] [] σ := by
  intro n
  induction n with
  | zero =>
    intro jx6 σ hF
    rw [F_X8_lake_L134] at hF
    cases hF
  | succ n hk134 =>
    intro jx6 σ hF
    rw [F_X8_lake_L134] at hF
    refine g_iload hX 3 dX8_lake_134 rfl ?_
    refine g_iload_n hX 1 dX8_lake_136 rfl rfl ?_
    refine g_icmp_gt (tgt := 160) hX dX8_lake_137 (by decide) hF (fun hc hF => ?_) (fun hc hF => ?_)
    · refine g_aload_n hX 0 dX8_lake_140 rfl rfl ?_
      refine g_get hX fl_X8_26 (by decide) (by decide) dX8_lake_141 hF (fun jv24 hF => ?_)
      refine g_bipush hX dX8_lake_144 (by decide) ?_
      refine g_iload hX 2 dX8_lake_146 rfl ?_
      refine g_imul hX dX8_lake_148 ?_
      refine g_iload hX 3 dX8_lake_149 rfl ?_
      refine g_iadd hX dX8_lake_151 ?_
      refine g_iconst hX dX8_lake_152 ?_
      refine u_iast hX dX8_lake_153 hF (fun σ25 hF => ?_)
      refine g_iinc (lv' := [(6, 0, (jx6 + 1)), (0, 2, jx0), (2, 0, jx2), (5, 0, jx5)]) hX 3 dX8_lake_154 rfl (by decide) rfl ?_
      refine g_goto (tgt := 134) hX dX8_lake_157 (by decide) ?_
      refine g_lvp (lv' := [(0, 2, jx0), (2, 0, jx2), (5, 0, jx5), (6, 0, (jx6 + 1))]) [1, 2, 3, 0] rfl ?_
      exact hk134 (jx6 + 1) σ25 hF
    · refine g_aload_n hX 0 dX8_lake_160 rfl rfl ?_
      refine g_get hX fl_X8_29 (by decide) (by decide) dX8_lake_161 hF (fun jv26 hF => ?_)
      refine g_iload hX 2 dX8_lake_164 rfl ?_
      refine g_iconst hX dX8_lake_166 ?_
      refine u_iast hX dX8_lake_167 hF (fun σ27 hF => ?_)
      refine g_aload_n hX 0 dX8_lake_168 rfl rfl ?_
      refine g_get hX fl_X8_77 (by decide) (by decide) dX8_lake_169 hF (fun jv28 hF => ?_)
      refine g_iload hX 2 dX8_lake_172 rfl ?_
      refine g_iconst hX dX8_lake_174 ?_
      refine u_iast hX dX8_lake_175 hF (fun σ29 hF => ?_)
      refine g_aload_n hX 0 dX8_lake_176 rfl rfl ?_
      refine g_get hX fl_X8_80 (by decide) (by decide) dX8_lake_177 hF (fun jv30 hF => ?_)
      refine g_iload hX 2 dX8_lake_180 rfl ?_
      refine g_bipush hX dX8_lake_182 (by decide) ?_
      refine u_iast hX dX8_lake_184 hF (fun σ31 hF => ?_)
      refine g_aload_n hX 0 dX8_lake_185 rfl rfl ?_
      refine g_dup hX dX8_lake_186 (by decide) ?_
      refine g_get hX fl_X8_119 (by decide) (by decide) dX8_lake_187 hF (fun jv32 hF => ?_)
      refine g_iconst hX dX8_lake_190 ?_
      refine g_iadd hX dX8_lake_191 ?_
      refine u_put hX fp_X8_119 (by decide) (by decide) dX8_lake_192 hF (fun σ33 hF => ?_)
      refine g_aload_n hX 0 dX8_lake_195 rfl rfl ?_
      refine g_callVv (ci := 8) (rest := []) [] hX cw_X8_137 rfl (by decide) (by decide) (fun r σ1 h => T_X8_forget l D dA b0  jx0  σ33 σ1 r h) ⟨by decide, by decide⟩ rfl rfl (Nat.le_of_ble_eq_true rfl) dX8_lake_196 hF (fun jv34 σ35 hF => ?_)
      refine g_iload hX 2 dX8_lake_199 rfl ?_
      exact g_iret hX hR hQ hE dX8_lake_201 hF
def F_X8_lake_B63 (jx0 : Int) (jx1 : Int) (jx2 : Int) (jx3 : Int) (jx4 : Int) (σ : Hp) : Option (Int × Hp) :=
  (rd 9 σ jx0 32).bind fun jv12 => bEq jv12 0 ((rd 9 σ jx0 1).bind fun jv13 => bEq jv13 3 (some ((-5), σ)) ((rd 9 σ jx0 11).bind fun jv14 => bLe jv14 1 ((rd 9 σ jx0 1).bind fun jv15 => (rd 9 σ jx0 2).bind fun jv16 => (aw 11 σ jv16 jv15 jx1).bind fun σ17 => (rd 9 σ17 jx0 3).bind fun jv18 => (aw 11 σ17 jv18 jv15 jx2).bind fun σ19 => (rd 9 σ19 jx0 4).bind fun jv20 => (aw 11 σ19 jv20 jv15 jx3).bind fun σ21 => (rd 9 σ21 jx0 5).bind fun jv22 => (aw 11 σ21 jv22 jv15 jx4).bind fun σ23 => F_X8_lake_L134 jx0 jx2 jv15 fu 0 σ23) (some ((-5), σ)))) (some ((-2), σ))
theorem M_X8_lake_B63 (jx0 : Int) (jx1 : Int) (jx2 : Int) (jx3 : Int) (jx4 : Int) (σ : Hp) : Mn σ (F_X8_lake_B63 jx0 jx1 jx2 jx3 jx4 σ) := by
  unfold F_X8_lake_B63
  repeat' first | exact Mn_ret | exact Mn_rz | exact M_X8_lake_L134 _ _ _ _ _ _ | refine Mn_nm (fun _ => ?_) | refine Mn_nab (fun _ _ => ?_) | refine Mn_nwb (fun _ _ => ?_) | refine Mn_pw (fun _ => ?_) | refine Mn_pz (fun _ => ?_) | refine Mn_aw (fun _ => ?_) | refine Mn_az (fun _ => ?_) | refine Mn_aq (fun _ => ?_) | refine Mn_bo (fun _ => ?_) | refine Mn_bd ?_ (fun _ _ => ?_) | refine Mn_iv ?_ | refine Mn_bLt ?_ ?_ | refine Mn_bLe ?_ ?_ | refine Mn_bEq ?_ ?_ | refine Mn_bN ?_ ?_ | refine Mn_g3 ?_ | refine Mn_g33 ?_ | refine Mn_g66 ?_ | refine Mn_gD ?_
set_option maxRecDepth 100000 in
set_option maxHeartbeats 4000000 in
theorem T_X8_lake_B63 {r : Int} {σE : Hp} (hX : Cx p R s m args meth c D dA b0 n0 m0 7 nE mE cX8_lake RX8 1 22) (hR : Rx meth (some .int)) (hnm : meth.name = yX8_lake.name) (hQ : Q = Qm D dA b0 n0 m0 below args s (some (pV 0 r)) σE) (hE : nE = σE.1 ∧ mE = σE.2.1) (jx0 : Int) (jx1 : Int) (jx2 : Int) (jx3 : Int) (jx4 : Int) (σ : Hp) (hF : F_X8_lake_B63 jx0 jx1 jx2 jx3 jx4 σ = some (r, σE)) : G p l e R s m args below meth c D dA b0 n0 m0 7 nE mE Q 63 [(0, 2, jx0), (1, 0, jx1), (2, 0, jx2), (3, 0, jx3), (4, 0, jx4)] [] σ := by
  unfold F_X8_lake_B63 at hF
  refine g_aload_n hX 0 dX8_lake_63 rfl rfl ?_
  refine g_get hX fl_X8_134 (by decide) (by decide) dX8_lake_64 hF (fun jv12 hF => ?_)
  refine g_if_eq (tgt := 73) hX dX8_lake_67 (by decide) hF (fun hc hF => ?_) (fun hc hF => ?_)
  · refine g_aload_n hX 0 dX8_lake_73 rfl rfl ?_
    refine g_get hX fl_X8_119 (by decide) (by decide) dX8_lake_74 hF (fun jv13 hF => ?_)
    refine g_iconst hX dX8_lake_77 ?_
    refine g_icmp_eq (tgt := 89) hX dX8_lake_78 (by decide) hF (fun hc hF => ?_) (fun hc hF => ?_)
    · refine g_bipush hX dX8_lake_89 (by decide) ?_
      exact g_iret hX hR hQ hE dX8_lake_91 hF
    · refine g_aload_n hX 0 dX8_lake_81 rfl rfl ?_
      refine g_get hX fl_X8_41 (by decide) (by decide) dX8_lake_82 hF (fun jv14 hF => ?_)
      refine g_iconst hX dX8_lake_85 ?_
      refine g_icmp_le (tgt := 92) hX dX8_lake_86 (by decide) hF (fun hc hF => ?_) (fun hc hF => ?_)
      · refine g_aload_n hX 0 dX8_lake_92 rfl rfl ?_
        refine g_get hX fl_X8_119 (by decide) (by decide) dX8_lake_93 hF (fun jv15 hF => ?_)
        refine g_istore (lv' := [(5, 0, jv15), (0, 2, jx0), (1, 0, jx1), (2, 0, jx2), (3, 0, jx3), (4, 0, jx4)]) hX dX8_lake_96 (by decide) rfl ?_
        refine g_aload_n hX 1 dX8_lake_98 rfl rfl ?_
        refine g_get hX fl_X8_13 (by decide) (by decide) dX8_lake_99 hF (fun jv16 hF => ?_)
        refine g_iload hX 0 dX8_lake_102 rfl ?_
        refine g_iload_n hX 2 dX8_lake_104 rfl rfl ?_
        refine u_iast hX dX8_lake_105 hF (fun σ17 hF => ?_)
        refine g_aload_n hX 1 dX8_lake_106 rfl rfl ?_
        refine g_get hX fl_X8_17 (by decide) (by decide) dX8_lake_107 hF (fun jv18 hF => ?_)
        refine g_iload hX 0 dX8_lake_110 rfl ?_
        refine g_iload_n hX 3 dX8_lake_112 rfl rfl ?_
        refine u_iast hX dX8_lake_113 hF (fun σ19 hF => ?_)
        refine g_aload_n hX 1 dX8_lake_114 rfl rfl ?_
        refine g_get hX fl_X8_20 (by decide) (by decide) dX8_lake_115 hF (fun jv20 hF => ?_)
        refine g_iload hX 0 dX8_lake_118 rfl ?_
        refine g_iload_n hX 4 dX8_lake_120 rfl rfl ?_
        refine u_iast hX dX8_lake_121 hF (fun σ21 hF => ?_)
        refine g_aload_n hX 1 dX8_lake_122 rfl rfl ?_
        refine g_get hX fl_X8_23 (by decide) (by decide) dX8_lake_123 hF (fun jv22 hF => ?_)
        refine g_iload hX 0 dX8_lake_126 rfl ?_
        refine g_iload hX 5 dX8_lake_128 rfl ?_
        refine u_iast hX dX8_lake_130 hF (fun σ23 hF => ?_)
        refine g_iconst hX dX8_lake_131 ?_
        refine g_istore (lv' := [(6, 0, 0), (5, 0, jv15), (0, 2, jx0), (1, 0, jx1), (2, 0, jx2), (3, 0, jx3), (4, 0, jx4)]) hX dX8_lake_132 (by decide) rfl ?_
        refine g_lvp (lv' := [(0, 2, jx0), (2, 0, jx2), (5, 0, jv15), (6, 0, 0)]) [2, 4, 1, 0] rfl ?_
        exact T_X8_lake_L134 hX hR hnm hQ hE jx0 jx2 jv15  fu 0 σ23 hF
      · refine g_bipush hX dX8_lake_89 (by decide) ?_
        exact g_iret hX hR hQ hE dX8_lake_91 hF
  · refine g_bipush hX dX8_lake_70 (by decide) ?_
    exact g_iret hX hR hQ hE dX8_lake_72 hF
def F_X8_lake (jx0 : Int) (jx1 : Int) (jx2 : Int) (jx3 : Int) (jx4 : Int) (σ : Hp) : Option (Int × Hp) :=
  bd (F_X8_in jx2 0 30 σ) fun jv1 σ2 => bEq jv1 0 (some ((-1), σ2)) (bd (F_X8_in jx1 0 jx2 σ2) fun jv3 σ4 => bEq jv3 0 (some ((-1), σ4)) (bd (F_X8_in jx3 0 10 σ4) fun jv5 σ6 => bEq jv5 0 (some ((-1), σ6)) (bd (F_X8_in jx4 0 5 σ6) fun jv7 σ8 => bEq jv7 0 (some ((-1), σ8)) ((rd 9 σ8 jx0 1).bind fun jv9 => bLt jv9 3 (bd (iv 9 σ8 jx0 (F_X8_states  jx0  σ8)) fun jv10 σ11 => bLe (jv10 * (jx2 + 1)) 1000 (F_X8_lake_B63 jx0 jx1 jx2 jx3 jx4  σ11) (some ((-1), σ11))) (F_X8_lake_B63 jx0 jx1 jx2 jx3 jx4  σ8)))))
theorem M_X8_lake (jx0 : Int) (jx1 : Int) (jx2 : Int) (jx3 : Int) (jx4 : Int) (σ : Hp) : Mn σ (F_X8_lake jx0 jx1 jx2 jx3 jx4 σ) := by
  unfold F_X8_lake
  repeat' first | exact Mn_ret | exact Mn_rz | exact M_X8_in _ _ _ _ | exact M_X8_states _ _ | exact M_X8_lake_B63 _ _ _ _ _  _ | refine Mn_nm (fun _ => ?_) | refine Mn_nab (fun _ _ => ?_) | refine Mn_nwb (fun _ _ => ?_) | refine Mn_pw (fun _ => ?_) | refine Mn_pz (fun _ => ?_) | refine Mn_aw (fun _ => ?_) | refine Mn_az (fun _ => ?_) | refine Mn_aq (fun _ => ?_) | refine Mn_bo (fun _ => ?_) | refine Mn_bd ?_ (fun _ _ => ?_) | refine Mn_iv ?_ | refine Mn_bLt ?_ ?_ | refine Mn_bLe ?_ ?_ | refine Mn_bEq ?_ ?_ | refine Mn_bN ?_ ?_ | refine Mn_g3 ?_ | refine Mn_g33 ?_ | refine Mn_g66 ?_ | refine Mn_gD ?_
set_option maxRecDepth 100000 in
set_option maxHeartbeats 4000000 in
theorem T_X8_lake (l : Launch) (D : va_G) (dA : Nat → ClassId) (b0 : Nat) (jx0 : Int) (jx1 : Int) (jx2 : Int) (jx3 : Int) (jx4 : Int) (σ σE : Hp) (r : Int) (hF : F_X8_lake jx0 jx1 jx2 jx3 jx4 σ = some (r, σE)) : Ct l D dA b0 yX8_lake cX8_lake 7 (some .int) 1 22 [(2, jx0), (0, jx1), (0, jx2), (0, jx3), (0, jx4)] σ (some (pV 0 r)) σE := by
  refine Ct.of (lv0 := [(0, 2, jx0), (1, 0, jx1), (2, 0, jx2), (3, 0, jx3), (4, 0, jx4)]) (by decide) RX8 rfl (Nat.le_of_ble_eq_true rfl) rfl ?_ (M_X8_lake jx0 jx1 jx2 jx3 jx4 σ r σE hF)
  intro p e R s m args below meth c hX hR hnm
  obtain ⟨Q, hQ⟩ : ∃ Q, Q = Qm D dA b0 σ.1 σ.2.1 below args s (some (pV 0 r)) σE := ⟨_, rfl⟩
  rw [← hQ]
  have hE : σE.1 = σE.1 ∧ σE.2.1 = σE.2.1 := ⟨rfl, rfl⟩
  unfold F_X8_lake at hF
  refine g_iload_n hX 2 dX8_lake_0 rfl rfl ?_
  refine g_iconst hX dX8_lake_1 ?_
  refine g_bipush hX dX8_lake_2 (by decide) ?_
  refine g_callS (t := 0) (rest := []) [(0, jx2), (0, 0), (0, 30)] hX cw_X8_122 (fun r σ1 h => T_X8_in l D dA b0 jx2 0 30 σ σ1 r h) ⟨by decide, by decide⟩ rfl rfl (Nat.le_of_ble_eq_true rfl) dX8_lake_4 hF (fun jv1 σ2 hF => ?_)
  refine g_if_eq (tgt := 61) hX dX8_lake_7 (by decide) hF (fun hc hF => ?_) (fun hc hF => ?_)
  · refine g_iconst hX dX8_lake_61 ?_
    exact g_iret hX hR hQ hE dX8_lake_62 hF
  · refine g_iload_n hX 1 dX8_lake_10 rfl rfl ?_
    refine g_iconst hX dX8_lake_11 ?_
    refine g_iload_n hX 2 dX8_lake_12 rfl rfl ?_
    refine g_callS (t := 0) (rest := []) [(0, jx1), (0, 0), (0, jx2)] hX cw_X8_122 (fun r σ1 h => T_X8_in l D dA b0 jx1 0 jx2 σ2 σ1 r h) ⟨by decide, by decide⟩ rfl rfl (Nat.le_of_ble_eq_true rfl) dX8_lake_13 hF (fun jv3 σ4 hF => ?_)
    refine g_if_eq (tgt := 61) hX dX8_lake_16 (by decide) hF (fun hc hF => ?_) (fun hc hF => ?_)
    · refine g_iconst hX dX8_lake_61 ?_
      exact g_iret hX hR hQ hE dX8_lake_62 hF
    · refine g_iload_n hX 3 dX8_lake_19 rfl rfl ?_
      refine g_iconst hX dX8_lake_20 ?_
      refine g_bipush hX dX8_lake_21 (by decide) ?_
      refine g_callS (t := 0) (rest := []) [(0, jx3), (0, 0), (0, 10)] hX cw_X8_122 (fun r σ1 h => T_X8_in l D dA b0 jx3 0 10 σ4 σ1 r h) ⟨by decide, by decide⟩ rfl rfl (Nat.le_of_ble_eq_true rfl) dX8_lake_23 hF (fun jv5 σ6 hF => ?_)
      refine g_if_eq (tgt := 61) hX dX8_lake_26 (by decide) hF (fun hc hF => ?_) (fun hc hF => ?_)
      · refine g_iconst hX dX8_lake_61 ?_
        exact g_iret hX hR hQ hE dX8_lake_62 hF
      · refine g_iload hX 4 dX8_lake_29 rfl ?_
        refine g_iconst hX dX8_lake_31 ?_
        refine g_iconst hX dX8_lake_32 ?_
        refine g_callS (t := 0) (rest := []) [(0, jx4), (0, 0), (0, 5)] hX cw_X8_122 (fun r σ1 h => T_X8_in l D dA b0 jx4 0 5 σ6 σ1 r h) ⟨by decide, by decide⟩ rfl rfl (Nat.le_of_ble_eq_true rfl) dX8_lake_33 hF (fun jv7 σ8 hF => ?_)
        refine g_if_eq (tgt := 61) hX dX8_lake_36 (by decide) hF (fun hc hF => ?_) (fun hc hF => ?_)
        · refine g_iconst hX dX8_lake_61 ?_
          exact g_iret hX hR hQ hE dX8_lake_62 hF
        · refine g_aload_n hX 0 dX8_lake_39 rfl rfl ?_
          refine g_get hX fl_X8_119 (by decide) (by decide) dX8_lake_40 hF (fun jv9 hF => ?_)
          refine g_iconst hX dX8_lake_43 ?_
          refine g_icmp_ge (tgt := 63) hX dX8_lake_44 (by decide) hF (fun hc hF => ?_) (fun hc hF => ?_)
          · refine g_aload_n hX 0 dX8_lake_47 rfl rfl ?_
            refine g_callV (t := 0) (ci := 8) (rest := []) [] hX cw_X8_126 rfl (by decide) (by decide) (fun r σ1 h => T_X8_states l D dA b0  jx0  σ8 σ1 r h) ⟨by decide, by decide⟩ rfl rfl (Nat.le_of_ble_eq_true rfl) dX8_lake_48 hF (fun jv10 σ11 hF => ?_)
            refine g_iload_n hX 2 dX8_lake_51 rfl rfl ?_
            refine g_iconst hX dX8_lake_52 ?_
            refine g_iadd hX dX8_lake_53 ?_
            refine g_imul hX dX8_lake_54 ?_
            refine g_sipush hX dX8_lake_55 (by decide) ?_
            refine g_icmp_le (tgt := 63) hX dX8_lake_58 (by decide) hF (fun hc hF => ?_) (fun hc hF => ?_)
            · exact T_X8_lake_B63 hX hR hnm hQ hE jx0 jx1 jx2 jx3 jx4   σ11 hF
            · refine g_iconst hX dX8_lake_61 ?_
              exact g_iret hX hR hQ hE dX8_lake_62 hF
          · exact T_X8_lake_B63 hX hR hnm hQ hE jx0 jx1 jx2 jx3 jx4   σ8 hF
end

section
variable {p : Program} {l : Launch} {e : Env} {R : Room} {s : State} {m : MethodId} {args : Array Value} {below : List Frame} {meth : Method} {c : Code} {D : va_G} {dA : Nat → ClassId} {b0 n0 m0 nE mE : Nat} {Q : State → Prop}
def F_X8_head_B94 (k37 : Int → Hp → Option (Int × Hp)) (jx0 : Int) (jx1 : Int) (jx2 : Int) (jx3 : Int) (jx4 : Int) (σ : Hp) : Option (Int × Hp) :=
  k37 (jx4 + 1) σ
theorem M_X8_head_B94 (k37 : Int → Hp → Option (Int × Hp)) (hk37 : ∀ (jx4 : Int) (σ : Hp), Mn σ (k37 jx4 σ)) (jx0 : Int) (jx1 : Int) (jx2 : Int) (jx3 : Int) (jx4 : Int) (σ : Hp) : Mn σ (F_X8_head_B94 k37 jx0 jx1 jx2 jx3 jx4 σ) := by
  unfold F_X8_head_B94
  repeat' first | exact Mn_ret | exact Mn_rz | exact hk37 _  _ | refine Mn_nm (fun _ => ?_) | refine Mn_nab (fun _ _ => ?_) | refine Mn_nwb (fun _ _ => ?_) | refine Mn_pw (fun _ => ?_) | refine Mn_pz (fun _ => ?_) | refine Mn_aw (fun _ => ?_) | refine Mn_az (fun _ => ?_) | refine Mn_aq (fun _ => ?_) | refine Mn_bo (fun _ => ?_) | refine Mn_bd ?_ (fun _ _ => ?_) | refine Mn_iv ?_ | refine Mn_bLt ?_ ?_ | refine Mn_bLe ?_ ?_ | refine Mn_bEq ?_ ?_ | refine Mn_bN ?_ ?_ | refine Mn_g3 ?_ | refine Mn_g33 ?_ | refine Mn_g66 ?_ | refine Mn_gD ?_
set_option maxRecDepth 100000 in
set_option maxHeartbeats 4000000 in
theorem T_X8_head_B94 {r : Int} {σE : Hp} (hX : Cx p R s m args meth c D dA b0 n0 m0 5 nE mE cX8_head RX8 2 43) (hR : Rx meth (some .int)) (hnm : meth.name = yX8_head.name) (hQ : Q = Qm D dA b0 n0 m0 below args s (some (pV 0 r)) σE) (hE : nE = σE.1 ∧ mE = σE.2.1) (k37 : Int → Hp → Option (Int × Hp)) (jx0 : Int) (jx1 : Int) (jx2 : Int) (jx3 : Int) (jx4 : Int) (hk37 : ∀ (jx4 : Int) (σ : Hp), k37 jx4 σ = some (r, σE) → G p l e R s m args below meth c D dA b0 n0 m0 5 nE mE Q 37 [(0, 2, jx0), (1, 0, jx1), (2, 0, jx2), (3, 0, jx3), (4, 0, jx4)] [] σ) (σ : Hp) (hF : F_X8_head_B94 k37 jx0 jx1 jx2 jx3 jx4 σ = some (r, σE)) : G p l e R s m args below meth c D dA b0 n0 m0 5 nE mE Q 94 [(0, 2, jx0), (1, 0, jx1), (2, 0, jx2), (3, 0, jx3), (4, 0, jx4)] [] σ := by
  unfold F_X8_head_B94 at hF
  refine g_iinc (lv' := [(4, 0, (jx4 + 1)), (0, 2, jx0), (1, 0, jx1), (2, 0, jx2), (3, 0, jx3)]) hX 4 dX8_head_94 rfl (by decide) rfl ?_
  refine g_goto (tgt := 37) hX dX8_head_97 (by decide) ?_
  refine g_lvp (lv' := [(0, 2, jx0), (1, 0, jx1), (2, 0, jx2), (3, 0, jx3), (4, 0, (jx4 + 1))]) [1, 2, 3, 4, 0] rfl ?_
  exact hk37 (jx4 + 1) σ hF
def F_X8_head_B70 (k37 : Int → Hp → Option (Int × Hp)) (jx0 : Int) (jx1 : Int) (jx2 : Int) (jx3 : Int) (jx4 : Int) (σ : Hp) : Option (Int × Hp) :=
  bLe jx4 jx2 (F_X8_head_B94 k37 jx0 jx1 jx2 jx3 jx4  σ) ((rd 9 σ jx0 6).bind fun jv13 => (ar 11 σ jv13 ((31 * jx1) + jx4)).bind fun jv14 => bLt jv14 jx3 (some ((-1), σ)) (F_X8_head_B94 k37 jx0 jx1 jx2 jx3 jx4  σ))
theorem M_X8_head_B70 (k37 : Int → Hp → Option (Int × Hp)) (hk37 : ∀ (jx4 : Int) (σ : Hp), Mn σ (k37 jx4 σ)) (jx0 : Int) (jx1 : Int) (jx2 : Int) (jx3 : Int) (jx4 : Int) (σ : Hp) : Mn σ (F_X8_head_B70 k37 jx0 jx1 jx2 jx3 jx4 σ) := by
  unfold F_X8_head_B70
  repeat' first | exact Mn_ret | exact Mn_rz | exact hk37 _  _ | exact M_X8_head_B94 k37 hk37 _ _ _ _ _  _ | refine Mn_nm (fun _ => ?_) | refine Mn_nab (fun _ _ => ?_) | refine Mn_nwb (fun _ _ => ?_) | refine Mn_pw (fun _ => ?_) | refine Mn_pz (fun _ => ?_) | refine Mn_aw (fun _ => ?_) | refine Mn_az (fun _ => ?_) | refine Mn_aq (fun _ => ?_) | refine Mn_bo (fun _ => ?_) | refine Mn_bd ?_ (fun _ _ => ?_) | refine Mn_iv ?_ | refine Mn_bLt ?_ ?_ | refine Mn_bLe ?_ ?_ | refine Mn_bEq ?_ ?_ | refine Mn_bN ?_ ?_ | refine Mn_g3 ?_ | refine Mn_g33 ?_ | refine Mn_g66 ?_ | refine Mn_gD ?_
set_option maxRecDepth 100000 in
set_option maxHeartbeats 4000000 in
theorem T_X8_head_B70 {r : Int} {σE : Hp} (hX : Cx p R s m args meth c D dA b0 n0 m0 5 nE mE cX8_head RX8 2 43) (hR : Rx meth (some .int)) (hnm : meth.name = yX8_head.name) (hQ : Q = Qm D dA b0 n0 m0 below args s (some (pV 0 r)) σE) (hE : nE = σE.1 ∧ mE = σE.2.1) (k37 : Int → Hp → Option (Int × Hp)) (jx0 : Int) (jx1 : Int) (jx2 : Int) (jx3 : Int) (jx4 : Int) (hk37 : ∀ (jx4 : Int) (σ : Hp), k37 jx4 σ = some (r, σE) → G p l e R s m args below meth c D dA b0 n0 m0 5 nE mE Q 37 [(0, 2, jx0), (1, 0, jx1), (2, 0, jx2), (3, 0, jx3), (4, 0, jx4)] [] σ) (σ : Hp) (hF : F_X8_head_B70 k37 jx0 jx1 jx2 jx3 jx4 σ = some (r, σE)) : G p l e R s m args below meth c D dA b0 n0 m0 5 nE mE Q 70 [(0, 2, jx0), (1, 0, jx1), (2, 0, jx2), (3, 0, jx3), (4, 0, jx4)] [] σ := by
  unfold F_X8_head_B70 at hF
  refine g_iload hX 4 dX8_head_70 rfl ?_
  refine g_iload_n hX 2 dX8_head_72 rfl rfl ?_
  refine g_icmp_le (tgt := 94) hX dX8_head_73 (by decide) hF (fun hc hF => ?_) (fun hc hF => ?_)
  · exact T_X8_head_B94 hX hR hnm hQ hE k37 jx0 jx1 jx2 jx3 jx4  hk37  σ hF
  · refine g_aload_n hX 0 dX8_head_76 rfl rfl ?_
    refine g_get hX fl_X8_26 (by decide) (by decide) dX8_head_77 hF (fun jv13 hF => ?_)
    refine g_bipush hX dX8_head_80 (by decide) ?_
    refine g_iload_n hX 1 dX8_head_82 rfl rfl ?_
    refine g_imul hX dX8_head_83 ?_
    refine g_iload hX 4 dX8_head_84 rfl ?_
    refine g_iadd hX dX8_head_86 ?_
    refine g_iald hX dX8_head_87 hF (fun jv14 hF => ?_)
    refine g_iload_n hX 3 dX8_head_88 rfl rfl ?_
    refine g_icmp_ge (tgt := 94) hX dX8_head_89 (by decide) hF (fun hc hF => ?_) (fun hc hF => ?_)
    · refine g_iconst hX dX8_head_92 ?_
      exact g_iret hX hR hQ hE dX8_head_93 hF
    · exact T_X8_head_B94 hX hR hnm hQ hE k37 jx0 jx1 jx2 jx3 jx4  hk37  σ hF
def F_X8_head_L37 (jx0 : Int) (jx1 : Int) (jx2 : Int) (jx3 : Int) : Nat → Int → Hp → Option (Int × Hp)
  | 0, _, _ => none
  | n + 1, jx4, σ => (rd 9 σ jx0 3).bind fun jv9 => (ar 11 σ jv9 jx1).bind fun jv10 => bLe jx4 jv10 (bLt jx4 jx2 ((rd 9 σ jx0 6).bind fun jv11 => (ar 11 σ jv11 ((31 * jx1) + jx4)).bind fun jv12 => bLe jv12 jx3 (F_X8_head_B70 (F_X8_head_L37 jx0 jx1 jx2 jx3 n) jx0 jx1 jx2 jx3 jx4  σ) (some ((-1), σ))) (F_X8_head_B70 (F_X8_head_L37 jx0 jx1 jx2 jx3 n) jx0 jx1 jx2 jx3 jx4  σ)) ((rd 9 σ jx0 32).bind fun jv15 => bEq jv15 0 ((rd 9 σ jx0 6).bind fun jv16 => (ar 11 σ jv16 ((31 * jx1) + jx2)).bind fun jv17 => (rd 9 σ jx0 6).bind fun jv18 => (aw 11 σ jv18 ((31 * jx1) + jx2) jx3).bind fun σ19 => bd (iv 9 σ19 jx0 (F_X8_forget  jx0  σ19)) fun jv20 σ21 => some (jv17, σ21)) (some ((-2), σ)))
theorem M_X8_head_L37 (jx0 : Int) (jx1 : Int) (jx2 : Int) (jx3 : Int) : ∀ (n : Nat) (jx4 : Int) (σ : Hp), Mn σ (F_X8_head_L37 jx0 jx1 jx2 jx3 n jx4 σ) := by
  intro n
  induction n with
  | zero => intros; rw [F_X8_head_L37]; exact Mn_none
  | succ n hk37 =>
    intros
    rw [F_X8_head_L37]
    repeat' first | exact Mn_ret | exact Mn_rz | exact hk37 _  _ | exact M_X8_head_B70 (F_X8_head_L37 jx0 jx1 jx2 jx3 n) hk37 _ _ _ _ _  _ | exact M_X8_forget _ _ | refine Mn_nm (fun _ => ?_) | refine Mn_nab (fun _ _ => ?_) | refine Mn_nwb (fun _ _ => ?_) | refine Mn_pw (fun _ => ?_) | refine Mn_pz (fun _ => ?_) | refine Mn_aw (fun _ => ?_) | refine Mn_az (fun _ => ?_) | refine Mn_aq (fun _ => ?_) | refine Mn_bo (fun _ => ?_) | refine Mn_bd ?_ (fun _ _ => ?_) | refine Mn_iv ?_ | refine Mn_bLt ?_ ?_ | refine Mn_bLe ?_ ?_ | refine Mn_bEq ?_ ?_ | refine Mn_bN ?_ ?_ | refine Mn_g3 ?_ | refine Mn_g33 ?_ | refine Mn_g66 ?_ | refine Mn_gD ?_
set_option maxRecDepth 100000 in
set_option maxHeartbeats 4000000 in
theorem T_X8_head_L37 {r : Int} {σE : Hp} (hX : Cx p R s m args meth c D dA b0 n0 m0 5 nE mE cX8_head RX8 2 43) (hR : Rx meth (some .int)) (hnm : meth.name = yX8_head.name) (hQ : Q = Qm D dA b0 n0 m0 below args s (some (pV 0 r)) σE) (hE : nE = σE.1 ∧ mE = σE.2.1) (jx0 : Int) (jx1 : Int) (jx2 : Int) (jx3 : Int) : ∀ (n : Nat) (jx4 : Int) (σ : Hp), F_X8_head_L37 jx0 jx1 jx2 jx3 n jx4 σ = some (r, σE) → G p l e R s m args below meth c D dA b0 n0 m0 5 nE mE Q 37 [(0, 2, jx0), (1, 0, jx1), (2, 0, jx2), (3, 0, jx3), (4, 0, jx4)] [] σ := by
  intro n
  induction n with
  | zero =>
    intro jx4 σ hF
    rw [F_X8_head_L37] at hF
    cases hF
  | succ n hk37 =>
    intro jx4 σ hF
    rw [F_X8_head_L37] at hF
    refine g_iload hX 4 dX8_head_37 rfl ?_
    refine g_aload_n hX 0 dX8_head_39 rfl rfl ?_
    refine g_get hX fl_X8_17 (by decide) (by decide) dX8_head_40 hF (fun jv9 hF => ?_)
    refine g_iload_n hX 1 dX8_head_43 rfl rfl ?_
    refine g_iald hX dX8_head_44 hF (fun jv10 hF => ?_)
    refine g_icmp_gt (tgt := 100) hX dX8_head_45 (by decide) hF (fun hc hF => ?_) (fun hc hF => ?_)
    · refine g_iload hX 4 dX8_head_48 rfl ?_
      refine g_iload_n hX 2 dX8_head_50 rfl rfl ?_
      refine g_icmp_ge (tgt := 70) hX dX8_head_51 (by decide) hF (fun hc hF => ?_) (fun hc hF => ?_)
      · refine g_aload_n hX 0 dX8_head_54 rfl rfl ?_
        refine g_get hX fl_X8_26 (by decide) (by decide) dX8_head_55 hF (fun jv11 hF => ?_)
        refine g_bipush hX dX8_head_58 (by decide) ?_
        refine g_iload_n hX 1 dX8_head_60 rfl rfl ?_
        refine g_imul hX dX8_head_61 ?_
        refine g_iload hX 4 dX8_head_62 rfl ?_
        refine g_iadd hX dX8_head_64 ?_
        refine g_iald hX dX8_head_65 hF (fun jv12 hF => ?_)
        refine g_iload_n hX 3 dX8_head_66 rfl rfl ?_
        refine g_icmp_gt (tgt := 92) hX dX8_head_67 (by decide) hF (fun hc hF => ?_) (fun hc hF => ?_)
        · exact T_X8_head_B70 hX hR hnm hQ hE (F_X8_head_L37 jx0 jx1 jx2 jx3 n) jx0 jx1 jx2 jx3 jx4  hk37  σ hF
        · refine g_iconst hX dX8_head_92 ?_
          exact g_iret hX hR hQ hE dX8_head_93 hF
      · exact T_X8_head_B70 hX hR hnm hQ hE (F_X8_head_L37 jx0 jx1 jx2 jx3 n) jx0 jx1 jx2 jx3 jx4  hk37  σ hF
    · refine g_aload_n hX 0 dX8_head_100 rfl rfl ?_
      refine g_get hX fl_X8_134 (by decide) (by decide) dX8_head_101 hF (fun jv15 hF => ?_)
      refine g_if_eq (tgt := 110) hX dX8_head_104 (by decide) hF (fun hc hF => ?_) (fun hc hF => ?_)
      · refine g_aload_n hX 0 dX8_head_110 rfl rfl ?_
        refine g_get hX fl_X8_26 (by decide) (by decide) dX8_head_111 hF (fun jv16 hF => ?_)
        refine g_bipush hX dX8_head_114 (by decide) ?_
        refine g_iload_n hX 1 dX8_head_116 rfl rfl ?_
        refine g_imul hX dX8_head_117 ?_
        refine g_iload_n hX 2 dX8_head_118 rfl rfl ?_
        refine g_iadd hX dX8_head_119 ?_
        refine g_iald hX dX8_head_120 hF (fun jv17 hF => ?_)
        refine g_istore (lv' := [(4, 0, jv17), (0, 2, jx0), (1, 0, jx1), (2, 0, jx2), (3, 0, jx3)]) hX dX8_head_121 (by decide) rfl ?_
        refine g_aload_n hX 1 dX8_head_123 rfl rfl ?_
        refine g_get hX fl_X8_26 (by decide) (by decide) dX8_head_124 hF (fun jv18 hF => ?_)
        refine g_bipush hX dX8_head_127 (by decide) ?_
        refine g_iload_n hX 2 dX8_head_129 rfl rfl ?_
        refine g_imul hX dX8_head_130 ?_
        refine g_iload_n hX 3 dX8_head_131 rfl rfl ?_
        refine g_iadd hX dX8_head_132 ?_
        refine g_iload_n hX 4 dX8_head_133 rfl rfl ?_
        refine u_iast hX dX8_head_134 hF (fun σ19 hF => ?_)
        refine g_aload_n hX 1 dX8_head_135 rfl rfl ?_
        refine g_callVv (ci := 8) (rest := []) [] hX cw_X8_137 rfl (by decide) (by decide) (fun r σ1 h => T_X8_forget l D dA b0  jx0  σ19 σ1 r h) ⟨by decide, by decide⟩ rfl rfl (Nat.le_of_ble_eq_true rfl) dX8_head_136 hF (fun jv20 σ21 hF => ?_)
        refine g_iload hX 0 dX8_head_139 rfl ?_
        exact g_iret hX hR hQ hE dX8_head_141 hF
      · refine g_bipush hX dX8_head_107 (by decide) ?_
        exact g_iret hX hR hQ hE dX8_head_109 hF
def F_X8_head (jx0 : Int) (jx1 : Int) (jx2 : Int) (jx3 : Int) (σ : Hp) : Option (Int × Hp) :=
  bd (iv 9 σ jx0 (F_X8_isLake  jx0 jx1 σ)) fun jv1 σ2 => bEq jv1 0 (some ((-1), σ2)) ((rd 9 σ2 jx0 3).bind fun jv3 => (ar 11 σ2 jv3 jx1).bind fun jv4 => bd (F_X8_in jx2 0 jv4 σ2) fun jv5 σ6 => bEq jv5 0 (some ((-1), σ6)) (bd (F_X8_in jx3 0 9 σ6) fun jv7 σ8 => bEq jv7 0 (some ((-1), σ8)) (F_X8_head_L37 jx0 jx1 jx2 jx3 fu 0 σ8)))
theorem M_X8_head (jx0 : Int) (jx1 : Int) (jx2 : Int) (jx3 : Int) (σ : Hp) : Mn σ (F_X8_head jx0 jx1 jx2 jx3 σ) := by
  unfold F_X8_head
  repeat' first | exact Mn_ret | exact Mn_rz | exact M_X8_isLake _ _ _ | exact M_X8_in _ _ _ _ | exact M_X8_head_L37 _ _ _ _ _ _ _ | refine Mn_nm (fun _ => ?_) | refine Mn_nab (fun _ _ => ?_) | refine Mn_nwb (fun _ _ => ?_) | refine Mn_pw (fun _ => ?_) | refine Mn_pz (fun _ => ?_) | refine Mn_aw (fun _ => ?_) | refine Mn_az (fun _ => ?_) | refine Mn_aq (fun _ => ?_) | refine Mn_bo (fun _ => ?_) | refine Mn_bd ?_ (fun _ _ => ?_) | refine Mn_iv ?_ | refine Mn_bLt ?_ ?_ | refine Mn_bLe ?_ ?_ | refine Mn_bEq ?_ ?_ | refine Mn_bN ?_ ?_ | refine Mn_g3 ?_ | refine Mn_g33 ?_ | refine Mn_g66 ?_ | refine Mn_gD ?_
set_option maxRecDepth 100000 in
set_option maxHeartbeats 4000000 in
theorem T_X8_head (l : Launch) (D : va_G) (dA : Nat → ClassId) (b0 : Nat) (jx0 : Int) (jx1 : Int) (jx2 : Int) (jx3 : Int) (σ σE : Hp) (r : Int) (hF : F_X8_head jx0 jx1 jx2 jx3 σ = some (r, σE)) : Ct l D dA b0 yX8_head cX8_head 5 (some .int) 2 43 [(2, jx0), (0, jx1), (0, jx2), (0, jx3)] σ (some (pV 0 r)) σE := by
  refine Ct.of (lv0 := [(0, 2, jx0), (1, 0, jx1), (2, 0, jx2), (3, 0, jx3)]) (by decide) RX8 rfl (Nat.le_of_ble_eq_true rfl) rfl ?_ (M_X8_head jx0 jx1 jx2 jx3 σ r σE hF)
  intro p e R s m args below meth c hX hR hnm
  obtain ⟨Q, hQ⟩ : ∃ Q, Q = Qm D dA b0 σ.1 σ.2.1 below args s (some (pV 0 r)) σE := ⟨_, rfl⟩
  rw [← hQ]
  have hE : σE.1 = σE.1 ∧ σE.2.1 = σE.2.1 := ⟨rfl, rfl⟩
  unfold F_X8_head at hF
  refine g_aload_n hX 0 dX8_head_0 rfl rfl ?_
  refine g_iload_n hX 1 dX8_head_1 rfl rfl ?_
  refine g_callV (t := 0) (ci := 8) (rest := []) [(0, jx1)] hX cw_X8_140 rfl (by decide) (by decide) (fun r σ1 h => T_X8_isLake l D dA b0  jx0 jx1 σ σ1 r h) ⟨by decide, by decide⟩ rfl rfl (Nat.le_of_ble_eq_true rfl) dX8_head_2 hF (fun jv1 σ2 hF => ?_)
  refine g_if_eq (tgt := 32) hX dX8_head_5 (by decide) hF (fun hc hF => ?_) (fun hc hF => ?_)
  · refine g_iconst hX dX8_head_32 ?_
    exact g_iret hX hR hQ hE dX8_head_33 hF
  · refine g_iload_n hX 2 dX8_head_8 rfl rfl ?_
    refine g_iconst hX dX8_head_9 ?_
    refine g_aload_n hX 0 dX8_head_10 rfl rfl ?_
    refine g_get hX fl_X8_17 (by decide) (by decide) dX8_head_11 hF (fun jv3 hF => ?_)
    refine g_iload_n hX 1 dX8_head_14 rfl rfl ?_
    refine g_iald hX dX8_head_15 hF (fun jv4 hF => ?_)
    refine g_callS (t := 0) (rest := []) [(0, jx2), (0, 0), (0, jv4)] hX cw_X8_122 (fun r σ1 h => T_X8_in l D dA b0 jx2 0 jv4 σ2 σ1 r h) ⟨by decide, by decide⟩ rfl rfl (Nat.le_of_ble_eq_true rfl) dX8_head_16 hF (fun jv5 σ6 hF => ?_)
    refine g_if_eq (tgt := 32) hX dX8_head_19 (by decide) hF (fun hc hF => ?_) (fun hc hF => ?_)
    · refine g_iconst hX dX8_head_32 ?_
      exact g_iret hX hR hQ hE dX8_head_33 hF
    · refine g_iload_n hX 3 dX8_head_22 rfl rfl ?_
      refine g_iconst hX dX8_head_23 ?_
      refine g_bipush hX dX8_head_24 (by decide) ?_
      refine g_callS (t := 0) (rest := []) [(0, jx3), (0, 0), (0, 9)] hX cw_X8_122 (fun r σ1 h => T_X8_in l D dA b0 jx3 0 9 σ6 σ1 r h) ⟨by decide, by decide⟩ rfl rfl (Nat.le_of_ble_eq_true rfl) dX8_head_26 hF (fun jv7 σ8 hF => ?_)
      refine g_if_ne (tgt := 34) hX dX8_head_29 (by decide) hF (fun hc hF => ?_) (fun hc hF => ?_)
      · refine g_iconst hX dX8_head_32 ?_
        exact g_iret hX hR hQ hE dX8_head_33 hF
      · refine g_iconst hX dX8_head_34 ?_
        refine g_istore (lv' := [(4, 0, 0), (0, 2, jx0), (1, 0, jx1), (2, 0, jx2), (3, 0, jx3)]) hX dX8_head_35 (by decide) rfl ?_
        refine g_lvp (lv' := [(0, 2, jx0), (1, 0, jx1), (2, 0, jx2), (3, 0, jx3), (4, 0, 0)]) [1, 2, 3, 4, 0] rfl ?_
        exact T_X8_head_L37 hX hR hnm hQ hE jx0 jx1 jx2 jx3  fu 0 σ8 hF
end

section
variable {p : Program} {l : Launch} {e : Env} {R : Room} {s : State} {m : MethodId} {args : Array Value} {below : List Frame} {meth : Method} {c : Code} {D : va_G} {dA : Nat → ClassId} {b0 n0 m0 nE mE : Nat} {Q : State → Prop}
def F_X8_end (jx0 : Int) (jx1 : Int) (jx2 : Int) (σ : Hp) : Option (Int × Hp) :=
  bd (iv 9 σ jx0 (F_X8_isLake  jx0 jx1 σ)) fun jv1 σ2 => bEq jv1 0 (some ((-1), σ2)) (bd (F_X8_in jx2 0 99 σ2) fun jv3 σ4 => bEq jv3 0 (some ((-1), σ4)) ((rd 9 σ4 jx0 32).bind fun jv5 => bEq jv5 0 ((rd 9 σ4 jx0 7).bind fun jv6 => (ar 11 σ4 jv6 jx1).bind fun jv7 => (rd 9 σ4 jx0 7).bind fun jv8 => (aw 11 σ4 jv8 jx1 jx2).bind fun σ9 => bd (iv 9 σ9 jx0 (F_X8_forget  jx0  σ9)) fun jv10 σ11 => some (jv7, σ11)) (some ((-2), σ4))))
theorem M_X8_end (jx0 : Int) (jx1 : Int) (jx2 : Int) (σ : Hp) : Mn σ (F_X8_end jx0 jx1 jx2 σ) := by
  unfold F_X8_end
  repeat' first | exact Mn_ret | exact Mn_rz | exact M_X8_isLake _ _ _ | exact M_X8_in _ _ _ _ | exact M_X8_forget _ _ | refine Mn_nm (fun _ => ?_) | refine Mn_nab (fun _ _ => ?_) | refine Mn_nwb (fun _ _ => ?_) | refine Mn_pw (fun _ => ?_) | refine Mn_pz (fun _ => ?_) | refine Mn_aw (fun _ => ?_) | refine Mn_az (fun _ => ?_) | refine Mn_aq (fun _ => ?_) | refine Mn_bo (fun _ => ?_) | refine Mn_bd ?_ (fun _ _ => ?_) | refine Mn_iv ?_ | refine Mn_bLt ?_ ?_ | refine Mn_bLe ?_ ?_ | refine Mn_bEq ?_ ?_ | refine Mn_bN ?_ ?_ | refine Mn_g3 ?_ | refine Mn_g33 ?_ | refine Mn_g66 ?_ | refine Mn_gD ?_
set_option maxRecDepth 100000 in
set_option maxHeartbeats 4000000 in
theorem T_X8_end (l : Launch) (D : va_G) (dA : Nat → ClassId) (b0 : Nat) (jx0 : Int) (jx1 : Int) (jx2 : Int) (σ σE : Hp) (r : Int) (hF : F_X8_end jx0 jx1 jx2 σ = some (r, σE)) : Ct l D dA b0 yX8_end cX8_end 4 (some .int) 2 43 [(2, jx0), (0, jx1), (0, jx2)] σ (some (pV 0 r)) σE := by
  refine Ct.of (lv0 := [(0, 2, jx0), (1, 0, jx1), (2, 0, jx2)]) (by decide) RX8 rfl (Nat.le_of_ble_eq_true rfl) rfl ?_ (M_X8_end jx0 jx1 jx2 σ r σE hF)
  intro p e R s m args below meth c hX hR hnm
  obtain ⟨Q, hQ⟩ : ∃ Q, Q = Qm D dA b0 σ.1 σ.2.1 below args s (some (pV 0 r)) σE := ⟨_, rfl⟩
  rw [← hQ]
  have hE : σE.1 = σE.1 ∧ σE.2.1 = σE.2.1 := ⟨rfl, rfl⟩
  unfold F_X8_end at hF
  refine g_aload_n hX 0 dX8_end_0 rfl rfl ?_
  refine g_iload_n hX 1 dX8_end_1 rfl rfl ?_
  refine g_callV (t := 0) (ci := 8) (rest := []) [(0, jx1)] hX cw_X8_140 rfl (by decide) (by decide) (fun r σ1 h => T_X8_isLake l D dA b0  jx0 jx1 σ σ1 r h) ⟨by decide, by decide⟩ rfl rfl (Nat.le_of_ble_eq_true rfl) dX8_end_2 hF (fun jv1 σ2 hF => ?_)
  refine g_if_eq (tgt := 18) hX dX8_end_5 (by decide) hF (fun hc hF => ?_) (fun hc hF => ?_)
  · refine g_iconst hX dX8_end_18 ?_
    exact g_iret hX hR hQ hE dX8_end_19 hF
  · refine g_iload_n hX 2 dX8_end_8 rfl rfl ?_
    refine g_iconst hX dX8_end_9 ?_
    refine g_bipush hX dX8_end_10 (by decide) ?_
    refine g_callS (t := 0) (rest := []) [(0, jx2), (0, 0), (0, 99)] hX cw_X8_122 (fun r σ1 h => T_X8_in l D dA b0 jx2 0 99 σ2 σ1 r h) ⟨by decide, by decide⟩ rfl rfl (Nat.le_of_ble_eq_true rfl) dX8_end_12 hF (fun jv3 σ4 hF => ?_)
    refine g_if_ne (tgt := 20) hX dX8_end_15 (by decide) hF (fun hc hF => ?_) (fun hc hF => ?_)
    · refine g_iconst hX dX8_end_18 ?_
      exact g_iret hX hR hQ hE dX8_end_19 hF
    · refine g_aload_n hX 0 dX8_end_20 rfl rfl ?_
      refine g_get hX fl_X8_134 (by decide) (by decide) dX8_end_21 hF (fun jv5 hF => ?_)
      refine g_if_eq (tgt := 30) hX dX8_end_24 (by decide) hF (fun hc hF => ?_) (fun hc hF => ?_)
      · refine g_aload_n hX 0 dX8_end_30 rfl rfl ?_
        refine g_get hX fl_X8_29 (by decide) (by decide) dX8_end_31 hF (fun jv6 hF => ?_)
        refine g_iload_n hX 1 dX8_end_34 rfl rfl ?_
        refine g_iald hX dX8_end_35 hF (fun jv7 hF => ?_)
        refine g_istore_n (lv' := [(3, 0, jv7), (0, 2, jx0), (1, 0, jx1), (2, 0, jx2)]) hX dX8_end_36 rfl (by decide) rfl ?_
        refine g_aload_n hX 1 dX8_end_37 rfl rfl ?_
        refine g_get hX fl_X8_29 (by decide) (by decide) dX8_end_38 hF (fun jv8 hF => ?_)
        refine g_iload_n hX 2 dX8_end_41 rfl rfl ?_
        refine g_iload_n hX 3 dX8_end_42 rfl rfl ?_
        refine u_iast hX dX8_end_43 hF (fun σ9 hF => ?_)
        refine g_aload_n hX 1 dX8_end_44 rfl rfl ?_
        refine g_callVv (ci := 8) (rest := []) [] hX cw_X8_137 rfl (by decide) (by decide) (fun r σ1 h => T_X8_forget l D dA b0  jx0  σ9 σ1 r h) ⟨by decide, by decide⟩ rfl rfl (Nat.le_of_ble_eq_true rfl) dX8_end_45 hF (fun jv10 σ11 hF => ?_)
        refine g_iload_n hX 0 dX8_end_48 rfl rfl ?_
        exact g_iret hX hR hQ hE dX8_end_49 hF
      · refine g_bipush hX dX8_end_27 (by decide) ?_
        exact g_iret hX hR hQ hE dX8_end_29 hF
end

section
variable {p : Program} {l : Launch} {e : Env} {R : Room} {s : State} {m : MethodId} {args : Array Value} {below : List Frame} {meth : Method} {c : Code} {D : va_G} {dA : Nat → ClassId} {b0 n0 m0 nE mE : Nat} {Q : State → Prop}
def F_X8_weeks (jx0 : Int) (jx1 : Int) (jx2 : Int) (σ : Hp) : Option (Int × Hp) :=
  bd (F_X8_in jx1 1 10 σ) fun jv1 σ2 => bEq jv1 0 (some ((-1), σ2)) (bd (F_X8_in jx2 1 6 σ2) fun jv3 σ4 => bEq jv3 0 (some ((-1), σ4)) ((rd 9 σ4 jx0 32).bind fun jv5 => bEq jv5 0 ((pw 9 σ4 jx0 8 jx1).bind fun σ6 => (pw 9 σ6 jx0 9 jx2).bind fun σ7 => (pw 9 σ7 jx0 11 1).bind fun σ8 => bd (iv 9 σ8 jx0 (F_X8_forget  jx0  σ8)) fun jv9 σ10 => some (1, σ10)) (some ((-2), σ4))))
theorem M_X8_weeks (jx0 : Int) (jx1 : Int) (jx2 : Int) (σ : Hp) : Mn σ (F_X8_weeks jx0 jx1 jx2 σ) := by
  unfold F_X8_weeks
  repeat' first | exact Mn_ret | exact Mn_rz | exact M_X8_in _ _ _ _ | exact M_X8_forget _ _ | refine Mn_nm (fun _ => ?_) | refine Mn_nab (fun _ _ => ?_) | refine Mn_nwb (fun _ _ => ?_) | refine Mn_pw (fun _ => ?_) | refine Mn_pz (fun _ => ?_) | refine Mn_aw (fun _ => ?_) | refine Mn_az (fun _ => ?_) | refine Mn_aq (fun _ => ?_) | refine Mn_bo (fun _ => ?_) | refine Mn_bd ?_ (fun _ _ => ?_) | refine Mn_iv ?_ | refine Mn_bLt ?_ ?_ | refine Mn_bLe ?_ ?_ | refine Mn_bEq ?_ ?_ | refine Mn_bN ?_ ?_ | refine Mn_g3 ?_ | refine Mn_g33 ?_ | refine Mn_g66 ?_ | refine Mn_gD ?_
set_option maxRecDepth 100000 in
set_option maxHeartbeats 4000000 in
theorem T_X8_weeks (l : Launch) (D : va_G) (dA : Nat → ClassId) (b0 : Nat) (jx0 : Int) (jx1 : Int) (jx2 : Int) (σ σE : Hp) (r : Int) (hF : F_X8_weeks jx0 jx1 jx2 σ = some (r, σE)) : Ct l D dA b0 yX8_weeks cX8_weeks 3 (some .int) 1 22 [(2, jx0), (0, jx1), (0, jx2)] σ (some (pV 0 r)) σE := by
  refine Ct.of (lv0 := [(0, 2, jx0), (1, 0, jx1), (2, 0, jx2)]) (by decide) RX8 rfl (Nat.le_of_ble_eq_true rfl) rfl ?_ (M_X8_weeks jx0 jx1 jx2 σ r σE hF)
  intro p e R s m args below meth c hX hR hnm
  obtain ⟨Q, hQ⟩ : ∃ Q, Q = Qm D dA b0 σ.1 σ.2.1 below args s (some (pV 0 r)) σE := ⟨_, rfl⟩
  rw [← hQ]
  have hE : σE.1 = σE.1 ∧ σE.2.1 = σE.2.1 := ⟨rfl, rfl⟩
  unfold F_X8_weeks at hF
  refine g_iload_n hX 1 dX8_weeks_0 rfl rfl ?_
  refine g_iconst hX dX8_weeks_1 ?_
  refine g_bipush hX dX8_weeks_2 (by decide) ?_
  refine g_callS (t := 0) (rest := []) [(0, jx1), (0, 1), (0, 10)] hX cw_X8_122 (fun r σ1 h => T_X8_in l D dA b0 jx1 1 10 σ σ1 r h) ⟨by decide, by decide⟩ rfl rfl (Nat.le_of_ble_eq_true rfl) dX8_weeks_4 hF (fun jv1 σ2 hF => ?_)
  refine g_if_eq (tgt := 20) hX dX8_weeks_7 (by decide) hF (fun hc hF => ?_) (fun hc hF => ?_)
  · refine g_iconst hX dX8_weeks_20 ?_
    exact g_iret hX hR hQ hE dX8_weeks_21 hF
  · refine g_iload_n hX 2 dX8_weeks_10 rfl rfl ?_
    refine g_iconst hX dX8_weeks_11 ?_
    refine g_bipush hX dX8_weeks_12 (by decide) ?_
    refine g_callS (t := 0) (rest := []) [(0, jx2), (0, 1), (0, 6)] hX cw_X8_122 (fun r σ1 h => T_X8_in l D dA b0 jx2 1 6 σ2 σ1 r h) ⟨by decide, by decide⟩ rfl rfl (Nat.le_of_ble_eq_true rfl) dX8_weeks_14 hF (fun jv3 σ4 hF => ?_)
    refine g_if_ne (tgt := 22) hX dX8_weeks_17 (by decide) hF (fun hc hF => ?_) (fun hc hF => ?_)
    · refine g_iconst hX dX8_weeks_20 ?_
      exact g_iret hX hR hQ hE dX8_weeks_21 hF
    · refine g_aload_n hX 0 dX8_weeks_22 rfl rfl ?_
      refine g_get hX fl_X8_134 (by decide) (by decide) dX8_weeks_23 hF (fun jv5 hF => ?_)
      refine g_if_eq (tgt := 32) hX dX8_weeks_26 (by decide) hF (fun hc hF => ?_) (fun hc hF => ?_)
      · refine g_aload_n hX 0 dX8_weeks_32 rfl rfl ?_
        refine g_iload_n hX 1 dX8_weeks_33 rfl rfl ?_
        refine u_put hX fp_X8_32 (by decide) (by decide) dX8_weeks_34 hF (fun σ6 hF => ?_)
        refine g_aload_n hX 0 dX8_weeks_37 rfl rfl ?_
        refine g_iload_n hX 2 dX8_weeks_38 rfl rfl ?_
        refine u_put hX fp_X8_35 (by decide) (by decide) dX8_weeks_39 hF (fun σ7 hF => ?_)
        refine g_aload_n hX 0 dX8_weeks_42 rfl rfl ?_
        refine g_iconst hX dX8_weeks_43 ?_
        refine u_put hX fp_X8_41 (by decide) (by decide) dX8_weeks_44 hF (fun σ8 hF => ?_)
        refine g_aload_n hX 0 dX8_weeks_47 rfl rfl ?_
        refine g_callVv (ci := 8) (rest := []) [] hX cw_X8_137 rfl (by decide) (by decide) (fun r σ1 h => T_X8_forget l D dA b0  jx0  σ8 σ1 r h) ⟨by decide, by decide⟩ rfl rfl (Nat.le_of_ble_eq_true rfl) dX8_weeks_48 hF (fun jv9 σ10 hF => ?_)
        refine g_iconst hX dX8_weeks_51 ?_
        exact g_iret hX hR hQ hE dX8_weeks_52 hF
      · refine g_bipush hX dX8_weeks_29 (by decide) ?_
        exact g_iret hX hR hQ hE dX8_weeks_31 hF
end

section
variable {p : Program} {l : Launch} {e : Env} {R : Room} {s : State} {m : MethodId} {args : Array Value} {below : List Frame} {meth : Method} {c : Code} {D : va_G} {dA : Nat → ClassId} {b0 n0 m0 nE mE : Nat} {Q : State → Prop}
def F_X8_price (jx0 : Int) (jx1 : Int) (jx2 : Int) (σ : Hp) : Option (Int × Hp) :=
  bd (F_X8_in jx1 0 9 σ) fun jv1 σ2 => bEq jv1 0 (some ((-1), σ2)) (bd (F_X8_in jx2 0 20 σ2) fun jv3 σ4 => bEq jv3 0 (some ((-1), σ4)) ((rd 9 σ4 jx0 32).bind fun jv5 => bEq jv5 0 ((rd 9 σ4 jx0 10).bind fun jv6 => (ar 11 σ4 jv6 jx1).bind fun jv7 => (rd 9 σ4 jx0 10).bind fun jv8 => (aw 11 σ4 jv8 jx1 jx2).bind fun σ9 => bd (iv 9 σ9 jx0 (F_X8_forget  jx0  σ9)) fun jv10 σ11 => some (jv7, σ11)) (some ((-2), σ4))))
theorem M_X8_price (jx0 : Int) (jx1 : Int) (jx2 : Int) (σ : Hp) : Mn σ (F_X8_price jx0 jx1 jx2 σ) := by
  unfold F_X8_price
  repeat' first | exact Mn_ret | exact Mn_rz | exact M_X8_in _ _ _ _ | exact M_X8_forget _ _ | refine Mn_nm (fun _ => ?_) | refine Mn_nab (fun _ _ => ?_) | refine Mn_nwb (fun _ _ => ?_) | refine Mn_pw (fun _ => ?_) | refine Mn_pz (fun _ => ?_) | refine Mn_aw (fun _ => ?_) | refine Mn_az (fun _ => ?_) | refine Mn_aq (fun _ => ?_) | refine Mn_bo (fun _ => ?_) | refine Mn_bd ?_ (fun _ _ => ?_) | refine Mn_iv ?_ | refine Mn_bLt ?_ ?_ | refine Mn_bLe ?_ ?_ | refine Mn_bEq ?_ ?_ | refine Mn_bN ?_ ?_ | refine Mn_g3 ?_ | refine Mn_g33 ?_ | refine Mn_g66 ?_ | refine Mn_gD ?_
set_option maxRecDepth 100000 in
set_option maxHeartbeats 4000000 in
theorem T_X8_price (l : Launch) (D : va_G) (dA : Nat → ClassId) (b0 : Nat) (jx0 : Int) (jx1 : Int) (jx2 : Int) (σ σE : Hp) (r : Int) (hF : F_X8_price jx0 jx1 jx2 σ = some (r, σE)) : Ct l D dA b0 yX8_price cX8_price 4 (some .int) 1 22 [(2, jx0), (0, jx1), (0, jx2)] σ (some (pV 0 r)) σE := by
  refine Ct.of (lv0 := [(0, 2, jx0), (1, 0, jx1), (2, 0, jx2)]) (by decide) RX8 rfl (Nat.le_of_ble_eq_true rfl) rfl ?_ (M_X8_price jx0 jx1 jx2 σ r σE hF)
  intro p e R s m args below meth c hX hR hnm
  obtain ⟨Q, hQ⟩ : ∃ Q, Q = Qm D dA b0 σ.1 σ.2.1 below args s (some (pV 0 r)) σE := ⟨_, rfl⟩
  rw [← hQ]
  have hE : σE.1 = σE.1 ∧ σE.2.1 = σE.2.1 := ⟨rfl, rfl⟩
  unfold F_X8_price at hF
  refine g_iload_n hX 1 dX8_price_0 rfl rfl ?_
  refine g_iconst hX dX8_price_1 ?_
  refine g_bipush hX dX8_price_2 (by decide) ?_
  refine g_callS (t := 0) (rest := []) [(0, jx1), (0, 0), (0, 9)] hX cw_X8_122 (fun r σ1 h => T_X8_in l D dA b0 jx1 0 9 σ σ1 r h) ⟨by decide, by decide⟩ rfl rfl (Nat.le_of_ble_eq_true rfl) dX8_price_4 hF (fun jv1 σ2 hF => ?_)
  refine g_if_eq (tgt := 20) hX dX8_price_7 (by decide) hF (fun hc hF => ?_) (fun hc hF => ?_)
  · refine g_iconst hX dX8_price_20 ?_
    exact g_iret hX hR hQ hE dX8_price_21 hF
  · refine g_iload_n hX 2 dX8_price_10 rfl rfl ?_
    refine g_iconst hX dX8_price_11 ?_
    refine g_bipush hX dX8_price_12 (by decide) ?_
    refine g_callS (t := 0) (rest := []) [(0, jx2), (0, 0), (0, 20)] hX cw_X8_122 (fun r σ1 h => T_X8_in l D dA b0 jx2 0 20 σ2 σ1 r h) ⟨by decide, by decide⟩ rfl rfl (Nat.le_of_ble_eq_true rfl) dX8_price_14 hF (fun jv3 σ4 hF => ?_)
    refine g_if_ne (tgt := 22) hX dX8_price_17 (by decide) hF (fun hc hF => ?_) (fun hc hF => ?_)
    · refine g_iconst hX dX8_price_20 ?_
      exact g_iret hX hR hQ hE dX8_price_21 hF
    · refine g_aload_n hX 0 dX8_price_22 rfl rfl ?_
      refine g_get hX fl_X8_134 (by decide) (by decide) dX8_price_23 hF (fun jv5 hF => ?_)
      refine g_if_eq (tgt := 32) hX dX8_price_26 (by decide) hF (fun hc hF => ?_) (fun hc hF => ?_)
      · refine g_aload_n hX 0 dX8_price_32 rfl rfl ?_
        refine g_get hX fl_X8_38 (by decide) (by decide) dX8_price_33 hF (fun jv6 hF => ?_)
        refine g_iload_n hX 1 dX8_price_36 rfl rfl ?_
        refine g_iald hX dX8_price_37 hF (fun jv7 hF => ?_)
        refine g_istore_n (lv' := [(3, 0, jv7), (0, 2, jx0), (1, 0, jx1), (2, 0, jx2)]) hX dX8_price_38 rfl (by decide) rfl ?_
        refine g_aload_n hX 1 dX8_price_39 rfl rfl ?_
        refine g_get hX fl_X8_38 (by decide) (by decide) dX8_price_40 hF (fun jv8 hF => ?_)
        refine g_iload_n hX 2 dX8_price_43 rfl rfl ?_
        refine g_iload_n hX 3 dX8_price_44 rfl rfl ?_
        refine u_iast hX dX8_price_45 hF (fun σ9 hF => ?_)
        refine g_aload_n hX 1 dX8_price_46 rfl rfl ?_
        refine g_callVv (ci := 8) (rest := []) [] hX cw_X8_137 rfl (by decide) (by decide) (fun r σ1 h => T_X8_forget l D dA b0  jx0  σ9 σ1 r h) ⟨by decide, by decide⟩ rfl rfl (Nat.le_of_ble_eq_true rfl) dX8_price_47 hF (fun jv10 σ11 hF => ?_)
        refine g_iload_n hX 0 dX8_price_50 rfl rfl ?_
        exact g_iret hX hR hQ hE dX8_price_51 hF
      · refine g_bipush hX dX8_price_29 (by decide) ?_
        exact g_iret hX hR hQ hE dX8_price_31 hF
end

section
variable {p : Program} {l : Launch} {e : Env} {R : Room} {s : State} {m : MethodId} {args : Array Value} {below : List Frame} {meth : Method} {c : Code} {D : va_G} {dA : Nat → ClassId} {b0 n0 m0 nE mE : Nat} {Q : State → Prop}
def F_X8_weightsOf_B33 (k4 : Int → Int → Hp → Option (Int × Hp)) (jx0 : Int) (jx1 : Int) (jx3 : Int) (js0 : Int) (js1 : Int) (σ : Hp) : Option (Int × Hp) :=
  k4 (js1 + js0) (jx3 + 1) σ
theorem M_X8_weightsOf_B33 (k4 : Int → Int → Hp → Option (Int × Hp)) (hk4 : ∀ (jx2 : Int) (jx3 : Int) (σ : Hp), Mn σ (k4 jx2 jx3 σ)) (jx0 : Int) (jx1 : Int) (jx3 : Int) (js0 : Int) (js1 : Int) (σ : Hp) : Mn σ (F_X8_weightsOf_B33 k4 jx0 jx1 jx3 js0 js1 σ) := by
  unfold F_X8_weightsOf_B33
  repeat' first | exact Mn_ret | exact Mn_rz | exact hk4 _ _  _ | refine Mn_nm (fun _ => ?_) | refine Mn_nab (fun _ _ => ?_) | refine Mn_nwb (fun _ _ => ?_) | refine Mn_pw (fun _ => ?_) | refine Mn_pz (fun _ => ?_) | refine Mn_aw (fun _ => ?_) | refine Mn_az (fun _ => ?_) | refine Mn_aq (fun _ => ?_) | refine Mn_bo (fun _ => ?_) | refine Mn_bd ?_ (fun _ _ => ?_) | refine Mn_iv ?_ | refine Mn_bLt ?_ ?_ | refine Mn_bLe ?_ ?_ | refine Mn_bEq ?_ ?_ | refine Mn_bN ?_ ?_ | refine Mn_g3 ?_ | refine Mn_g33 ?_ | refine Mn_g66 ?_ | refine Mn_gD ?_
set_option maxRecDepth 100000 in
set_option maxHeartbeats 4000000 in
theorem T_X8_weightsOf_B33 {r : Int} {σE : Hp} (hX : Cx p R s m args meth c D dA b0 n0 m0 4 nE mE cX8_weightsOf RX8 0 0) (hR : Rx meth (some .int)) (hnm : meth.name = yX8_weightsOf.name) (hQ : Q = Qm D dA b0 n0 m0 below args s (some (pV 0 r)) σE) (hE : nE = σE.1 ∧ mE = σE.2.1) (k4 : Int → Int → Hp → Option (Int × Hp)) (jx0 : Int) (jx1 : Int) (jx3 : Int) (js0 : Int) (js1 : Int) (hk4 : ∀ (jx2 : Int) (jx3 : Int) (σ : Hp), k4 jx2 jx3 σ = some (r, σE) → G p l e R s m args below meth c D dA b0 n0 m0 4 nE mE Q 4 [(0, 2, jx0), (1, 0, jx1), (2, 0, jx2), (3, 0, jx3)] [] σ) (σ : Hp) (hF : F_X8_weightsOf_B33 k4 jx0 jx1 jx3 js0 js1 σ = some (r, σE)) : G p l e R s m args below meth c D dA b0 n0 m0 4 nE mE Q 33 [(0, 2, jx0), (1, 0, jx1), (3, 0, jx3)] [(0, js0), (0, js1)] σ := by
  unfold F_X8_weightsOf_B33 at hF
  refine g_iadd hX dX8_weightsOf_33 ?_
  refine g_istore_n (lv' := [(2, 0, (js1 + js0)), (0, 2, jx0), (1, 0, jx1), (3, 0, jx3)]) hX dX8_weightsOf_34 rfl (by decide) rfl ?_
  refine g_iinc (lv' := [(3, 0, (jx3 + 1)), (2, 0, (js1 + js0)), (0, 2, jx0), (1, 0, jx1)]) hX 3 dX8_weightsOf_35 rfl (by decide) rfl ?_
  refine g_goto (tgt := 4) hX dX8_weightsOf_38 (by decide) ?_
  refine g_lvp (lv' := [(0, 2, jx0), (1, 0, jx1), (2, 0, (js1 + js0)), (3, 0, (jx3 + 1))]) [2, 3, 1, 0] rfl ?_
  exact hk4 (js1 + js0) (jx3 + 1) σ hF
def F_X8_weightsOf_L4 (jx0 : Int) (jx1 : Int) : Nat → Int → Int → Hp → Option (Int × Hp)
  | 0, _, _, _ => none
  | n + 1, jx2, jx3, σ => (rd 9 σ jx0 11).bind fun jv1 => bLt jx3 jv1 ((rd 9 σ jx0 12).bind fun jv2 => (ar 11 σ jv2 jx3).bind fun jv3 => bEq jv3 jx1 ((rd 9 σ jx0 13).bind fun jv4 => (ar 11 σ jv4 jx3).bind fun jv5 => F_X8_weightsOf_B33 (F_X8_weightsOf_L4 jx0 jx1 n) jx0 jx1 jx3 jv5 jx2 σ) (F_X8_weightsOf_B33 (F_X8_weightsOf_L4 jx0 jx1 n) jx0 jx1 jx3 0 jx2 σ)) (some (jx2, σ))
theorem M_X8_weightsOf_L4 (jx0 : Int) (jx1 : Int) : ∀ (n : Nat) (jx2 : Int) (jx3 : Int) (σ : Hp), Mn σ (F_X8_weightsOf_L4 jx0 jx1 n jx2 jx3 σ) := by
  intro n
  induction n with
  | zero => intros; rw [F_X8_weightsOf_L4]; exact Mn_none
  | succ n hk4 =>
    intros
    rw [F_X8_weightsOf_L4]
    repeat' first | exact Mn_ret | exact Mn_rz | exact hk4 _ _  _ | exact M_X8_weightsOf_B33 (F_X8_weightsOf_L4 jx0 jx1 n) hk4 _ _ _ _ _ _ | refine Mn_nm (fun _ => ?_) | refine Mn_nab (fun _ _ => ?_) | refine Mn_nwb (fun _ _ => ?_) | refine Mn_pw (fun _ => ?_) | refine Mn_pz (fun _ => ?_) | refine Mn_aw (fun _ => ?_) | refine Mn_az (fun _ => ?_) | refine Mn_aq (fun _ => ?_) | refine Mn_bo (fun _ => ?_) | refine Mn_bd ?_ (fun _ _ => ?_) | refine Mn_iv ?_ | refine Mn_bLt ?_ ?_ | refine Mn_bLe ?_ ?_ | refine Mn_bEq ?_ ?_ | refine Mn_bN ?_ ?_ | refine Mn_g3 ?_ | refine Mn_g33 ?_ | refine Mn_g66 ?_ | refine Mn_gD ?_
set_option maxRecDepth 100000 in
set_option maxHeartbeats 4000000 in
theorem T_X8_weightsOf_L4 {r : Int} {σE : Hp} (hX : Cx p R s m args meth c D dA b0 n0 m0 4 nE mE cX8_weightsOf RX8 0 0) (hR : Rx meth (some .int)) (hnm : meth.name = yX8_weightsOf.name) (hQ : Q = Qm D dA b0 n0 m0 below args s (some (pV 0 r)) σE) (hE : nE = σE.1 ∧ mE = σE.2.1) (jx0 : Int) (jx1 : Int) : ∀ (n : Nat) (jx2 : Int) (jx3 : Int) (σ : Hp), F_X8_weightsOf_L4 jx0 jx1 n jx2 jx3 σ = some (r, σE) → G p l e R s m args below meth c D dA b0 n0 m0 4 nE mE Q 4 [(0, 2, jx0), (1, 0, jx1), (2, 0, jx2), (3, 0, jx3)] [] σ := by
  intro n
  induction n with
  | zero =>
    intro jx2 jx3 σ hF
    rw [F_X8_weightsOf_L4] at hF
    cases hF
  | succ n hk4 =>
    intro jx2 jx3 σ hF
    rw [F_X8_weightsOf_L4] at hF
    refine g_iload_n hX 3 dX8_weightsOf_4 rfl rfl ?_
    refine g_aload_n hX 0 dX8_weightsOf_5 rfl rfl ?_
    refine g_get hX fl_X8_41 (by decide) (by decide) dX8_weightsOf_6 hF (fun jv1 hF => ?_)
    refine g_icmp_ge (tgt := 41) hX dX8_weightsOf_9 (by decide) hF (fun hc hF => ?_) (fun hc hF => ?_)
    · refine g_iload_n hX 2 dX8_weightsOf_12 rfl rfl ?_
      refine g_aload_n hX 0 dX8_weightsOf_13 rfl rfl ?_
      refine g_get hX fl_X8_44 (by decide) (by decide) dX8_weightsOf_14 hF (fun jv2 hF => ?_)
      refine g_iload_n hX 3 dX8_weightsOf_17 rfl rfl ?_
      refine g_iald hX dX8_weightsOf_18 hF (fun jv3 hF => ?_)
      refine g_iload_n hX 1 dX8_weightsOf_19 rfl rfl ?_
      refine g_icmp_ne (tgt := 32) hX dX8_weightsOf_20 (by decide) hF (fun hc hF => ?_) (fun hc hF => ?_)
      · refine g_aload_n hX 0 dX8_weightsOf_23 rfl rfl ?_
        refine g_get hX fl_X8_47 (by decide) (by decide) dX8_weightsOf_24 hF (fun jv4 hF => ?_)
        refine g_iload_n hX 3 dX8_weightsOf_27 rfl rfl ?_
        refine g_iald hX dX8_weightsOf_28 hF (fun jv5 hF => ?_)
        refine g_goto (tgt := 33) hX dX8_weightsOf_29 (by decide) ?_
        refine g_lvp (lv' := [(0, 2, jx0), (1, 0, jx1), (3, 0, jx3)]) [0, 1, 3] rfl ?_
        exact T_X8_weightsOf_B33 hX hR hnm hQ hE (F_X8_weightsOf_L4 jx0 jx1 n) jx0 jx1 jx3 jv5 jx2 hk4  σ hF
      · refine g_iconst hX dX8_weightsOf_32 ?_
        refine g_lvp (lv' := [(0, 2, jx0), (1, 0, jx1), (3, 0, jx3)]) [0, 1, 3] rfl ?_
        exact T_X8_weightsOf_B33 hX hR hnm hQ hE (F_X8_weightsOf_L4 jx0 jx1 n) jx0 jx1 jx3 0 jx2 hk4  σ hF
    · refine g_iload_n hX 2 dX8_weightsOf_41 rfl rfl ?_
      exact g_iret hX hR hQ hE dX8_weightsOf_42 hF
def F_X8_weightsOf (jx0 : Int) (jx1 : Int) (σ : Hp) : Option (Int × Hp) :=
  F_X8_weightsOf_L4 jx0 jx1 fu 0 1 σ
theorem M_X8_weightsOf (jx0 : Int) (jx1 : Int) (σ : Hp) : Mn σ (F_X8_weightsOf jx0 jx1 σ) := by
  unfold F_X8_weightsOf
  repeat' first | exact Mn_ret | exact Mn_rz | exact M_X8_weightsOf_L4 _ _ _ _ _ _ | refine Mn_nm (fun _ => ?_) | refine Mn_nab (fun _ _ => ?_) | refine Mn_nwb (fun _ _ => ?_) | refine Mn_pw (fun _ => ?_) | refine Mn_pz (fun _ => ?_) | refine Mn_aw (fun _ => ?_) | refine Mn_az (fun _ => ?_) | refine Mn_aq (fun _ => ?_) | refine Mn_bo (fun _ => ?_) | refine Mn_bd ?_ (fun _ _ => ?_) | refine Mn_iv ?_ | refine Mn_bLt ?_ ?_ | refine Mn_bLe ?_ ?_ | refine Mn_bEq ?_ ?_ | refine Mn_bN ?_ ?_ | refine Mn_g3 ?_ | refine Mn_g33 ?_ | refine Mn_g66 ?_ | refine Mn_gD ?_
set_option maxRecDepth 100000 in
set_option maxHeartbeats 4000000 in
theorem T_X8_weightsOf (l : Launch) (D : va_G) (dA : Nat → ClassId) (b0 : Nat) (jx0 : Int) (jx1 : Int) (σ σE : Hp) (r : Int) (hF : F_X8_weightsOf jx0 jx1 σ = some (r, σE)) : Ct l D dA b0 yX8_weightsOf cX8_weightsOf 4 (some .int) 0 0 [(2, jx0), (0, jx1)] σ (some (pV 0 r)) σE := by
  refine Ct.of (lv0 := [(0, 2, jx0), (1, 0, jx1)]) (by decide) RX8 rfl (Nat.le_of_ble_eq_true rfl) rfl ?_ (M_X8_weightsOf jx0 jx1 σ r σE hF)
  intro p e R s m args below meth c hX hR hnm
  obtain ⟨Q, hQ⟩ : ∃ Q, Q = Qm D dA b0 σ.1 σ.2.1 below args s (some (pV 0 r)) σE := ⟨_, rfl⟩
  rw [← hQ]
  have hE : σE.1 = σE.1 ∧ σE.2.1 = σE.2.1 := ⟨rfl, rfl⟩
  unfold F_X8_weightsOf at hF
  refine g_iconst hX dX8_weightsOf_0 ?_
  refine g_istore_n (lv' := [(2, 0, 0), (0, 2, jx0), (1, 0, jx1)]) hX dX8_weightsOf_1 rfl (by decide) rfl ?_
  refine g_iconst hX dX8_weightsOf_2 ?_
  refine g_istore_n (lv' := [(3, 0, 1), (2, 0, 0), (0, 2, jx0), (1, 0, jx1)]) hX dX8_weightsOf_3 rfl (by decide) rfl ?_
  refine g_lvp (lv' := [(0, 2, jx0), (1, 0, jx1), (2, 0, 0), (3, 0, 1)]) [2, 3, 1, 0] rfl ?_
  exact T_X8_weightsOf_L4 hX hR hnm hQ hE jx0 jx1  fu 0 1 σ hF
end

section
variable {p : Program} {l : Launch} {e : Env} {R : Room} {s : State} {m : MethodId} {args : Array Value} {below : List Frame} {meth : Method} {c : Code} {D : va_G} {dA : Nat → ClassId} {b0 n0 m0 nE mE : Nat} {Q : State → Prop}
def F_X8_node_L161 (jx0 : Int) (jx5 : Int) : Nat → Int → Int → Hp → Option (Int × Hp)
  | 0, _, _, _ => none
  | n + 1, jx6, jx7, σ => bLt jx7 0 ((rd 9 σ jx0 11).bind fun jv28 => (pw 9 σ jx0 11 (jv28 + 1)).bind fun σ29 => bd (iv 9 σ29 jx0 (F_X8_forget  jx0  σ29)) fun jv30 σ31 => some (jx5, σ31)) ((rd 9 σ jx0 15).bind fun jv32 => gD jx6 10 ((aw 11 σ jv32 ((3 * jx5) + jx7) (Int.tmod jx6 10)).bind fun σ33 => gD jx6 10 (nm ((Int.tdiv jx6 10)) fun jv34 => (F_X8_node_L161 jx0 jx5 n) jv34 (jx7 + (-1)) σ33)))
theorem M_X8_node_L161 (jx0 : Int) (jx5 : Int) : ∀ (n : Nat) (jx6 : Int) (jx7 : Int) (σ : Hp), Mn σ (F_X8_node_L161 jx0 jx5 n jx6 jx7 σ) := by
  intro n
  induction n with
  | zero => intros; rw [F_X8_node_L161]; exact Mn_none
  | succ n hk161 =>
    intros
    rw [F_X8_node_L161]
    repeat' first | exact Mn_ret | exact Mn_rz | exact hk161 _ _  _ | exact M_X8_forget _ _ | refine Mn_nm (fun _ => ?_) | refine Mn_nab (fun _ _ => ?_) | refine Mn_nwb (fun _ _ => ?_) | refine Mn_pw (fun _ => ?_) | refine Mn_pz (fun _ => ?_) | refine Mn_aw (fun _ => ?_) | refine Mn_az (fun _ => ?_) | refine Mn_aq (fun _ => ?_) | refine Mn_bo (fun _ => ?_) | refine Mn_bd ?_ (fun _ _ => ?_) | refine Mn_iv ?_ | refine Mn_bLt ?_ ?_ | refine Mn_bLe ?_ ?_ | refine Mn_bEq ?_ ?_ | refine Mn_bN ?_ ?_ | refine Mn_g3 ?_ | refine Mn_g33 ?_ | refine Mn_g66 ?_ | refine Mn_gD ?_
set_option maxRecDepth 100000 in
set_option maxHeartbeats 4000000 in
theorem T_X8_node_L161 {r : Int} {σE : Hp} (hX : Cx p R s m args meth c D dA b0 n0 m0 8 nE mE cX8_node RX8 2 43) (hR : Rx meth (some .int)) (hnm : meth.name = yX8_node.name) (hQ : Q = Qm D dA b0 n0 m0 below args s (some (pV 0 r)) σE) (hE : nE = σE.1 ∧ mE = σE.2.1) (jx0 : Int) (jx5 : Int) : ∀ (n : Nat) (jx6 : Int) (jx7 : Int) (σ : Hp), F_X8_node_L161 jx0 jx5 n jx6 jx7 σ = some (r, σE) → G p l e R s m args below meth c D dA b0 n0 m0 8 nE mE Q 161 [(0, 2, jx0), (5, 0, jx5), (6, 0, jx6), (7, 0, jx7)] [] σ := by
  intro n
  induction n with
  | zero =>
    intro jx6 jx7 σ hF
    rw [F_X8_node_L161] at hF
    cases hF
  | succ n hk161 =>
    intro jx6 jx7 σ hF
    rw [F_X8_node_L161] at hF
    refine g_iload hX 3 dX8_node_161 rfl ?_
    refine g_if_lt (tgt := 196) hX dX8_node_163 (by decide) hF (fun hc hF => ?_) (fun hc hF => ?_)
    · refine g_aload_n hX 0 dX8_node_196 rfl rfl ?_
      refine g_dup hX dX8_node_197 (by decide) ?_
      refine g_get hX fl_X8_41 (by decide) (by decide) dX8_node_198 hF (fun jv28 hF => ?_)
      refine g_iconst hX dX8_node_201 ?_
      refine g_iadd hX dX8_node_202 ?_
      refine u_put hX fp_X8_41 (by decide) (by decide) dX8_node_203 hF (fun σ29 hF => ?_)
      refine g_aload_n hX 0 dX8_node_206 rfl rfl ?_
      refine g_callVv (ci := 8) (rest := []) [] hX cw_X8_137 rfl (by decide) (by decide) (fun r σ1 h => T_X8_forget l D dA b0  jx0  σ29 σ1 r h) ⟨by decide, by decide⟩ rfl rfl (Nat.le_of_ble_eq_true rfl) dX8_node_207 hF (fun jv30 σ31 hF => ?_)
      refine g_iload hX 1 dX8_node_210 rfl ?_
      exact g_iret hX hR hQ hE dX8_node_212 hF
    · refine g_aload_n hX 0 dX8_node_166 rfl rfl ?_
      refine g_get hX fl_X8_53 (by decide) (by decide) dX8_node_167 hF (fun jv32 hF => ?_)
      refine g_iconst hX dX8_node_170 ?_
      refine g_iload hX 1 dX8_node_171 rfl ?_
      refine g_imul hX dX8_node_173 ?_
      refine g_iload hX 3 dX8_node_174 rfl ?_
      refine g_iadd hX dX8_node_176 ?_
      refine g_iload hX 2 dX8_node_177 rfl ?_
      refine g_bipush hX dX8_node_179 (by decide) ?_
      refine g_irem hX dX8_node_181 hF (fun hF => ?_)
      refine u_iast hX dX8_node_182 hF (fun σ33 hF => ?_)
      refine g_iload hX 2 dX8_node_183 rfl ?_
      refine g_bipush hX dX8_node_185 (by decide) ?_
      refine g_idiv hX dX8_node_187 hF (fun hF => ?_)
      refine g_nm hF (fun jv34 hF => ?_)
      refine g_istore (lv' := [(6, 0, jv34), (0, 2, jx0), (5, 0, jx5), (7, 0, jx7)]) hX dX8_node_188 (by decide) rfl ?_
      refine g_iinc (lv' := [(7, 0, (jx7 + (-1))), (6, 0, jv34), (0, 2, jx0), (5, 0, jx5)]) hX 3 dX8_node_190 rfl (by decide) rfl ?_
      refine g_goto (tgt := 161) hX dX8_node_193 (by decide) ?_
      refine g_lvp (lv' := [(0, 2, jx0), (5, 0, jx5), (6, 0, jv34), (7, 0, (jx7 + (-1)))]) [2, 3, 1, 0] rfl ?_
      exact hk161 jv34 (jx7 + (-1)) σ33 hF
def F_X8_node_L6 (jx0 : Int) (jx1 : Int) (jx2 : Int) (jx3 : Int) : Nat → Int → Int → Hp → Option (Int × Hp)
  | 0, _, _, _ => none
  | n + 1, jx4, jx5, σ => (rd 9 σ jx0 1).bind fun jv1 => bLt jx5 jv1 (nm ((jx4 * 10)) fun jv2 => (F_X8_node_L6 jx0 jx1 jx2 jx3 n) jv2 (jx5 + 1) σ) (bd (iv 9 σ jx0 (F_X8_isNode  jx0 jx1 σ)) fun jv3 σ4 => bEq jv3 0 (some ((-1), σ4)) ((rd 9 σ4 jx0 14).bind fun jv5 => (ar 11 σ4 jv5 jx1).bind fun jv6 => (rd 9 σ4 jx0 8).bind fun jv7 => bEq jv6 (jv7 - 1) (some ((-1), σ4)) ((rd 9 σ4 jx0 9).bind fun jv8 => bd (F_X8_in jx2 1 jv8 σ4) fun jv9 σ10 => bEq jv9 0 (some ((-1), σ10)) (bd (iv 9 σ10 jx0 (F_X8_weightsOf  jx0 jx1 σ10)) fun jv11 σ12 => (rd 9 σ12 jx0 9).bind fun jv13 => bLe (jv11 + jx2) jv13 (bd (F_X8_in jx3 0 (jx4 - 1) σ12) fun jv14 σ15 => bEq jv14 0 (some ((-1), σ15)) ((rd 9 σ15 jx0 32).bind fun jv16 => bEq jv16 0 ((rd 9 σ15 jx0 11).bind fun jv17 => bEq jv17 81 (some ((-5), σ15)) ((rd 9 σ15 jx0 11).bind fun jv18 => (rd 9 σ15 jx0 12).bind fun jv19 => (aw 11 σ15 jv19 jv18 jx1).bind fun σ20 => (rd 9 σ20 jx0 13).bind fun jv21 => (aw 11 σ20 jv21 jv18 jx2).bind fun σ22 => (rd 9 σ22 jx0 14).bind fun jv23 => (rd 9 σ22 jx0 14).bind fun jv24 => (ar 11 σ22 jv24 jx1).bind fun jv25 => (aw 11 σ22 jv23 jv18 (jv25 + 1)).bind fun σ26 => (rd 9 σ26 jx0 1).bind fun jv27 => F_X8_node_L161 jx0 jv18 fu jx3 (jv27 - 1) σ26)) (some ((-2), σ15)))) (some ((-1), σ12))))))
theorem M_X8_node_L6 (jx0 : Int) (jx1 : Int) (jx2 : Int) (jx3 : Int) : ∀ (n : Nat) (jx4 : Int) (jx5 : Int) (σ : Hp), Mn σ (F_X8_node_L6 jx0 jx1 jx2 jx3 n jx4 jx5 σ) := by
  intro n
  induction n with
  | zero => intros; rw [F_X8_node_L6]; exact Mn_none
  | succ n hk6 =>
    intros
    rw [F_X8_node_L6]
    repeat' first | exact Mn_ret | exact Mn_rz | exact hk6 _ _  _ | exact M_X8_isNode _ _ _ | exact M_X8_in _ _ _ _ | exact M_X8_weightsOf _ _ _ | exact M_X8_node_L161 _ _ _ _ _ _ | refine Mn_nm (fun _ => ?_) | refine Mn_nab (fun _ _ => ?_) | refine Mn_nwb (fun _ _ => ?_) | refine Mn_pw (fun _ => ?_) | refine Mn_pz (fun _ => ?_) | refine Mn_aw (fun _ => ?_) | refine Mn_az (fun _ => ?_) | refine Mn_aq (fun _ => ?_) | refine Mn_bo (fun _ => ?_) | refine Mn_bd ?_ (fun _ _ => ?_) | refine Mn_iv ?_ | refine Mn_bLt ?_ ?_ | refine Mn_bLe ?_ ?_ | refine Mn_bEq ?_ ?_ | refine Mn_bN ?_ ?_ | refine Mn_g3 ?_ | refine Mn_g33 ?_ | refine Mn_g66 ?_ | refine Mn_gD ?_
set_option maxRecDepth 100000 in
set_option maxHeartbeats 4000000 in
theorem T_X8_node_L6 {r : Int} {σE : Hp} (hX : Cx p R s m args meth c D dA b0 n0 m0 8 nE mE cX8_node RX8 2 43) (hR : Rx meth (some .int)) (hnm : meth.name = yX8_node.name) (hQ : Q = Qm D dA b0 n0 m0 below args s (some (pV 0 r)) σE) (hE : nE = σE.1 ∧ mE = σE.2.1) (jx0 : Int) (jx1 : Int) (jx2 : Int) (jx3 : Int) : ∀ (n : Nat) (jx4 : Int) (jx5 : Int) (σ : Hp), F_X8_node_L6 jx0 jx1 jx2 jx3 n jx4 jx5 σ = some (r, σE) → G p l e R s m args below meth c D dA b0 n0 m0 8 nE mE Q 6 [(0, 2, jx0), (1, 0, jx1), (2, 0, jx2), (3, 0, jx3), (4, 0, jx4), (5, 0, jx5)] [] σ := by
  intro n
  induction n with
  | zero =>
    intro jx4 jx5 σ hF
    rw [F_X8_node_L6] at hF
    cases hF
  | succ n hk6 =>
    intro jx4 jx5 σ hF
    rw [F_X8_node_L6] at hF
    refine g_iload hX 5 dX8_node_6 rfl ?_
    refine g_aload_n hX 0 dX8_node_8 rfl rfl ?_
    refine g_get hX fl_X8_119 (by decide) (by decide) dX8_node_9 hF (fun jv1 hF => ?_)
    refine g_icmp_ge (tgt := 28) hX dX8_node_12 (by decide) hF (fun hc hF => ?_) (fun hc hF => ?_)
    · refine g_iload hX 4 dX8_node_15 rfl ?_
      refine g_bipush hX dX8_node_17 (by decide) ?_
      refine g_imul hX dX8_node_19 ?_
      refine g_nm hF (fun jv2 hF => ?_)
      refine g_istore (lv' := [(4, 0, jv2), (0, 2, jx0), (1, 0, jx1), (2, 0, jx2), (3, 0, jx3), (5, 0, jx5)]) hX dX8_node_20 (by decide) rfl ?_
      refine g_iinc (lv' := [(5, 0, (jx5 + 1)), (4, 0, jv2), (0, 2, jx0), (1, 0, jx1), (2, 0, jx2), (3, 0, jx3)]) hX 5 dX8_node_22 rfl (by decide) rfl ?_
      refine g_goto (tgt := 6) hX dX8_node_25 (by decide) ?_
      refine g_lvp (lv' := [(0, 2, jx0), (1, 0, jx1), (2, 0, jx2), (3, 0, jx3), (4, 0, jv2), (5, 0, (jx5 + 1))]) [2, 3, 4, 5, 1, 0] rfl ?_
      exact hk6 jv2 (jx5 + 1) σ hF
    · refine g_aload_n hX 0 dX8_node_28 rfl rfl ?_
      refine g_iload_n hX 1 dX8_node_29 rfl rfl ?_
      refine g_callV (t := 0) (ci := 8) (rest := []) [(0, jx1)] hX cw_X8_144 rfl (by decide) (by decide) (fun r σ1 h => T_X8_isNode l D dA b0  jx0 jx1 σ σ1 r h) ⟨by decide, by decide⟩ rfl rfl (Nat.le_of_ble_eq_true rfl) dX8_node_30 hF (fun jv3 σ4 hF => ?_)
      refine g_if_eq (tgt := 89) hX dX8_node_33 (by decide) hF (fun hc hF => ?_) (fun hc hF => ?_)
      · refine g_iconst hX dX8_node_89 ?_
        exact g_iret hX hR hQ hE dX8_node_90 hF
      · refine g_aload_n hX 0 dX8_node_36 rfl rfl ?_
        refine g_get hX fl_X8_50 (by decide) (by decide) dX8_node_37 hF (fun jv5 hF => ?_)
        refine g_iload_n hX 1 dX8_node_40 rfl rfl ?_
        refine g_iald hX dX8_node_41 hF (fun jv6 hF => ?_)
        refine g_aload_n hX 0 dX8_node_42 rfl rfl ?_
        refine g_get hX fl_X8_32 (by decide) (by decide) dX8_node_43 hF (fun jv7 hF => ?_)
        refine g_iconst hX dX8_node_46 ?_
        refine g_isub hX dX8_node_47 ?_
        refine g_icmp_eq (tgt := 89) hX dX8_node_48 (by decide) hF (fun hc hF => ?_) (fun hc hF => ?_)
        · refine g_iconst hX dX8_node_89 ?_
          exact g_iret hX hR hQ hE dX8_node_90 hF
        · refine g_iload_n hX 2 dX8_node_51 rfl rfl ?_
          refine g_iconst hX dX8_node_52 ?_
          refine g_aload_n hX 0 dX8_node_53 rfl rfl ?_
          refine g_get hX fl_X8_35 (by decide) (by decide) dX8_node_54 hF (fun jv8 hF => ?_)
          refine g_callS (t := 0) (rest := []) [(0, jx2), (0, 1), (0, jv8)] hX cw_X8_122 (fun r σ1 h => T_X8_in l D dA b0 jx2 1 jv8 σ4 σ1 r h) ⟨by decide, by decide⟩ rfl rfl (Nat.le_of_ble_eq_true rfl) dX8_node_57 hF (fun jv9 σ10 hF => ?_)
          refine g_if_eq (tgt := 89) hX dX8_node_60 (by decide) hF (fun hc hF => ?_) (fun hc hF => ?_)
          · refine g_iconst hX dX8_node_89 ?_
            exact g_iret hX hR hQ hE dX8_node_90 hF
          · refine g_aload_n hX 0 dX8_node_63 rfl rfl ?_
            refine g_iload_n hX 1 dX8_node_64 rfl rfl ?_
            refine g_callV (t := 0) (ci := 8) (rest := []) [(0, jx1)] hX cw_X8_147 rfl (by decide) (by decide) (fun r σ1 h => T_X8_weightsOf l D dA b0  jx0 jx1 σ10 σ1 r h) ⟨by decide, by decide⟩ rfl rfl (Nat.le_of_ble_eq_true rfl) dX8_node_65 hF (fun jv11 σ12 hF => ?_)
            refine g_iload_n hX 2 dX8_node_68 rfl rfl ?_
            refine g_iadd hX dX8_node_69 ?_
            refine g_aload_n hX 0 dX8_node_70 rfl rfl ?_
            refine g_get hX fl_X8_35 (by decide) (by decide) dX8_node_71 hF (fun jv13 hF => ?_)
            refine g_icmp_gt (tgt := 89) hX dX8_node_74 (by decide) hF (fun hc hF => ?_) (fun hc hF => ?_)
            · refine g_iload_n hX 3 dX8_node_77 rfl rfl ?_
              refine g_iconst hX dX8_node_78 ?_
              refine g_iload hX 4 dX8_node_79 rfl ?_
              refine g_iconst hX dX8_node_81 ?_
              refine g_isub hX dX8_node_82 ?_
              refine g_callS (t := 0) (rest := []) [(0, jx3), (0, 0), (0, (jx4 - 1))] hX cw_X8_122 (fun r σ1 h => T_X8_in l D dA b0 jx3 0 (jx4 - 1) σ12 σ1 r h) ⟨by decide, by decide⟩ rfl rfl (Nat.le_of_ble_eq_true rfl) dX8_node_83 hF (fun jv14 σ15 hF => ?_)
              refine g_if_ne (tgt := 91) hX dX8_node_86 (by decide) hF (fun hc hF => ?_) (fun hc hF => ?_)
              · refine g_iconst hX dX8_node_89 ?_
                exact g_iret hX hR hQ hE dX8_node_90 hF
              · refine g_aload_n hX 0 dX8_node_91 rfl rfl ?_
                refine g_get hX fl_X8_134 (by decide) (by decide) dX8_node_92 hF (fun jv16 hF => ?_)
                refine g_if_eq (tgt := 101) hX dX8_node_95 (by decide) hF (fun hc hF => ?_) (fun hc hF => ?_)
                · refine g_aload_n hX 0 dX8_node_101 rfl rfl ?_
                  refine g_get hX fl_X8_41 (by decide) (by decide) dX8_node_102 hF (fun jv17 hF => ?_)
                  refine g_bipush hX dX8_node_105 (by decide) ?_
                  refine g_icmp_ne (tgt := 113) hX dX8_node_107 (by decide) hF (fun hc hF => ?_) (fun hc hF => ?_)
                  · refine g_bipush hX dX8_node_110 (by decide) ?_
                    exact g_iret hX hR hQ hE dX8_node_112 hF
                  · refine g_aload_n hX 0 dX8_node_113 rfl rfl ?_
                    refine g_get hX fl_X8_41 (by decide) (by decide) dX8_node_114 hF (fun jv18 hF => ?_)
                    refine g_istore (lv' := [(5, 0, jv18), (0, 2, jx0), (1, 0, jx1), (2, 0, jx2), (3, 0, jx3), (4, 0, jx4)]) hX dX8_node_117 (by decide) rfl ?_
                    refine g_aload_n hX 1 dX8_node_119 rfl rfl ?_
                    refine g_get hX fl_X8_44 (by decide) (by decide) dX8_node_120 hF (fun jv19 hF => ?_)
                    refine g_iload hX 0 dX8_node_123 rfl ?_
                    refine g_iload_n hX 2 dX8_node_125 rfl rfl ?_
                    refine u_iast hX dX8_node_126 hF (fun σ20 hF => ?_)
                    refine g_aload_n hX 1 dX8_node_127 rfl rfl ?_
                    refine g_get hX fl_X8_47 (by decide) (by decide) dX8_node_128 hF (fun jv21 hF => ?_)
                    refine g_iload hX 0 dX8_node_131 rfl ?_
                    refine g_iload_n hX 3 dX8_node_133 rfl rfl ?_
                    refine u_iast hX dX8_node_134 hF (fun σ22 hF => ?_)
                    refine g_aload_n hX 1 dX8_node_135 rfl rfl ?_
                    refine g_get hX fl_X8_50 (by decide) (by decide) dX8_node_136 hF (fun jv23 hF => ?_)
                    refine g_iload hX 0 dX8_node_139 rfl ?_
                    refine g_aload_n hX 1 dX8_node_141 rfl rfl ?_
                    refine g_get hX fl_X8_50 (by decide) (by decide) dX8_node_142 hF (fun jv24 hF => ?_)
                    refine g_iload_n hX 2 dX8_node_145 rfl rfl ?_
                    refine g_iald hX dX8_node_146 hF (fun jv25 hF => ?_)
                    refine g_iconst hX dX8_node_147 ?_
                    refine g_iadd hX dX8_node_148 ?_
                    refine u_iast hX dX8_node_149 hF (fun σ26 hF => ?_)
                    refine g_iload_n hX 4 dX8_node_150 rfl rfl ?_
                    refine g_istore (lv' := [(6, 0, jx3), (5, 0, jv18), (0, 2, jx0), (1, 0, jx1), (2, 0, jx2), (3, 0, jx3), (4, 0, jx4)]) hX dX8_node_151 (by decide) rfl ?_
                    refine g_aload_n hX 2 dX8_node_153 rfl rfl ?_
                    refine g_get hX fl_X8_119 (by decide) (by decide) dX8_node_154 hF (fun jv27 hF => ?_)
                    refine g_iconst hX dX8_node_157 ?_
                    refine g_isub hX dX8_node_158 ?_
                    refine g_istore (lv' := [(7, 0, (jv27 - 1)), (6, 0, jx3), (5, 0, jv18), (0, 2, jx0), (1, 0, jx1), (2, 0, jx2), (3, 0, jx3), (4, 0, jx4)]) hX dX8_node_159 (by decide) rfl ?_
                    refine g_lvp (lv' := [(0, 2, jx0), (5, 0, jv18), (6, 0, jx3), (7, 0, (jv27 - 1))]) [3, 2, 1, 0] rfl ?_
                    exact T_X8_node_L161 hX hR hnm hQ hE jx0 jv18  fu jx3 (jv27 - 1) σ26 hF
                · refine g_bipush hX dX8_node_98 (by decide) ?_
                  exact g_iret hX hR hQ hE dX8_node_100 hF
            · refine g_iconst hX dX8_node_89 ?_
              exact g_iret hX hR hQ hE dX8_node_90 hF
def F_X8_node (jx0 : Int) (jx1 : Int) (jx2 : Int) (jx3 : Int) (σ : Hp) : Option (Int × Hp) :=
  F_X8_node_L6 jx0 jx1 jx2 jx3 fu 1 0 σ
theorem M_X8_node (jx0 : Int) (jx1 : Int) (jx2 : Int) (jx3 : Int) (σ : Hp) : Mn σ (F_X8_node jx0 jx1 jx2 jx3 σ) := by
  unfold F_X8_node
  repeat' first | exact Mn_ret | exact Mn_rz | exact M_X8_node_L6 _ _ _ _ _ _ _ _ | refine Mn_nm (fun _ => ?_) | refine Mn_nab (fun _ _ => ?_) | refine Mn_nwb (fun _ _ => ?_) | refine Mn_pw (fun _ => ?_) | refine Mn_pz (fun _ => ?_) | refine Mn_aw (fun _ => ?_) | refine Mn_az (fun _ => ?_) | refine Mn_aq (fun _ => ?_) | refine Mn_bo (fun _ => ?_) | refine Mn_bd ?_ (fun _ _ => ?_) | refine Mn_iv ?_ | refine Mn_bLt ?_ ?_ | refine Mn_bLe ?_ ?_ | refine Mn_bEq ?_ ?_ | refine Mn_bN ?_ ?_ | refine Mn_g3 ?_ | refine Mn_g33 ?_ | refine Mn_g66 ?_ | refine Mn_gD ?_
set_option maxRecDepth 100000 in
set_option maxHeartbeats 4000000 in
theorem T_X8_node (l : Launch) (D : va_G) (dA : Nat → ClassId) (b0 : Nat) (jx0 : Int) (jx1 : Int) (jx2 : Int) (jx3 : Int) (σ σE : Hp) (r : Int) (hF : F_X8_node jx0 jx1 jx2 jx3 σ = some (r, σE)) : Ct l D dA b0 yX8_node cX8_node 8 (some .int) 2 43 [(2, jx0), (0, jx1), (0, jx2), (0, jx3)] σ (some (pV 0 r)) σE := by
  refine Ct.of (lv0 := [(0, 2, jx0), (1, 0, jx1), (2, 0, jx2), (3, 0, jx3)]) (by decide) RX8 rfl (Nat.le_of_ble_eq_true rfl) rfl ?_ (M_X8_node jx0 jx1 jx2 jx3 σ r σE hF)
  intro p e R s m args below meth c hX hR hnm
  obtain ⟨Q, hQ⟩ : ∃ Q, Q = Qm D dA b0 σ.1 σ.2.1 below args s (some (pV 0 r)) σE := ⟨_, rfl⟩
  rw [← hQ]
  have hE : σE.1 = σE.1 ∧ σE.2.1 = σE.2.1 := ⟨rfl, rfl⟩
  unfold F_X8_node at hF
  refine g_iconst hX dX8_node_0 ?_
  refine g_istore (lv' := [(4, 0, 1), (0, 2, jx0), (1, 0, jx1), (2, 0, jx2), (3, 0, jx3)]) hX dX8_node_1 (by decide) rfl ?_
  refine g_iconst hX dX8_node_3 ?_
  refine g_istore (lv' := [(5, 0, 0), (4, 0, 1), (0, 2, jx0), (1, 0, jx1), (2, 0, jx2), (3, 0, jx3)]) hX dX8_node_4 (by decide) rfl ?_
  refine g_lvp (lv' := [(0, 2, jx0), (1, 0, jx1), (2, 0, jx2), (3, 0, jx3), (4, 0, 1), (5, 0, 0)]) [2, 3, 4, 5, 1, 0] rfl ?_
  exact T_X8_node_L6 hX hR hnm hQ hE jx0 jx1 jx2 jx3  fu 1 0 σ hF
end

section
variable {p : Program} {l : Launch} {e : Env} {R : Room} {s : State} {m : MethodId} {args : Array Value} {below : List Frame} {meth : Method} {c : Code} {D : va_G} {dA : Nat → ClassId} {b0 n0 m0 nE mE : Nat} {Q : State → Prop}
def F_X8_about_B133 (k107 : Int → Int → Hp → Option (Int × Hp)) (jx0 : Int) (jx1 : Int) (jx4 : Int) (js0 : Int) (js1 : Int) (σ : Hp) : Option (Int × Hp) :=
  k107 (js1 + js0) (jx4 + 1) σ
theorem M_X8_about_B133 (k107 : Int → Int → Hp → Option (Int × Hp)) (hk107 : ∀ (jx3 : Int) (jx4 : Int) (σ : Hp), Mn σ (k107 jx3 jx4 σ)) (jx0 : Int) (jx1 : Int) (jx4 : Int) (js0 : Int) (js1 : Int) (σ : Hp) : Mn σ (F_X8_about_B133 k107 jx0 jx1 jx4 js0 js1 σ) := by
  unfold F_X8_about_B133
  repeat' first | exact Mn_ret | exact Mn_rz | exact hk107 _ _  _ | refine Mn_nm (fun _ => ?_) | refine Mn_nab (fun _ _ => ?_) | refine Mn_nwb (fun _ _ => ?_) | refine Mn_pw (fun _ => ?_) | refine Mn_pz (fun _ => ?_) | refine Mn_aw (fun _ => ?_) | refine Mn_az (fun _ => ?_) | refine Mn_aq (fun _ => ?_) | refine Mn_bo (fun _ => ?_) | refine Mn_bd ?_ (fun _ _ => ?_) | refine Mn_iv ?_ | refine Mn_bLt ?_ ?_ | refine Mn_bLe ?_ ?_ | refine Mn_bEq ?_ ?_ | refine Mn_bN ?_ ?_ | refine Mn_g3 ?_ | refine Mn_g33 ?_ | refine Mn_g66 ?_ | refine Mn_gD ?_
set_option maxRecDepth 100000 in
set_option maxHeartbeats 4000000 in
theorem T_X8_about_B133 {r : Int} {σE : Hp} (hX : Cx p R s m args meth c D dA b0 n0 m0 5 nE mE cX8_about RX8 2 43) (hR : Rx meth (some .int)) (hnm : meth.name = yX8_about.name) (hQ : Q = Qm D dA b0 n0 m0 below args s (some (pV 0 r)) σE) (hE : nE = σE.1 ∧ mE = σE.2.1) (k107 : Int → Int → Hp → Option (Int × Hp)) (jx0 : Int) (jx1 : Int) (jx4 : Int) (js0 : Int) (js1 : Int) (hk107 : ∀ (jx3 : Int) (jx4 : Int) (σ : Hp), k107 jx3 jx4 σ = some (r, σE) → G p l e R s m args below meth c D dA b0 n0 m0 5 nE mE Q 107 [(0, 2, jx0), (1, 0, jx1), (3, 0, jx3), (4, 0, jx4)] [] σ) (σ : Hp) (hF : F_X8_about_B133 k107 jx0 jx1 jx4 js0 js1 σ = some (r, σE)) : G p l e R s m args below meth c D dA b0 n0 m0 5 nE mE Q 133 [(0, 2, jx0), (1, 0, jx1), (4, 0, jx4)] [(0, js0), (0, js1)] σ := by
  unfold F_X8_about_B133 at hF
  refine g_iadd hX dX8_about_133 ?_
  refine g_istore_n (lv' := [(3, 0, (js1 + js0)), (0, 2, jx0), (1, 0, jx1), (4, 0, jx4)]) hX dX8_about_134 rfl (by decide) rfl ?_
  refine g_iinc (lv' := [(4, 0, (jx4 + 1)), (3, 0, (js1 + js0)), (0, 2, jx0), (1, 0, jx1)]) hX 3 dX8_about_135 rfl (by decide) rfl ?_
  refine g_goto (tgt := 107) hX dX8_about_138 (by decide) ?_
  refine g_lvp (lv' := [(0, 2, jx0), (1, 0, jx1), (3, 0, (js1 + js0)), (4, 0, (jx4 + 1))]) [2, 3, 1, 0] rfl ?_
  exact hk107 (js1 + js0) (jx4 + 1) σ hF
def F_X8_about_L107 (jx0 : Int) (jx1 : Int) : Nat → Int → Int → Hp → Option (Int × Hp)
  | 0, _, _, _ => none
  | n + 1, jx3, jx4, σ => (rd 9 σ jx0 11).bind fun jv12 => bLt jx4 jv12 ((rd 9 σ jx0 12).bind fun jv13 => (ar 11 σ jv13 jx4).bind fun jv14 => bEq jv14 jx1 (F_X8_about_B133 (F_X8_about_L107 jx0 jx1 n) jx0 jx1 jx4 1 jx3 σ) (F_X8_about_B133 (F_X8_about_L107 jx0 jx1 n) jx0 jx1 jx4 0 jx3 σ)) (some (jx3, σ))
theorem M_X8_about_L107 (jx0 : Int) (jx1 : Int) : ∀ (n : Nat) (jx3 : Int) (jx4 : Int) (σ : Hp), Mn σ (F_X8_about_L107 jx0 jx1 n jx3 jx4 σ) := by
  intro n
  induction n with
  | zero => intros; rw [F_X8_about_L107]; exact Mn_none
  | succ n hk107 =>
    intros
    rw [F_X8_about_L107]
    repeat' first | exact Mn_ret | exact Mn_rz | exact hk107 _ _  _ | exact M_X8_about_B133 (F_X8_about_L107 jx0 jx1 n) hk107 _ _ _ _ _ _ | refine Mn_nm (fun _ => ?_) | refine Mn_nab (fun _ _ => ?_) | refine Mn_nwb (fun _ _ => ?_) | refine Mn_pw (fun _ => ?_) | refine Mn_pz (fun _ => ?_) | refine Mn_aw (fun _ => ?_) | refine Mn_az (fun _ => ?_) | refine Mn_aq (fun _ => ?_) | refine Mn_bo (fun _ => ?_) | refine Mn_bd ?_ (fun _ _ => ?_) | refine Mn_iv ?_ | refine Mn_bLt ?_ ?_ | refine Mn_bLe ?_ ?_ | refine Mn_bEq ?_ ?_ | refine Mn_bN ?_ ?_ | refine Mn_g3 ?_ | refine Mn_g33 ?_ | refine Mn_g66 ?_ | refine Mn_gD ?_
set_option maxRecDepth 100000 in
set_option maxHeartbeats 4000000 in
theorem T_X8_about_L107 {r : Int} {σE : Hp} (hX : Cx p R s m args meth c D dA b0 n0 m0 5 nE mE cX8_about RX8 2 43) (hR : Rx meth (some .int)) (hnm : meth.name = yX8_about.name) (hQ : Q = Qm D dA b0 n0 m0 below args s (some (pV 0 r)) σE) (hE : nE = σE.1 ∧ mE = σE.2.1) (jx0 : Int) (jx1 : Int) : ∀ (n : Nat) (jx3 : Int) (jx4 : Int) (σ : Hp), F_X8_about_L107 jx0 jx1 n jx3 jx4 σ = some (r, σE) → G p l e R s m args below meth c D dA b0 n0 m0 5 nE mE Q 107 [(0, 2, jx0), (1, 0, jx1), (3, 0, jx3), (4, 0, jx4)] [] σ := by
  intro n
  induction n with
  | zero =>
    intro jx3 jx4 σ hF
    rw [F_X8_about_L107] at hF
    cases hF
  | succ n hk107 =>
    intro jx3 jx4 σ hF
    rw [F_X8_about_L107] at hF
    refine g_iload hX 3 dX8_about_107 rfl ?_
    refine g_aload_n hX 0 dX8_about_109 rfl rfl ?_
    refine g_get hX fl_X8_41 (by decide) (by decide) dX8_about_110 hF (fun jv12 hF => ?_)
    refine g_icmp_ge (tgt := 141) hX dX8_about_113 (by decide) hF (fun hc hF => ?_) (fun hc hF => ?_)
    · refine g_iload_n hX 2 dX8_about_116 rfl rfl ?_
      refine g_aload_n hX 0 dX8_about_117 rfl rfl ?_
      refine g_get hX fl_X8_44 (by decide) (by decide) dX8_about_118 hF (fun jv13 hF => ?_)
      refine g_iload hX 3 dX8_about_121 rfl ?_
      refine g_iald hX dX8_about_123 hF (fun jv14 hF => ?_)
      refine g_iload_n hX 1 dX8_about_124 rfl rfl ?_
      refine g_icmp_ne (tgt := 132) hX dX8_about_125 (by decide) hF (fun hc hF => ?_) (fun hc hF => ?_)
      · refine g_iconst hX dX8_about_128 ?_
        refine g_goto (tgt := 133) hX dX8_about_129 (by decide) ?_
        refine g_lvp (lv' := [(0, 2, jx0), (1, 0, jx1), (4, 0, jx4)]) [0, 1, 3] rfl ?_
        exact T_X8_about_B133 hX hR hnm hQ hE (F_X8_about_L107 jx0 jx1 n) jx0 jx1 jx4 1 jx3 hk107  σ hF
      · refine g_iconst hX dX8_about_132 ?_
        refine g_lvp (lv' := [(0, 2, jx0), (1, 0, jx1), (4, 0, jx4)]) [0, 1, 3] rfl ?_
        exact T_X8_about_B133 hX hR hnm hQ hE (F_X8_about_L107 jx0 jx1 n) jx0 jx1 jx4 0 jx3 hk107  σ hF
    · refine g_iload_n hX 2 dX8_about_141 rfl rfl ?_
      exact g_iret hX hR hQ hE dX8_about_142 hF
def F_X8_about_B36 (jx0 : Int) (jx1 : Int) (jx2 : Int) (σ : Hp) : Option (Int × Hp) :=
  bEq jx2 0 ((rd 9 σ jx0 12).bind fun jv5 => (ar 11 σ jv5 jx1).bind fun jv6 => some (jv6, σ)) (bEq jx2 1 (bEq jx1 0 ((rd 9 σ jx0 9).bind fun jv7 => some (jv7, σ)) ((rd 9 σ jx0 13).bind fun jv8 => (ar 11 σ jv8 jx1).bind fun jv9 => some (jv9, σ))) (bEq jx2 2 ((rd 9 σ jx0 14).bind fun jv10 => (ar 11 σ jv10 jx1).bind fun jv11 => some (jv11, σ)) (bEq jx2 3 (F_X8_about_L107 jx0 jx1 fu 0 1 σ) (bEq jx2 4 (bd (iv 9 σ jx0 (F_X8_weightsOf  jx0 jx1 σ)) fun jv15 σ16 => some (jv15, σ16)) (bEq jx1 0 (some (0, σ)) ((rd 9 σ jx0 15).bind fun jv17 => (ar 11 σ jv17 (((3 * jx1) + jx2) - 5)).bind fun jv18 => some (jv18, σ)))))))
theorem M_X8_about_B36 (jx0 : Int) (jx1 : Int) (jx2 : Int) (σ : Hp) : Mn σ (F_X8_about_B36 jx0 jx1 jx2 σ) := by
  unfold F_X8_about_B36
  repeat' first | exact Mn_ret | exact Mn_rz | exact M_X8_about_L107 _ _ _ _ _ _ | exact M_X8_weightsOf _ _ _ | refine Mn_nm (fun _ => ?_) | refine Mn_nab (fun _ _ => ?_) | refine Mn_nwb (fun _ _ => ?_) | refine Mn_pw (fun _ => ?_) | refine Mn_pz (fun _ => ?_) | refine Mn_aw (fun _ => ?_) | refine Mn_az (fun _ => ?_) | refine Mn_aq (fun _ => ?_) | refine Mn_bo (fun _ => ?_) | refine Mn_bd ?_ (fun _ _ => ?_) | refine Mn_iv ?_ | refine Mn_bLt ?_ ?_ | refine Mn_bLe ?_ ?_ | refine Mn_bEq ?_ ?_ | refine Mn_bN ?_ ?_ | refine Mn_g3 ?_ | refine Mn_g33 ?_ | refine Mn_g66 ?_ | refine Mn_gD ?_
set_option maxRecDepth 100000 in
set_option maxHeartbeats 4000000 in
theorem T_X8_about_B36 {r : Int} {σE : Hp} (hX : Cx p R s m args meth c D dA b0 n0 m0 5 nE mE cX8_about RX8 2 43) (hR : Rx meth (some .int)) (hnm : meth.name = yX8_about.name) (hQ : Q = Qm D dA b0 n0 m0 below args s (some (pV 0 r)) σE) (hE : nE = σE.1 ∧ mE = σE.2.1) (jx0 : Int) (jx1 : Int) (jx2 : Int) (σ : Hp) (hF : F_X8_about_B36 jx0 jx1 jx2 σ = some (r, σE)) : G p l e R s m args below meth c D dA b0 n0 m0 5 nE mE Q 36 [(0, 2, jx0), (1, 0, jx1), (2, 0, jx2)] [] σ := by
  unfold F_X8_about_B36 at hF
  refine g_iconst hX dX8_about_36 ?_
  refine g_istore_n (lv' := [(3, 0, 0), (0, 2, jx0), (1, 0, jx1), (2, 0, jx2)]) hX dX8_about_37 rfl (by decide) rfl ?_
  refine g_iload_n hX 3 dX8_about_38 rfl rfl ?_
  obtain ⟨rx, -, ⟨hc, hF⟩ | ⟨hc0, hF⟩⟩ := bEq_spec hF
  · refine g_tsIn (tgt := 72) hX 0 dX8_about_39 hc (by decide) (by decide) (by decide) rfl (by decide) ?_
    refine g_aload_n hX 1 dX8_about_72 rfl rfl ?_
    refine g_get hX fl_X8_44 (by decide) (by decide) dX8_about_73 hF (fun jv5 hF => ?_)
    refine g_iload_n hX 2 dX8_about_76 rfl rfl ?_
    refine g_iald hX dX8_about_77 hF (fun jv6 hF => ?_)
    exact g_iret hX hR hQ hE dX8_about_78 hF
  obtain ⟨rx, -, ⟨hc, hF⟩ | ⟨hc1, hF⟩⟩ := bEq_spec hF
  · refine g_tsIn (tgt := 79) hX 1 dX8_about_39 hc (by decide) (by decide) (by decide) rfl (by decide) ?_
    refine g_iload_n hX 2 dX8_about_79 rfl rfl ?_
    refine g_if_ne (tgt := 90) hX dX8_about_80 (by decide) hF (fun hc hF => ?_) (fun hc hF => ?_)
    · refine g_aload_n hX 1 dX8_about_83 rfl rfl ?_
      refine g_get hX fl_X8_35 (by decide) (by decide) dX8_about_84 hF (fun jv7 hF => ?_)
      refine g_goto (tgt := 96) hX dX8_about_87 (by decide) ?_
      exact g_iret hX hR hQ hE dX8_about_96 hF
    · refine g_aload_n hX 1 dX8_about_90 rfl rfl ?_
      refine g_get hX fl_X8_47 (by decide) (by decide) dX8_about_91 hF (fun jv8 hF => ?_)
      refine g_iload_n hX 2 dX8_about_94 rfl rfl ?_
      refine g_iald hX dX8_about_95 hF (fun jv9 hF => ?_)
      exact g_iret hX hR hQ hE dX8_about_96 hF
  obtain ⟨rx, -, ⟨hc, hF⟩ | ⟨hc2, hF⟩⟩ := bEq_spec hF
  · refine g_tsIn (tgt := 97) hX 2 dX8_about_39 hc (by decide) (by decide) (by decide) rfl (by decide) ?_
    refine g_aload_n hX 1 dX8_about_97 rfl rfl ?_
    refine g_get hX fl_X8_50 (by decide) (by decide) dX8_about_98 hF (fun jv10 hF => ?_)
    refine g_iload_n hX 2 dX8_about_101 rfl rfl ?_
    refine g_iald hX dX8_about_102 hF (fun jv11 hF => ?_)
    exact g_iret hX hR hQ hE dX8_about_103 hF
  obtain ⟨rx, -, ⟨hc, hF⟩ | ⟨hc3, hF⟩⟩ := bEq_spec hF
  · refine g_tsIn (tgt := 104) hX 3 dX8_about_39 hc (by decide) (by decide) (by decide) rfl (by decide) ?_
    refine g_iconst hX dX8_about_104 ?_
    refine g_istore (lv' := [(4, 0, 1), (3, 0, 0), (0, 2, jx0), (1, 0, jx1), (2, 0, jx2)]) hX dX8_about_105 (by decide) rfl ?_
    refine g_lvp (lv' := [(0, 2, jx0), (1, 0, jx1), (3, 0, 0), (4, 0, 1)]) [2, 3, 1, 0] rfl ?_
    exact T_X8_about_L107 hX hR hnm hQ hE jx0 jx1  fu 0 1 σ hF
  obtain ⟨rx, -, ⟨hc, hF⟩ | ⟨hc4, hF⟩⟩ := bEq_spec hF
  · refine g_tsIn (tgt := 143) hX 4 dX8_about_39 hc (by decide) (by decide) (by decide) rfl (by decide) ?_
    refine g_aload_n hX 1 dX8_about_143 rfl rfl ?_
    refine g_iload_n hX 2 dX8_about_144 rfl rfl ?_
    refine g_callV (t := 0) (ci := 8) (rest := []) [(0, jx1)] hX cw_X8_147 rfl (by decide) (by decide) (fun r σ1 h => T_X8_weightsOf l D dA b0  jx0 jx1 σ σ1 r h) ⟨by decide, by decide⟩ rfl rfl (Nat.le_of_ble_eq_true rfl) dX8_about_145 hF (fun jv15 σ16 hF => ?_)
    exact g_iret hX hR hQ hE dX8_about_148 hF
  refine g_tsOut (tgt := 149) hX dX8_about_39 rx (by omega) (by decide) ?_
  refine g_iload_n hX 2 dX8_about_149 rfl rfl ?_
  refine g_if_ne (tgt := 157) hX dX8_about_150 (by decide) hF (fun hc hF => ?_) (fun hc hF => ?_)
  · refine g_iconst hX dX8_about_153 ?_
    refine g_goto (tgt := 169) hX dX8_about_154 (by decide) ?_
    exact g_iret hX hR hQ hE dX8_about_169 hF
  · refine g_aload_n hX 1 dX8_about_157 rfl rfl ?_
    refine g_get hX fl_X8_53 (by decide) (by decide) dX8_about_158 hF (fun jv17 hF => ?_)
    refine g_iconst hX dX8_about_161 ?_
    refine g_iload_n hX 2 dX8_about_162 rfl rfl ?_
    refine g_imul hX dX8_about_163 ?_
    refine g_iload_n hX 3 dX8_about_164 rfl rfl ?_
    refine g_iadd hX dX8_about_165 ?_
    refine g_iconst hX dX8_about_166 ?_
    refine g_isub hX dX8_about_167 ?_
    refine g_iald hX dX8_about_168 hF (fun jv18 hF => ?_)
    exact g_iret hX hR hQ hE dX8_about_169 hF
def F_X8_about (jx0 : Int) (jx1 : Int) (jx2 : Int) (σ : Hp) : Option (Int × Hp) :=
  bd (iv 9 σ jx0 (F_X8_isNode  jx0 jx1 σ)) fun jv1 σ2 => bEq jv1 0 (some ((-2), σ2)) (bd (F_X8_in jx2 0 7 σ2) fun jv3 σ4 => bEq jv3 0 (some ((-2), σ4)) (bLe jx2 4 (F_X8_about_B36 jx0 jx1 jx2  σ4) (bd (iv 9 σ4 jx0 (F_X8_isLake  jx0 (jx2 - 5) σ4)) fun jv19 σ20 => bEq jv19 0 (some ((-2), σ20)) (F_X8_about_B36 jx0 jx1 jx2  σ20))))
theorem M_X8_about (jx0 : Int) (jx1 : Int) (jx2 : Int) (σ : Hp) : Mn σ (F_X8_about jx0 jx1 jx2 σ) := by
  unfold F_X8_about
  repeat' first | exact Mn_ret | exact Mn_rz | exact M_X8_isNode _ _ _ | exact M_X8_in _ _ _ _ | exact M_X8_about_B36 _ _ _  _ | exact M_X8_isLake _ _ _ | refine Mn_nm (fun _ => ?_) | refine Mn_nab (fun _ _ => ?_) | refine Mn_nwb (fun _ _ => ?_) | refine Mn_pw (fun _ => ?_) | refine Mn_pz (fun _ => ?_) | refine Mn_aw (fun _ => ?_) | refine Mn_az (fun _ => ?_) | refine Mn_aq (fun _ => ?_) | refine Mn_bo (fun _ => ?_) | refine Mn_bd ?_ (fun _ _ => ?_) | refine Mn_iv ?_ | refine Mn_bLt ?_ ?_ | refine Mn_bLe ?_ ?_ | refine Mn_bEq ?_ ?_ | refine Mn_bN ?_ ?_ | refine Mn_g3 ?_ | refine Mn_g33 ?_ | refine Mn_g66 ?_ | refine Mn_gD ?_
set_option maxRecDepth 100000 in
set_option maxHeartbeats 4000000 in
theorem T_X8_about (l : Launch) (D : va_G) (dA : Nat → ClassId) (b0 : Nat) (jx0 : Int) (jx1 : Int) (jx2 : Int) (σ σE : Hp) (r : Int) (hF : F_X8_about jx0 jx1 jx2 σ = some (r, σE)) : Ct l D dA b0 yX8_about cX8_about 5 (some .int) 2 43 [(2, jx0), (0, jx1), (0, jx2)] σ (some (pV 0 r)) σE := by
  refine Ct.of (lv0 := [(0, 2, jx0), (1, 0, jx1), (2, 0, jx2)]) (by decide) RX8 rfl (Nat.le_of_ble_eq_true rfl) rfl ?_ (M_X8_about jx0 jx1 jx2 σ r σE hF)
  intro p e R s m args below meth c hX hR hnm
  obtain ⟨Q, hQ⟩ : ∃ Q, Q = Qm D dA b0 σ.1 σ.2.1 below args s (some (pV 0 r)) σE := ⟨_, rfl⟩
  rw [← hQ]
  have hE : σE.1 = σE.1 ∧ σE.2.1 = σE.2.1 := ⟨rfl, rfl⟩
  unfold F_X8_about at hF
  refine g_aload_n hX 0 dX8_about_0 rfl rfl ?_
  refine g_iload_n hX 1 dX8_about_1 rfl rfl ?_
  refine g_callV (t := 0) (ci := 8) (rest := []) [(0, jx1)] hX cw_X8_144 rfl (by decide) (by decide) (fun r σ1 h => T_X8_isNode l D dA b0  jx0 jx1 σ σ1 r h) ⟨by decide, by decide⟩ rfl rfl (Nat.le_of_ble_eq_true rfl) dX8_about_2 hF (fun jv1 σ2 hF => ?_)
  refine g_if_eq (tgt := 33) hX dX8_about_5 (by decide) hF (fun hc hF => ?_) (fun hc hF => ?_)
  · refine g_bipush hX dX8_about_33 (by decide) ?_
    exact g_iret hX hR hQ hE dX8_about_35 hF
  · refine g_iload_n hX 2 dX8_about_8 rfl rfl ?_
    refine g_iconst hX dX8_about_9 ?_
    refine g_bipush hX dX8_about_10 (by decide) ?_
    refine g_callS (t := 0) (rest := []) [(0, jx2), (0, 0), (0, 7)] hX cw_X8_122 (fun r σ1 h => T_X8_in l D dA b0 jx2 0 7 σ2 σ1 r h) ⟨by decide, by decide⟩ rfl rfl (Nat.le_of_ble_eq_true rfl) dX8_about_12 hF (fun jv3 σ4 hF => ?_)
    refine g_if_eq (tgt := 33) hX dX8_about_15 (by decide) hF (fun hc hF => ?_) (fun hc hF => ?_)
    · refine g_bipush hX dX8_about_33 (by decide) ?_
      exact g_iret hX hR hQ hE dX8_about_35 hF
    · refine g_iload_n hX 2 dX8_about_18 rfl rfl ?_
      refine g_iconst hX dX8_about_19 ?_
      refine g_icmp_le (tgt := 36) hX dX8_about_20 (by decide) hF (fun hc hF => ?_) (fun hc hF => ?_)
      · exact T_X8_about_B36 hX hR hnm hQ hE jx0 jx1 jx2   σ4 hF
      · refine g_aload_n hX 0 dX8_about_23 rfl rfl ?_
        refine g_iload_n hX 2 dX8_about_24 rfl rfl ?_
        refine g_iconst hX dX8_about_25 ?_
        refine g_isub hX dX8_about_26 ?_
        refine g_callV (t := 0) (ci := 8) (rest := []) [(0, (jx2 - 5))] hX cw_X8_140 rfl (by decide) (by decide) (fun r σ1 h => T_X8_isLake l D dA b0  jx0 (jx2 - 5) σ4 σ1 r h) ⟨by decide, by decide⟩ rfl rfl (Nat.le_of_ble_eq_true rfl) dX8_about_27 hF (fun jv19 σ20 hF => ?_)
        refine g_if_ne (tgt := 36) hX dX8_about_30 (by decide) hF (fun hc hF => ?_) (fun hc hF => ?_)
        · refine g_bipush hX dX8_about_33 (by decide) ?_
          exact g_iret hX hR hQ hE dX8_about_35 hF
        · exact T_X8_about_B36 hX hR hnm hQ hE jx0 jx1 jx2   σ20 hF
end

section
variable {p : Program} {l : Launch} {e : Env} {R : Room} {s : State} {m : MethodId} {args : Array Value} {below : List Frame} {meth : Method} {c : Code} {D : va_G} {dA : Nat → ClassId} {b0 n0 m0 nE mE : Nat} {Q : State → Prop}
def F_X8_isWhole_B39 (k2 : Int → Hp → Option (Int × Hp)) (jx0 : Int) (jx1 : Int) (σ : Hp) : Option (Int × Hp) :=
  k2 (jx1 + 1) σ
theorem M_X8_isWhole_B39 (k2 : Int → Hp → Option (Int × Hp)) (hk2 : ∀ (jx1 : Int) (σ : Hp), Mn σ (k2 jx1 σ)) (jx0 : Int) (jx1 : Int) (σ : Hp) : Mn σ (F_X8_isWhole_B39 k2 jx0 jx1 σ) := by
  unfold F_X8_isWhole_B39
  repeat' first | exact Mn_ret | exact Mn_rz | exact hk2 _  _ | refine Mn_nm (fun _ => ?_) | refine Mn_nab (fun _ _ => ?_) | refine Mn_nwb (fun _ _ => ?_) | refine Mn_pw (fun _ => ?_) | refine Mn_pz (fun _ => ?_) | refine Mn_aw (fun _ => ?_) | refine Mn_az (fun _ => ?_) | refine Mn_aq (fun _ => ?_) | refine Mn_bo (fun _ => ?_) | refine Mn_bd ?_ (fun _ _ => ?_) | refine Mn_iv ?_ | refine Mn_bLt ?_ ?_ | refine Mn_bLe ?_ ?_ | refine Mn_bEq ?_ ?_ | refine Mn_bN ?_ ?_ | refine Mn_g3 ?_ | refine Mn_g33 ?_ | refine Mn_g66 ?_ | refine Mn_gD ?_
set_option maxRecDepth 100000 in
set_option maxHeartbeats 4000000 in
theorem T_X8_isWhole_B39 {r : Int} {σE : Hp} (hX : Cx p R s m args meth c D dA b0 n0 m0 2 nE mE cX8_isWhole RX8 1 23) (hR : Rx meth (some .boolean)) (hnm : meth.name = yX8_isWhole.name) (hQ : Q = Qm D dA b0 n0 m0 below args s (some (pV 0 r)) σE) (hE : nE = σE.1 ∧ mE = σE.2.1) (k2 : Int → Hp → Option (Int × Hp)) (jx0 : Int) (jx1 : Int) (hk2 : ∀ (jx1 : Int) (σ : Hp), k2 jx1 σ = some (r, σE) → G p l e R s m args below meth c D dA b0 n0 m0 2 nE mE Q 2 [(0, 2, jx0), (1, 0, jx1)] [] σ) (σ : Hp) (hF : F_X8_isWhole_B39 k2 jx0 jx1 σ = some (r, σE)) : G p l e R s m args below meth c D dA b0 n0 m0 2 nE mE Q 39 [(0, 2, jx0), (1, 0, jx1)] [] σ := by
  unfold F_X8_isWhole_B39 at hF
  refine g_iinc (lv' := [(1, 0, (jx1 + 1)), (0, 2, jx0)]) hX 1 dX8_isWhole_39 rfl (by decide) rfl ?_
  refine g_goto (tgt := 2) hX dX8_isWhole_42 (by decide) ?_
  refine g_lvp (lv' := [(0, 2, jx0), (1, 0, (jx1 + 1))]) [1, 0] rfl ?_
  exact hk2 (jx1 + 1) σ hF
def F_X8_isWhole_L2 (jx0 : Int) : Nat → Int → Hp → Option (Int × Hp)
  | 0, _, _ => none
  | n + 1, jx1, σ => (rd 9 σ jx0 11).bind fun jv1 => bLt jx1 jv1 ((rd 9 σ jx0 14).bind fun jv2 => (ar 11 σ jv2 jx1).bind fun jv3 => (rd 9 σ jx0 8).bind fun jv4 => bLt jv3 (jv4 - 1) (bd (iv 9 σ jx0 (F_X8_weightsOf  jx0 jx1 σ)) fun jv5 σ6 => (rd 9 σ6 jx0 9).bind fun jv7 => bEq jv5 jv7 (F_X8_isWhole_B39 (F_X8_isWhole_L2 jx0 n) jx0 jx1  σ6) (rz 0 σ6)) (F_X8_isWhole_B39 (F_X8_isWhole_L2 jx0 n) jx0 jx1  σ)) ((rd 9 σ jx0 1).bind fun jv8 => bLe jv8 0 (rz 0 σ) (rz 1 σ))
theorem M_X8_isWhole_L2 (jx0 : Int) : ∀ (n : Nat) (jx1 : Int) (σ : Hp), Mn σ (F_X8_isWhole_L2 jx0 n jx1 σ) := by
  intro n
  induction n with
  | zero => intros; rw [F_X8_isWhole_L2]; exact Mn_none
  | succ n hk2 =>
    intros
    rw [F_X8_isWhole_L2]
    repeat' first | exact Mn_ret | exact Mn_rz | exact hk2 _  _ | exact M_X8_weightsOf _ _ _ | exact M_X8_isWhole_B39 (F_X8_isWhole_L2 jx0 n) hk2 _ _  _ | refine Mn_nm (fun _ => ?_) | refine Mn_nab (fun _ _ => ?_) | refine Mn_nwb (fun _ _ => ?_) | refine Mn_pw (fun _ => ?_) | refine Mn_pz (fun _ => ?_) | refine Mn_aw (fun _ => ?_) | refine Mn_az (fun _ => ?_) | refine Mn_aq (fun _ => ?_) | refine Mn_bo (fun _ => ?_) | refine Mn_bd ?_ (fun _ _ => ?_) | refine Mn_iv ?_ | refine Mn_bLt ?_ ?_ | refine Mn_bLe ?_ ?_ | refine Mn_bEq ?_ ?_ | refine Mn_bN ?_ ?_ | refine Mn_g3 ?_ | refine Mn_g33 ?_ | refine Mn_g66 ?_ | refine Mn_gD ?_
set_option maxRecDepth 100000 in
set_option maxHeartbeats 4000000 in
theorem T_X8_isWhole_L2 {r : Int} {σE : Hp} (hX : Cx p R s m args meth c D dA b0 n0 m0 2 nE mE cX8_isWhole RX8 1 23) (hR : Rx meth (some .boolean)) (hnm : meth.name = yX8_isWhole.name) (hQ : Q = Qm D dA b0 n0 m0 below args s (some (pV 0 r)) σE) (hE : nE = σE.1 ∧ mE = σE.2.1) (jx0 : Int) : ∀ (n : Nat) (jx1 : Int) (σ : Hp), F_X8_isWhole_L2 jx0 n jx1 σ = some (r, σE) → G p l e R s m args below meth c D dA b0 n0 m0 2 nE mE Q 2 [(0, 2, jx0), (1, 0, jx1)] [] σ := by
  intro n
  induction n with
  | zero =>
    intro jx1 σ hF
    rw [F_X8_isWhole_L2] at hF
    cases hF
  | succ n hk2 =>
    intro jx1 σ hF
    rw [F_X8_isWhole_L2] at hF
    refine g_iload_n hX 1 dX8_isWhole_2 rfl rfl ?_
    refine g_aload_n hX 0 dX8_isWhole_3 rfl rfl ?_
    refine g_get hX fl_X8_41 (by decide) (by decide) dX8_isWhole_4 hF (fun jv1 hF => ?_)
    refine g_icmp_ge (tgt := 45) hX dX8_isWhole_7 (by decide) hF (fun hc hF => ?_) (fun hc hF => ?_)
    · refine g_aload_n hX 0 dX8_isWhole_10 rfl rfl ?_
      refine g_get hX fl_X8_50 (by decide) (by decide) dX8_isWhole_11 hF (fun jv2 hF => ?_)
      refine g_iload_n hX 1 dX8_isWhole_14 rfl rfl ?_
      refine g_iald hX dX8_isWhole_15 hF (fun jv3 hF => ?_)
      refine g_aload_n hX 0 dX8_isWhole_16 rfl rfl ?_
      refine g_get hX fl_X8_32 (by decide) (by decide) dX8_isWhole_17 hF (fun jv4 hF => ?_)
      refine g_iconst hX dX8_isWhole_20 ?_
      refine g_isub hX dX8_isWhole_21 ?_
      refine g_icmp_ge (tgt := 39) hX dX8_isWhole_22 (by decide) hF (fun hc hF => ?_) (fun hc hF => ?_)
      · refine g_aload_n hX 0 dX8_isWhole_25 rfl rfl ?_
        refine g_iload_n hX 1 dX8_isWhole_26 rfl rfl ?_
        refine g_callV (t := 0) (ci := 8) (rest := []) [(0, jx1)] hX cw_X8_147 rfl (by decide) (by decide) (fun r σ1 h => T_X8_weightsOf l D dA b0  jx0 jx1 σ σ1 r h) ⟨by decide, by decide⟩ rfl rfl (Nat.le_of_ble_eq_true rfl) dX8_isWhole_27 hF (fun jv5 σ6 hF => ?_)
        refine g_aload_n hX 0 dX8_isWhole_30 rfl rfl ?_
        refine g_get hX fl_X8_35 (by decide) (by decide) dX8_isWhole_31 hF (fun jv7 hF => ?_)
        refine g_icmp_eq (tgt := 39) hX dX8_isWhole_34 (by decide) hF (fun hc hF => ?_) (fun hc hF => ?_)
        · exact T_X8_isWhole_B39 hX hR hnm hQ hE (F_X8_isWhole_L2 jx0 n) jx0 jx1  hk2  σ6 hF
        · refine g_iconst hX dX8_isWhole_37 ?_
          exact g_zret hX hR hQ hE dX8_isWhole_38 hF
      · exact T_X8_isWhole_B39 hX hR hnm hQ hE (F_X8_isWhole_L2 jx0 n) jx0 jx1  hk2  σ hF
    · refine g_aload_n hX 0 dX8_isWhole_45 rfl rfl ?_
      refine g_get hX fl_X8_119 (by decide) (by decide) dX8_isWhole_46 hF (fun jv8 hF => ?_)
      refine g_if_le (tgt := 56) hX dX8_isWhole_49 (by decide) hF (fun hc hF => ?_) (fun hc hF => ?_)
      · refine g_iconst hX dX8_isWhole_56 ?_
        exact g_zret hX hR hQ hE dX8_isWhole_57 hF
      · refine g_iconst hX dX8_isWhole_52 ?_
        refine g_goto (tgt := 57) hX dX8_isWhole_53 (by decide) ?_
        exact g_zret hX hR hQ hE dX8_isWhole_57 hF
def F_X8_isWhole (jx0 : Int) (σ : Hp) : Option (Int × Hp) :=
  F_X8_isWhole_L2 jx0 fu 0 σ
theorem M_X8_isWhole (jx0 : Int) (σ : Hp) : Mn σ (F_X8_isWhole jx0 σ) := by
  unfold F_X8_isWhole
  repeat' first | exact Mn_ret | exact Mn_rz | exact M_X8_isWhole_L2 _ _ _ _ | refine Mn_nm (fun _ => ?_) | refine Mn_nab (fun _ _ => ?_) | refine Mn_nwb (fun _ _ => ?_) | refine Mn_pw (fun _ => ?_) | refine Mn_pz (fun _ => ?_) | refine Mn_aw (fun _ => ?_) | refine Mn_az (fun _ => ?_) | refine Mn_aq (fun _ => ?_) | refine Mn_bo (fun _ => ?_) | refine Mn_bd ?_ (fun _ _ => ?_) | refine Mn_iv ?_ | refine Mn_bLt ?_ ?_ | refine Mn_bLe ?_ ?_ | refine Mn_bEq ?_ ?_ | refine Mn_bN ?_ ?_ | refine Mn_g3 ?_ | refine Mn_g33 ?_ | refine Mn_g66 ?_ | refine Mn_gD ?_
set_option maxRecDepth 100000 in
set_option maxHeartbeats 4000000 in
theorem T_X8_isWhole (l : Launch) (D : va_G) (dA : Nat → ClassId) (b0 : Nat) (jx0 : Int) (σ σE : Hp) (r : Int) (hF : F_X8_isWhole jx0 σ = some (r, σE)) : Ct l D dA b0 yX8_isWhole cX8_isWhole 2 (some .boolean) 1 23 [(2, jx0)] σ (some (pV 0 r)) σE := by
  refine Ct.of (lv0 := [(0, 2, jx0)]) (by decide) RX8 rfl (Nat.le_of_ble_eq_true rfl) rfl ?_ (M_X8_isWhole jx0 σ r σE hF)
  intro p e R s m args below meth c hX hR hnm
  obtain ⟨Q, hQ⟩ : ∃ Q, Q = Qm D dA b0 σ.1 σ.2.1 below args s (some (pV 0 r)) σE := ⟨_, rfl⟩
  rw [← hQ]
  have hE : σE.1 = σE.1 ∧ σE.2.1 = σE.2.1 := ⟨rfl, rfl⟩
  unfold F_X8_isWhole at hF
  refine g_iconst hX dX8_isWhole_0 ?_
  refine g_istore_n (lv' := [(1, 0, 0), (0, 2, jx0)]) hX dX8_isWhole_1 rfl (by decide) rfl ?_
  refine g_lvp (lv' := [(0, 2, jx0), (1, 0, 0)]) [1, 0] rfl ?_
  exact T_X8_isWhole_L2 hX hR hnm hQ hE jx0  fu 0 σ hF
end

section
variable {p : Program} {l : Launch} {e : Env} {R : Room} {s : State} {m : MethodId} {args : Array Value} {below : List Frame} {meth : Method} {c : Code} {D : va_G} {dA : Nat → ClassId} {b0 n0 m0 nE mE : Nat} {Q : State → Prop}
def F_X8_count (jx0 : Int) (jx1 : Int) (σ : Hp) : Option (Int × Hp) :=
  bEq jx1 0 ((rd 9 σ jx0 1).bind fun jv1 => some (jv1, σ)) (bEq jx1 1 ((rd 9 σ jx0 11).bind fun jv2 => some (jv2, σ)) (bEq jx1 2 (bd (iv 9 σ jx0 (F_X8_states  jx0  σ)) fun jv3 σ4 => some (jv3, σ4)) (bEq jx1 3 ((rd 9 σ jx0 32).bind fun jv5 => bEq jv5 0 (some (0, σ)) (some (1, σ))) (bEq jx1 4 ((rd 9 σ jx0 8).bind fun jv6 => some (jv6, σ)) (bEq jx1 5 ((rd 9 σ jx0 9).bind fun jv7 => some (jv7, σ)) (bEq jx1 6 (bd (iv 9 σ jx0 (F_X8_isWhole  jx0  σ)) fun jv8 σ9 => bEq jv8 0 (some (0, σ9)) (some (1, σ9))) (some ((-1), σ))))))))
theorem M_X8_count (jx0 : Int) (jx1 : Int) (σ : Hp) : Mn σ (F_X8_count jx0 jx1 σ) := by
  unfold F_X8_count
  repeat' first | exact Mn_ret | exact Mn_rz | exact M_X8_states _ _ | exact M_X8_isWhole _ _ | refine Mn_nm (fun _ => ?_) | refine Mn_nab (fun _ _ => ?_) | refine Mn_nwb (fun _ _ => ?_) | refine Mn_pw (fun _ => ?_) | refine Mn_pz (fun _ => ?_) | refine Mn_aw (fun _ => ?_) | refine Mn_az (fun _ => ?_) | refine Mn_aq (fun _ => ?_) | refine Mn_bo (fun _ => ?_) | refine Mn_bd ?_ (fun _ _ => ?_) | refine Mn_iv ?_ | refine Mn_bLt ?_ ?_ | refine Mn_bLe ?_ ?_ | refine Mn_bEq ?_ ?_ | refine Mn_bN ?_ ?_ | refine Mn_g3 ?_ | refine Mn_g33 ?_ | refine Mn_g66 ?_ | refine Mn_gD ?_
set_option maxRecDepth 100000 in
set_option maxHeartbeats 4000000 in
theorem T_X8_count (l : Launch) (D : va_G) (dA : Nat → ClassId) (b0 : Nat) (jx0 : Int) (jx1 : Int) (σ σE : Hp) (r : Int) (hF : F_X8_count jx0 jx1 σ = some (r, σE)) : Ct l D dA b0 yX8_count cX8_count 2 (some .int) 2 44 [(2, jx0), (0, jx1)] σ (some (pV 0 r)) σE := by
  refine Ct.of (lv0 := [(0, 2, jx0), (1, 0, jx1)]) (by decide) RX8 rfl (Nat.le_of_ble_eq_true rfl) rfl ?_ (M_X8_count jx0 jx1 σ r σE hF)
  intro p e R s m args below meth c hX hR hnm
  obtain ⟨Q, hQ⟩ : ∃ Q, Q = Qm D dA b0 σ.1 σ.2.1 below args s (some (pV 0 r)) σE := ⟨_, rfl⟩
  rw [← hQ]
  have hE : σE.1 = σE.1 ∧ σE.2.1 = σE.2.1 := ⟨rfl, rfl⟩
  unfold F_X8_count at hF
  refine g_iload_n hX 1 dX8_count_0 rfl rfl ?_
  obtain ⟨rx, -, ⟨hc, hF⟩ | ⟨hc0, hF⟩⟩ := bEq_spec hF
  · refine g_tsIn (tgt := 44) hX 0 dX8_count_1 hc (by decide) (by decide) (by decide) rfl (by decide) ?_
    refine g_aload_n hX 0 dX8_count_44 rfl rfl ?_
    refine g_get hX fl_X8_119 (by decide) (by decide) dX8_count_45 hF (fun jv1 hF => ?_)
    exact g_iret hX hR hQ hE dX8_count_48 hF
  obtain ⟨rx, -, ⟨hc, hF⟩ | ⟨hc1, hF⟩⟩ := bEq_spec hF
  · refine g_tsIn (tgt := 49) hX 1 dX8_count_1 hc (by decide) (by decide) (by decide) rfl (by decide) ?_
    refine g_aload_n hX 0 dX8_count_49 rfl rfl ?_
    refine g_get hX fl_X8_41 (by decide) (by decide) dX8_count_50 hF (fun jv2 hF => ?_)
    exact g_iret hX hR hQ hE dX8_count_53 hF
  obtain ⟨rx, -, ⟨hc, hF⟩ | ⟨hc2, hF⟩⟩ := bEq_spec hF
  · refine g_tsIn (tgt := 54) hX 2 dX8_count_1 hc (by decide) (by decide) (by decide) rfl (by decide) ?_
    refine g_aload_n hX 0 dX8_count_54 rfl rfl ?_
    refine g_callV (t := 0) (ci := 8) (rest := []) [] hX cw_X8_126 rfl (by decide) (by decide) (fun r σ1 h => T_X8_states l D dA b0  jx0  σ σ1 r h) ⟨by decide, by decide⟩ rfl rfl (Nat.le_of_ble_eq_true rfl) dX8_count_55 hF (fun jv3 σ4 hF => ?_)
    exact g_iret hX hR hQ hE dX8_count_58 hF
  obtain ⟨rx, -, ⟨hc, hF⟩ | ⟨hc3, hF⟩⟩ := bEq_spec hF
  · refine g_tsIn (tgt := 59) hX 3 dX8_count_1 hc (by decide) (by decide) (by decide) rfl (by decide) ?_
    refine g_aload_n hX 0 dX8_count_59 rfl rfl ?_
    refine g_get hX fl_X8_134 (by decide) (by decide) dX8_count_60 hF (fun jv5 hF => ?_)
    refine g_if_eq (tgt := 70) hX dX8_count_63 (by decide) hF (fun hc hF => ?_) (fun hc hF => ?_)
    · refine g_iconst hX dX8_count_70 ?_
      exact g_iret hX hR hQ hE dX8_count_71 hF
    · refine g_iconst hX dX8_count_66 ?_
      refine g_goto (tgt := 71) hX dX8_count_67 (by decide) ?_
      exact g_iret hX hR hQ hE dX8_count_71 hF
  obtain ⟨rx, -, ⟨hc, hF⟩ | ⟨hc4, hF⟩⟩ := bEq_spec hF
  · refine g_tsIn (tgt := 72) hX 4 dX8_count_1 hc (by decide) (by decide) (by decide) rfl (by decide) ?_
    refine g_aload_n hX 0 dX8_count_72 rfl rfl ?_
    refine g_get hX fl_X8_32 (by decide) (by decide) dX8_count_73 hF (fun jv6 hF => ?_)
    exact g_iret hX hR hQ hE dX8_count_76 hF
  obtain ⟨rx, -, ⟨hc, hF⟩ | ⟨hc5, hF⟩⟩ := bEq_spec hF
  · refine g_tsIn (tgt := 77) hX 5 dX8_count_1 hc (by decide) (by decide) (by decide) rfl (by decide) ?_
    refine g_aload_n hX 0 dX8_count_77 rfl rfl ?_
    refine g_get hX fl_X8_35 (by decide) (by decide) dX8_count_78 hF (fun jv7 hF => ?_)
    exact g_iret hX hR hQ hE dX8_count_81 hF
  obtain ⟨rx, -, ⟨hc, hF⟩ | ⟨hc6, hF⟩⟩ := bEq_spec hF
  · refine g_tsIn (tgt := 82) hX 6 dX8_count_1 hc (by decide) (by decide) (by decide) rfl (by decide) ?_
    refine g_aload_n hX 0 dX8_count_82 rfl rfl ?_
    refine g_callV (t := 0) (ci := 8) (rest := []) [] hX cw_X8_151 rfl (by decide) (by decide) (fun r σ1 h => T_X8_isWhole l D dA b0  jx0  σ σ1 r h) ⟨by decide, by decide⟩ rfl rfl (Nat.le_of_ble_eq_true rfl) dX8_count_83 hF (fun jv8 σ9 hF => ?_)
    refine g_if_eq (tgt := 93) hX dX8_count_86 (by decide) hF (fun hc hF => ?_) (fun hc hF => ?_)
    · refine g_iconst hX dX8_count_93 ?_
      exact g_iret hX hR hQ hE dX8_count_94 hF
    · refine g_iconst hX dX8_count_89 ?_
      refine g_goto (tgt := 94) hX dX8_count_90 (by decide) ?_
      exact g_iret hX hR hQ hE dX8_count_94 hF
  refine g_tsOut (tgt := 95) hX dX8_count_1 rx (by omega) (by decide) ?_
  refine g_iconst hX dX8_count_95 ?_
  exact g_iret hX hR hQ hE dX8_count_96 hF
end

section
variable {p : Program} {l : Launch} {e : Env} {R : Room} {s : State} {m : MethodId} {args : Array Value} {below : List Frame} {meth : Method} {c : Code} {D : va_G} {dA : Nat → ClassId} {b0 n0 m0 nE mE : Nat} {Q : State → Prop}
def F_X8_unfold_L9 (jx0 : Int) : Nat → Int → Int → Hp → Option (Int × Hp)
  | 0, _, _, _ => none
  | n + 1, jx2, jx3, σ => bLt jx3 0 (some (0, σ)) ((rd 9 σ jx0 16).bind fun jv2 => (rd 9 σ jx0 3).bind fun jv3 => (ar 11 σ jv3 jx3).bind fun jv4 => gD jx2 (jv4 + 1) ((aw 11 σ jv2 jx3 (Int.tmod jx2 (jv4 + 1))).bind fun σ5 => (rd 9 σ5 jx0 3).bind fun jv6 => (ar 11 σ5 jv6 jx3).bind fun jv7 => gD jx2 (jv7 + 1) (nm ((Int.tdiv jx2 (jv7 + 1))) fun jv8 => (F_X8_unfold_L9 jx0 n) jv8 (jx3 + (-1)) σ5)))
theorem M_X8_unfold_L9 (jx0 : Int) : ∀ (n : Nat) (jx2 : Int) (jx3 : Int) (σ : Hp), Mn σ (F_X8_unfold_L9 jx0 n jx2 jx3 σ) := by
  intro n
  induction n with
  | zero => intros; rw [F_X8_unfold_L9]; exact Mn_none
  | succ n hk9 =>
    intros
    rw [F_X8_unfold_L9]
    repeat' first | exact Mn_ret | exact Mn_rz | exact hk9 _ _  _ | refine Mn_nm (fun _ => ?_) | refine Mn_nab (fun _ _ => ?_) | refine Mn_nwb (fun _ _ => ?_) | refine Mn_pw (fun _ => ?_) | refine Mn_pz (fun _ => ?_) | refine Mn_aw (fun _ => ?_) | refine Mn_az (fun _ => ?_) | refine Mn_aq (fun _ => ?_) | refine Mn_bo (fun _ => ?_) | refine Mn_bd ?_ (fun _ _ => ?_) | refine Mn_iv ?_ | refine Mn_bLt ?_ ?_ | refine Mn_bLe ?_ ?_ | refine Mn_bEq ?_ ?_ | refine Mn_bN ?_ ?_ | refine Mn_g3 ?_ | refine Mn_g33 ?_ | refine Mn_g66 ?_ | refine Mn_gD ?_
set_option maxRecDepth 100000 in
set_option maxHeartbeats 4000000 in
theorem T_X8_unfold_L9 {r : Int} {σE : Hp} (hX : Cx p R s m args meth c D dA b0 n0 m0 4 nE mE cX8_unfold RX8 0 0) (hR : Rx meth none) (hnm : meth.name = yX8_unfold.name) (hQ : Q = Qm D dA b0 n0 m0 below args s none σE) (hE : nE = σE.1 ∧ mE = σE.2.1) (jx0 : Int) : ∀ (n : Nat) (jx2 : Int) (jx3 : Int) (σ : Hp), F_X8_unfold_L9 jx0 n jx2 jx3 σ = some (r, σE) → G p l e R s m args below meth c D dA b0 n0 m0 4 nE mE Q 9 [(0, 2, jx0), (2, 0, jx2), (3, 0, jx3)] [] σ := by
  intro n
  induction n with
  | zero =>
    intro jx2 jx3 σ hF
    rw [F_X8_unfold_L9] at hF
    cases hF
  | succ n hk9 =>
    intro jx2 jx3 σ hF
    rw [F_X8_unfold_L9] at hF
    refine g_iload_n hX 2 dX8_unfold_9 rfl rfl ?_
    refine g_if_lt (tgt := 46) hX dX8_unfold_10 (by decide) hF (fun hc hF => ?_) (fun hc hF => ?_)
    · exact g_vret hX hR hQ hE dX8_unfold_46 hF
    · refine g_aload_n hX 0 dX8_unfold_13 rfl rfl ?_
      refine g_get hX fl_X8_56 (by decide) (by decide) dX8_unfold_14 hF (fun jv2 hF => ?_)
      refine g_iload_n hX 2 dX8_unfold_17 rfl rfl ?_
      refine g_iload_n hX 1 dX8_unfold_18 rfl rfl ?_
      refine g_aload_n hX 0 dX8_unfold_19 rfl rfl ?_
      refine g_get hX fl_X8_17 (by decide) (by decide) dX8_unfold_20 hF (fun jv3 hF => ?_)
      refine g_iload_n hX 2 dX8_unfold_23 rfl rfl ?_
      refine g_iald hX dX8_unfold_24 hF (fun jv4 hF => ?_)
      refine g_iconst hX dX8_unfold_25 ?_
      refine g_iadd hX dX8_unfold_26 ?_
      refine g_irem hX dX8_unfold_27 hF (fun hF => ?_)
      refine u_iast hX dX8_unfold_28 hF (fun σ5 hF => ?_)
      refine g_iload_n hX 1 dX8_unfold_29 rfl rfl ?_
      refine g_aload_n hX 0 dX8_unfold_30 rfl rfl ?_
      refine g_get hX fl_X8_17 (by decide) (by decide) dX8_unfold_31 hF (fun jv6 hF => ?_)
      refine g_iload_n hX 2 dX8_unfold_34 rfl rfl ?_
      refine g_iald hX dX8_unfold_35 hF (fun jv7 hF => ?_)
      refine g_iconst hX dX8_unfold_36 ?_
      refine g_iadd hX dX8_unfold_37 ?_
      refine g_idiv hX dX8_unfold_38 hF (fun hF => ?_)
      refine g_nm hF (fun jv8 hF => ?_)
      refine g_istore_n (lv' := [(2, 0, jv8), (0, 2, jx0), (3, 0, jx3)]) hX dX8_unfold_39 rfl (by decide) rfl ?_
      refine g_iinc (lv' := [(3, 0, (jx3 + (-1))), (2, 0, jv8), (0, 2, jx0)]) hX 2 dX8_unfold_40 rfl (by decide) rfl ?_
      refine g_goto (tgt := 9) hX dX8_unfold_43 (by decide) ?_
      refine g_lvp (lv' := [(0, 2, jx0), (2, 0, jv8), (3, 0, (jx3 + (-1)))]) [2, 1, 0] rfl ?_
      exact hk9 jv8 (jx3 + (-1)) σ5 hF
def F_X8_unfold (jx0 : Int) (jx1 : Int) (σ : Hp) : Option (Int × Hp) :=
  (rd 9 σ jx0 1).bind fun jv1 => F_X8_unfold_L9 jx0 fu jx1 (jv1 - 1) σ
theorem M_X8_unfold (jx0 : Int) (jx1 : Int) (σ : Hp) : Mn σ (F_X8_unfold jx0 jx1 σ) := by
  unfold F_X8_unfold
  repeat' first | exact Mn_ret | exact Mn_rz | exact M_X8_unfold_L9 _ _ _ _ _ | refine Mn_nm (fun _ => ?_) | refine Mn_nab (fun _ _ => ?_) | refine Mn_nwb (fun _ _ => ?_) | refine Mn_pw (fun _ => ?_) | refine Mn_pz (fun _ => ?_) | refine Mn_aw (fun _ => ?_) | refine Mn_az (fun _ => ?_) | refine Mn_aq (fun _ => ?_) | refine Mn_bo (fun _ => ?_) | refine Mn_bd ?_ (fun _ _ => ?_) | refine Mn_iv ?_ | refine Mn_bLt ?_ ?_ | refine Mn_bLe ?_ ?_ | refine Mn_bEq ?_ ?_ | refine Mn_bN ?_ ?_ | refine Mn_g3 ?_ | refine Mn_g33 ?_ | refine Mn_g66 ?_ | refine Mn_gD ?_
set_option maxRecDepth 100000 in
set_option maxHeartbeats 4000000 in
theorem T_X8_unfold (l : Launch) (D : va_G) (dA : Nat → ClassId) (b0 : Nat) (jx0 : Int) (jx1 : Int) (σ σE : Hp) (r : Int) (hF : F_X8_unfold jx0 jx1 σ = some (r, σE)) : Ct l D dA b0 yX8_unfold cX8_unfold 4 none 0 0 [(2, jx0), (0, jx1)] σ none σE := by
  refine Ct.of (lv0 := [(0, 2, jx0), (1, 0, jx1)]) (by decide) RX8 rfl (Nat.le_of_ble_eq_true rfl) rfl ?_ (M_X8_unfold jx0 jx1 σ r σE hF)
  intro p e R s m args below meth c hX hR hnm
  obtain ⟨Q, hQ⟩ : ∃ Q, Q = Qm D dA b0 σ.1 σ.2.1 below args s none σE := ⟨_, rfl⟩
  rw [← hQ]
  have hE : σE.1 = σE.1 ∧ σE.2.1 = σE.2.1 := ⟨rfl, rfl⟩
  unfold F_X8_unfold at hF
  refine g_iload_n hX 1 dX8_unfold_0 rfl rfl ?_
  refine g_istore_n (lv' := [(2, 0, jx1), (0, 2, jx0), (1, 0, jx1)]) hX dX8_unfold_1 rfl (by decide) rfl ?_
  refine g_aload_n hX 1 dX8_unfold_2 rfl rfl ?_
  refine g_get hX fl_X8_119 (by decide) (by decide) dX8_unfold_3 hF (fun jv1 hF => ?_)
  refine g_iconst hX dX8_unfold_6 ?_
  refine g_isub hX dX8_unfold_7 ?_
  refine g_istore_n (lv' := [(3, 0, (jv1 - 1)), (2, 0, jx1), (0, 2, jx0), (1, 0, jx1)]) hX dX8_unfold_8 rfl (by decide) rfl ?_
  refine g_lvp (lv' := [(0, 2, jx0), (2, 0, jx1), (3, 0, (jv1 - 1))]) [2, 1, 0] rfl ?_
  exact T_X8_unfold_L9 hX hR hnm hQ hE jx0  fu jx1 (jv1 - 1) σ hF
end

section
variable {p : Program} {l : Launch} {e : Env} {R : Room} {s : State} {m : MethodId} {args : Array Value} {below : List Frame} {meth : Method} {c : Code} {D : va_G} {dA : Nat → ClassId} {b0 n0 m0 nE mE : Nat} {Q : State → Prop}
def F_X8_lowest (jx0 : Int) (jx1 : Int) (σ : Hp) : Option (Int × Hp) :=
  (rd 9 σ jx0 5).bind fun jv1 => (ar 11 σ jv1 jx1).bind fun jv2 => (rd 9 σ jx0 16).bind fun jv3 => (ar 11 σ jv3 jx1).bind fun jv4 => bLt jv2 jv4 ((rd 9 σ jx0 5).bind fun jv5 => (ar 11 σ jv5 jx1).bind fun jv6 => some (jv6, σ)) ((rd 9 σ jx0 16).bind fun jv7 => (ar 11 σ jv7 jx1).bind fun jv8 => some (jv8, σ))
theorem M_X8_lowest (jx0 : Int) (jx1 : Int) (σ : Hp) : Mn σ (F_X8_lowest jx0 jx1 σ) := by
  unfold F_X8_lowest
  repeat' first | exact Mn_ret | exact Mn_rz | refine Mn_nm (fun _ => ?_) | refine Mn_nab (fun _ _ => ?_) | refine Mn_nwb (fun _ _ => ?_) | refine Mn_pw (fun _ => ?_) | refine Mn_pz (fun _ => ?_) | refine Mn_aw (fun _ => ?_) | refine Mn_az (fun _ => ?_) | refine Mn_aq (fun _ => ?_) | refine Mn_bo (fun _ => ?_) | refine Mn_bd ?_ (fun _ _ => ?_) | refine Mn_iv ?_ | refine Mn_bLt ?_ ?_ | refine Mn_bLe ?_ ?_ | refine Mn_bEq ?_ ?_ | refine Mn_bN ?_ ?_ | refine Mn_g3 ?_ | refine Mn_g33 ?_ | refine Mn_g66 ?_ | refine Mn_gD ?_
set_option maxRecDepth 100000 in
set_option maxHeartbeats 4000000 in
theorem T_X8_lowest (l : Launch) (D : va_G) (dA : Nat → ClassId) (b0 : Nat) (jx0 : Int) (jx1 : Int) (σ σE : Hp) (r : Int) (hF : F_X8_lowest jx0 jx1 σ = some (r, σE)) : Ct l D dA b0 yX8_lowest cX8_lowest 2 (some .int) 0 0 [(2, jx0), (0, jx1)] σ (some (pV 0 r)) σE := by
  refine Ct.of (lv0 := [(0, 2, jx0), (1, 0, jx1)]) (by decide) RX8 rfl (Nat.le_of_ble_eq_true rfl) rfl ?_ (M_X8_lowest jx0 jx1 σ r σE hF)
  intro p e R s m args below meth c hX hR hnm
  obtain ⟨Q, hQ⟩ : ∃ Q, Q = Qm D dA b0 σ.1 σ.2.1 below args s (some (pV 0 r)) σE := ⟨_, rfl⟩
  rw [← hQ]
  have hE : σE.1 = σE.1 ∧ σE.2.1 = σE.2.1 := ⟨rfl, rfl⟩
  unfold F_X8_lowest at hF
  refine g_aload_n hX 0 dX8_lowest_0 rfl rfl ?_
  refine g_get hX fl_X8_23 (by decide) (by decide) dX8_lowest_1 hF (fun jv1 hF => ?_)
  refine g_iload_n hX 1 dX8_lowest_4 rfl rfl ?_
  refine g_iald hX dX8_lowest_5 hF (fun jv2 hF => ?_)
  refine g_aload_n hX 0 dX8_lowest_6 rfl rfl ?_
  refine g_get hX fl_X8_56 (by decide) (by decide) dX8_lowest_7 hF (fun jv3 hF => ?_)
  refine g_iload_n hX 1 dX8_lowest_10 rfl rfl ?_
  refine g_iald hX dX8_lowest_11 hF (fun jv4 hF => ?_)
  refine g_icmp_ge (tgt := 24) hX dX8_lowest_12 (by decide) hF (fun hc hF => ?_) (fun hc hF => ?_)
  · refine g_aload_n hX 0 dX8_lowest_15 rfl rfl ?_
    refine g_get hX fl_X8_23 (by decide) (by decide) dX8_lowest_16 hF (fun jv5 hF => ?_)
    refine g_iload_n hX 1 dX8_lowest_19 rfl rfl ?_
    refine g_iald hX dX8_lowest_20 hF (fun jv6 hF => ?_)
    refine g_goto (tgt := 30) hX dX8_lowest_21 (by decide) ?_
    exact g_iret hX hR hQ hE dX8_lowest_30 hF
  · refine g_aload_n hX 0 dX8_lowest_24 rfl rfl ?_
    refine g_get hX fl_X8_56 (by decide) (by decide) dX8_lowest_25 hF (fun jv7 hF => ?_)
    refine g_iload_n hX 1 dX8_lowest_28 rfl rfl ?_
    refine g_iald hX dX8_lowest_29 hF (fun jv8 hF => ?_)
    exact g_iret hX hR hQ hE dX8_lowest_30 hF
end

section
variable {p : Program} {l : Launch} {e : Env} {R : Room} {s : State} {m : MethodId} {args : Array Value} {below : List Frame} {meth : Method} {c : Code} {D : va_G} {dA : Nat → ClassId} {b0 n0 m0 nE mE : Nat} {Q : State → Prop}
def F_X8_highest_B42 (jx0 : Int) (jx1 : Int) (js0 : Int) (σ : Hp) : Option (Int × Hp) :=
  bd (iv 9 σ jx0 (F_X8_lowest  jx0 jx1 σ)) fun jv5 σ6 => bLt js0 jv5 (bd (iv 9 σ6 jx0 (F_X8_lowest  jx0 jx1 σ6)) fun jv7 σ8 => some (jv7, σ8)) (some (js0, σ6))
theorem M_X8_highest_B42 (jx0 : Int) (jx1 : Int) (js0 : Int) (σ : Hp) : Mn σ (F_X8_highest_B42 jx0 jx1 js0 σ) := by
  unfold F_X8_highest_B42
  repeat' first | exact Mn_ret | exact Mn_rz | exact M_X8_lowest _ _ _ | refine Mn_nm (fun _ => ?_) | refine Mn_nab (fun _ _ => ?_) | refine Mn_nwb (fun _ _ => ?_) | refine Mn_pw (fun _ => ?_) | refine Mn_pz (fun _ => ?_) | refine Mn_aw (fun _ => ?_) | refine Mn_az (fun _ => ?_) | refine Mn_aq (fun _ => ?_) | refine Mn_bo (fun _ => ?_) | refine Mn_bd ?_ (fun _ _ => ?_) | refine Mn_iv ?_ | refine Mn_bLt ?_ ?_ | refine Mn_bLe ?_ ?_ | refine Mn_bEq ?_ ?_ | refine Mn_bN ?_ ?_ | refine Mn_g3 ?_ | refine Mn_g33 ?_ | refine Mn_g66 ?_ | refine Mn_gD ?_
set_option maxRecDepth 100000 in
set_option maxHeartbeats 4000000 in
theorem T_X8_highest_B42 {r : Int} {σE : Hp} (hX : Cx p R s m args meth c D dA b0 n0 m0 4 nE mE cX8_highest RX8 1 21) (hR : Rx meth (some .int)) (hnm : meth.name = yX8_highest.name) (hQ : Q = Qm D dA b0 n0 m0 below args s (some (pV 0 r)) σE) (hE : nE = σE.1 ∧ mE = σE.2.1) (jx0 : Int) (jx1 : Int) (js0 : Int) (σ : Hp) (hF : F_X8_highest_B42 jx0 jx1 js0 σ = some (r, σE)) : G p l e R s m args below meth c D dA b0 n0 m0 4 nE mE Q 42 [(0, 2, jx0), (1, 0, jx1)] [(0, js0)] σ := by
  unfold F_X8_highest_B42 at hF
  refine g_istore_n (lv' := [(3, 0, js0), (0, 2, jx0), (1, 0, jx1)]) hX dX8_highest_42 rfl (by decide) rfl ?_
  refine g_iload_n hX 0 dX8_highest_43 rfl rfl ?_
  refine g_aload_n hX 1 dX8_highest_44 rfl rfl ?_
  refine g_iload_n hX 2 dX8_highest_45 rfl rfl ?_
  refine g_callV (t := 0) (ci := 8) (rest := [(0, js0)]) [(0, jx1)] hX cw_X8_155 rfl (by decide) (by decide) (fun r σ1 h => T_X8_lowest l D dA b0  jx0 jx1 σ σ1 r h) ⟨by decide, by decide⟩ rfl rfl (Nat.le_of_ble_eq_true rfl) dX8_highest_46 hF (fun jv5 σ6 hF => ?_)
  refine g_icmp_ge (tgt := 60) hX dX8_highest_49 (by decide) hF (fun hc hF => ?_) (fun hc hF => ?_)
  · refine g_aload_n hX 1 dX8_highest_52 rfl rfl ?_
    refine g_iload_n hX 2 dX8_highest_53 rfl rfl ?_
    refine g_callV (t := 0) (ci := 8) (rest := []) [(0, jx1)] hX cw_X8_155 rfl (by decide) (by decide) (fun r σ1 h => T_X8_lowest l D dA b0  jx0 jx1 σ6 σ1 r h) ⟨by decide, by decide⟩ rfl rfl (Nat.le_of_ble_eq_true rfl) dX8_highest_54 hF (fun jv7 σ8 hF => ?_)
    refine g_goto (tgt := 61) hX dX8_highest_57 (by decide) ?_
    exact g_iret hX hR hQ hE dX8_highest_61 hF
  · refine g_iload_n hX 0 dX8_highest_60 rfl rfl ?_
    exact g_iret hX hR hQ hE dX8_highest_61 hF
def F_X8_highest (jx0 : Int) (jx1 : Int) (σ : Hp) : Option (Int × Hp) :=
  (rd 9 σ jx0 16).bind fun jv1 => (ar 11 σ jv1 jx1).bind fun jv2 => (rd 9 σ jx0 2).bind fun jv3 => (ar 11 σ jv3 jx1).bind fun jv4 => bLt (jv2 - jv4) 0 (F_X8_highest_B42 jx0 jx1 0 σ) ((rd 9 σ jx0 4).bind fun jv9 => (ar 11 σ jv9 jx1).bind fun jv10 => bLt (jv2 - jv4) jv10 (F_X8_highest_B42 jx0 jx1 (jv2 - jv4) σ) ((rd 9 σ jx0 4).bind fun jv11 => (ar 11 σ jv11 jx1).bind fun jv12 => F_X8_highest_B42 jx0 jx1 jv12 σ))
theorem M_X8_highest (jx0 : Int) (jx1 : Int) (σ : Hp) : Mn σ (F_X8_highest jx0 jx1 σ) := by
  unfold F_X8_highest
  repeat' first | exact Mn_ret | exact Mn_rz | exact M_X8_highest_B42 _ _ _ _ | refine Mn_nm (fun _ => ?_) | refine Mn_nab (fun _ _ => ?_) | refine Mn_nwb (fun _ _ => ?_) | refine Mn_pw (fun _ => ?_) | refine Mn_pz (fun _ => ?_) | refine Mn_aw (fun _ => ?_) | refine Mn_az (fun _ => ?_) | refine Mn_aq (fun _ => ?_) | refine Mn_bo (fun _ => ?_) | refine Mn_bd ?_ (fun _ _ => ?_) | refine Mn_iv ?_ | refine Mn_bLt ?_ ?_ | refine Mn_bLe ?_ ?_ | refine Mn_bEq ?_ ?_ | refine Mn_bN ?_ ?_ | refine Mn_g3 ?_ | refine Mn_g33 ?_ | refine Mn_g66 ?_ | refine Mn_gD ?_
set_option maxRecDepth 100000 in
set_option maxHeartbeats 4000000 in
theorem T_X8_highest (l : Launch) (D : va_G) (dA : Nat → ClassId) (b0 : Nat) (jx0 : Int) (jx1 : Int) (σ σE : Hp) (r : Int) (hF : F_X8_highest jx0 jx1 σ = some (r, σE)) : Ct l D dA b0 yX8_highest cX8_highest 4 (some .int) 1 21 [(2, jx0), (0, jx1)] σ (some (pV 0 r)) σE := by
  refine Ct.of (lv0 := [(0, 2, jx0), (1, 0, jx1)]) (by decide) RX8 rfl (Nat.le_of_ble_eq_true rfl) rfl ?_ (M_X8_highest jx0 jx1 σ r σE hF)
  intro p e R s m args below meth c hX hR hnm
  obtain ⟨Q, hQ⟩ : ∃ Q, Q = Qm D dA b0 σ.1 σ.2.1 below args s (some (pV 0 r)) σE := ⟨_, rfl⟩
  rw [← hQ]
  have hE : σE.1 = σE.1 ∧ σE.2.1 = σE.2.1 := ⟨rfl, rfl⟩
  unfold F_X8_highest at hF
  refine g_aload_n hX 0 dX8_highest_0 rfl rfl ?_
  refine g_get hX fl_X8_56 (by decide) (by decide) dX8_highest_1 hF (fun jv1 hF => ?_)
  refine g_iload_n hX 1 dX8_highest_4 rfl rfl ?_
  refine g_iald hX dX8_highest_5 hF (fun jv2 hF => ?_)
  refine g_aload_n hX 0 dX8_highest_6 rfl rfl ?_
  refine g_get hX fl_X8_13 (by decide) (by decide) dX8_highest_7 hF (fun jv3 hF => ?_)
  refine g_iload_n hX 1 dX8_highest_10 rfl rfl ?_
  refine g_iald hX dX8_highest_11 hF (fun jv4 hF => ?_)
  refine g_isub hX dX8_highest_12 ?_
  refine g_istore_n (lv' := [(2, 0, (jv2 - jv4)), (0, 2, jx0), (1, 0, jx1)]) hX dX8_highest_13 rfl (by decide) rfl ?_
  refine g_iload_n hX 0 dX8_highest_14 rfl rfl ?_
  refine g_if_ge (tgt := 22) hX dX8_highest_15 (by decide) hF (fun hc hF => ?_) (fun hc hF => ?_)
  · refine g_iconst hX dX8_highest_18 ?_
    refine g_goto (tgt := 42) hX dX8_highest_19 (by decide) ?_
    refine g_lvp (lv' := [(0, 2, jx0), (1, 0, jx1)]) [1, 2] rfl ?_
    exact T_X8_highest_B42 hX hR hnm hQ hE jx0 jx1 0  σ hF
  · refine g_iload_n hX 0 dX8_highest_22 rfl rfl ?_
    refine g_aload_n hX 1 dX8_highest_23 rfl rfl ?_
    refine g_get hX fl_X8_20 (by decide) (by decide) dX8_highest_24 hF (fun jv9 hF => ?_)
    refine g_iload_n hX 2 dX8_highest_27 rfl rfl ?_
    refine g_iald hX dX8_highest_28 hF (fun jv10 hF => ?_)
    refine g_icmp_ge (tgt := 36) hX dX8_highest_29 (by decide) hF (fun hc hF => ?_) (fun hc hF => ?_)
    · refine g_iload_n hX 0 dX8_highest_32 rfl rfl ?_
      refine g_goto (tgt := 42) hX dX8_highest_33 (by decide) ?_
      refine g_lvp (lv' := [(0, 2, jx0), (1, 0, jx1)]) [1, 2] rfl ?_
      exact T_X8_highest_B42 hX hR hnm hQ hE jx0 jx1 (jv2 - jv4)  σ hF
    · refine g_aload_n hX 1 dX8_highest_36 rfl rfl ?_
      refine g_get hX fl_X8_20 (by decide) (by decide) dX8_highest_37 hF (fun jv11 hF => ?_)
      refine g_iload_n hX 2 dX8_highest_40 rfl rfl ?_
      refine g_iald hX dX8_highest_41 hF (fun jv12 hF => ?_)
      refine g_lvp (lv' := [(0, 2, jx0), (1, 0, jx1)]) [1, 2] rfl ?_
      exact T_X8_highest_B42 hX hR hnm hQ hE jx0 jx1 jv12  σ hF
end

section
variable {p : Program} {l : Launch} {e : Env} {R : Room} {s : State} {m : MethodId} {args : Array Value} {below : List Frame} {meth : Method} {c : Code} {D : va_G} {dA : Nat → ClassId} {b0 n0 m0 nE mE : Nat} {Q : State → Prop}
def F_X8_earns_L4 (jx0 : Int) (jx1 : Int) : Nat → Int → Int → Hp → Option (Int × Hp)
  | 0, _, _, _ => none
  | n + 1, jx2, jx3, σ => (rd 9 σ jx0 1).bind fun jv1 => bLt jx3 jv1 ((rd 9 σ jx0 10).bind fun jv2 => (ar 11 σ jv2 jx1).bind fun jv3 => (rd 9 σ jx0 6).bind fun jv4 => (rd 9 σ jx0 16).bind fun jv5 => (ar 11 σ jv5 jx3).bind fun jv6 => (ar 11 σ jv4 ((31 * jx3) + jv6)).bind fun jv7 => (rd 9 σ jx0 17).bind fun jv8 => (ar 11 σ jv8 jx3).bind fun jv9 => nm ((jx2 + ((jv3 * jv7) * jv9))) fun jv10 => (F_X8_earns_L4 jx0 jx1 n) jv10 (jx3 + 1) σ) (some (jx2, σ))
theorem M_X8_earns_L4 (jx0 : Int) (jx1 : Int) : ∀ (n : Nat) (jx2 : Int) (jx3 : Int) (σ : Hp), Mn σ (F_X8_earns_L4 jx0 jx1 n jx2 jx3 σ) := by
  intro n
  induction n with
  | zero => intros; rw [F_X8_earns_L4]; exact Mn_none
  | succ n hk4 =>
    intros
    rw [F_X8_earns_L4]
    repeat' first | exact Mn_ret | exact Mn_rz | exact hk4 _ _  _ | refine Mn_nm (fun _ => ?_) | refine Mn_nab (fun _ _ => ?_) | refine Mn_nwb (fun _ _ => ?_) | refine Mn_pw (fun _ => ?_) | refine Mn_pz (fun _ => ?_) | refine Mn_aw (fun _ => ?_) | refine Mn_az (fun _ => ?_) | refine Mn_aq (fun _ => ?_) | refine Mn_bo (fun _ => ?_) | refine Mn_bd ?_ (fun _ _ => ?_) | refine Mn_iv ?_ | refine Mn_bLt ?_ ?_ | refine Mn_bLe ?_ ?_ | refine Mn_bEq ?_ ?_ | refine Mn_bN ?_ ?_ | refine Mn_g3 ?_ | refine Mn_g33 ?_ | refine Mn_g66 ?_ | refine Mn_gD ?_
set_option maxRecDepth 100000 in
set_option maxHeartbeats 4000000 in
theorem T_X8_earns_L4 {r : Int} {σE : Hp} (hX : Cx p R s m args meth c D dA b0 n0 m0 4 nE mE cX8_earns RX8 0 0) (hR : Rx meth (some .int)) (hnm : meth.name = yX8_earns.name) (hQ : Q = Qm D dA b0 n0 m0 below args s (some (pV 0 r)) σE) (hE : nE = σE.1 ∧ mE = σE.2.1) (jx0 : Int) (jx1 : Int) : ∀ (n : Nat) (jx2 : Int) (jx3 : Int) (σ : Hp), F_X8_earns_L4 jx0 jx1 n jx2 jx3 σ = some (r, σE) → G p l e R s m args below meth c D dA b0 n0 m0 4 nE mE Q 4 [(0, 2, jx0), (1, 0, jx1), (2, 0, jx2), (3, 0, jx3)] [] σ := by
  intro n
  induction n with
  | zero =>
    intro jx2 jx3 σ hF
    rw [F_X8_earns_L4] at hF
    cases hF
  | succ n hk4 =>
    intro jx2 jx3 σ hF
    rw [F_X8_earns_L4] at hF
    refine g_iload_n hX 3 dX8_earns_4 rfl rfl ?_
    refine g_aload_n hX 0 dX8_earns_5 rfl rfl ?_
    refine g_get hX fl_X8_119 (by decide) (by decide) dX8_earns_6 hF (fun jv1 hF => ?_)
    refine g_icmp_ge (tgt := 51) hX dX8_earns_9 (by decide) hF (fun hc hF => ?_) (fun hc hF => ?_)
    · refine g_iload_n hX 2 dX8_earns_12 rfl rfl ?_
      refine g_aload_n hX 0 dX8_earns_13 rfl rfl ?_
      refine g_get hX fl_X8_38 (by decide) (by decide) dX8_earns_14 hF (fun jv2 hF => ?_)
      refine g_iload_n hX 1 dX8_earns_17 rfl rfl ?_
      refine g_iald hX dX8_earns_18 hF (fun jv3 hF => ?_)
      refine g_aload_n hX 0 dX8_earns_19 rfl rfl ?_
      refine g_get hX fl_X8_26 (by decide) (by decide) dX8_earns_20 hF (fun jv4 hF => ?_)
      refine g_bipush hX dX8_earns_23 (by decide) ?_
      refine g_iload_n hX 3 dX8_earns_25 rfl rfl ?_
      refine g_imul hX dX8_earns_26 ?_
      refine g_aload_n hX 0 dX8_earns_27 rfl rfl ?_
      refine g_get hX fl_X8_56 (by decide) (by decide) dX8_earns_28 hF (fun jv5 hF => ?_)
      refine g_iload_n hX 3 dX8_earns_31 rfl rfl ?_
      refine g_iald hX dX8_earns_32 hF (fun jv6 hF => ?_)
      refine g_iadd hX dX8_earns_33 ?_
      refine g_iald hX dX8_earns_34 hF (fun jv7 hF => ?_)
      refine g_imul hX dX8_earns_35 ?_
      refine g_aload_n hX 0 dX8_earns_36 rfl rfl ?_
      refine g_get hX fl_X8_59 (by decide) (by decide) dX8_earns_37 hF (fun jv8 hF => ?_)
      refine g_iload_n hX 3 dX8_earns_40 rfl rfl ?_
      refine g_iald hX dX8_earns_41 hF (fun jv9 hF => ?_)
      refine g_imul hX dX8_earns_42 ?_
      refine g_iadd hX dX8_earns_43 ?_
      refine g_nm hF (fun jv10 hF => ?_)
      refine g_istore_n (lv' := [(2, 0, jv10), (0, 2, jx0), (1, 0, jx1), (3, 0, jx3)]) hX dX8_earns_44 rfl (by decide) rfl ?_
      refine g_iinc (lv' := [(3, 0, (jx3 + 1)), (2, 0, jv10), (0, 2, jx0), (1, 0, jx1)]) hX 3 dX8_earns_45 rfl (by decide) rfl ?_
      refine g_goto (tgt := 4) hX dX8_earns_48 (by decide) ?_
      refine g_lvp (lv' := [(0, 2, jx0), (1, 0, jx1), (2, 0, jv10), (3, 0, (jx3 + 1))]) [2, 3, 1, 0] rfl ?_
      exact hk4 jv10 (jx3 + 1) σ hF
    · refine g_iload_n hX 2 dX8_earns_51 rfl rfl ?_
      exact g_iret hX hR hQ hE dX8_earns_52 hF
def F_X8_earns (jx0 : Int) (jx1 : Int) (σ : Hp) : Option (Int × Hp) :=
  F_X8_earns_L4 jx0 jx1 fu 0 0 σ
theorem M_X8_earns (jx0 : Int) (jx1 : Int) (σ : Hp) : Mn σ (F_X8_earns jx0 jx1 σ) := by
  unfold F_X8_earns
  repeat' first | exact Mn_ret | exact Mn_rz | exact M_X8_earns_L4 _ _ _ _ _ _ | refine Mn_nm (fun _ => ?_) | refine Mn_nab (fun _ _ => ?_) | refine Mn_nwb (fun _ _ => ?_) | refine Mn_pw (fun _ => ?_) | refine Mn_pz (fun _ => ?_) | refine Mn_aw (fun _ => ?_) | refine Mn_az (fun _ => ?_) | refine Mn_aq (fun _ => ?_) | refine Mn_bo (fun _ => ?_) | refine Mn_bd ?_ (fun _ _ => ?_) | refine Mn_iv ?_ | refine Mn_bLt ?_ ?_ | refine Mn_bLe ?_ ?_ | refine Mn_bEq ?_ ?_ | refine Mn_bN ?_ ?_ | refine Mn_g3 ?_ | refine Mn_g33 ?_ | refine Mn_g66 ?_ | refine Mn_gD ?_
set_option maxRecDepth 100000 in
set_option maxHeartbeats 4000000 in
theorem T_X8_earns (l : Launch) (D : va_G) (dA : Nat → ClassId) (b0 : Nat) (jx0 : Int) (jx1 : Int) (σ σE : Hp) (r : Int) (hF : F_X8_earns jx0 jx1 σ = some (r, σE)) : Ct l D dA b0 yX8_earns cX8_earns 4 (some .int) 0 0 [(2, jx0), (0, jx1)] σ (some (pV 0 r)) σE := by
  refine Ct.of (lv0 := [(0, 2, jx0), (1, 0, jx1)]) (by decide) RX8 rfl (Nat.le_of_ble_eq_true rfl) rfl ?_ (M_X8_earns jx0 jx1 σ r σE hF)
  intro p e R s m args below meth c hX hR hnm
  obtain ⟨Q, hQ⟩ : ∃ Q, Q = Qm D dA b0 σ.1 σ.2.1 below args s (some (pV 0 r)) σE := ⟨_, rfl⟩
  rw [← hQ]
  have hE : σE.1 = σE.1 ∧ σE.2.1 = σE.2.1 := ⟨rfl, rfl⟩
  unfold F_X8_earns at hF
  refine g_iconst hX dX8_earns_0 ?_
  refine g_istore_n (lv' := [(2, 0, 0), (0, 2, jx0), (1, 0, jx1)]) hX dX8_earns_1 rfl (by decide) rfl ?_
  refine g_iconst hX dX8_earns_2 ?_
  refine g_istore_n (lv' := [(3, 0, 0), (2, 0, 0), (0, 2, jx0), (1, 0, jx1)]) hX dX8_earns_3 rfl (by decide) rfl ?_
  refine g_lvp (lv' := [(0, 2, jx0), (1, 0, jx1), (2, 0, 0), (3, 0, 0)]) [2, 3, 1, 0] rfl ?_
  exact T_X8_earns_L4 hX hR hnm hQ hE jx0 jx1  fu 0 0 σ hF
end

section
variable {p : Program} {l : Launch} {e : Env} {R : Room} {s : State} {m : MethodId} {args : Array Value} {below : List Frame} {meth : Method} {c : Code} {D : va_G} {dA : Nat → ClassId} {b0 n0 m0 nE mE : Nat} {Q : State → Prop}
def F_X8_comes_B97 (k12 : Int → Int → Int → Hp → Option (Int × Hp)) (jx0 : Int) (jx1 : Int) (jx2 : Int) (jx4 : Int) (jx5 : Int) (js0 : Int) (σ : Hp) : Option (Int × Hp) :=
  (rd 9 σ jx0 18).bind fun jv12 => (pw 9 σ jx0 18 (jv12 + js0)).bind fun σ13 => (rd 9 σ13 jx0 3).bind fun jv14 => (ar 11 σ13 jv14 jx4).bind fun jv15 => nm ((((jx2 * (jv15 + 1)) + jx5) - js0)) fun jv16 => k12 jv16 js0 (jx4 + 1) σ13
theorem M_X8_comes_B97 (k12 : Int → Int → Int → Hp → Option (Int × Hp)) (hk12 : ∀ (jx2 : Int) (jx3 : Int) (jx4 : Int) (σ : Hp), Mn σ (k12 jx2 jx3 jx4 σ)) (jx0 : Int) (jx1 : Int) (jx2 : Int) (jx4 : Int) (jx5 : Int) (js0 : Int) (σ : Hp) : Mn σ (F_X8_comes_B97 k12 jx0 jx1 jx2 jx4 jx5 js0 σ) := by
  unfold F_X8_comes_B97
  repeat' first | exact Mn_ret | exact Mn_rz | exact hk12 _ _ _  _ | refine Mn_nm (fun _ => ?_) | refine Mn_nab (fun _ _ => ?_) | refine Mn_nwb (fun _ _ => ?_) | refine Mn_pw (fun _ => ?_) | refine Mn_pz (fun _ => ?_) | refine Mn_aw (fun _ => ?_) | refine Mn_az (fun _ => ?_) | refine Mn_aq (fun _ => ?_) | refine Mn_bo (fun _ => ?_) | refine Mn_bd ?_ (fun _ _ => ?_) | refine Mn_iv ?_ | refine Mn_bLt ?_ ?_ | refine Mn_bLe ?_ ?_ | refine Mn_bEq ?_ ?_ | refine Mn_bN ?_ ?_ | refine Mn_g3 ?_ | refine Mn_g33 ?_ | refine Mn_g66 ?_ | refine Mn_gD ?_
set_option maxRecDepth 100000 in
set_option maxHeartbeats 4000000 in
theorem T_X8_comes_B97 {r : Int} {σE : Hp} (hX : Cx p R s m args meth c D dA b0 n0 m0 6 nE mE cX8_comes RX8 0 0) (hR : Rx meth (some .int)) (hnm : meth.name = yX8_comes.name) (hQ : Q = Qm D dA b0 n0 m0 below args s (some (pV 0 r)) σE) (hE : nE = σE.1 ∧ mE = σE.2.1) (k12 : Int → Int → Int → Hp → Option (Int × Hp)) (jx0 : Int) (jx1 : Int) (jx2 : Int) (jx4 : Int) (jx5 : Int) (js0 : Int) (hk12 : ∀ (jx2 : Int) (jx3 : Int) (jx4 : Int) (σ : Hp), k12 jx2 jx3 jx4 σ = some (r, σE) → G p l e R s m args below meth c D dA b0 n0 m0 6 nE mE Q 12 [(0, 2, jx0), (1, 0, jx1), (2, 0, jx2), (3, 0, jx3), (4, 0, jx4)] [] σ) (σ : Hp) (hF : F_X8_comes_B97 k12 jx0 jx1 jx2 jx4 jx5 js0 σ = some (r, σE)) : G p l e R s m args below meth c D dA b0 n0 m0 6 nE mE Q 97 [(0, 2, jx0), (1, 0, jx1), (2, 0, jx2), (4, 0, jx4), (5, 0, jx5)] [(0, js0)] σ := by
  unfold F_X8_comes_B97 at hF
  refine g_istore_n (lv' := [(3, 0, js0), (0, 2, jx0), (1, 0, jx1), (2, 0, jx2), (4, 0, jx4), (5, 0, jx5)]) hX dX8_comes_97 rfl (by decide) rfl ?_
  refine g_aload_n hX 1 dX8_comes_98 rfl rfl ?_
  refine g_dup hX dX8_comes_99 (by decide) ?_
  refine g_get hX fl_X8_158 (by decide) (by decide) dX8_comes_100 hF (fun jv12 hF => ?_)
  refine g_iload_n hX 0 dX8_comes_103 rfl rfl ?_
  refine g_iadd hX dX8_comes_104 ?_
  refine u_put hX fp_X8_158 (by decide) (by decide) dX8_comes_105 hF (fun σ13 hF => ?_)
  refine g_iload_n hX 3 dX8_comes_108 rfl rfl ?_
  refine g_aload_n hX 1 dX8_comes_109 rfl rfl ?_
  refine g_get hX fl_X8_17 (by decide) (by decide) dX8_comes_110 hF (fun jv14 hF => ?_)
  refine g_iload hX 4 dX8_comes_113 rfl ?_
  refine g_iald hX dX8_comes_115 hF (fun jv15 hF => ?_)
  refine g_iconst hX dX8_comes_116 ?_
  refine g_iadd hX dX8_comes_117 ?_
  refine g_imul hX dX8_comes_118 ?_
  refine g_iload hX 5 dX8_comes_119 rfl ?_
  refine g_iadd hX dX8_comes_121 ?_
  refine g_iload_n hX 0 dX8_comes_122 rfl rfl ?_
  refine g_isub hX dX8_comes_123 ?_
  refine g_nm hF (fun jv16 hF => ?_)
  refine g_istore_n (lv' := [(2, 0, jv16), (3, 0, js0), (0, 2, jx0), (1, 0, jx1), (4, 0, jx4), (5, 0, jx5)]) hX dX8_comes_124 rfl (by decide) rfl ?_
  refine g_iinc (lv' := [(4, 0, (jx4 + 1)), (2, 0, jv16), (3, 0, js0), (0, 2, jx0), (1, 0, jx1), (5, 0, jx5)]) hX 4 dX8_comes_125 rfl (by decide) rfl ?_
  refine g_goto (tgt := 12) hX dX8_comes_128 (by decide) ?_
  refine g_lvp (lv' := [(0, 2, jx0), (1, 0, jx1), (2, 0, jv16), (3, 0, js0), (4, 0, (jx4 + 1))]) [3, 4, 1, 2, 0] rfl ?_
  exact hk12 jv16 js0 (jx4 + 1) σ13 hF
def F_X8_comes_B54 (k12 : Int → Int → Int → Hp → Option (Int × Hp)) (jx0 : Int) (jx1 : Int) (jx2 : Int) (jx3 : Int) (jx4 : Int) (js0 : Int) (js1 : Int) (σ : Hp) : Option (Int × Hp) :=
  (rd 9 σ jx0 15).bind fun jv7 => (ar 11 σ jv7 ((3 * jx1) + jx4)).bind fun jv8 => nm ((((js1 + js0) + jv8) + jx3)) fun jv9 => (rd 9 σ jx0 3).bind fun jv10 => (ar 11 σ jv10 jx4).bind fun jv11 => bLe jv9 jv11 (F_X8_comes_B97 k12 jx0 jx1 jx2 jx4 jv9 0 σ) ((rd 9 σ jx0 3).bind fun jv17 => (ar 11 σ jv17 jx4).bind fun jv18 => F_X8_comes_B97 k12 jx0 jx1 jx2 jx4 jv9 (jv9 - jv18) σ)
theorem M_X8_comes_B54 (k12 : Int → Int → Int → Hp → Option (Int × Hp)) (hk12 : ∀ (jx2 : Int) (jx3 : Int) (jx4 : Int) (σ : Hp), Mn σ (k12 jx2 jx3 jx4 σ)) (jx0 : Int) (jx1 : Int) (jx2 : Int) (jx3 : Int) (jx4 : Int) (js0 : Int) (js1 : Int) (σ : Hp) : Mn σ (F_X8_comes_B54 k12 jx0 jx1 jx2 jx3 jx4 js0 js1 σ) := by
  unfold F_X8_comes_B54
  repeat' first | exact Mn_ret | exact Mn_rz | exact hk12 _ _ _  _ | exact M_X8_comes_B97 k12 hk12 _ _ _ _ _ _ _ | refine Mn_nm (fun _ => ?_) | refine Mn_nab (fun _ _ => ?_) | refine Mn_nwb (fun _ _ => ?_) | refine Mn_pw (fun _ => ?_) | refine Mn_pz (fun _ => ?_) | refine Mn_aw (fun _ => ?_) | refine Mn_az (fun _ => ?_) | refine Mn_aq (fun _ => ?_) | refine Mn_bo (fun _ => ?_) | refine Mn_bd ?_ (fun _ _ => ?_) | refine Mn_iv ?_ | refine Mn_bLt ?_ ?_ | refine Mn_bLe ?_ ?_ | refine Mn_bEq ?_ ?_ | refine Mn_bN ?_ ?_ | refine Mn_g3 ?_ | refine Mn_g33 ?_ | refine Mn_g66 ?_ | refine Mn_gD ?_
set_option maxRecDepth 100000 in
set_option maxHeartbeats 4000000 in
theorem T_X8_comes_B54 {r : Int} {σE : Hp} (hX : Cx p R s m args meth c D dA b0 n0 m0 6 nE mE cX8_comes RX8 0 0) (hR : Rx meth (some .int)) (hnm : meth.name = yX8_comes.name) (hQ : Q = Qm D dA b0 n0 m0 below args s (some (pV 0 r)) σE) (hE : nE = σE.1 ∧ mE = σE.2.1) (k12 : Int → Int → Int → Hp → Option (Int × Hp)) (jx0 : Int) (jx1 : Int) (jx2 : Int) (jx3 : Int) (jx4 : Int) (js0 : Int) (js1 : Int) (hk12 : ∀ (jx2 : Int) (jx3 : Int) (jx4 : Int) (σ : Hp), k12 jx2 jx3 jx4 σ = some (r, σE) → G p l e R s m args below meth c D dA b0 n0 m0 6 nE mE Q 12 [(0, 2, jx0), (1, 0, jx1), (2, 0, jx2), (3, 0, jx3), (4, 0, jx4)] [] σ) (σ : Hp) (hF : F_X8_comes_B54 k12 jx0 jx1 jx2 jx3 jx4 js0 js1 σ = some (r, σE)) : G p l e R s m args below meth c D dA b0 n0 m0 6 nE mE Q 54 [(0, 2, jx0), (1, 0, jx1), (2, 0, jx2), (3, 0, jx3), (4, 0, jx4)] [(0, js0), (0, js1)] σ := by
  unfold F_X8_comes_B54 at hF
  refine g_iadd hX dX8_comes_54 ?_
  refine g_aload_n hX 0 dX8_comes_55 rfl rfl ?_
  refine g_get hX fl_X8_53 (by decide) (by decide) dX8_comes_56 hF (fun jv7 hF => ?_)
  refine g_iconst hX dX8_comes_59 ?_
  refine g_iload_n hX 1 dX8_comes_60 rfl rfl ?_
  refine g_imul hX dX8_comes_61 ?_
  refine g_iload hX 4 dX8_comes_62 rfl ?_
  refine g_iadd hX dX8_comes_64 ?_
  refine g_iald hX dX8_comes_65 hF (fun jv8 hF => ?_)
  refine g_iadd hX dX8_comes_66 ?_
  refine g_iload_n hX 3 dX8_comes_67 rfl rfl ?_
  refine g_iadd hX dX8_comes_68 ?_
  refine g_nm hF (fun jv9 hF => ?_)
  refine g_istore (lv' := [(5, 0, jv9), (0, 2, jx0), (1, 0, jx1), (2, 0, jx2), (3, 0, jx3), (4, 0, jx4)]) hX dX8_comes_69 (by decide) rfl ?_
  refine g_iload hX 0 dX8_comes_71 rfl ?_
  refine g_aload_n hX 1 dX8_comes_73 rfl rfl ?_
  refine g_get hX fl_X8_17 (by decide) (by decide) dX8_comes_74 hF (fun jv10 hF => ?_)
  refine g_iload hX 5 dX8_comes_77 rfl ?_
  refine g_iald hX dX8_comes_79 hF (fun jv11 hF => ?_)
  refine g_icmp_le (tgt := 96) hX dX8_comes_80 (by decide) hF (fun hc hF => ?_) (fun hc hF => ?_)
  · refine g_iconst hX dX8_comes_96 ?_
    refine g_lvp (lv' := [(0, 2, jx0), (1, 0, jx1), (2, 0, jx2), (4, 0, jx4), (5, 0, jv9)]) [1, 2, 3, 5, 0] rfl ?_
    exact T_X8_comes_B97 hX hR hnm hQ hE k12 jx0 jx1 jx2 jx4 jv9 0 hk12  σ hF
  · refine g_iload hX 0 dX8_comes_83 rfl ?_
    refine g_aload_n hX 1 dX8_comes_85 rfl rfl ?_
    refine g_get hX fl_X8_17 (by decide) (by decide) dX8_comes_86 hF (fun jv17 hF => ?_)
    refine g_iload hX 5 dX8_comes_89 rfl ?_
    refine g_iald hX dX8_comes_91 hF (fun jv18 hF => ?_)
    refine g_isub hX dX8_comes_92 ?_
    refine g_goto (tgt := 97) hX dX8_comes_93 (by decide) ?_
    refine g_lvp (lv' := [(0, 2, jx0), (1, 0, jx1), (2, 0, jx2), (4, 0, jx4), (5, 0, jv9)]) [1, 2, 3, 5, 0] rfl ?_
    exact T_X8_comes_B97 hX hR hnm hQ hE k12 jx0 jx1 jx2 jx4 jv9 (jv9 - jv18) hk12  σ hF
def F_X8_comes_L12 (jx0 : Int) (jx1 : Int) : Nat → Int → Int → Int → Hp → Option (Int × Hp)
  | 0, _, _, _, _ => none
  | n + 1, jx2, jx3, jx4, σ => (rd 9 σ jx0 1).bind fun jv2 => bLt jx4 jv2 ((rd 9 σ jx0 16).bind fun jv3 => (ar 11 σ jv3 jx4).bind fun jv4 => (rd 9 σ jx0 17).bind fun jv5 => (ar 11 σ jv5 jx4).bind fun jv6 => bLe jx4 0 (F_X8_comes_B54 (F_X8_comes_L12 jx0 jx1 n) jx0 jx1 jx2 jx3 jx4 0 (jv4 - jv6) σ) ((rd 9 σ jx0 17).bind fun jv19 => (ar 11 σ jv19 (jx4 - 1)).bind fun jv20 => F_X8_comes_B54 (F_X8_comes_L12 jx0 jx1 n) jx0 jx1 jx2 jx3 jx4 jv20 (jv4 - jv6) σ)) (some (jx2, σ))
theorem M_X8_comes_L12 (jx0 : Int) (jx1 : Int) : ∀ (n : Nat) (jx2 : Int) (jx3 : Int) (jx4 : Int) (σ : Hp), Mn σ (F_X8_comes_L12 jx0 jx1 n jx2 jx3 jx4 σ) := by
  intro n
  induction n with
  | zero => intros; rw [F_X8_comes_L12]; exact Mn_none
  | succ n hk12 =>
    intros
    rw [F_X8_comes_L12]
    repeat' first | exact Mn_ret | exact Mn_rz | exact hk12 _ _ _  _ | exact M_X8_comes_B54 (F_X8_comes_L12 jx0 jx1 n) hk12 _ _ _ _ _ _ _ _ | refine Mn_nm (fun _ => ?_) | refine Mn_nab (fun _ _ => ?_) | refine Mn_nwb (fun _ _ => ?_) | refine Mn_pw (fun _ => ?_) | refine Mn_pz (fun _ => ?_) | refine Mn_aw (fun _ => ?_) | refine Mn_az (fun _ => ?_) | refine Mn_aq (fun _ => ?_) | refine Mn_bo (fun _ => ?_) | refine Mn_bd ?_ (fun _ _ => ?_) | refine Mn_iv ?_ | refine Mn_bLt ?_ ?_ | refine Mn_bLe ?_ ?_ | refine Mn_bEq ?_ ?_ | refine Mn_bN ?_ ?_ | refine Mn_g3 ?_ | refine Mn_g33 ?_ | refine Mn_g66 ?_ | refine Mn_gD ?_
set_option maxRecDepth 100000 in
set_option maxHeartbeats 4000000 in
theorem T_X8_comes_L12 {r : Int} {σE : Hp} (hX : Cx p R s m args meth c D dA b0 n0 m0 6 nE mE cX8_comes RX8 0 0) (hR : Rx meth (some .int)) (hnm : meth.name = yX8_comes.name) (hQ : Q = Qm D dA b0 n0 m0 below args s (some (pV 0 r)) σE) (hE : nE = σE.1 ∧ mE = σE.2.1) (jx0 : Int) (jx1 : Int) : ∀ (n : Nat) (jx2 : Int) (jx3 : Int) (jx4 : Int) (σ : Hp), F_X8_comes_L12 jx0 jx1 n jx2 jx3 jx4 σ = some (r, σE) → G p l e R s m args below meth c D dA b0 n0 m0 6 nE mE Q 12 [(0, 2, jx0), (1, 0, jx1), (2, 0, jx2), (3, 0, jx3), (4, 0, jx4)] [] σ := by
  intro n
  induction n with
  | zero =>
    intro jx2 jx3 jx4 σ hF
    rw [F_X8_comes_L12] at hF
    cases hF
  | succ n hk12 =>
    intro jx2 jx3 jx4 σ hF
    rw [F_X8_comes_L12] at hF
    refine g_iload hX 4 dX8_comes_12 rfl ?_
    refine g_aload_n hX 0 dX8_comes_14 rfl rfl ?_
    refine g_get hX fl_X8_119 (by decide) (by decide) dX8_comes_15 hF (fun jv2 hF => ?_)
    refine g_icmp_ge (tgt := 131) hX dX8_comes_18 (by decide) hF (fun hc hF => ?_) (fun hc hF => ?_)
    · refine g_aload_n hX 0 dX8_comes_21 rfl rfl ?_
      refine g_get hX fl_X8_56 (by decide) (by decide) dX8_comes_22 hF (fun jv3 hF => ?_)
      refine g_iload hX 4 dX8_comes_25 rfl ?_
      refine g_iald hX dX8_comes_27 hF (fun jv4 hF => ?_)
      refine g_aload_n hX 0 dX8_comes_28 rfl rfl ?_
      refine g_get hX fl_X8_59 (by decide) (by decide) dX8_comes_29 hF (fun jv5 hF => ?_)
      refine g_iload hX 4 dX8_comes_32 rfl ?_
      refine g_iald hX dX8_comes_34 hF (fun jv6 hF => ?_)
      refine g_isub hX dX8_comes_35 ?_
      refine g_iload hX 4 dX8_comes_36 rfl ?_
      refine g_if_le (tgt := 53) hX dX8_comes_38 (by decide) hF (fun hc hF => ?_) (fun hc hF => ?_)
      · refine g_iconst hX dX8_comes_53 ?_
        exact T_X8_comes_B54 hX hR hnm hQ hE (F_X8_comes_L12 jx0 jx1 n) jx0 jx1 jx2 jx3 jx4 0 (jv4 - jv6) hk12  σ hF
      · refine g_aload_n hX 0 dX8_comes_41 rfl rfl ?_
        refine g_get hX fl_X8_59 (by decide) (by decide) dX8_comes_42 hF (fun jv19 hF => ?_)
        refine g_iload hX 4 dX8_comes_45 rfl ?_
        refine g_iconst hX dX8_comes_47 ?_
        refine g_isub hX dX8_comes_48 ?_
        refine g_iald hX dX8_comes_49 hF (fun jv20 hF => ?_)
        refine g_goto (tgt := 54) hX dX8_comes_50 (by decide) ?_
        exact T_X8_comes_B54 hX hR hnm hQ hE (F_X8_comes_L12 jx0 jx1 n) jx0 jx1 jx2 jx3 jx4 jv20 (jv4 - jv6) hk12  σ hF
    · refine g_iload_n hX 2 dX8_comes_131 rfl rfl ?_
      exact g_iret hX hR hQ hE dX8_comes_132 hF
def F_X8_comes (jx0 : Int) (jx1 : Int) (σ : Hp) : Option (Int × Hp) :=
  (pw 9 σ jx0 18 0).bind fun σ1 => F_X8_comes_L12 jx0 jx1 fu 0 0 0 σ1
theorem M_X8_comes (jx0 : Int) (jx1 : Int) (σ : Hp) : Mn σ (F_X8_comes jx0 jx1 σ) := by
  unfold F_X8_comes
  repeat' first | exact Mn_ret | exact Mn_rz | exact M_X8_comes_L12 _ _ _ _ _ _ _ | refine Mn_nm (fun _ => ?_) | refine Mn_nab (fun _ _ => ?_) | refine Mn_nwb (fun _ _ => ?_) | refine Mn_pw (fun _ => ?_) | refine Mn_pz (fun _ => ?_) | refine Mn_aw (fun _ => ?_) | refine Mn_az (fun _ => ?_) | refine Mn_aq (fun _ => ?_) | refine Mn_bo (fun _ => ?_) | refine Mn_bd ?_ (fun _ _ => ?_) | refine Mn_iv ?_ | refine Mn_bLt ?_ ?_ | refine Mn_bLe ?_ ?_ | refine Mn_bEq ?_ ?_ | refine Mn_bN ?_ ?_ | refine Mn_g3 ?_ | refine Mn_g33 ?_ | refine Mn_g66 ?_ | refine Mn_gD ?_
set_option maxRecDepth 100000 in
set_option maxHeartbeats 4000000 in
theorem T_X8_comes (l : Launch) (D : va_G) (dA : Nat → ClassId) (b0 : Nat) (jx0 : Int) (jx1 : Int) (σ σE : Hp) (r : Int) (hF : F_X8_comes jx0 jx1 σ = some (r, σE)) : Ct l D dA b0 yX8_comes cX8_comes 6 (some .int) 0 0 [(2, jx0), (0, jx1)] σ (some (pV 0 r)) σE := by
  refine Ct.of (lv0 := [(0, 2, jx0), (1, 0, jx1)]) (by decide) RX8 rfl (Nat.le_of_ble_eq_true rfl) rfl ?_ (M_X8_comes jx0 jx1 σ r σE hF)
  intro p e R s m args below meth c hX hR hnm
  obtain ⟨Q, hQ⟩ : ∃ Q, Q = Qm D dA b0 σ.1 σ.2.1 below args s (some (pV 0 r)) σE := ⟨_, rfl⟩
  rw [← hQ]
  have hE : σE.1 = σE.1 ∧ σE.2.1 = σE.2.1 := ⟨rfl, rfl⟩
  unfold F_X8_comes at hF
  refine g_iconst hX dX8_comes_0 ?_
  refine g_istore_n (lv' := [(2, 0, 0), (0, 2, jx0), (1, 0, jx1)]) hX dX8_comes_1 rfl (by decide) rfl ?_
  refine g_iconst hX dX8_comes_2 ?_
  refine g_istore_n (lv' := [(3, 0, 0), (2, 0, 0), (0, 2, jx0), (1, 0, jx1)]) hX dX8_comes_3 rfl (by decide) rfl ?_
  refine g_aload_n hX 2 dX8_comes_4 rfl rfl ?_
  refine g_iconst hX dX8_comes_5 ?_
  refine u_put hX fp_X8_158 (by decide) (by decide) dX8_comes_6 hF (fun σ1 hF => ?_)
  refine g_iconst hX dX8_comes_9 ?_
  refine g_istore (lv' := [(4, 0, 0), (3, 0, 0), (2, 0, 0), (0, 2, jx0), (1, 0, jx1)]) hX dX8_comes_10 (by decide) rfl ?_
  refine g_lvp (lv' := [(0, 2, jx0), (1, 0, jx1), (2, 0, 0), (3, 0, 0), (4, 0, 0)]) [3, 4, 2, 1, 0] rfl ?_
  exact T_X8_comes_L12 hX hR hnm hQ hE jx0 jx1  fu 0 0 0 σ1 hF
end

section
variable {p : Program} {l : Launch} {e : Env} {R : Room} {s : State} {m : MethodId} {args : Array Value} {below : List Frame} {meth : Method} {c : Code} {D : va_G} {dA : Nat → ClassId} {b0 n0 m0 nE mE : Nat} {Q : State → Prop}
def F_X8_firstLets_L2 (jx0 : Int) : Nat → Int → Hp → Option (Int × Hp)
  | 0, _, _ => none
  | n + 1, jx1, σ => (rd 9 σ jx0 1).bind fun jv1 => bLt jx1 jv1 ((rd 9 σ jx0 17).bind fun jv2 => bd (iv 9 σ jx0 (F_X8_lowest  jx0 jx1 σ)) fun jv3 σ4 => (aw 11 σ4 jv2 jx1 jv3).bind fun σ5 => (F_X8_firstLets_L2 jx0 n) (jx1 + 1) σ5) (some (0, σ))
theorem M_X8_firstLets_L2 (jx0 : Int) : ∀ (n : Nat) (jx1 : Int) (σ : Hp), Mn σ (F_X8_firstLets_L2 jx0 n jx1 σ) := by
  intro n
  induction n with
  | zero => intros; rw [F_X8_firstLets_L2]; exact Mn_none
  | succ n hk2 =>
    intros
    rw [F_X8_firstLets_L2]
    repeat' first | exact Mn_ret | exact Mn_rz | exact hk2 _  _ | exact M_X8_lowest _ _ _ | refine Mn_nm (fun _ => ?_) | refine Mn_nab (fun _ _ => ?_) | refine Mn_nwb (fun _ _ => ?_) | refine Mn_pw (fun _ => ?_) | refine Mn_pz (fun _ => ?_) | refine Mn_aw (fun _ => ?_) | refine Mn_az (fun _ => ?_) | refine Mn_aq (fun _ => ?_) | refine Mn_bo (fun _ => ?_) | refine Mn_bd ?_ (fun _ _ => ?_) | refine Mn_iv ?_ | refine Mn_bLt ?_ ?_ | refine Mn_bLe ?_ ?_ | refine Mn_bEq ?_ ?_ | refine Mn_bN ?_ ?_ | refine Mn_g3 ?_ | refine Mn_g33 ?_ | refine Mn_g66 ?_ | refine Mn_gD ?_
set_option maxRecDepth 100000 in
set_option maxHeartbeats 4000000 in
theorem T_X8_firstLets_L2 {r : Int} {σE : Hp} (hX : Cx p R s m args meth c D dA b0 n0 m0 2 nE mE cX8_firstLets RX8 1 21) (hR : Rx meth none) (hnm : meth.name = yX8_firstLets.name) (hQ : Q = Qm D dA b0 n0 m0 below args s none σE) (hE : nE = σE.1 ∧ mE = σE.2.1) (jx0 : Int) : ∀ (n : Nat) (jx1 : Int) (σ : Hp), F_X8_firstLets_L2 jx0 n jx1 σ = some (r, σE) → G p l e R s m args below meth c D dA b0 n0 m0 2 nE mE Q 2 [(0, 2, jx0), (1, 0, jx1)] [] σ := by
  intro n
  induction n with
  | zero =>
    intro jx1 σ hF
    rw [F_X8_firstLets_L2] at hF
    cases hF
  | succ n hk2 =>
    intro jx1 σ hF
    rw [F_X8_firstLets_L2] at hF
    refine g_iload_n hX 1 dX8_firstLets_2 rfl rfl ?_
    refine g_aload_n hX 0 dX8_firstLets_3 rfl rfl ?_
    refine g_get hX fl_X8_119 (by decide) (by decide) dX8_firstLets_4 hF (fun jv1 hF => ?_)
    refine g_icmp_ge (tgt := 27) hX dX8_firstLets_7 (by decide) hF (fun hc hF => ?_) (fun hc hF => ?_)
    · refine g_aload_n hX 0 dX8_firstLets_10 rfl rfl ?_
      refine g_get hX fl_X8_59 (by decide) (by decide) dX8_firstLets_11 hF (fun jv2 hF => ?_)
      refine g_iload_n hX 1 dX8_firstLets_14 rfl rfl ?_
      refine g_aload_n hX 0 dX8_firstLets_15 rfl rfl ?_
      refine g_iload_n hX 1 dX8_firstLets_16 rfl rfl ?_
      refine g_callV (t := 0) (ci := 8) (rest := [(0, jx1), (2, jv2)]) [(0, jx1)] hX cw_X8_155 rfl (by decide) (by decide) (fun r σ1 h => T_X8_lowest l D dA b0  jx0 jx1 σ σ1 r h) ⟨by decide, by decide⟩ rfl rfl (Nat.le_of_ble_eq_true rfl) dX8_firstLets_17 hF (fun jv3 σ4 hF => ?_)
      refine u_iast hX dX8_firstLets_20 hF (fun σ5 hF => ?_)
      refine g_iinc (lv' := [(1, 0, (jx1 + 1)), (0, 2, jx0)]) hX 1 dX8_firstLets_21 rfl (by decide) rfl ?_
      refine g_goto (tgt := 2) hX dX8_firstLets_24 (by decide) ?_
      refine g_lvp (lv' := [(0, 2, jx0), (1, 0, (jx1 + 1))]) [1, 0] rfl ?_
      exact hk2 (jx1 + 1) σ5 hF
    · exact g_vret hX hR hQ hE dX8_firstLets_27 hF
def F_X8_firstLets (jx0 : Int) (σ : Hp) : Option (Int × Hp) :=
  F_X8_firstLets_L2 jx0 fu 0 σ
theorem M_X8_firstLets (jx0 : Int) (σ : Hp) : Mn σ (F_X8_firstLets jx0 σ) := by
  unfold F_X8_firstLets
  repeat' first | exact Mn_ret | exact Mn_rz | exact M_X8_firstLets_L2 _ _ _ _ | refine Mn_nm (fun _ => ?_) | refine Mn_nab (fun _ _ => ?_) | refine Mn_nwb (fun _ _ => ?_) | refine Mn_pw (fun _ => ?_) | refine Mn_pz (fun _ => ?_) | refine Mn_aw (fun _ => ?_) | refine Mn_az (fun _ => ?_) | refine Mn_aq (fun _ => ?_) | refine Mn_bo (fun _ => ?_) | refine Mn_bd ?_ (fun _ _ => ?_) | refine Mn_iv ?_ | refine Mn_bLt ?_ ?_ | refine Mn_bLe ?_ ?_ | refine Mn_bEq ?_ ?_ | refine Mn_bN ?_ ?_ | refine Mn_g3 ?_ | refine Mn_g33 ?_ | refine Mn_g66 ?_ | refine Mn_gD ?_
set_option maxRecDepth 100000 in
set_option maxHeartbeats 4000000 in
theorem T_X8_firstLets (l : Launch) (D : va_G) (dA : Nat → ClassId) (b0 : Nat) (jx0 : Int) (σ σE : Hp) (r : Int) (hF : F_X8_firstLets jx0 σ = some (r, σE)) : Ct l D dA b0 yX8_firstLets cX8_firstLets 2 none 1 21 [(2, jx0)] σ none σE := by
  refine Ct.of (lv0 := [(0, 2, jx0)]) (by decide) RX8 rfl (Nat.le_of_ble_eq_true rfl) rfl ?_ (M_X8_firstLets jx0 σ r σE hF)
  intro p e R s m args below meth c hX hR hnm
  obtain ⟨Q, hQ⟩ : ∃ Q, Q = Qm D dA b0 σ.1 σ.2.1 below args s none σE := ⟨_, rfl⟩
  rw [← hQ]
  have hE : σE.1 = σE.1 ∧ σE.2.1 = σE.2.1 := ⟨rfl, rfl⟩
  unfold F_X8_firstLets at hF
  refine g_iconst hX dX8_firstLets_0 ?_
  refine g_istore_n (lv' := [(1, 0, 0), (0, 2, jx0)]) hX dX8_firstLets_1 rfl (by decide) rfl ?_
  refine g_lvp (lv' := [(0, 2, jx0), (1, 0, 0)]) [1, 0] rfl ?_
  exact T_X8_firstLets_L2 hX hR hnm hQ hE jx0  fu 0 σ hF
end

section
variable {p : Program} {l : Launch} {e : Env} {R : Room} {s : State} {m : MethodId} {args : Array Value} {below : List Frame} {meth : Method} {c : Code} {D : va_G} {dA : Nat → ClassId} {b0 n0 m0 nE mE : Nat} {Q : State → Prop}
def F_X8_nextLets_B42 (jx0 : Int) (jx1 : Int) (σ : Hp) : Option (Int × Hp) :=
  bLt jx1 0 (rz 0 σ) ((rd 9 σ jx0 17).bind fun jv2 => (ar 11 σ jv2 jx1).bind fun jv3 => (aw 11 σ jv2 jx1 (jv3 + 1)).bind fun σ4 => rz 1 σ4)
theorem M_X8_nextLets_B42 (jx0 : Int) (jx1 : Int) (σ : Hp) : Mn σ (F_X8_nextLets_B42 jx0 jx1 σ) := by
  unfold F_X8_nextLets_B42
  repeat' first | exact Mn_ret | exact Mn_rz | refine Mn_nm (fun _ => ?_) | refine Mn_nab (fun _ _ => ?_) | refine Mn_nwb (fun _ _ => ?_) | refine Mn_pw (fun _ => ?_) | refine Mn_pz (fun _ => ?_) | refine Mn_aw (fun _ => ?_) | refine Mn_az (fun _ => ?_) | refine Mn_aq (fun _ => ?_) | refine Mn_bo (fun _ => ?_) | refine Mn_bd ?_ (fun _ _ => ?_) | refine Mn_iv ?_ | refine Mn_bLt ?_ ?_ | refine Mn_bLe ?_ ?_ | refine Mn_bEq ?_ ?_ | refine Mn_bN ?_ ?_ | refine Mn_g3 ?_ | refine Mn_g33 ?_ | refine Mn_g66 ?_ | refine Mn_gD ?_
set_option maxRecDepth 100000 in
set_option maxHeartbeats 4000000 in
theorem T_X8_nextLets_B42 {r : Int} {σE : Hp} (hX : Cx p R s m args meth c D dA b0 n0 m0 2 nE mE cX8_nextLets RX8 2 44) (hR : Rx meth (some .boolean)) (hnm : meth.name = yX8_nextLets.name) (hQ : Q = Qm D dA b0 n0 m0 below args s (some (pV 0 r)) σE) (hE : nE = σE.1 ∧ mE = σE.2.1) (jx0 : Int) (jx1 : Int) (σ : Hp) (hF : F_X8_nextLets_B42 jx0 jx1 σ = some (r, σE)) : G p l e R s m args below meth c D dA b0 n0 m0 2 nE mE Q 42 [(0, 2, jx0), (1, 0, jx1)] [] σ := by
  unfold F_X8_nextLets_B42 at hF
  refine g_iload_n hX 1 dX8_nextLets_42 rfl rfl ?_
  refine g_if_ge (tgt := 48) hX dX8_nextLets_43 (by decide) hF (fun hc hF => ?_) (fun hc hF => ?_)
  · refine g_iconst hX dX8_nextLets_46 ?_
    exact g_zret hX hR hQ hE dX8_nextLets_47 hF
  · refine g_aload_n hX 0 dX8_nextLets_48 rfl rfl ?_
    refine g_get hX fl_X8_59 (by decide) (by decide) dX8_nextLets_49 hF (fun jv2 hF => ?_)
    refine g_iload_n hX 1 dX8_nextLets_52 rfl rfl ?_
    refine g_dup2 hX dX8_nextLets_53 (by decide) (by decide) ?_
    refine g_iald hX dX8_nextLets_54 hF (fun jv3 hF => ?_)
    refine g_iconst hX dX8_nextLets_55 ?_
    refine g_iadd hX dX8_nextLets_56 ?_
    refine u_iast hX dX8_nextLets_57 hF (fun σ4 hF => ?_)
    refine g_iconst hX dX8_nextLets_58 ?_
    exact g_zret hX hR hQ hE dX8_nextLets_59 hF
def F_X8_nextLets_L7 (jx0 : Int) : Nat → Int → Hp → Option (Int × Hp)
  | 0, _, _ => none
  | n + 1, jx1, σ => bLt jx1 0 (F_X8_nextLets_B42 jx0 jx1  σ) ((rd 9 σ jx0 17).bind fun jv5 => (ar 11 σ jv5 jx1).bind fun jv6 => bd (iv 9 σ jx0 (F_X8_highest  jx0 jx1 σ)) fun jv7 σ8 => bEq jv6 jv7 ((rd 9 σ8 jx0 17).bind fun jv9 => bd (iv 9 σ8 jx0 (F_X8_lowest  jx0 jx1 σ8)) fun jv10 σ11 => (aw 11 σ11 jv9 jx1 jv10).bind fun σ12 => (F_X8_nextLets_L7 jx0 n) (jx1 + (-1)) σ12) (F_X8_nextLets_B42 jx0 jx1  σ8))
theorem M_X8_nextLets_L7 (jx0 : Int) : ∀ (n : Nat) (jx1 : Int) (σ : Hp), Mn σ (F_X8_nextLets_L7 jx0 n jx1 σ) := by
  intro n
  induction n with
  | zero => intros; rw [F_X8_nextLets_L7]; exact Mn_none
  | succ n hk7 =>
    intros
    rw [F_X8_nextLets_L7]
    repeat' first | exact Mn_ret | exact Mn_rz | exact hk7 _  _ | exact M_X8_nextLets_B42 _ _  _ | exact M_X8_highest _ _ _ | exact M_X8_lowest _ _ _ | refine Mn_nm (fun _ => ?_) | refine Mn_nab (fun _ _ => ?_) | refine Mn_nwb (fun _ _ => ?_) | refine Mn_pw (fun _ => ?_) | refine Mn_pz (fun _ => ?_) | refine Mn_aw (fun _ => ?_) | refine Mn_az (fun _ => ?_) | refine Mn_aq (fun _ => ?_) | refine Mn_bo (fun _ => ?_) | refine Mn_bd ?_ (fun _ _ => ?_) | refine Mn_iv ?_ | refine Mn_bLt ?_ ?_ | refine Mn_bLe ?_ ?_ | refine Mn_bEq ?_ ?_ | refine Mn_bN ?_ ?_ | refine Mn_g3 ?_ | refine Mn_g33 ?_ | refine Mn_g66 ?_ | refine Mn_gD ?_
set_option maxRecDepth 100000 in
set_option maxHeartbeats 4000000 in
theorem T_X8_nextLets_L7 {r : Int} {σE : Hp} (hX : Cx p R s m args meth c D dA b0 n0 m0 2 nE mE cX8_nextLets RX8 2 44) (hR : Rx meth (some .boolean)) (hnm : meth.name = yX8_nextLets.name) (hQ : Q = Qm D dA b0 n0 m0 below args s (some (pV 0 r)) σE) (hE : nE = σE.1 ∧ mE = σE.2.1) (jx0 : Int) : ∀ (n : Nat) (jx1 : Int) (σ : Hp), F_X8_nextLets_L7 jx0 n jx1 σ = some (r, σE) → G p l e R s m args below meth c D dA b0 n0 m0 2 nE mE Q 7 [(0, 2, jx0), (1, 0, jx1)] [] σ := by
  intro n
  induction n with
  | zero =>
    intro jx1 σ hF
    rw [F_X8_nextLets_L7] at hF
    cases hF
  | succ n hk7 =>
    intro jx1 σ hF
    rw [F_X8_nextLets_L7] at hF
    refine g_iload_n hX 1 dX8_nextLets_7 rfl rfl ?_
    refine g_if_lt (tgt := 42) hX dX8_nextLets_8 (by decide) hF (fun hc hF => ?_) (fun hc hF => ?_)
    · exact T_X8_nextLets_B42 hX hR hnm hQ hE jx0 jx1   σ hF
    · refine g_aload_n hX 0 dX8_nextLets_11 rfl rfl ?_
      refine g_get hX fl_X8_59 (by decide) (by decide) dX8_nextLets_12 hF (fun jv5 hF => ?_)
      refine g_iload_n hX 1 dX8_nextLets_15 rfl rfl ?_
      refine g_iald hX dX8_nextLets_16 hF (fun jv6 hF => ?_)
      refine g_aload_n hX 0 dX8_nextLets_17 rfl rfl ?_
      refine g_iload_n hX 1 dX8_nextLets_18 rfl rfl ?_
      refine g_callV (t := 0) (ci := 8) (rest := [(0, jv6)]) [(0, jx1)] hX cw_X8_161 rfl (by decide) (by decide) (fun r σ1 h => T_X8_highest l D dA b0  jx0 jx1 σ σ1 r h) ⟨by decide, by decide⟩ rfl rfl (Nat.le_of_ble_eq_true rfl) dX8_nextLets_19 hF (fun jv7 σ8 hF => ?_)
      refine g_icmp_ne (tgt := 42) hX dX8_nextLets_22 (by decide) hF (fun hc hF => ?_) (fun hc hF => ?_)
      · refine g_aload_n hX 0 dX8_nextLets_25 rfl rfl ?_
        refine g_get hX fl_X8_59 (by decide) (by decide) dX8_nextLets_26 hF (fun jv9 hF => ?_)
        refine g_iload_n hX 1 dX8_nextLets_29 rfl rfl ?_
        refine g_aload_n hX 0 dX8_nextLets_30 rfl rfl ?_
        refine g_iload_n hX 1 dX8_nextLets_31 rfl rfl ?_
        refine g_callV (t := 0) (ci := 8) (rest := [(0, jx1), (2, jv9)]) [(0, jx1)] hX cw_X8_155 rfl (by decide) (by decide) (fun r σ1 h => T_X8_lowest l D dA b0  jx0 jx1 σ8 σ1 r h) ⟨by decide, by decide⟩ rfl rfl (Nat.le_of_ble_eq_true rfl) dX8_nextLets_32 hF (fun jv10 σ11 hF => ?_)
        refine u_iast hX dX8_nextLets_35 hF (fun σ12 hF => ?_)
        refine g_iinc (lv' := [(1, 0, (jx1 + (-1))), (0, 2, jx0)]) hX 1 dX8_nextLets_36 rfl (by decide) rfl ?_
        refine g_goto (tgt := 7) hX dX8_nextLets_39 (by decide) ?_
        refine g_lvp (lv' := [(0, 2, jx0), (1, 0, (jx1 + (-1)))]) [1, 0] rfl ?_
        exact hk7 (jx1 + (-1)) σ12 hF
      · exact T_X8_nextLets_B42 hX hR hnm hQ hE jx0 jx1   σ8 hF
def F_X8_nextLets (jx0 : Int) (σ : Hp) : Option (Int × Hp) :=
  (rd 9 σ jx0 1).bind fun jv1 => F_X8_nextLets_L7 jx0 fu (jv1 - 1) σ
theorem M_X8_nextLets (jx0 : Int) (σ : Hp) : Mn σ (F_X8_nextLets jx0 σ) := by
  unfold F_X8_nextLets
  repeat' first | exact Mn_ret | exact Mn_rz | exact M_X8_nextLets_L7 _ _ _ _ | refine Mn_nm (fun _ => ?_) | refine Mn_nab (fun _ _ => ?_) | refine Mn_nwb (fun _ _ => ?_) | refine Mn_pw (fun _ => ?_) | refine Mn_pz (fun _ => ?_) | refine Mn_aw (fun _ => ?_) | refine Mn_az (fun _ => ?_) | refine Mn_aq (fun _ => ?_) | refine Mn_bo (fun _ => ?_) | refine Mn_bd ?_ (fun _ _ => ?_) | refine Mn_iv ?_ | refine Mn_bLt ?_ ?_ | refine Mn_bLe ?_ ?_ | refine Mn_bEq ?_ ?_ | refine Mn_bN ?_ ?_ | refine Mn_g3 ?_ | refine Mn_g33 ?_ | refine Mn_g66 ?_ | refine Mn_gD ?_
set_option maxRecDepth 100000 in
set_option maxHeartbeats 4000000 in
theorem T_X8_nextLets (l : Launch) (D : va_G) (dA : Nat → ClassId) (b0 : Nat) (jx0 : Int) (σ σE : Hp) (r : Int) (hF : F_X8_nextLets jx0 σ = some (r, σE)) : Ct l D dA b0 yX8_nextLets cX8_nextLets 2 (some .boolean) 2 44 [(2, jx0)] σ (some (pV 0 r)) σE := by
  refine Ct.of (lv0 := [(0, 2, jx0)]) (by decide) RX8 rfl (Nat.le_of_ble_eq_true rfl) rfl ?_ (M_X8_nextLets jx0 σ r σE hF)
  intro p e R s m args below meth c hX hR hnm
  obtain ⟨Q, hQ⟩ : ∃ Q, Q = Qm D dA b0 σ.1 σ.2.1 below args s (some (pV 0 r)) σE := ⟨_, rfl⟩
  rw [← hQ]
  have hE : σE.1 = σE.1 ∧ σE.2.1 = σE.2.1 := ⟨rfl, rfl⟩
  unfold F_X8_nextLets at hF
  refine g_aload_n hX 0 dX8_nextLets_0 rfl rfl ?_
  refine g_get hX fl_X8_119 (by decide) (by decide) dX8_nextLets_1 hF (fun jv1 hF => ?_)
  refine g_iconst hX dX8_nextLets_4 ?_
  refine g_isub hX dX8_nextLets_5 ?_
  refine g_istore_n (lv' := [(1, 0, (jv1 - 1)), (0, 2, jx0)]) hX dX8_nextLets_6 rfl (by decide) rfl ?_
  refine g_lvp (lv' := [(0, 2, jx0), (1, 0, (jv1 - 1))]) [1, 0] rfl ?_
  exact T_X8_nextLets_L7 hX hR hnm hQ hE jx0  fu (jv1 - 1) σ hF
end

section
variable {p : Program} {l : Launch} {e : Env} {R : Room} {s : State} {m : MethodId} {args : Array Value} {below : List Frame} {meth : Method} {c : Code} {D : va_G} {dA : Nat → ClassId} {b0 n0 m0 nE mE : Nat} {Q : State → Prop}
def F_X8_endOf_L9 (jx0 : Int) : Nat → Int → Int → Hp → Option (Int × Hp)
  | 0, _, _, _ => none
  | n + 1, jx2, jx3, σ => (rd 9 σ jx0 1).bind fun jv3 => bLt jx3 jv3 ((rd 9 σ jx0 7).bind fun jv4 => (ar 11 σ jv4 jx3).bind fun jv5 => (rd 9 σ jx0 16).bind fun jv6 => (ar 11 σ jv6 jx3).bind fun jv7 => nm ((jx2 + (jv5 * jv7))) fun jv8 => (F_X8_endOf_L9 jx0 n) jv8 (jx3 + 1) σ) (some (jx2, σ))
theorem M_X8_endOf_L9 (jx0 : Int) : ∀ (n : Nat) (jx2 : Int) (jx3 : Int) (σ : Hp), Mn σ (F_X8_endOf_L9 jx0 n jx2 jx3 σ) := by
  intro n
  induction n with
  | zero => intros; rw [F_X8_endOf_L9]; exact Mn_none
  | succ n hk9 =>
    intros
    rw [F_X8_endOf_L9]
    repeat' first | exact Mn_ret | exact Mn_rz | exact hk9 _ _  _ | refine Mn_nm (fun _ => ?_) | refine Mn_nab (fun _ _ => ?_) | refine Mn_nwb (fun _ _ => ?_) | refine Mn_pw (fun _ => ?_) | refine Mn_pz (fun _ => ?_) | refine Mn_aw (fun _ => ?_) | refine Mn_az (fun _ => ?_) | refine Mn_aq (fun _ => ?_) | refine Mn_bo (fun _ => ?_) | refine Mn_bd ?_ (fun _ _ => ?_) | refine Mn_iv ?_ | refine Mn_bLt ?_ ?_ | refine Mn_bLe ?_ ?_ | refine Mn_bEq ?_ ?_ | refine Mn_bN ?_ ?_ | refine Mn_g3 ?_ | refine Mn_g33 ?_ | refine Mn_g66 ?_ | refine Mn_gD ?_
set_option maxRecDepth 100000 in
set_option maxHeartbeats 4000000 in
theorem T_X8_endOf_L9 {r : Int} {σE : Hp} (hX : Cx p R s m args meth c D dA b0 n0 m0 4 nE mE cX8_endOf RX8 1 23) (hR : Rx meth (some .int)) (hnm : meth.name = yX8_endOf.name) (hQ : Q = Qm D dA b0 n0 m0 below args s (some (pV 0 r)) σE) (hE : nE = σE.1 ∧ mE = σE.2.1) (jx0 : Int) : ∀ (n : Nat) (jx2 : Int) (jx3 : Int) (σ : Hp), F_X8_endOf_L9 jx0 n jx2 jx3 σ = some (r, σE) → G p l e R s m args below meth c D dA b0 n0 m0 4 nE mE Q 9 [(0, 2, jx0), (2, 0, jx2), (3, 0, jx3)] [] σ := by
  intro n
  induction n with
  | zero =>
    intro jx2 jx3 σ hF
    rw [F_X8_endOf_L9] at hF
    cases hF
  | succ n hk9 =>
    intro jx2 jx3 σ hF
    rw [F_X8_endOf_L9] at hF
    refine g_iload_n hX 2 dX8_endOf_9 rfl rfl ?_
    refine g_aload_n hX 0 dX8_endOf_10 rfl rfl ?_
    refine g_get hX fl_X8_119 (by decide) (by decide) dX8_endOf_11 hF (fun jv3 hF => ?_)
    refine g_icmp_ge (tgt := 39) hX dX8_endOf_14 (by decide) hF (fun hc hF => ?_) (fun hc hF => ?_)
    · refine g_iload_n hX 1 dX8_endOf_17 rfl rfl ?_
      refine g_aload_n hX 0 dX8_endOf_18 rfl rfl ?_
      refine g_get hX fl_X8_29 (by decide) (by decide) dX8_endOf_19 hF (fun jv4 hF => ?_)
      refine g_iload_n hX 2 dX8_endOf_22 rfl rfl ?_
      refine g_iald hX dX8_endOf_23 hF (fun jv5 hF => ?_)
      refine g_aload_n hX 0 dX8_endOf_24 rfl rfl ?_
      refine g_get hX fl_X8_56 (by decide) (by decide) dX8_endOf_25 hF (fun jv6 hF => ?_)
      refine g_iload_n hX 2 dX8_endOf_28 rfl rfl ?_
      refine g_iald hX dX8_endOf_29 hF (fun jv7 hF => ?_)
      refine g_imul hX dX8_endOf_30 ?_
      refine g_iadd hX dX8_endOf_31 ?_
      refine g_nm hF (fun jv8 hF => ?_)
      refine g_istore_n (lv' := [(2, 0, jv8), (0, 2, jx0), (3, 0, jx3)]) hX dX8_endOf_32 rfl (by decide) rfl ?_
      refine g_iinc (lv' := [(3, 0, (jx3 + 1)), (2, 0, jv8), (0, 2, jx0)]) hX 2 dX8_endOf_33 rfl (by decide) rfl ?_
      refine g_goto (tgt := 9) hX dX8_endOf_36 (by decide) ?_
      refine g_lvp (lv' := [(0, 2, jx0), (2, 0, jv8), (3, 0, (jx3 + 1))]) [2, 1, 0] rfl ?_
      exact hk9 jv8 (jx3 + 1) σ hF
    · refine g_iload_n hX 1 dX8_endOf_39 rfl rfl ?_
      exact g_iret hX hR hQ hE dX8_endOf_40 hF
def F_X8_endOf (jx0 : Int) (jx1 : Int) (σ : Hp) : Option (Int × Hp) :=
  bd (iv 9 σ jx0 (F_X8_unfold  jx0 jx1 σ)) fun jv1 σ2 => F_X8_endOf_L9 jx0 fu 0 0 σ2
theorem M_X8_endOf (jx0 : Int) (jx1 : Int) (σ : Hp) : Mn σ (F_X8_endOf jx0 jx1 σ) := by
  unfold F_X8_endOf
  repeat' first | exact Mn_ret | exact Mn_rz | exact M_X8_unfold _ _ _ | exact M_X8_endOf_L9 _ _ _ _ _ | refine Mn_nm (fun _ => ?_) | refine Mn_nab (fun _ _ => ?_) | refine Mn_nwb (fun _ _ => ?_) | refine Mn_pw (fun _ => ?_) | refine Mn_pz (fun _ => ?_) | refine Mn_aw (fun _ => ?_) | refine Mn_az (fun _ => ?_) | refine Mn_aq (fun _ => ?_) | refine Mn_bo (fun _ => ?_) | refine Mn_bd ?_ (fun _ _ => ?_) | refine Mn_iv ?_ | refine Mn_bLt ?_ ?_ | refine Mn_bLe ?_ ?_ | refine Mn_bEq ?_ ?_ | refine Mn_bN ?_ ?_ | refine Mn_g3 ?_ | refine Mn_g33 ?_ | refine Mn_g66 ?_ | refine Mn_gD ?_
set_option maxRecDepth 100000 in
set_option maxHeartbeats 4000000 in
theorem T_X8_endOf (l : Launch) (D : va_G) (dA : Nat → ClassId) (b0 : Nat) (jx0 : Int) (jx1 : Int) (σ σE : Hp) (r : Int) (hF : F_X8_endOf jx0 jx1 σ = some (r, σE)) : Ct l D dA b0 yX8_endOf cX8_endOf 4 (some .int) 1 23 [(2, jx0), (0, jx1)] σ (some (pV 0 r)) σE := by
  refine Ct.of (lv0 := [(0, 2, jx0), (1, 0, jx1)]) (by decide) RX8 rfl (Nat.le_of_ble_eq_true rfl) rfl ?_ (M_X8_endOf jx0 jx1 σ r σE hF)
  intro p e R s m args below meth c hX hR hnm
  obtain ⟨Q, hQ⟩ : ∃ Q, Q = Qm D dA b0 σ.1 σ.2.1 below args s (some (pV 0 r)) σE := ⟨_, rfl⟩
  rw [← hQ]
  have hE : σE.1 = σE.1 ∧ σE.2.1 = σE.2.1 := ⟨rfl, rfl⟩
  unfold F_X8_endOf at hF
  refine g_aload_n hX 0 dX8_endOf_0 rfl rfl ?_
  refine g_iload_n hX 1 dX8_endOf_1 rfl rfl ?_
  refine g_callVv (ci := 8) (rest := []) [(0, jx1)] hX cw_X8_164 rfl (by decide) (by decide) (fun r σ1 h => T_X8_unfold l D dA b0  jx0 jx1 σ σ1 r h) ⟨by decide, by decide⟩ rfl rfl (Nat.le_of_ble_eq_true rfl) dX8_endOf_2 hF (fun jv1 σ2 hF => ?_)
  refine g_iconst hX dX8_endOf_5 ?_
  refine g_istore_n (lv' := [(2, 0, 0), (0, 2, jx0), (1, 0, jx1)]) hX dX8_endOf_6 rfl (by decide) rfl ?_
  refine g_iconst hX dX8_endOf_7 ?_
  refine g_istore_n (lv' := [(3, 0, 0), (2, 0, 0), (0, 2, jx0), (1, 0, jx1)]) hX dX8_endOf_8 rfl (by decide) rfl ?_
  refine g_lvp (lv' := [(0, 2, jx0), (2, 0, 0), (3, 0, 0)]) [2, 1, 0] rfl ?_
  exact T_X8_endOf_L9 hX hR hnm hQ hE jx0  fu 0 0 σ2 hF
end
