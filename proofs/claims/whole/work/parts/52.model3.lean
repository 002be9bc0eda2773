section
variable {p : Program} {l : Launch} {e : Env} {R : Room} {s : State} {m : MethodId} {args : Array Value} {below : List Frame} {meth : Method} {c : Code} {D : va_G} {dA : Nat → ClassId} {b0 n0 m0 nE mE : Nat} {Q : State → Prop}
def F_X8_walk_B226 (k2 : Int → Hp → Option (Int × Hp)) (jx0 : Int) (jx1 : Int) (jx2 : Int) (jx3 : Int) (σ : Hp) : Option (Int × Hp) :=
  k2 (jx3 + 1) σ
theorem M_X8_walk_B226 (k2 : Int → Hp → Option (Int × Hp)) (hk2 : ∀ (jx3 : Int) (σ : Hp), Mn σ (k2 jx3 σ)) (jx0 : Int) (jx1 : Int) (jx2 : Int) (jx3 : Int) (σ : Hp) : Mn σ (F_X8_walk_B226 k2 jx0 jx1 jx2 jx3 σ) := by
  unfold F_X8_walk_B226
  repeat' first | exact Mn_ret | exact Mn_rz | exact hk2 _  _ | refine Mn_nm (fun _ => ?_) | refine Mn_nab (fun _ _ => ?_) | refine Mn_nwb (fun _ _ => ?_) | refine Mn_pw (fun _ => ?_) | refine Mn_pz (fun _ => ?_) | refine Mn_aw (fun _ => ?_) | refine Mn_az (fun _ => ?_) | refine Mn_aq (fun _ => ?_) | refine Mn_bo (fun _ => ?_) | refine Mn_bd ?_ (fun _ _ => ?_) | refine Mn_iv ?_ | refine Mn_bLt ?_ ?_ | refine Mn_bLe ?_ ?_ | refine Mn_bEq ?_ ?_ | refine Mn_bN ?_ ?_ | refine Mn_g3 ?_ | refine Mn_g33 ?_ | refine Mn_g66 ?_ | refine Mn_gD ?_
set_option maxRecDepth 100000 in
set_option maxHeartbeats 4000000 in
theorem T_X8_walk_B226 {r : Int} {σE : Hp} (hX : Cx p R s m args meth c D dA b0 n0 m0 5 nE mE cX8_walk RX8 3 66) (hR : Rx meth none) (hnm : meth.name = yX8_walk.name) (hQ : Q = Qm D dA b0 n0 m0 below args s none σE) (hE : nE = σE.1 ∧ mE = σE.2.1) (k2 : Int → Hp → Option (Int × Hp)) (jx0 : Int) (jx1 : Int) (jx2 : Int) (jx3 : Int) (hk2 : ∀ (jx3 : Int) (σ : Hp), k2 jx3 σ = some (r, σE) → G p l e R s m args below meth c D dA b0 n0 m0 5 nE mE Q 2 [(0, 2, jx0), (1, 0, jx1), (2, 0, jx2), (3, 0, jx3)] [] σ) (σ : Hp) (hF : F_X8_walk_B226 k2 jx0 jx1 jx2 jx3 σ = some (r, σE)) : G p l e R s m args below meth c D dA b0 n0 m0 5 nE mE Q 226 [(0, 2, jx0), (1, 0, jx1), (2, 0, jx2), (3, 0, jx3)] [] σ := by
  unfold F_X8_walk_B226 at hF
  refine g_iinc (lv' := [(3, 0, (jx3 + 1)), (0, 2, jx0), (1, 0, jx1), (2, 0, jx2)]) hX 3 dX8_walk_226 rfl (by decide) rfl ?_
  refine g_goto (tgt := 2) hX dX8_walk_229 (by decide) ?_
  refine g_lvp (lv' := [(0, 2, jx0), (1, 0, jx1), (2, 0, jx2), (3, 0, (jx3 + 1))]) [1, 2, 3, 0] rfl ?_
  exact hk2 (jx3 + 1) σ hF
def F_X8_walk_B219 (k2 : Int → Hp → Option (Int × Hp)) (k174 : Int → Hp → Option (Int × Hp)) (jx0 : Int) (jx1 : Int) (jx2 : Int) (jx3 : Int) (jx4 : Int) (js0 : Int) (js1 : Int) (js2 : Int) (σ : Hp) : Option (Int × Hp) :=
  (az 13 σ js2 js1 js0).bind fun σ52 => k174 (jx4 + 1) σ52
theorem M_X8_walk_B219 (k2 : Int → Hp → Option (Int × Hp)) (k174 : Int → Hp → Option (Int × Hp)) (hk2 : ∀ (jx3 : Int) (σ : Hp), Mn σ (k2 jx3 σ)) (hk174 : ∀ (jx4 : Int) (σ : Hp), Mn σ (k174 jx4 σ)) (jx0 : Int) (jx1 : Int) (jx2 : Int) (jx3 : Int) (jx4 : Int) (js0 : Int) (js1 : Int) (js2 : Int) (σ : Hp) : Mn σ (F_X8_walk_B219 k2 k174 jx0 jx1 jx2 jx3 jx4 js0 js1 js2 σ) := by
  unfold F_X8_walk_B219
  repeat' first | exact Mn_ret | exact Mn_rz | exact hk2 _  _ | exact hk174 _  _ | refine Mn_nm (fun _ => ?_) | refine Mn_nab (fun _ _ => ?_) | refine Mn_nwb (fun _ _ => ?_) | refine Mn_pw (fun _ => ?_) | refine Mn_pz (fun _ => ?_) | refine Mn_aw (fun _ => ?_) | refine Mn_az (fun _ => ?_) | refine Mn_aq (fun _ => ?_) | refine Mn_bo (fun _ => ?_) | refine Mn_bd ?_ (fun _ _ => ?_) | refine Mn_iv ?_ | refine Mn_bLt ?_ ?_ | refine Mn_bLe ?_ ?_ | refine Mn_bEq ?_ ?_ | refine Mn_bN ?_ ?_ | refine Mn_g3 ?_ | refine Mn_g33 ?_ | refine Mn_g66 ?_ | refine Mn_gD ?_
set_option maxRecDepth 100000 in
set_option maxHeartbeats 4000000 in
theorem T_X8_walk_B219 {r : Int} {σE : Hp} (hX : Cx p R s m args meth c D dA b0 n0 m0 5 nE mE cX8_walk RX8 3 66) (hR : Rx meth none) (hnm : meth.name = yX8_walk.name) (hQ : Q = Qm D dA b0 n0 m0 below args s none σE) (hE : nE = σE.1 ∧ mE = σE.2.1) (k2 : Int → Hp → Option (Int × Hp)) (k174 : Int → Hp → Option (Int × Hp)) (jx0 : Int) (jx1 : Int) (jx2 : Int) (jx3 : Int) (jx4 : Int) (js0 : Int) (js1 : Int) (js2 : Int) (hk2 : ∀ (jx3 : Int) (σ : Hp), k2 jx3 σ = some (r, σE) → G p l e R s m args below meth c D dA b0 n0 m0 5 nE mE Q 2 [(0, 2, jx0), (1, 0, jx1), (2, 0, jx2), (3, 0, jx3)] [] σ) (hk174 : ∀ (jx4 : Int) (σ : Hp), k174 jx4 σ = some (r, σE) → G p l e R s m args below meth c D dA b0 n0 m0 5 nE mE Q 174 [(0, 2, jx0), (1, 0, jx1), (2, 0, jx2), (3, 0, jx3), (4, 0, jx4)] [] σ) (σ : Hp) (hF : F_X8_walk_B219 k2 k174 jx0 jx1 jx2 jx3 jx4 js0 js1 js2 σ = some (r, σE)) : G p l e R s m args below meth c D dA b0 n0 m0 5 nE mE Q 219 [(0, 2, jx0), (1, 0, jx1), (2, 0, jx2), (3, 0, jx3), (4, 0, jx4)] [(0, js0), (0, js1), (2, js2)] σ := by
  unfold F_X8_walk_B219 at hF
  refine u_zast hX dX8_walk_219 hF (fun σ52 hF => ?_)
  refine g_iinc (lv' := [(4, 0, (jx4 + 1)), (0, 2, jx0), (1, 0, jx1), (2, 0, jx2), (3, 0, jx3)]) hX 4 dX8_walk_220 rfl (by decide) rfl ?_
  refine g_goto (tgt := 174) hX dX8_walk_223 (by decide) ?_
  refine g_lvp (lv' := [(0, 2, jx0), (1, 0, jx1), (2, 0, jx2), (3, 0, jx3), (4, 0, (jx4 + 1))]) [1, 2, 3, 4, 0] rfl ?_
  exact hk174 (jx4 + 1) σ52 hF
def F_X8_walk_B214 (k2 : Int → Hp → Option (Int × Hp)) (k174 : Int → Hp → Option (Int × Hp)) (jx0 : Int) (jx1 : Int) (jx2 : Int) (jx3 : Int) (jx4 : Int) (js0 : Int) (js1 : Int) (σ : Hp) : Option (Int × Hp) :=
  F_X8_walk_B219 k2 k174 jx0 jx1 jx2 jx3 jx4 1 js0 js1 σ
theorem M_X8_walk_B214 (k2 : Int → Hp → Option (Int × Hp)) (k174 : Int → Hp → Option (Int × Hp)) (hk2 : ∀ (jx3 : Int) (σ : Hp), Mn σ (k2 jx3 σ)) (hk174 : ∀ (jx4 : Int) (σ : Hp), Mn σ (k174 jx4 σ)) (jx0 : Int) (jx1 : Int) (jx2 : Int) (jx3 : Int) (jx4 : Int) (js0 : Int) (js1 : Int) (σ : Hp) : Mn σ (F_X8_walk_B214 k2 k174 jx0 jx1 jx2 jx3 jx4 js0 js1 σ) := by
  unfold F_X8_walk_B214
  repeat' first | exact Mn_ret | exact Mn_rz | exact hk2 _  _ | exact hk174 _  _ | exact M_X8_walk_B219 k2 k174 hk2 hk174 _ _ _ _ _ _ _ _ _ | refine Mn_nm (fun _ => ?_) | refine Mn_nab (fun _ _ => ?_) | refine Mn_nwb (fun _ _ => ?_) | refine Mn_pw (fun _ => ?_) | refine Mn_pz (fun _ => ?_) | refine Mn_aw (fun _ => ?_) | refine Mn_az (fun _ => ?_) | refine Mn_aq (fun _ => ?_) | refine Mn_bo (fun _ => ?_) | refine Mn_bd ?_ (fun _ _ => ?_) | refine Mn_iv ?_ | refine Mn_bLt ?_ ?_ | refine Mn_bLe ?_ ?_ | refine Mn_bEq ?_ ?_ | refine Mn_bN ?_ ?_ | refine Mn_g3 ?_ | refine Mn_g33 ?_ | refine Mn_g66 ?_ | refine Mn_gD ?_
set_option maxRecDepth 100000 in
set_option maxHeartbeats 4000000 in
theorem T_X8_walk_B214 {r : Int} {σE : Hp} (hX : Cx p R s m args meth c D dA b0 n0 m0 5 nE mE cX8_walk RX8 3 66) (hR : Rx meth none) (hnm : meth.name = yX8_walk.name) (hQ : Q = Qm D dA b0 n0 m0 below args s none σE) (hE : nE = σE.1 ∧ mE = σE.2.1) (k2 : Int → Hp → Option (Int × Hp)) (k174 : Int → Hp → Option (Int × Hp)) (jx0 : Int) (jx1 : Int) (jx2 : Int) (jx3 : Int) (jx4 : Int) (js0 : Int) (js1 : Int) (hk2 : ∀ (jx3 : Int) (σ : Hp), k2 jx3 σ = some (r, σE) → G p l e R s m args below meth c D dA b0 n0 m0 5 nE mE Q 2 [(0, 2, jx0), (1, 0, jx1), (2, 0, jx2), (3, 0, jx3)] [] σ) (hk174 : ∀ (jx4 : Int) (σ : Hp), k174 jx4 σ = some (r, σE) → G p l e R s m args below meth c D dA b0 n0 m0 5 nE mE Q 174 [(0, 2, jx0), (1, 0, jx1), (2, 0, jx2), (3, 0, jx3), (4, 0, jx4)] [] σ) (σ : Hp) (hF : F_X8_walk_B214 k2 k174 jx0 jx1 jx2 jx3 jx4 js0 js1 σ = some (r, σE)) : G p l e R s m args below meth c D dA b0 n0 m0 5 nE mE Q 214 [(0, 2, jx0), (1, 0, jx1), (2, 0, jx2), (3, 0, jx3), (4, 0, jx4)] [(0, js0), (2, js1)] σ := by
  unfold F_X8_walk_B214 at hF
  refine g_iconst hX dX8_walk_214 ?_
  refine g_goto (tgt := 219) hX dX8_walk_215 (by decide) ?_
  exact T_X8_walk_B219 hX hR hnm hQ hE k2 k174 jx0 jx1 jx2 jx3 jx4 1 js0 js1 hk2 hk174  σ hF
def F_X8_walk_L174 (k2 : Int → Hp → Option (Int × Hp)) (jx0 : Int) (jx1 : Int) (jx2 : Int) (jx3 : Int) : Nat → Int → Hp → Option (Int × Hp)
  | 0, _, _ => none
  | n + 1, jx4, σ => (rd 9 σ jx0 1).bind fun jv44 => bLt jx4 jv44 ((rd 9 σ jx0 29).bind fun jv45 => (rd 9 σ jx0 29).bind fun jv46 => (ar 13 σ jv46 jx3).bind fun jv47 => bEq jv47 0 ((rd 9 σ jx0 16).bind fun jv48 => (ar 11 σ jv48 jx4).bind fun jv49 => (rd 9 σ jx0 2).bind fun jv50 => (ar 11 σ jv50 jx4).bind fun jv51 => bLt jv49 jv51 (F_X8_walk_B214 k2 (F_X8_walk_L174 k2 jx0 jx1 jx2 jx3 n) jx0 jx1 jx2 jx3 jx4 jx3 jv45 σ) (F_X8_walk_B219 k2 (F_X8_walk_L174 k2 jx0 jx1 jx2 jx3 n) jx0 jx1 jx2 jx3 jx4 0 jx3 jv45 σ)) (F_X8_walk_B214 k2 (F_X8_walk_L174 k2 jx0 jx1 jx2 jx3 n) jx0 jx1 jx2 jx3 jx4 jx3 jv45 σ)) (F_X8_walk_B226 k2 jx0 jx1 jx2 jx3  σ)
theorem M_X8_walk_L174 (k2 : Int → Hp → Option (Int × Hp)) (hk2 : ∀ (jx3 : Int) (σ : Hp), Mn σ (k2 jx3 σ)) (jx0 : Int) (jx1 : Int) (jx2 : Int) (jx3 : Int) : ∀ (n : Nat) (jx4 : Int) (σ : Hp), Mn σ (F_X8_walk_L174 k2 jx0 jx1 jx2 jx3 n jx4 σ) := by
  intro n
  induction n with
  | zero => intros; rw [F_X8_walk_L174]; exact Mn_none
  | succ n hk174 =>
    intros
    rw [F_X8_walk_L174]
    repeat' first | exact Mn_ret | exact Mn_rz | exact hk2 _  _ | exact hk174 _  _ | exact M_X8_walk_B214 k2 (F_X8_walk_L174 k2 jx0 jx1 jx2 jx3 n) hk2 hk174 _ _ _ _ _ _ _ _ | exact M_X8_walk_B219 k2 (F_X8_walk_L174 k2 jx0 jx1 jx2 jx3 n) hk2 hk174 _ _ _ _ _ _ _ _ _ | exact M_X8_walk_B226 k2 hk2 _ _ _ _  _ | refine Mn_nm (fun _ => ?_) | refine Mn_nab (fun _ _ => ?_) | refine Mn_nwb (fun _ _ => ?_) | refine Mn_pw (fun _ => ?_) | refine Mn_pz (fun _ => ?_) | refine Mn_aw (fun _ => ?_) | refine Mn_az (fun _ => ?_) | refine Mn_aq (fun _ => ?_) | refine Mn_bo (fun _ => ?_) | refine Mn_bd ?_ (fun _ _ => ?_) | refine Mn_iv ?_ | refine Mn_bLt ?_ ?_ | refine Mn_bLe ?_ ?_ | refine Mn_bEq ?_ ?_ | refine Mn_bN ?_ ?_ | refine Mn_g3 ?_ | refine Mn_g33 ?_ | refine Mn_g66 ?_ | refine Mn_gD ?_
set_option maxRecDepth 100000 in
set_option maxHeartbeats 4000000 in
theorem T_X8_walk_L174 {r : Int} {σE : Hp} (hX : Cx p R s m args meth c D dA b0 n0 m0 5 nE mE cX8_walk RX8 3 66) (hR : Rx meth none) (hnm : meth.name = yX8_walk.name) (hQ : Q = Qm D dA b0 n0 m0 below args s none σE) (hE : nE = σE.1 ∧ mE = σE.2.1) (k2 : Int → Hp → Option (Int × Hp)) (jx0 : Int) (jx1 : Int) (jx2 : Int) (jx3 : Int) (hk2 : ∀ (jx3 : Int) (σ : Hp), k2 jx3 σ = some (r, σE) → G p l e R s m args below meth c D dA b0 n0 m0 5 nE mE Q 2 [(0, 2, jx0), (1, 0, jx1), (2, 0, jx2), (3, 0, jx3)] [] σ) : ∀ (n : Nat) (jx4 : Int) (σ : Hp), F_X8_walk_L174 k2 jx0 jx1 jx2 jx3 n jx4 σ = some (r, σE) → G p l e R s m args below meth c D dA b0 n0 m0 5 nE mE Q 174 [(0, 2, jx0), (1, 0, jx1), (2, 0, jx2), (3, 0, jx3), (4, 0, jx4)] [] σ := by
  intro n
  induction n with
  | zero =>
    intro jx4 σ hF
    rw [F_X8_walk_L174] at hF
    cases hF
  | succ n hk174 =>
    intro jx4 σ hF
    rw [F_X8_walk_L174] at hF
    refine g_iload hX 4 dX8_walk_174 rfl ?_
    refine g_aload_n hX 0 dX8_walk_176 rfl rfl ?_
    refine g_get hX fl_X8_119 (by decide) (by decide) dX8_walk_177 hF (fun jv44 hF => ?_)
    refine g_icmp_ge (tgt := 226) hX dX8_walk_180 (by decide) hF (fun hc hF => ?_) (fun hc hF => ?_)
    · refine g_aload_n hX 0 dX8_walk_183 rfl rfl ?_
      refine g_get hX fl_X8_92 (by decide) (by decide) dX8_walk_184 hF (fun jv45 hF => ?_)
      refine g_iload_n hX 3 dX8_walk_187 rfl rfl ?_
      refine g_aload_n hX 0 dX8_walk_188 rfl rfl ?_
      refine g_get hX fl_X8_92 (by decide) (by decide) dX8_walk_189 hF (fun jv46 hF => ?_)
      refine g_iload_n hX 3 dX8_walk_192 rfl rfl ?_
      refine g_zald hX dX8_walk_193 hF (fun jv47 hF => ?_)
      refine g_if_ne (tgt := 214) hX dX8_walk_194 (by decide) hF (fun hc hF => ?_) (fun hc hF => ?_)
      · refine g_aload_n hX 0 dX8_walk_197 rfl rfl ?_
        refine g_get hX fl_X8_56 (by decide) (by decide) dX8_walk_198 hF (fun jv48 hF => ?_)
        refine g_iload hX 4 dX8_walk_201 rfl ?_
        refine g_iald hX dX8_walk_203 hF (fun jv49 hF => ?_)
        refine g_aload_n hX 0 dX8_walk_204 rfl rfl ?_
        refine g_get hX fl_X8_13 (by decide) (by decide) dX8_walk_205 hF (fun jv50 hF => ?_)
        refine g_iload hX 4 dX8_walk_208 rfl ?_
        refine g_iald hX dX8_walk_210 hF (fun jv51 hF => ?_)
        refine g_icmp_ge (tgt := 218) hX dX8_walk_211 (by decide) hF (fun hc hF => ?_) (fun hc hF => ?_)
        · exact T_X8_walk_B214 hX hR hnm hQ hE k2 (F_X8_walk_L174 k2 jx0 jx1 jx2 jx3 n) jx0 jx1 jx2 jx3 jx4 jx3 jv45 hk2 hk174  σ hF
        · refine g_iconst hX dX8_walk_218 ?_
          exact T_X8_walk_B219 hX hR hnm hQ hE k2 (F_X8_walk_L174 k2 jx0 jx1 jx2 jx3 n) jx0 jx1 jx2 jx3 jx4 0 jx3 jv45 hk2 hk174  σ hF
      · exact T_X8_walk_B214 hX hR hnm hQ hE k2 (F_X8_walk_L174 k2 jx0 jx1 jx2 jx3 n) jx0 jx1 jx2 jx3 jx4 jx3 jv45 hk2 hk174  σ hF
    · refine g_lvp (lv' := [(0, 2, jx0), (1, 0, jx1), (2, 0, jx2), (3, 0, jx3)]) [0, 1, 2, 3] rfl ?_
      exact T_X8_walk_B226 hX hR hnm hQ hE k2 jx0 jx1 jx2 jx3  hk2  σ hF
def F_X8_walk_B44 (k2 : Int → Hp → Option (Int × Hp)) (jx0 : Int) (jx1 : Int) (jx2 : Int) (jx3 : Int) (js0 : Int) (js1 : Int) (js2 : Int) (σ : Hp) : Option (Int × Hp) :=
  (az 13 σ js2 js1 js0).bind fun σ3 => (rd 9 σ3 jx0 26).bind fun jv4 => (ar 13 σ3 jv4 jx3).bind fun jv5 => bEq jv5 0 (F_X8_walk_B226 k2 jx0 jx1 jx2 jx3  σ3) (bEq jx3 jx1 ((rd 9 σ3 jx0 27).bind fun jv6 => (aw 11 σ3 jv6 jx3 jx2).bind fun σ7 => (rd 9 σ7 jx0 28).bind fun jv8 => (aw 11 σ7 jv8 jx3 0).bind fun σ9 => (rd 9 σ9 jx0 29).bind fun jv10 => (az 13 σ9 jv10 jx3 0).bind fun σ11 => F_X8_walk_B226 k2 jx0 jx1 jx2 jx3  σ11) ((rd 9 σ3 jx0 27).bind fun jv12 => (rd 9 σ3 jx0 12).bind fun jv13 => (ar 11 σ3 jv13 jx3).bind fun jv14 => (ar 11 σ3 jv12 jv14).bind fun jv15 => bd (iv 9 σ3 jx0 (F_X8_unfold  jx0 jv15 σ3)) fun jv16 σ17 => bd (iv 9 σ17 jx0 (F_X8_ruledLet  jx0  σ17)) fun jv18 σ19 => (rd 9 σ19 jx0 28).bind fun jv20 => (rd 9 σ19 jx0 28).bind fun jv21 => (rd 9 σ19 jx0 12).bind fun jv22 => (ar 11 σ19 jv22 jx3).bind fun jv23 => (ar 11 σ19 jv21 jv23).bind fun jv24 => (rd 9 σ19 jx0 14).bind fun jv25 => (ar 11 σ19 jv25 jx3).bind fun jv26 => bd (iv 9 σ19 jx0 (F_X8_earns  jx0 jv26 σ19)) fun jv27 σ28 => (aw 11 σ28 jv20 jx3 (jv24 + jv27)).bind fun σ29 => (rd 9 σ29 jx0 27).bind fun jv30 => bd (iv 9 σ29 jx0 (F_X8_comes  jx0 jx3 σ29)) fun jv31 σ32 => (aw 11 σ32 jv30 jx3 jv31).bind fun σ33 => (rd 9 σ33 jx0 27).bind fun jv34 => (ar 11 σ33 jv34 jx3).bind fun jv35 => bd (iv 9 σ33 jx0 (F_X8_unfold  jx0 jv35 σ33)) fun jv36 σ37 => (rd 9 σ37 jx0 29).bind fun jv38 => (rd 9 σ37 jx0 29).bind fun jv39 => (rd 9 σ37 jx0 12).bind fun jv40 => (ar 11 σ37 jv40 jx3).bind fun jv41 => (ar 13 σ37 jv39 jv41).bind fun jv42 => (az 13 σ37 jv38 jx3 jv42).bind fun σ43 => F_X8_walk_L174 k2 jx0 jx1 jx2 jx3 fu 0 σ43))
theorem M_X8_walk_B44 (k2 : Int → Hp → Option (Int × Hp)) (hk2 : ∀ (jx3 : Int) (σ : Hp), Mn σ (k2 jx3 σ)) (jx0 : Int) (jx1 : Int) (jx2 : Int) (jx3 : Int) (js0 : Int) (js1 : Int) (js2 : Int) (σ : Hp) : Mn σ (F_X8_walk_B44 k2 jx0 jx1 jx2 jx3 js0 js1 js2 σ) := by
  unfold F_X8_walk_B44
  repeat' first | exact Mn_ret | exact Mn_rz | exact hk2 _  _ | exact M_X8_walk_B226 k2 hk2 _ _ _ _  _ | exact M_X8_unfold _ _ _ | exact M_X8_ruledLet _ _ | exact M_X8_earns _ _ _ | exact M_X8_comes _ _ _ | exact M_X8_walk_L174 k2 hk2 _ _ _ _ _ _ _ | refine Mn_nm (fun _ => ?_) | refine Mn_nab (fun _ _ => ?_) | refine Mn_nwb (fun _ _ => ?_) | refine Mn_pw (fun _ => ?_) | refine Mn_pz (fun _ => ?_) | refine Mn_aw (fun _ => ?_) | refine Mn_az (fun _ => ?_) | refine Mn_aq (fun _ => ?_) | refine Mn_bo (fun _ => ?_) | refine Mn_bd ?_ (fun _ _ => ?_) | refine Mn_iv ?_ | refine Mn_bLt ?_ ?_ | refine Mn_bLe ?_ ?_ | refine Mn_bEq ?_ ?_ | refine Mn_bN ?_ ?_ | refine Mn_g3 ?_ | refine Mn_g33 ?_ | refine Mn_g66 ?_ | refine Mn_gD ?_
set_option maxRecDepth 100000 in
set_option maxHeartbeats 4000000 in
theorem T_X8_walk_B44 {r : Int} {σE : Hp} (hX : Cx p R s m args meth c D dA b0 n0 m0 5 nE mE cX8_walk RX8 3 66) (hR : Rx meth none) (hnm : meth.name = yX8_walk.name) (hQ : Q = Qm D dA b0 n0 m0 below args s none σE) (hE : nE = σE.1 ∧ mE = σE.2.1) (k2 : Int → Hp → Option (Int × Hp)) (jx0 : Int) (jx1 : Int) (jx2 : Int) (jx3 : Int) (js0 : Int) (js1 : Int) (js2 : Int) (hk2 : ∀ (jx3 : Int) (σ : Hp), k2 jx3 σ = some (r, σE) → G p l e R s m args below meth c D dA b0 n0 m0 5 nE mE Q 2 [(0, 2, jx0), (1, 0, jx1), (2, 0, jx2), (3, 0, jx3)] [] σ) (σ : Hp) (hF : F_X8_walk_B44 k2 jx0 jx1 jx2 jx3 js0 js1 js2 σ = some (r, σE)) : G p l e R s m args below meth c D dA b0 n0 m0 5 nE mE Q 44 [(0, 2, jx0), (1, 0, jx1), (2, 0, jx2), (3, 0, jx3)] [(0, js0), (0, js1), (2, js2)] σ := by
  unfold F_X8_walk_B44 at hF
  refine u_zast hX dX8_walk_44 hF (fun σ3 hF => ?_)
  refine g_aload_n hX 0 dX8_walk_45 rfl rfl ?_
  refine g_get hX fl_X8_83 (by decide) (by decide) dX8_walk_46 hF (fun jv4 hF => ?_)
  refine g_iload_n hX 3 dX8_walk_49 rfl rfl ?_
  refine g_zald hX dX8_walk_50 hF (fun jv5 hF => ?_)
  refine g_if_ne (tgt := 57) hX dX8_walk_51 (by decide) hF (fun hc hF => ?_) (fun hc hF => ?_)
  · refine g_goto (tgt := 226) hX dX8_walk_54 (by decide) ?_
    exact T_X8_walk_B226 hX hR hnm hQ hE k2 jx0 jx1 jx2 jx3  hk2  σ3 hF
  · refine g_iload_n hX 3 dX8_walk_57 rfl rfl ?_
    refine g_iload_n hX 1 dX8_walk_58 rfl rfl ?_
    refine g_icmp_ne (tgt := 86) hX dX8_walk_59 (by decide) hF (fun hc hF => ?_) (fun hc hF => ?_)
    · refine g_aload_n hX 0 dX8_walk_62 rfl rfl ?_
      refine g_get hX fl_X8_86 (by decide) (by decide) dX8_walk_63 hF (fun jv6 hF => ?_)
      refine g_iload_n hX 3 dX8_walk_66 rfl rfl ?_
      refine g_iload_n hX 2 dX8_walk_67 rfl rfl ?_
      refine u_iast hX dX8_walk_68 hF (fun σ7 hF => ?_)
      refine g_aload_n hX 0 dX8_walk_69 rfl rfl ?_
      refine g_get hX fl_X8_89 (by decide) (by decide) dX8_walk_70 hF (fun jv8 hF => ?_)
      refine g_iload_n hX 3 dX8_walk_73 rfl rfl ?_
      refine g_iconst hX dX8_walk_74 ?_
      refine u_iast hX dX8_walk_75 hF (fun σ9 hF => ?_)
      refine g_aload_n hX 0 dX8_walk_76 rfl rfl ?_
      refine g_get hX fl_X8_92 (by decide) (by decide) dX8_walk_77 hF (fun jv10 hF => ?_)
      refine g_iload_n hX 3 dX8_walk_80 rfl rfl ?_
      refine g_iconst hX dX8_walk_81 ?_
      refine u_zast hX dX8_walk_82 hF (fun σ11 hF => ?_)
      refine g_goto (tgt := 226) hX dX8_walk_83 (by decide) ?_
      exact T_X8_walk_B226 hX hR hnm hQ hE k2 jx0 jx1 jx2 jx3  hk2  σ11 hF
    · refine g_aload_n hX 0 dX8_walk_86 rfl rfl ?_
      refine g_aload_n hX 0 dX8_walk_87 rfl rfl ?_
      refine g_get hX fl_X8_86 (by decide) (by decide) dX8_walk_88 hF (fun jv12 hF => ?_)
      refine g_aload_n hX 0 dX8_walk_91 rfl rfl ?_
      refine g_get hX fl_X8_44 (by decide) (by decide) dX8_walk_92 hF (fun jv13 hF => ?_)
      refine g_iload_n hX 3 dX8_walk_95 rfl rfl ?_
      refine g_iald hX dX8_walk_96 hF (fun jv14 hF => ?_)
      refine g_iald hX dX8_walk_97 hF (fun jv15 hF => ?_)
      refine g_callVv (ci := 8) (rest := []) [(0, jv15)] hX cw_X8_164 rfl (by decide) (by decide) (fun r σ1 h => T_X8_unfold l D dA b0  jx0 jv15 σ3 σ1 r h) ⟨by decide, by decide⟩ rfl rfl (Nat.le_of_ble_eq_true rfl) dX8_walk_98 hF (fun jv16 σ17 hF => ?_)
      refine g_aload_n hX 0 dX8_walk_101 rfl rfl ?_
      refine g_callVv (ci := 8) (rest := []) [] hX cw_X8_215 rfl (by decide) (by decide) (fun r σ1 h => T_X8_ruledLet l D dA b0  jx0  σ17 σ1 r h) ⟨by decide, by decide⟩ rfl rfl (Nat.le_of_ble_eq_true rfl) dX8_walk_102 hF (fun jv18 σ19 hF => ?_)
      refine g_aload_n hX 0 dX8_walk_105 rfl rfl ?_
      refine g_get hX fl_X8_89 (by decide) (by decide) dX8_walk_106 hF (fun jv20 hF => ?_)
      refine g_iload_n hX 3 dX8_walk_109 rfl rfl ?_
      refine g_aload_n hX 0 dX8_walk_110 rfl rfl ?_
      refine g_get hX fl_X8_89 (by decide) (by decide) dX8_walk_111 hF (fun jv21 hF => ?_)
      refine g_aload_n hX 0 dX8_walk_114 rfl rfl ?_
      refine g_get hX fl_X8_44 (by decide) (by decide) dX8_walk_115 hF (fun jv22 hF => ?_)
      refine g_iload_n hX 3 dX8_walk_118 rfl rfl ?_
      refine g_iald hX dX8_walk_119 hF (fun jv23 hF => ?_)
      refine g_iald hX dX8_walk_120 hF (fun jv24 hF => ?_)
      refine g_aload_n hX 0 dX8_walk_121 rfl rfl ?_
      refine g_aload_n hX 0 dX8_walk_122 rfl rfl ?_
      refine g_get hX fl_X8_50 (by decide) (by decide) dX8_walk_123 hF (fun jv25 hF => ?_)
      refine g_iload_n hX 3 dX8_walk_126 rfl rfl ?_
      refine g_iald hX dX8_walk_127 hF (fun jv26 hF => ?_)
      refine g_callV (t := 0) (ci := 8) (rest := [(0, jv24), (0, jx3), (2, jv20)]) [(0, jv26)] hX cw_X8_191 rfl (by decide) (by decide) (fun r σ1 h => T_X8_earns l D dA b0  jx0 jv26 σ19 σ1 r h) ⟨by decide, by decide⟩ rfl rfl (Nat.le_of_ble_eq_true rfl) dX8_walk_128 hF (fun jv27 σ28 hF => ?_)
      refine g_iadd hX dX8_walk_131 ?_
      refine u_iast hX dX8_walk_132 hF (fun σ29 hF => ?_)
      refine g_aload_n hX 0 dX8_walk_133 rfl rfl ?_
      refine g_get hX fl_X8_86 (by decide) (by decide) dX8_walk_134 hF (fun jv30 hF => ?_)
      refine g_iload_n hX 3 dX8_walk_137 rfl rfl ?_
      refine g_aload_n hX 0 dX8_walk_138 rfl rfl ?_
      refine g_iload_n hX 3 dX8_walk_139 rfl rfl ?_
      refine g_callV (t := 0) (ci := 8) (rest := [(0, jx3), (2, jv30)]) [(0, jx3)] hX cw_X8_178 rfl (by decide) (by decide) (fun r σ1 h => T_X8_comes l D dA b0  jx0 jx3 σ29 σ1 r h) ⟨by decide, by decide⟩ rfl rfl (Nat.le_of_ble_eq_true rfl) dX8_walk_140 hF (fun jv31 σ32 hF => ?_)
      refine u_iast hX dX8_walk_143 hF (fun σ33 hF => ?_)
      refine g_aload_n hX 0 dX8_walk_144 rfl rfl ?_
      refine g_aload_n hX 0 dX8_walk_145 rfl rfl ?_
      refine g_get hX fl_X8_86 (by decide) (by decide) dX8_walk_146 hF (fun jv34 hF => ?_)
      refine g_iload_n hX 3 dX8_walk_149 rfl rfl ?_
      refine g_iald hX dX8_walk_150 hF (fun jv35 hF => ?_)
      refine g_callVv (ci := 8) (rest := []) [(0, jv35)] hX cw_X8_164 rfl (by decide) (by decide) (fun r σ1 h => T_X8_unfold l D dA b0  jx0 jv35 σ33 σ1 r h) ⟨by decide, by decide⟩ rfl rfl (Nat.le_of_ble_eq_true rfl) dX8_walk_151 hF (fun jv36 σ37 hF => ?_)
      refine g_aload_n hX 0 dX8_walk_154 rfl rfl ?_
      refine g_get hX fl_X8_92 (by decide) (by decide) dX8_walk_155 hF (fun jv38 hF => ?_)
      refine g_iload_n hX 3 dX8_walk_158 rfl rfl ?_
      refine g_aload_n hX 0 dX8_walk_159 rfl rfl ?_
      refine g_get hX fl_X8_92 (by decide) (by decide) dX8_walk_160 hF (fun jv39 hF => ?_)
      refine g_aload_n hX 0 dX8_walk_163 rfl rfl ?_
      refine g_get hX fl_X8_44 (by decide) (by decide) dX8_walk_164 hF (fun jv40 hF => ?_)
      refine g_iload_n hX 3 dX8_walk_167 rfl rfl ?_
      refine g_iald hX dX8_walk_168 hF (fun jv41 hF => ?_)
      refine g_zald hX dX8_walk_169 hF (fun jv42 hF => ?_)
      refine u_zast hX dX8_walk_170 hF (fun σ43 hF => ?_)
      refine g_iconst hX dX8_walk_171 ?_
      refine g_istore (lv' := [(4, 0, 0), (0, 2, jx0), (1, 0, jx1), (2, 0, jx2), (3, 0, jx3)]) hX dX8_walk_172 (by decide) rfl ?_
      refine g_lvp (lv' := [(0, 2, jx0), (1, 0, jx1), (2, 0, jx2), (3, 0, jx3), (4, 0, 0)]) [1, 2, 3, 4, 0] rfl ?_
      exact T_X8_walk_L174 hX hR hnm hQ hE k2 jx0 jx1 jx2 jx3 hk2  fu 0 σ43 hF
def F_X8_walk_B39 (k2 : Int → Hp → Option (Int × Hp)) (jx0 : Int) (jx1 : Int) (jx2 : Int) (jx3 : Int) (js0 : Int) (js1 : Int) (σ : Hp) : Option (Int × Hp) :=
  F_X8_walk_B44 k2 jx0 jx1 jx2 jx3 1 js0 js1 σ
theorem M_X8_walk_B39 (k2 : Int → Hp → Option (Int × Hp)) (hk2 : ∀ (jx3 : Int) (σ : Hp), Mn σ (k2 jx3 σ)) (jx0 : Int) (jx1 : Int) (jx2 : Int) (jx3 : Int) (js0 : Int) (js1 : Int) (σ : Hp) : Mn σ (F_X8_walk_B39 k2 jx0 jx1 jx2 jx3 js0 js1 σ) := by
  unfold F_X8_walk_B39
  repeat' first | exact Mn_ret | exact Mn_rz | exact hk2 _  _ | exact M_X8_walk_B44 k2 hk2 _ _ _ _ _ _ _ _ | refine Mn_nm (fun _ => ?_) | refine Mn_nab (fun _ _ => ?_) | refine Mn_nwb (fun _ _ => ?_) | refine Mn_pw (fun _ => ?_) | refine Mn_pz (fun _ => ?_) | refine Mn_aw (fun _ => ?_) | refine Mn_az (fun _ => ?_) | refine Mn_aq (fun _ => ?_) | refine Mn_bo (fun _ => ?_) | refine Mn_bd ?_ (fun _ _ => ?_) | refine Mn_iv ?_ | refine Mn_bLt ?_ ?_ | refine Mn_bLe ?_ ?_ | refine Mn_bEq ?_ ?_ | refine Mn_bN ?_ ?_ | refine Mn_g3 ?_ | refine Mn_g33 ?_ | refine Mn_g66 ?_ | refine Mn_gD ?_
set_option maxRecDepth 100000 in
set_option maxHeartbeats 4000000 in
theorem T_X8_walk_B39 {r : Int} {σE : Hp} (hX : Cx p R s m args meth c D dA b0 n0 m0 5 nE mE cX8_walk RX8 3 66) (hR : Rx meth none) (hnm : meth.name = yX8_walk.name) (hQ : Q = Qm D dA b0 n0 m0 below args s none σE) (hE : nE = σE.1 ∧ mE = σE.2.1) (k2 : Int → Hp → Option (Int × Hp)) (jx0 : Int) (jx1 : Int) (jx2 : Int) (jx3 : Int) (js0 : Int) (js1 : Int) (hk2 : ∀ (jx3 : Int) (σ : Hp), k2 jx3 σ = some (r, σE) → G p l e R s m args below meth c D dA b0 n0 m0 5 nE mE Q 2 [(0, 2, jx0), (1, 0, jx1), (2, 0, jx2), (3, 0, jx3)] [] σ) (σ : Hp) (hF : F_X8_walk_B39 k2 jx0 jx1 jx2 jx3 js0 js1 σ = some (r, σE)) : G p l e R s m args below meth c D dA b0 n0 m0 5 nE mE Q 39 [(0, 2, jx0), (1, 0, jx1), (2, 0, jx2), (3, 0, jx3)] [(0, js0), (2, js1)] σ := by
  unfold F_X8_walk_B39 at hF
  refine g_iconst hX dX8_walk_39 ?_
  refine g_goto (tgt := 44) hX dX8_walk_40 (by decide) ?_
  exact T_X8_walk_B44 hX hR hnm hQ hE k2 jx0 jx1 jx2 jx3 1 js0 js1 hk2  σ hF
def F_X8_walk_B43 (k2 : Int → Hp → Option (Int × Hp)) (jx0 : Int) (jx1 : Int) (jx2 : Int) (jx3 : Int) (js0 : Int) (js1 : Int) (σ : Hp) : Option (Int × Hp) :=
  F_X8_walk_B44 k2 jx0 jx1 jx2 jx3 0 js0 js1 σ
theorem M_X8_walk_B43 (k2 : Int → Hp → Option (Int × Hp)) (hk2 : ∀ (jx3 : Int) (σ : Hp), Mn σ (k2 jx3 σ)) (jx0 : Int) (jx1 : Int) (jx2 : Int) (jx3 : Int) (js0 : Int) (js1 : Int) (σ : Hp) : Mn σ (F_X8_walk_B43 k2 jx0 jx1 jx2 jx3 js0 js1 σ) := by
  unfold F_X8_walk_B43
  repeat' first | exact Mn_ret | exact Mn_rz | exact hk2 _  _ | exact M_X8_walk_B44 k2 hk2 _ _ _ _ _ _ _ _ | refine Mn_nm (fun _ => ?_) | refine Mn_nab (fun _ _ => ?_) | refine Mn_nwb (fun _ _ => ?_) | refine Mn_pw (fun _ => ?_) | refine Mn_pz (fun _ => ?_) | refine Mn_aw (fun _ => ?_) | refine Mn_az (fun _ => ?_) | refine Mn_aq (fun _ => ?_) | refine Mn_bo (fun _ => ?_) | refine Mn_bd ?_ (fun _ _ => ?_) | refine Mn_iv ?_ | refine Mn_bLt ?_ ?_ | refine Mn_bLe ?_ ?_ | refine Mn_bEq ?_ ?_ | refine Mn_bN ?_ ?_ | refine Mn_g3 ?_ | refine Mn_g33 ?_ | refine Mn_g66 ?_ | refine Mn_gD ?_
set_option maxRecDepth 100000 in
set_option maxHeartbeats 4000000 in
theorem T_X8_walk_B43 {r : Int} {σE : Hp} (hX : Cx p R s m args meth c D dA b0 n0 m0 5 nE mE cX8_walk RX8 3 66) (hR : Rx meth none) (hnm : meth.name = yX8_walk.name) (hQ : Q = Qm D dA b0 n0 m0 below args s none σE) (hE : nE = σE.1 ∧ mE = σE.2.1) (k2 : Int → Hp → Option (Int × Hp)) (jx0 : Int) (jx1 : Int) (jx2 : Int) (jx3 : Int) (js0 : Int) (js1 : Int) (hk2 : ∀ (jx3 : Int) (σ : Hp), k2 jx3 σ = some (r, σE) → G p l e R s m args below meth c D dA b0 n0 m0 5 nE mE Q 2 [(0, 2, jx0), (1, 0, jx1), (2, 0, jx2), (3, 0, jx3)] [] σ) (σ : Hp) (hF : F_X8_walk_B43 k2 jx0 jx1 jx2 jx3 js0 js1 σ = some (r, σE)) : G p l e R s m args below meth c D dA b0 n0 m0 5 nE mE Q 43 [(0, 2, jx0), (1, 0, jx1), (2, 0, jx2), (3, 0, jx3)] [(0, js0), (2, js1)] σ := by
  unfold F_X8_walk_B43 at hF
  refine g_iconst hX dX8_walk_43 ?_
  exact T_X8_walk_B44 hX hR hnm hQ hE k2 jx0 jx1 jx2 jx3 0 js0 js1 hk2  σ hF
def F_X8_walk_L283 (jx0 : Int) (jx1 : Int) : Nat → Int → Hp → Option (Int × Hp)
  | 0, _, _ => none
  | n + 1, jx3, σ => bLe jx3 jx1 (some (0, σ)) ((rd 9 σ jx0 31).bind fun jv59 => (rd 9 σ jx0 12).bind fun jv60 => (ar 11 σ jv60 jx3).bind fun jv61 => (ar 11 σ jv59 jv61).bind fun jv62 => (rd 9 σ jx0 31).bind fun jv63 => (ar 11 σ jv63 jx3).bind fun jv64 => (aw 11 σ jv59 jv61 (jv62 + jv64)).bind fun σ65 => (F_X8_walk_L283 jx0 jx1 n) (jx3 + (-1)) σ65)
theorem M_X8_walk_L283 (jx0 : Int) (jx1 : Int) : ∀ (n : Nat) (jx3 : Int) (σ : Hp), Mn σ (F_X8_walk_L283 jx0 jx1 n jx3 σ) := by
  intro n
  induction n with
  | zero => intros; rw [F_X8_walk_L283]; exact Mn_none
  | succ n hk283 =>
    intros
    rw [F_X8_walk_L283]
    repeat' first | exact Mn_ret | exact Mn_rz | exact hk283 _  _ | refine Mn_nm (fun _ => ?_) | refine Mn_nab (fun _ _ => ?_) | refine Mn_nwb (fun _ _ => ?_) | refine Mn_pw (fun _ => ?_) | refine Mn_pz (fun _ => ?_) | refine Mn_aw (fun _ => ?_) | refine Mn_az (fun _ => ?_) | refine Mn_aq (fun _ => ?_) | refine Mn_bo (fun _ => ?_) | refine Mn_bd ?_ (fun _ _ => ?_) | refine Mn_iv ?_ | refine Mn_bLt ?_ ?_ | refine Mn_bLe ?_ ?_ | refine Mn_bEq ?_ ?_ | refine Mn_bN ?_ ?_ | refine Mn_g3 ?_ | refine Mn_g33 ?_ | refine Mn_g66 ?_ | refine Mn_gD ?_
set_option maxRecDepth 100000 in
set_option maxHeartbeats 4000000 in
theorem T_X8_walk_L283 {r : Int} {σE : Hp} (hX : Cx p R s m args meth c D dA b0 n0 m0 5 nE mE cX8_walk RX8 3 66) (hR : Rx meth none) (hnm : meth.name = yX8_walk.name) (hQ : Q = Qm D dA b0 n0 m0 below args s none σE) (hE : nE = σE.1 ∧ mE = σE.2.1) (jx0 : Int) (jx1 : Int) : ∀ (n : Nat) (jx3 : Int) (σ : Hp), F_X8_walk_L283 jx0 jx1 n jx3 σ = some (r, σE) → G p l e R s m args below meth c D dA b0 n0 m0 5 nE mE Q 283 [(0, 2, jx0), (1, 0, jx1), (3, 0, jx3)] [] σ := by
  intro n
  induction n with
  | zero =>
    intro jx3 σ hF
    rw [F_X8_walk_L283] at hF
    cases hF
  | succ n hk283 =>
    intro jx3 σ hF
    rw [F_X8_walk_L283] at hF
    refine g_iload_n hX 2 dX8_walk_283 rfl rfl ?_
    refine g_iload_n hX 1 dX8_walk_284 rfl rfl ?_
    refine g_icmp_le (tgt := 314) hX dX8_walk_285 (by decide) hF (fun hc hF => ?_) (fun hc hF => ?_)
    · exact g_vret hX hR hQ hE dX8_walk_314 hF
    · refine g_aload_n hX 0 dX8_walk_288 rfl rfl ?_
      refine g_get hX fl_X8_98 (by decide) (by decide) dX8_walk_289 hF (fun jv59 hF => ?_)
      refine g_aload_n hX 0 dX8_walk_292 rfl rfl ?_
      refine g_get hX fl_X8_44 (by decide) (by decide) dX8_walk_293 hF (fun jv60 hF => ?_)
      refine g_iload_n hX 2 dX8_walk_296 rfl rfl ?_
      refine g_iald hX dX8_walk_297 hF (fun jv61 hF => ?_)
      refine g_dup2 hX dX8_walk_298 (by decide) (by decide) ?_
      refine g_iald hX dX8_walk_299 hF (fun jv62 hF => ?_)
      refine g_aload_n hX 0 dX8_walk_300 rfl rfl ?_
      refine g_get hX fl_X8_98 (by decide) (by decide) dX8_walk_301 hF (fun jv63 hF => ?_)
      refine g_iload_n hX 2 dX8_walk_304 rfl rfl ?_
      refine g_iald hX dX8_walk_305 hF (fun jv64 hF => ?_)
      refine g_iadd hX dX8_walk_306 ?_
      refine u_iast hX dX8_walk_307 hF (fun σ65 hF => ?_)
      refine g_iinc (lv' := [(3, 0, (jx3 + (-1))), (0, 2, jx0), (1, 0, jx1)]) hX 2 dX8_walk_308 rfl (by decide) rfl ?_
      refine g_goto (tgt := 283) hX dX8_walk_311 (by decide) ?_
      refine g_lvp (lv' := [(0, 2, jx0), (1, 0, jx1), (3, 0, (jx3 + (-1)))]) [1, 2, 0] rfl ?_
      exact hk283 (jx3 + (-1)) σ65 hF
def F_X8_walk_B269 (k239 : Int → Hp → Option (Int × Hp)) (jx0 : Int) (jx1 : Int) (jx3 : Int) (js0 : Int) (js1 : Int) (js2 : Int) (σ : Hp) : Option (Int × Hp) :=
  (aw 11 σ js2 js1 js0).bind fun σ70 => k239 (jx3 + (-1)) σ70
theorem M_X8_walk_B269 (k239 : Int → Hp → Option (Int × Hp)) (hk239 : ∀ (jx3 : Int) (σ : Hp), Mn σ (k239 jx3 σ)) (jx0 : Int) (jx1 : Int) (jx3 : Int) (js0 : Int) (js1 : Int) (js2 : Int) (σ : Hp) : Mn σ (F_X8_walk_B269 k239 jx0 jx1 jx3 js0 js1 js2 σ) := by
  unfold F_X8_walk_B269
  repeat' first | exact Mn_ret | exact Mn_rz | exact hk239 _  _ | refine Mn_nm (fun _ => ?_) | refine Mn_nab (fun _ _ => ?_) | refine Mn_nwb (fun _ _ => ?_) | refine Mn_pw (fun _ => ?_) | refine Mn_pz (fun _ => ?_) | refine Mn_aw (fun _ => ?_) | refine Mn_az (fun _ => ?_) | refine Mn_aq (fun _ => ?_) | refine Mn_bo (fun _ => ?_) | refine Mn_bd ?_ (fun _ _ => ?_) | refine Mn_iv ?_ | refine Mn_bLt ?_ ?_ | refine Mn_bLe ?_ ?_ | refine Mn_bEq ?_ ?_ | refine Mn_bN ?_ ?_ | refine Mn_g3 ?_ | refine Mn_g33 ?_ | refine Mn_g66 ?_ | refine Mn_gD ?_
set_option maxRecDepth 100000 in
set_option maxHeartbeats 4000000 in
theorem T_X8_walk_B269 {r : Int} {σE : Hp} (hX : Cx p R s m args meth c D dA b0 n0 m0 5 nE mE cX8_walk RX8 3 66) (hR : Rx meth none) (hnm : meth.name = yX8_walk.name) (hQ : Q = Qm D dA b0 n0 m0 below args s none σE) (hE : nE = σE.1 ∧ mE = σE.2.1) (k239 : Int → Hp → Option (Int × Hp)) (jx0 : Int) (jx1 : Int) (jx3 : Int) (js0 : Int) (js1 : Int) (js2 : Int) (hk239 : ∀ (jx3 : Int) (σ : Hp), k239 jx3 σ = some (r, σE) → G p l e R s m args below meth c D dA b0 n0 m0 5 nE mE Q 239 [(0, 2, jx0), (1, 0, jx1), (3, 0, jx3)] [] σ) (σ : Hp) (hF : F_X8_walk_B269 k239 jx0 jx1 jx3 js0 js1 js2 σ = some (r, σE)) : G p l e R s m args below meth c D dA b0 n0 m0 5 nE mE Q 269 [(0, 2, jx0), (1, 0, jx1), (3, 0, jx3)] [(0, js0), (0, js1), (2, js2)] σ := by
  unfold F_X8_walk_B269 at hF
  refine u_iast hX dX8_walk_269 hF (fun σ70 hF => ?_)
  refine g_iinc (lv' := [(3, 0, (jx3 + (-1))), (0, 2, jx0), (1, 0, jx1)]) hX 2 dX8_walk_270 rfl (by decide) rfl ?_
  refine g_goto (tgt := 239) hX dX8_walk_273 (by decide) ?_
  refine g_lvp (lv' := [(0, 2, jx0), (1, 0, jx1), (3, 0, (jx3 + (-1)))]) [1, 2, 0] rfl ?_
  exact hk239 (jx3 + (-1)) σ70 hF
def F_X8_walk_L239 (jx0 : Int) (jx1 : Int) : Nat → Int → Hp → Option (Int × Hp)
  | 0, _, _ => none
  | n + 1, jx3, σ => bLt jx3 jx1 ((rd 9 σ jx0 11).bind fun jv58 => F_X8_walk_L283 jx0 jx1 fu (jv58 - 1) σ) ((rd 9 σ jx0 31).bind fun jv66 => (rd 9 σ jx0 14).bind fun jv67 => (ar 11 σ jv67 jx3).bind fun jv68 => (rd 9 σ jx0 8).bind fun jv69 => bEq jv68 (jv69 - 1) (F_X8_walk_B269 (F_X8_walk_L239 jx0 jx1 n) jx0 jx1 jx3 1 jx3 jv66 σ) (F_X8_walk_B269 (F_X8_walk_L239 jx0 jx1 n) jx0 jx1 jx3 0 jx3 jv66 σ))
theorem M_X8_walk_L239 (jx0 : Int) (jx1 : Int) : ∀ (n : Nat) (jx3 : Int) (σ : Hp), Mn σ (F_X8_walk_L239 jx0 jx1 n jx3 σ) := by
  intro n
  induction n with
  | zero => intros; rw [F_X8_walk_L239]; exact Mn_none
  | succ n hk239 =>
    intros
    rw [F_X8_walk_L239]
    repeat' first | exact Mn_ret | exact Mn_rz | exact hk239 _  _ | exact M_X8_walk_L283 _ _ _ _ _ | exact M_X8_walk_B269 (F_X8_walk_L239 jx0 jx1 n) hk239 _ _ _ _ _ _ _ | refine Mn_nm (fun _ => ?_) | refine Mn_nab (fun _ _ => ?_) | refine Mn_nwb (fun _ _ => ?_) | refine Mn_pw (fun _ => ?_) | refine Mn_pz (fun _ => ?_) | refine Mn_aw (fun _ => ?_) | refine Mn_az (fun _ => ?_) | refine Mn_aq (fun _ => ?_) | refine Mn_bo (fun _ => ?_) | refine Mn_bd ?_ (fun _ _ => ?_) | refine Mn_iv ?_ | refine Mn_bLt ?_ ?_ | refine Mn_bLe ?_ ?_ | refine Mn_bEq ?_ ?_ | refine Mn_bN ?_ ?_ | refine Mn_g3 ?_ | refine Mn_g33 ?_ | refine Mn_g66 ?_ | refine Mn_gD ?_
set_option maxRecDepth 100000 in
set_option maxHeartbeats 4000000 in
theorem T_X8_walk_L239 {r : Int} {σE : Hp} (hX : Cx p R s m args meth c D dA b0 n0 m0 5 nE mE cX8_walk RX8 3 66) (hR : Rx meth none) (hnm : meth.name = yX8_walk.name) (hQ : Q = Qm D dA b0 n0 m0 below args s none σE) (hE : nE = σE.1 ∧ mE = σE.2.1) (jx0 : Int) (jx1 : Int) : ∀ (n : Nat) (jx3 : Int) (σ : Hp), F_X8_walk_L239 jx0 jx1 n jx3 σ = some (r, σE) → G p l e R s m args below meth c D dA b0 n0 m0 5 nE mE Q 239 [(0, 2, jx0), (1, 0, jx1), (3, 0, jx3)] [] σ := by
  intro n
  induction n with
  | zero =>
    intro jx3 σ hF
    rw [F_X8_walk_L239] at hF
    cases hF
  | succ n hk239 =>
    intro jx3 σ hF
    rw [F_X8_walk_L239] at hF
    refine g_iload_n hX 2 dX8_walk_239 rfl rfl ?_
    refine g_iload_n hX 1 dX8_walk_240 rfl rfl ?_
    refine g_icmp_lt (tgt := 276) hX dX8_walk_241 (by decide) hF (fun hc hF => ?_) (fun hc hF => ?_)
    · refine g_aload_n hX 0 dX8_walk_276 rfl rfl ?_
      refine g_get hX fl_X8_41 (by decide) (by decide) dX8_walk_277 hF (fun jv58 hF => ?_)
      refine g_iconst hX dX8_walk_280 ?_
      refine g_isub hX dX8_walk_281 ?_
      refine g_istore_n (lv' := [(3, 0, (jv58 - 1)), (0, 2, jx0), (1, 0, jx1)]) hX dX8_walk_282 rfl (by decide) rfl ?_
      refine g_lvp (lv' := [(0, 2, jx0), (1, 0, jx1), (3, 0, (jv58 - 1))]) [1, 2, 0] rfl ?_
      exact T_X8_walk_L283 hX hR hnm hQ hE jx0 jx1  fu (jv58 - 1) σ hF
    · refine g_aload_n hX 0 dX8_walk_244 rfl rfl ?_
      refine g_get hX fl_X8_98 (by decide) (by decide) dX8_walk_245 hF (fun jv66 hF => ?_)
      refine g_iload_n hX 2 dX8_walk_248 rfl rfl ?_
      refine g_aload_n hX 0 dX8_walk_249 rfl rfl ?_
      refine g_get hX fl_X8_50 (by decide) (by decide) dX8_walk_250 hF (fun jv67 hF => ?_)
      refine g_iload_n hX 2 dX8_walk_253 rfl rfl ?_
      refine g_iald hX dX8_walk_254 hF (fun jv68 hF => ?_)
      refine g_aload_n hX 0 dX8_walk_255 rfl rfl ?_
      refine g_get hX fl_X8_32 (by decide) (by decide) dX8_walk_256 hF (fun jv69 hF => ?_)
      refine g_iconst hX dX8_walk_259 ?_
      refine g_isub hX dX8_walk_260 ?_
      refine g_icmp_ne (tgt := 268) hX dX8_walk_261 (by decide) hF (fun hc hF => ?_) (fun hc hF => ?_)
      · refine g_iconst hX dX8_walk_264 ?_
        refine g_goto (tgt := 269) hX dX8_walk_265 (by decide) ?_
        exact T_X8_walk_B269 hX hR hnm hQ hE (F_X8_walk_L239 jx0 jx1 n) jx0 jx1 jx3 1 jx3 jv66 hk239  σ hF
      · refine g_iconst hX dX8_walk_268 ?_
        exact T_X8_walk_B269 hX hR hnm hQ hE (F_X8_walk_L239 jx0 jx1 n) jx0 jx1 jx3 0 jx3 jv66 hk239  σ hF
def F_X8_walk_L2 (jx0 : Int) (jx1 : Int) (jx2 : Int) : Nat → Int → Hp → Option (Int × Hp)
  | 0, _, _ => none
  | n + 1, jx3, σ => (rd 9 σ jx0 11).bind fun jv1 => bLt jx3 jv1 ((rd 9 σ jx0 26).bind fun jv2 => bEq jx3 jx1 (F_X8_walk_B39 (F_X8_walk_L2 jx0 jx1 jx2 n) jx0 jx1 jx2 jx3 jx3 jv2 σ) (bLe jx3 jx1 (F_X8_walk_B43 (F_X8_walk_L2 jx0 jx1 jx2 n) jx0 jx1 jx2 jx3 jx3 jv2 σ) ((rd 9 σ jx0 26).bind fun jv53 => (rd 9 σ jx0 12).bind fun jv54 => (ar 11 σ jv54 jx3).bind fun jv55 => (ar 13 σ jv53 jv55).bind fun jv56 => bEq jv56 0 (F_X8_walk_B43 (F_X8_walk_L2 jx0 jx1 jx2 n) jx0 jx1 jx2 jx3 jx3 jv2 σ) (F_X8_walk_B39 (F_X8_walk_L2 jx0 jx1 jx2 n) jx0 jx1 jx2 jx3 jx3 jv2 σ)))) ((rd 9 σ jx0 11).bind fun jv57 => F_X8_walk_L239 jx0 jx1 fu (jv57 - 1) σ)
theorem M_X8_walk_L2 (jx0 : Int) (jx1 : Int) (jx2 : Int) : ∀ (n : Nat) (jx3 : Int) (σ : Hp), Mn σ (F_X8_walk_L2 jx0 jx1 jx2 n jx3 σ) := by
  intro n
  induction n with
  | zero => intros; rw [F_X8_walk_L2]; exact Mn_none
  | succ n hk2 =>
    intros
    rw [F_X8_walk_L2]
    repeat' first | exact Mn_ret | exact Mn_rz | exact hk2 _  _ | exact M_X8_walk_B39 (F_X8_walk_L2 jx0 jx1 jx2 n) hk2 _ _ _ _ _ _ _ | exact M_X8_walk_B43 (F_X8_walk_L2 jx0 jx1 jx2 n) hk2 _ _ _ _ _ _ _ | exact M_X8_walk_L239 _ _ _ _ _ | refine Mn_nm (fun _ => ?_) | refine Mn_nab (fun _ _ => ?_) | refine Mn_nwb (fun _ _ => ?_) | refine Mn_pw (fun _ => ?_) | refine Mn_pz (fun _ => ?_) | refine Mn_aw (fun _ => ?_) | refine Mn_az (fun _ => ?_) | refine Mn_aq (fun _ => ?_) | refine Mn_bo (fun _ => ?_) | refine Mn_bd ?_ (fun _ _ => ?_) | refine Mn_iv ?_ | refine Mn_bLt ?_ ?_ | refine Mn_bLe ?_ ?_ | refine Mn_bEq ?_ ?_ | refine Mn_bN ?_ ?_ | refine Mn_g3 ?_ | refine Mn_g33 ?_ | refine Mn_g66 ?_ | refine Mn_gD ?_
set_option maxRecDepth 100000 in
set_option maxHeartbeats 4000000 in
theorem T_X8_walk_L2 {r : Int} {σE : Hp} (hX : Cx p R s m args meth c D dA b0 n0 m0 5 nE mE cX8_walk RX8 3 66) (hR : Rx meth none) (hnm : meth.name = yX8_walk.name) (hQ : Q = Qm D dA b0 n0 m0 below args s none σE) (hE : nE = σE.1 ∧ mE = σE.2.1) (jx0 : Int) (jx1 : Int) (jx2 : Int) : ∀ (n : Nat) (jx3 : Int) (σ : Hp), F_X8_walk_L2 jx0 jx1 jx2 n jx3 σ = some (r, σE) → G p l e R s m args below meth c D dA b0 n0 m0 5 nE mE Q 2 [(0, 2, jx0), (1, 0, jx1), (2, 0, jx2), (3, 0, jx3)] [] σ := by
  intro n
  induction n with
  | zero =>
    intro jx3 σ hF
    rw [F_X8_walk_L2] at hF
    cases hF
  | succ n hk2 =>
    intro jx3 σ hF
    rw [F_X8_walk_L2] at hF
    refine g_iload_n hX 3 dX8_walk_2 rfl rfl ?_
    refine g_aload_n hX 0 dX8_walk_3 rfl rfl ?_
    refine g_get hX fl_X8_41 (by decide) (by decide) dX8_walk_4 hF (fun jv1 hF => ?_)
    refine g_icmp_ge (tgt := 232) hX dX8_walk_7 (by decide) hF (fun hc hF => ?_) (fun hc hF => ?_)
    · refine g_aload_n hX 0 dX8_walk_10 rfl rfl ?_
      refine g_get hX fl_X8_83 (by decide) (by decide) dX8_walk_11 hF (fun jv2 hF => ?_)
      refine g_iload_n hX 3 dX8_walk_14 rfl rfl ?_
      refine g_iload_n hX 3 dX8_walk_15 rfl rfl ?_
      refine g_iload_n hX 1 dX8_walk_16 rfl rfl ?_
      refine g_icmp_eq (tgt := 39) hX dX8_walk_17 (by decide) hF (fun hc hF => ?_) (fun hc hF => ?_)
      · exact T_X8_walk_B39 hX hR hnm hQ hE (F_X8_walk_L2 jx0 jx1 jx2 n) jx0 jx1 jx2 jx3 jx3 jv2 hk2  σ hF
      · refine g_iload_n hX 3 dX8_walk_20 rfl rfl ?_
        refine g_iload_n hX 1 dX8_walk_21 rfl rfl ?_
        refine g_icmp_le (tgt := 43) hX dX8_walk_22 (by decide) hF (fun hc hF => ?_) (fun hc hF => ?_)
        · exact T_X8_walk_B43 hX hR hnm hQ hE (F_X8_walk_L2 jx0 jx1 jx2 n) jx0 jx1 jx2 jx3 jx3 jv2 hk2  σ hF
        · refine g_aload_n hX 0 dX8_walk_25 rfl rfl ?_
          refine g_get hX fl_X8_83 (by decide) (by decide) dX8_walk_26 hF (fun jv53 hF => ?_)
          refine g_aload_n hX 0 dX8_walk_29 rfl rfl ?_
          refine g_get hX fl_X8_44 (by decide) (by decide) dX8_walk_30 hF (fun jv54 hF => ?_)
          refine g_iload_n hX 3 dX8_walk_33 rfl rfl ?_
          refine g_iald hX dX8_walk_34 hF (fun jv55 hF => ?_)
          refine g_zald hX dX8_walk_35 hF (fun jv56 hF => ?_)
          refine g_if_eq (tgt := 43) hX dX8_walk_36 (by decide) hF (fun hc hF => ?_) (fun hc hF => ?_)
          · exact T_X8_walk_B43 hX hR hnm hQ hE (F_X8_walk_L2 jx0 jx1 jx2 n) jx0 jx1 jx2 jx3 jx3 jv2 hk2  σ hF
          · exact T_X8_walk_B39 hX hR hnm hQ hE (F_X8_walk_L2 jx0 jx1 jx2 n) jx0 jx1 jx2 jx3 jx3 jv2 hk2  σ hF
    · refine g_aload_n hX 0 dX8_walk_232 rfl rfl ?_
      refine g_get hX fl_X8_41 (by decide) (by decide) dX8_walk_233 hF (fun jv57 hF => ?_)
      refine g_iconst hX dX8_walk_236 ?_
      refine g_isub hX dX8_walk_237 ?_
      refine g_istore_n (lv' := [(3, 0, (jv57 - 1)), (0, 2, jx0), (1, 0, jx1), (2, 0, jx2)]) hX dX8_walk_238 rfl (by decide) rfl ?_
      refine g_lvp (lv' := [(0, 2, jx0), (1, 0, jx1), (3, 0, (jv57 - 1))]) [1, 2, 0] rfl ?_
      exact T_X8_walk_L239 hX hR hnm hQ hE jx0 jx1  fu (jv57 - 1) σ hF
def F_X8_walk (jx0 : Int) (jx1 : Int) (jx2 : Int) (σ : Hp) : Option (Int × Hp) :=
  F_X8_walk_L2 jx0 jx1 jx2 fu 0 σ
theorem M_X8_walk (jx0 : Int) (jx1 : Int) (jx2 : Int) (σ : Hp) : Mn σ (F_X8_walk jx0 jx1 jx2 σ) := by
  unfold F_X8_walk
  repeat' first | exact Mn_ret | exact Mn_rz | exact M_X8_walk_L2 _ _ _ _ _ _ | refine Mn_nm (fun _ => ?_) | refine Mn_nab (fun _ _ => ?_) | refine Mn_nwb (fun _ _ => ?_) | refine Mn_pw (fun _ => ?_) | refine Mn_pz (fun _ => ?_) | refine Mn_aw (fun _ => ?_) | refine Mn_az (fun _ => ?_) | refine Mn_aq (fun _ => ?_) | refine Mn_bo (fun _ => ?_) | refine Mn_bd ?_ (fun _ _ => ?_) | refine Mn_iv ?_ | refine Mn_bLt ?_ ?_ | refine Mn_bLe ?_ ?_ | refine Mn_bEq ?_ ?_ | refine Mn_bN ?_ ?_ | refine Mn_g3 ?_ | refine Mn_g33 ?_ | refine Mn_g66 ?_ | refine Mn_gD ?_
set_option maxRecDepth 100000 in
set_option maxHeartbeats 4000000 in
theorem T_X8_walk (l : Launch) (D : va_G) (dA : Nat → ClassId) (b0 : Nat) (jx0 : Int) (jx1 : Int) (jx2 : Int) (σ σE : Hp) (r : Int) (hF : F_X8_walk jx0 jx1 jx2 σ = some (r, σE)) : Ct l D dA b0 yX8_walk cX8_walk 5 none 3 66 [(2, jx0), (0, jx1), (0, jx2)] σ none σE := by
  refine Ct.of (lv0 := [(0, 2, jx0), (1, 0, jx1), (2, 0, jx2)]) (by decide) RX8 rfl (Nat.le_of_ble_eq_true rfl) rfl ?_ (M_X8_walk jx0 jx1 jx2 σ r σE hF)
  intro p e R s m args below meth c hX hR hnm
  obtain ⟨Q, hQ⟩ : ∃ Q, Q = Qm D dA b0 σ.1 σ.2.1 below args s none σE := ⟨_, rfl⟩
  rw [← hQ]
  have hE : σE.1 = σE.1 ∧ σE.2.1 = σE.2.1 := ⟨rfl, rfl⟩
  unfold F_X8_walk at hF
  refine g_iconst hX dX8_walk_0 ?_
  refine g_istore_n (lv' := [(3, 0, 0), (0, 2, jx0), (1, 0, jx1), (2, 0, jx2)]) hX dX8_walk_1 rfl (by decide) rfl ?_
  refine g_lvp (lv' := [(0, 2, jx0), (1, 0, jx1), (2, 0, jx2), (3, 0, 0)]) [1, 2, 3, 0] rfl ?_
  exact T_X8_walk_L2 hX hR hnm hQ hE jx0 jx1 jx2  fu 0 σ hF
end

section
variable {p : Program} {l : Launch} {e : Env} {R : Room} {s : State} {m : MethodId} {args : Array Value} {below : List Frame} {meth : Method} {c : Code} {D : va_G} {dA : Nat → ClassId} {b0 n0 m0 nE mE : Nat} {Q : State → Prop}
def F_X8_mean_B210 (k40 : Int → Hp → Option (Int × Hp)) (jx0 : Int) (jx1 : Int) (jx3 : Int) (σ : Hp) : Option (Int × Hp) :=
  k40 (jx3 + (-1)) σ
theorem M_X8_mean_B210 (k40 : Int → Hp → Option (Int × Hp)) (hk40 : ∀ (jx3 : Int) (σ : Hp), Mn σ (k40 jx3 σ)) (jx0 : Int) (jx1 : Int) (jx3 : Int) (σ : Hp) : Mn σ (F_X8_mean_B210 k40 jx0 jx1 jx3 σ) := by
  unfold F_X8_mean_B210
  repeat' first | exact Mn_ret | exact Mn_rz | exact hk40 _  _ | refine Mn_nm (fun _ => ?_) | refine Mn_nab (fun _ _ => ?_) | refine Mn_nwb (fun _ _ => ?_) | refine Mn_pw (fun _ => ?_) | refine Mn_pz (fun _ => ?_) | refine Mn_aw (fun _ => ?_) | refine Mn_az (fun _ => ?_) | refine Mn_aq (fun _ => ?_) | refine Mn_bo (fun _ => ?_) | refine Mn_bd ?_ (fun _ _ => ?_) | refine Mn_iv ?_ | refine Mn_bLt ?_ ?_ | refine Mn_bLe ?_ ?_ | refine Mn_bEq ?_ ?_ | refine Mn_bN ?_ ?_ | refine Mn_g3 ?_ | refine Mn_g33 ?_ | refine Mn_g66 ?_ | refine Mn_gD ?_
set_option maxRecDepth 100000 in
set_option maxHeartbeats 4000000 in
theorem T_X8_mean_B210 {r : Int} {σE : Hp} (hX : Cx p R s m args meth c D dA b0 n0 m0 5 nE mE cX8_mean RX8 4 90) (hR : Rx meth (some .long)) (hnm : meth.name = yX8_mean.name) (hQ : Q = Qm D dA b0 n0 m0 below args s (some (pV 1 r)) σE) (hE : nE = σE.1 ∧ mE = σE.2.1) (k40 : Int → Hp → Option (Int × Hp)) (jx0 : Int) (jx1 : Int) (jx3 : Int) (hk40 : ∀ (jx3 : Int) (σ : Hp), k40 jx3 σ = some (r, σE) → G p l e R s m args below meth c D dA b0 n0 m0 5 nE mE Q 40 [(0, 2, jx0), (1, 0, jx1), (3, 0, jx3)] [] σ) (σ : Hp) (hF : F_X8_mean_B210 k40 jx0 jx1 jx3 σ = some (r, σE)) : G p l e R s m args below meth c D dA b0 n0 m0 5 nE mE Q 210 [(0, 2, jx0), (1, 0, jx1), (3, 0, jx3)] [] σ := by
  unfold F_X8_mean_B210 at hF
  refine g_iinc (lv' := [(3, 0, (jx3 + (-1))), (0, 2, jx0), (1, 0, jx1)]) hX 2 dX8_mean_210 rfl (by decide) rfl ?_
  refine g_goto (tgt := 40) hX dX8_mean_213 (by decide) ?_
  refine g_lvp (lv' := [(0, 2, jx0), (1, 0, jx1), (3, 0, (jx3 + (-1)))]) [1, 2, 0] rfl ?_
  exact hk40 (jx3 + (-1)) σ hF
def F_X8_mean_B202 (k40 : Int → Hp → Option (Int × Hp)) (k155 : Int → Hp → Option (Int × Hp)) (jx0 : Int) (jx1 : Int) (jx3 : Int) (jx4 : Int) (js0 : Int) (js1 : Int) (js2 : Int) (js3 : Int) (σ : Hp) : Option (Int × Hp) :=
  (aw 12 σ js3 js2 (js1 + js0)).bind fun σ49 => k155 (jx4 + 1) σ49
theorem M_X8_mean_B202 (k40 : Int → Hp → Option (Int × Hp)) (k155 : Int → Hp → Option (Int × Hp)) (hk40 : ∀ (jx3 : Int) (σ : Hp), Mn σ (k40 jx3 σ)) (hk155 : ∀ (jx4 : Int) (σ : Hp), Mn σ (k155 jx4 σ)) (jx0 : Int) (jx1 : Int) (jx3 : Int) (jx4 : Int) (js0 : Int) (js1 : Int) (js2 : Int) (js3 : Int) (σ : Hp) : Mn σ (F_X8_mean_B202 k40 k155 jx0 jx1 jx3 jx4 js0 js1 js2 js3 σ) := by
  unfold F_X8_mean_B202
  repeat' first | exact Mn_ret | exact Mn_rz | exact hk40 _  _ | exact hk155 _  _ | refine Mn_nm (fun _ => ?_) | refine Mn_nab (fun _ _ => ?_) | refine Mn_nwb (fun _ _ => ?_) | refine Mn_pw (fun _ => ?_) | refine Mn_pz (fun _ => ?_) | refine Mn_aw (fun _ => ?_) | refine Mn_az (fun _ => ?_) | refine Mn_aq (fun _ => ?_) | refine Mn_bo (fun _ => ?_) | refine Mn_bd ?_ (fun _ _ => ?_) | refine Mn_iv ?_ | refine Mn_bLt ?_ ?_ | refine Mn_bLe ?_ ?_ | refine Mn_bEq ?_ ?_ | refine Mn_bN ?_ ?_ | refine Mn_g3 ?_ | refine Mn_g33 ?_ | refine Mn_g66 ?_ | refine Mn_gD ?_
set_option maxRecDepth 100000 in
set_option maxHeartbeats 4000000 in
theorem T_X8_mean_B202 {r : Int} {σE : Hp} (hX : Cx p R s m args meth c D dA b0 n0 m0 5 nE mE cX8_mean RX8 4 90) (hR : Rx meth (some .long)) (hnm : meth.name = yX8_mean.name) (hQ : Q = Qm D dA b0 n0 m0 below args s (some (pV 1 r)) σE) (hE : nE = σE.1 ∧ mE = σE.2.1) (k40 : Int → Hp → Option (Int × Hp)) (k155 : Int → Hp → Option (Int × Hp)) (jx0 : Int) (jx1 : Int) (jx3 : Int) (jx4 : Int) (js0 : Int) (js1 : Int) (js2 : Int) (js3 : Int) (hk40 : ∀ (jx3 : Int) (σ : Hp), k40 jx3 σ = some (r, σE) → G p l e R s m args below meth c D dA b0 n0 m0 5 nE mE Q 40 [(0, 2, jx0), (1, 0, jx1), (3, 0, jx3)] [] σ) (hk155 : ∀ (jx4 : Int) (σ : Hp), k155 jx4 σ = some (r, σE) → G p l e R s m args below meth c D dA b0 n0 m0 5 nE mE Q 155 [(0, 2, jx0), (1, 0, jx1), (3, 0, jx3), (4, 0, jx4)] [] σ) (σ : Hp) (hF : F_X8_mean_B202 k40 k155 jx0 jx1 jx3 jx4 js0 js1 js2 js3 σ = some (r, σE)) : G p l e R s m args below meth c D dA b0 n0 m0 5 nE mE Q 202 [(0, 2, jx0), (1, 0, jx1), (3, 0, jx3), (4, 0, jx4)] [(1, js0), (1, js1), (0, js2), (2, js3)] σ := by
  unfold F_X8_mean_B202 at hF
  refine g_ladd hX dX8_mean_202 ?_
  refine u_last hX dX8_mean_203 hF (fun σ49 hF => ?_)
  refine g_iinc (lv' := [(4, 0, (jx4 + 1)), (0, 2, jx0), (1, 0, jx1), (3, 0, jx3)]) hX 3 dX8_mean_204 rfl (by decide) rfl ?_
  refine g_goto (tgt := 155) hX dX8_mean_207 (by decide) ?_
  refine g_lvp (lv' := [(0, 2, jx0), (1, 0, jx1), (3, 0, jx3), (4, 0, (jx4 + 1))]) [1, 2, 3, 0] rfl ?_
  exact hk155 (jx4 + 1) σ49 hF
def F_X8_mean_L155 (k40 : Int → Hp → Option (Int × Hp)) (jx0 : Int) (jx1 : Int) (jx3 : Int) : Nat → Int → Hp → Option (Int × Hp)
  | 0, _, _ => none
  | n + 1, jx4, σ => (rd 9 σ jx0 11).bind fun jv40 => bLt jx4 jv40 ((rd 9 σ jx0 30).bind fun jv41 => (ar 12 σ jv41 jx3).bind fun jv42 => (rd 9 σ jx0 12).bind fun jv43 => (ar 11 σ jv43 jx4).bind fun jv44 => bEq jv44 jx3 ((rd 9 σ jx0 13).bind fun jv45 => (ar 11 σ jv45 jx4).bind fun jv46 => g3 jv46 ((rd 9 σ jx0 30).bind fun jv47 => (ar 12 σ jv47 jx4).bind fun jv48 => F_X8_mean_B202 k40 (F_X8_mean_L155 k40 jx0 jx1 jx3 n) jx0 jx1 jx3 jx4 (jv46 * jv48) jv42 jx3 jv41 σ)) (F_X8_mean_B202 k40 (F_X8_mean_L155 k40 jx0 jx1 jx3 n) jx0 jx1 jx3 jx4 0 jv42 jx3 jv41 σ)) (F_X8_mean_B210 k40 jx0 jx1 jx3  σ)
theorem M_X8_mean_L155 (k40 : Int → Hp → Option (Int × Hp)) (hk40 : ∀ (jx3 : Int) (σ : Hp), Mn σ (k40 jx3 σ)) (jx0 : Int) (jx1 : Int) (jx3 : Int) : ∀ (n : Nat) (jx4 : Int) (σ : Hp), Mn σ (F_X8_mean_L155 k40 jx0 jx1 jx3 n jx4 σ) := by
  intro n
  induction n with
  | zero => intros; rw [F_X8_mean_L155]; exact Mn_none
  | succ n hk155 =>
    intros
    rw [F_X8_mean_L155]
    repeat' first | exact Mn_ret | exact Mn_rz | exact hk40 _  _ | exact hk155 _  _ | exact M_X8_mean_B202 k40 (F_X8_mean_L155 k40 jx0 jx1 jx3 n) hk40 hk155 _ _ _ _ _ _ _ _ _ | exact M_X8_mean_B210 k40 hk40 _ _ _  _ | refine Mn_nm (fun _ => ?_) | refine Mn_nab (fun _ _ => ?_) | refine Mn_nwb (fun _ _ => ?_) | refine Mn_pw (fun _ => ?_) | refine Mn_pz (fun _ => ?_) | refine Mn_aw (fun _ => ?_) | refine Mn_az (fun _ => ?_) | refine Mn_aq (fun _ => ?_) | refine Mn_bo (fun _ => ?_) | refine Mn_bd ?_ (fun _ _ => ?_) | refine Mn_iv ?_ | refine Mn_bLt ?_ ?_ | refine Mn_bLe ?_ ?_ | refine Mn_bEq ?_ ?_ | refine Mn_bN ?_ ?_ | refine Mn_g3 ?_ | refine Mn_g33 ?_ | refine Mn_g66 ?_ | refine Mn_gD ?_
set_option maxRecDepth 100000 in
set_option maxHeartbeats 4000000 in
theorem T_X8_mean_L155 {r : Int} {σE : Hp} (hX : Cx p R s m args meth c D dA b0 n0 m0 5 nE mE cX8_mean RX8 4 90) (hR : Rx meth (some .long)) (hnm : meth.name = yX8_mean.name) (hQ : Q = Qm D dA b0 n0 m0 below args s (some (pV 1 r)) σE) (hE : nE = σE.1 ∧ mE = σE.2.1) (k40 : Int → Hp → Option (Int × Hp)) (jx0 : Int) (jx1 : Int) (jx3 : Int) (hk40 : ∀ (jx3 : Int) (σ : Hp), k40 jx3 σ = some (r, σE) → G p l e R s m args below meth c D dA b0 n0 m0 5 nE mE Q 40 [(0, 2, jx0), (1, 0, jx1), (3, 0, jx3)] [] σ) : ∀ (n : Nat) (jx4 : Int) (σ : Hp), F_X8_mean_L155 k40 jx0 jx1 jx3 n jx4 σ = some (r, σE) → G p l e R s m args below meth c D dA b0 n0 m0 5 nE mE Q 155 [(0, 2, jx0), (1, 0, jx1), (3, 0, jx3), (4, 0, jx4)] [] σ := by
  intro n
  induction n with
  | zero =>
    intro jx4 σ hF
    rw [F_X8_mean_L155] at hF
    cases hF
  | succ n hk155 =>
    intro jx4 σ hF
    rw [F_X8_mean_L155] at hF
    refine g_iload hX 3 dX8_mean_155 rfl ?_
    refine g_aload_n hX 0 dX8_mean_157 rfl rfl ?_
    refine g_get hX fl_X8_41 (by decide) (by decide) dX8_mean_158 hF (fun jv40 hF => ?_)
    refine g_icmp_ge (tgt := 210) hX dX8_mean_161 (by decide) hF (fun hc hF => ?_) (fun hc hF => ?_)
    · refine g_aload_n hX 0 dX8_mean_164 rfl rfl ?_
      refine g_get hX fl_X8_95 (by decide) (by decide) dX8_mean_165 hF (fun jv41 hF => ?_)
      refine g_iload_n hX 2 dX8_mean_168 rfl rfl ?_
      refine g_dup2 hX dX8_mean_169 (by decide) (by decide) ?_
      refine g_lald hX dX8_mean_170 hF (fun jv42 hF => ?_)
      refine g_aload_n hX 0 dX8_mean_171 rfl rfl ?_
      refine g_get hX fl_X8_44 (by decide) (by decide) dX8_mean_172 hF (fun jv43 hF => ?_)
      refine g_iload hX 3 dX8_mean_175 rfl ?_
      refine g_iald hX dX8_mean_177 hF (fun jv44 hF => ?_)
      refine g_iload_n hX 2 dX8_mean_178 rfl rfl ?_
      refine g_icmp_ne (tgt := 201) hX dX8_mean_179 (by decide) hF (fun hc hF => ?_) (fun hc hF => ?_)
      · refine g_aload_n hX 0 dX8_mean_182 rfl rfl ?_
        refine g_get hX fl_X8_47 (by decide) (by decide) dX8_mean_183 hF (fun jv45 hF => ?_)
        refine g_iload hX 3 dX8_mean_186 rfl ?_
        refine g_iald hX dX8_mean_188 hF (fun jv46 hF => ?_)
        refine g_i2l hX dX8_mean_189 hF (fun hF => ?_)
        refine g_aload_n hX 0 dX8_mean_190 rfl rfl ?_
        refine g_get hX fl_X8_95 (by decide) (by decide) dX8_mean_191 hF (fun jv47 hF => ?_)
        refine g_iload hX 3 dX8_mean_194 rfl ?_
        refine g_lald hX dX8_mean_196 hF (fun jv48 hF => ?_)
        refine g_lmul hX dX8_mean_197 ?_
        refine g_goto (tgt := 202) hX dX8_mean_198 (by decide) ?_
        exact T_X8_mean_B202 hX hR hnm hQ hE k40 (F_X8_mean_L155 k40 jx0 jx1 jx3 n) jx0 jx1 jx3 jx4 (jv46 * jv48) jv42 jx3 jv41 hk40 hk155  σ hF
      · refine g_lconst (z := 0) hX dX8_mean_201 rfl ?_
        exact T_X8_mean_B202 hX hR hnm hQ hE k40 (F_X8_mean_L155 k40 jx0 jx1 jx3 n) jx0 jx1 jx3 jx4 0 jv42 jx3 jv41 hk40 hk155  σ hF
    · refine g_lvp (lv' := [(0, 2, jx0), (1, 0, jx1), (3, 0, jx3)]) [0, 1, 2] rfl ?_
      exact T_X8_mean_B210 hX hR hnm hQ hE k40 jx0 jx1 jx3  hk40  σ hF
def F_X8_mean_B92 (k40 : Int → Hp → Option (Int × Hp)) (jx0 : Int) (jx1 : Int) (jx3 : Int) (js0 : Int) (js1 : Int) (js2 : Int) (σ : Hp) : Option (Int × Hp) :=
  (aw 12 σ js2 js1 js0).bind fun σ22 => (rd 9 σ22 jx0 14).bind fun jv23 => (ar 11 σ22 jv23 jx3).bind fun jv24 => (rd 9 σ22 jx0 8).bind fun jv25 => bEq jv24 (jv25 - 1) (F_X8_mean_B210 k40 jx0 jx1 jx3  σ22) ((rd 9 σ22 jx0 27).bind fun jv26 => (ar 11 σ22 jv26 jx3).bind fun jv27 => bd (iv 9 σ22 jx0 (F_X8_unfold  jx0 jv27 σ22)) fun jv28 σ29 => bd (iv 9 σ29 jx0 (F_X8_ruledLet  jx0  σ29)) fun jv30 σ31 => (rd 9 σ31 jx0 30).bind fun jv32 => bd (iv 9 σ31 jx0 (F_X8_scale  jx0 jx3 σ31)) fun jv33 σ34 => (rd 9 σ34 jx0 14).bind fun jv35 => (ar 11 σ34 jv35 jx3).bind fun jv36 => bd (iv 9 σ34 jx0 (F_X8_earns  jx0 (jv36 + 1) σ34)) fun jv37 σ38 => g3 jv37 ((aw 12 σ38 jv32 jx3 (jv33 * jv37)).bind fun σ39 => F_X8_mean_L155 k40 jx0 jx1 jx3 fu (jx3 + 1) σ39))
theorem M_X8_mean_B92 (k40 : Int → Hp → Option (Int × Hp)) (hk40 : ∀ (jx3 : Int) (σ : Hp), Mn σ (k40 jx3 σ)) (jx0 : Int) (jx1 : Int) (jx3 : Int) (js0 : Int) (js1 : Int) (js2 : Int) (σ : Hp) : Mn σ (F_X8_mean_B92 k40 jx0 jx1 jx3 js0 js1 js2 σ) := by
  unfold F_X8_mean_B92
  repeat' first | exact Mn_ret | exact Mn_rz | exact hk40 _  _ | exact M_X8_mean_B210 k40 hk40 _ _ _  _ | exact M_X8_unfold _ _ _ | exact M_X8_ruledLet _ _ | exact M_X8_scale _ _ _ | exact M_X8_earns _ _ _ | exact M_X8_mean_L155 k40 hk40 _ _ _ _ _ _ | refine Mn_nm (fun _ => ?_) | refine Mn_nab (fun _ _ => ?_) | refine Mn_nwb (fun _ _ => ?_) | refine Mn_pw (fun _ => ?_) | refine Mn_pz (fun _ => ?_) | refine Mn_aw (fun _ => ?_) | refine Mn_az (fun _ => ?_) | refine Mn_aq (fun _ => ?_) | refine Mn_bo (fun _ => ?_) | refine Mn_bd ?_ (fun _ _ => ?_) | refine Mn_iv ?_ | refine Mn_bLt ?_ ?_ | refine Mn_bLe ?_ ?_ | refine Mn_bEq ?_ ?_ | refine Mn_bN ?_ ?_ | refine Mn_g3 ?_ | refine Mn_g33 ?_ | refine Mn_g66 ?_ | refine Mn_gD ?_
set_option maxRecDepth 100000 in
set_option maxHeartbeats 4000000 in
theorem T_X8_mean_B92 {r : Int} {σE : Hp} (hX : Cx p R s m args meth c D dA b0 n0 m0 5 nE mE cX8_mean RX8 4 90) (hR : Rx meth (some .long)) (hnm : meth.name = yX8_mean.name) (hQ : Q = Qm D dA b0 n0 m0 below args s (some (pV 1 r)) σE) (hE : nE = σE.1 ∧ mE = σE.2.1) (k40 : Int → Hp → Option (Int × Hp)) (jx0 : Int) (jx1 : Int) (jx3 : Int) (js0 : Int) (js1 : Int) (js2 : Int) (hk40 : ∀ (jx3 : Int) (σ : Hp), k40 jx3 σ = some (r, σE) → G p l e R s m args below meth c D dA b0 n0 m0 5 nE mE Q 40 [(0, 2, jx0), (1, 0, jx1), (3, 0, jx3)] [] σ) (σ : Hp) (hF : F_X8_mean_B92 k40 jx0 jx1 jx3 js0 js1 js2 σ = some (r, σE)) : G p l e R s m args below meth c D dA b0 n0 m0 5 nE mE Q 92 [(0, 2, jx0), (1, 0, jx1), (3, 0, jx3)] [(1, js0), (0, js1), (2, js2)] σ := by
  unfold F_X8_mean_B92 at hF
  refine u_last hX dX8_mean_92 hF (fun σ22 hF => ?_)
  refine g_aload_n hX 0 dX8_mean_93 rfl rfl ?_
  refine g_get hX fl_X8_50 (by decide) (by decide) dX8_mean_94 hF (fun jv23 hF => ?_)
  refine g_iload_n hX 2 dX8_mean_97 rfl rfl ?_
  refine g_iald hX dX8_mean_98 hF (fun jv24 hF => ?_)
  refine g_aload_n hX 0 dX8_mean_99 rfl rfl ?_
  refine g_get hX fl_X8_32 (by decide) (by decide) dX8_mean_100 hF (fun jv25 hF => ?_)
  refine g_iconst hX dX8_mean_103 ?_
  refine g_isub hX dX8_mean_104 ?_
  refine g_icmp_ne (tgt := 111) hX dX8_mean_105 (by decide) hF (fun hc hF => ?_) (fun hc hF => ?_)
  · refine g_goto (tgt := 210) hX dX8_mean_108 (by decide) ?_
    exact T_X8_mean_B210 hX hR hnm hQ hE k40 jx0 jx1 jx3  hk40  σ22 hF
  · refine g_aload_n hX 0 dX8_mean_111 rfl rfl ?_
    refine g_aload_n hX 0 dX8_mean_112 rfl rfl ?_
    refine g_get hX fl_X8_86 (by decide) (by decide) dX8_mean_113 hF (fun jv26 hF => ?_)
    refine g_iload_n hX 2 dX8_mean_116 rfl rfl ?_
    refine g_iald hX dX8_mean_117 hF (fun jv27 hF => ?_)
    refine g_callVv (ci := 8) (rest := []) [(0, jv27)] hX cw_X8_164 rfl (by decide) (by decide) (fun r σ1 h => T_X8_unfold l D dA b0  jx0 jv27 σ22 σ1 r h) ⟨by decide, by decide⟩ rfl rfl (Nat.le_of_ble_eq_true rfl) dX8_mean_118 hF (fun jv28 σ29 hF => ?_)
    refine g_aload_n hX 0 dX8_mean_121 rfl rfl ?_
    refine g_callVv (ci := 8) (rest := []) [] hX cw_X8_215 rfl (by decide) (by decide) (fun r σ1 h => T_X8_ruledLet l D dA b0  jx0  σ29 σ1 r h) ⟨by decide, by decide⟩ rfl rfl (Nat.le_of_ble_eq_true rfl) dX8_mean_122 hF (fun jv30 σ31 hF => ?_)
    refine g_aload_n hX 0 dX8_mean_125 rfl rfl ?_
    refine g_get hX fl_X8_95 (by decide) (by decide) dX8_mean_126 hF (fun jv32 hF => ?_)
    refine g_iload_n hX 2 dX8_mean_129 rfl rfl ?_
    refine g_aload_n hX 0 dX8_mean_130 rfl rfl ?_
    refine g_iload_n hX 2 dX8_mean_131 rfl rfl ?_
    refine g_callV (t := 1) (ci := 8) (rest := [(0, jx3), (2, jv32)]) [(0, jx3)] hX cw_X8_187 rfl (by decide) (by decide) (fun r σ1 h => T_X8_scale l D dA b0  jx0 jx3 σ31 σ1 r h) ⟨by decide, by decide⟩ rfl rfl (Nat.le_of_ble_eq_true rfl) dX8_mean_132 hF (fun jv33 σ34 hF => ?_)
    refine g_aload_n hX 0 dX8_mean_135 rfl rfl ?_
    refine g_aload_n hX 0 dX8_mean_136 rfl rfl ?_
    refine g_get hX fl_X8_50 (by decide) (by decide) dX8_mean_137 hF (fun jv35 hF => ?_)
    refine g_iload_n hX 2 dX8_mean_140 rfl rfl ?_
    refine g_iald hX dX8_mean_141 hF (fun jv36 hF => ?_)
    refine g_iconst hX dX8_mean_142 ?_
    refine g_iadd hX dX8_mean_143 ?_
    refine g_callV (t := 0) (ci := 8) (rest := [(1, jv33), (0, jx3), (2, jv32)]) [(0, (jv36 + 1))] hX cw_X8_191 rfl (by decide) (by decide) (fun r σ1 h => T_X8_earns l D dA b0  jx0 (jv36 + 1) σ34 σ1 r h) ⟨by decide, by decide⟩ rfl rfl (Nat.le_of_ble_eq_true rfl) dX8_mean_144 hF (fun jv37 σ38 hF => ?_)
    refine g_i2l hX dX8_mean_147 hF (fun hF => ?_)
    refine g_lmul hX dX8_mean_148 ?_
    refine u_last hX dX8_mean_149 hF (fun σ39 hF => ?_)
    refine g_iload_n hX 2 dX8_mean_150 rfl rfl ?_
    refine g_iconst hX dX8_mean_151 ?_
    refine g_iadd hX dX8_mean_152 ?_
    refine g_istore (lv' := [(4, 0, (jx3 + 1)), (0, 2, jx0), (1, 0, jx1), (3, 0, jx3)]) hX dX8_mean_153 (by decide) rfl ?_
    refine g_lvp (lv' := [(0, 2, jx0), (1, 0, jx1), (3, 0, jx3), (4, 0, (jx3 + 1))]) [1, 2, 3, 0] rfl ?_
    exact T_X8_mean_L155 hX hR hnm hQ hE k40 jx0 jx1 jx3 hk40  fu (jx3 + 1) σ39 hF
def F_X8_mean_L40 (jx0 : Int) (jx1 : Int) : Nat → Int → Hp → Option (Int × Hp)
  | 0, _, _ => none
  | n + 1, jx3, σ => bLt jx3 jx1 ((rd 9 σ jx0 30).bind fun jv10 => (ar 12 σ jv10 jx1).bind fun jv11 => some (jv11, σ)) ((rd 9 σ jx0 26).bind fun jv12 => (ar 13 σ jv12 jx3).bind fun jv13 => bEq jv13 0 (F_X8_mean_B210 (F_X8_mean_L40 jx0 jx1 n) jx0 jx1 jx3  σ) ((rd 9 σ jx0 30).bind fun jv14 => (rd 9 σ jx0 14).bind fun jv15 => (ar 11 σ jv15 jx3).bind fun jv16 => (rd 9 σ jx0 8).bind fun jv17 => bEq jv16 (jv17 - 1) ((rd 9 σ jx0 27).bind fun jv18 => (ar 11 σ jv18 jx3).bind fun jv19 => bd (iv 9 σ jx0 (F_X8_endOf  jx0 jv19 σ)) fun jv20 σ21 => g3 jv20 (F_X8_mean_B92 (F_X8_mean_L40 jx0 jx1 n) jx0 jx1 jx3 jv20 jx3 jv14 σ21)) (F_X8_mean_B92 (F_X8_mean_L40 jx0 jx1 n) jx0 jx1 jx3 0 jx3 jv14 σ)))
theorem M_X8_mean_L40 (jx0 : Int) (jx1 : Int) : ∀ (n : Nat) (jx3 : Int) (σ : Hp), Mn σ (F_X8_mean_L40 jx0 jx1 n jx3 σ) := by
  intro n
  induction n with
  | zero => intros; rw [F_X8_mean_L40]; exact Mn_none
  | succ n hk40 =>
    intros
    rw [F_X8_mean_L40]
    repeat' first | exact Mn_ret | exact Mn_rz | exact hk40 _  _ | exact M_X8_mean_B210 (F_X8_mean_L40 jx0 jx1 n) hk40 _ _ _  _ | exact M_X8_endOf _ _ _ | exact M_X8_mean_B92 (F_X8_mean_L40 jx0 jx1 n) hk40 _ _ _ _ _ _ _ | refine Mn_nm (fun _ => ?_) | refine Mn_nab (fun _ _ => ?_) | refine Mn_nwb (fun _ _ => ?_) | refine Mn_pw (fun _ => ?_) | refine Mn_pz (fun _ => ?_) | refine Mn_aw (fun _ => ?_) | refine Mn_az (fun _ => ?_) | refine Mn_aq (fun _ => ?_) | refine Mn_bo (fun _ => ?_) | refine Mn_bd ?_ (fun _ _ => ?_) | refine Mn_iv ?_ | refine Mn_bLt ?_ ?_ | refine Mn_bLe ?_ ?_ | refine Mn_bEq ?_ ?_ | refine Mn_bN ?_ ?_ | refine Mn_g3 ?_ | refine Mn_g33 ?_ | refine Mn_g66 ?_ | refine Mn_gD ?_
set_option maxRecDepth 100000 in
set_option maxHeartbeats 4000000 in
theorem T_X8_mean_L40 {r : Int} {σE : Hp} (hX : Cx p R s m args meth c D dA b0 n0 m0 5 nE mE cX8_mean RX8 4 90) (hR : Rx meth (some .long)) (hnm : meth.name = yX8_mean.name) (hQ : Q = Qm D dA b0 n0 m0 below args s (some (pV 1 r)) σE) (hE : nE = σE.1 ∧ mE = σE.2.1) (jx0 : Int) (jx1 : Int) : ∀ (n : Nat) (jx3 : Int) (σ : Hp), F_X8_mean_L40 jx0 jx1 n jx3 σ = some (r, σE) → G p l e R s m args below meth c D dA b0 n0 m0 5 nE mE Q 40 [(0, 2, jx0), (1, 0, jx1), (3, 0, jx3)] [] σ := by
  intro n
  induction n with
  | zero =>
    intro jx3 σ hF
    rw [F_X8_mean_L40] at hF
    cases hF
  | succ n hk40 =>
    intro jx3 σ hF
    rw [F_X8_mean_L40] at hF
    refine g_iload_n hX 2 dX8_mean_40 rfl rfl ?_
    refine g_iload_n hX 1 dX8_mean_41 rfl rfl ?_
    refine g_icmp_lt (tgt := 216) hX dX8_mean_42 (by decide) hF (fun hc hF => ?_) (fun hc hF => ?_)
    · refine g_aload_n hX 0 dX8_mean_216 rfl rfl ?_
      refine g_get hX fl_X8_95 (by decide) (by decide) dX8_mean_217 hF (fun jv10 hF => ?_)
      refine g_iload_n hX 1 dX8_mean_220 rfl rfl ?_
      refine g_lald hX dX8_mean_221 hF (fun jv11 hF => ?_)
      exact g_lret hX hR hQ hE dX8_mean_222 hF
    · refine g_aload_n hX 0 dX8_mean_45 rfl rfl ?_
      refine g_get hX fl_X8_83 (by decide) (by decide) dX8_mean_46 hF (fun jv12 hF => ?_)
      refine g_iload_n hX 2 dX8_mean_49 rfl rfl ?_
      refine g_zald hX dX8_mean_50 hF (fun jv13 hF => ?_)
      refine g_if_ne (tgt := 57) hX dX8_mean_51 (by decide) hF (fun hc hF => ?_) (fun hc hF => ?_)
      · refine g_goto (tgt := 210) hX dX8_mean_54 (by decide) ?_
        exact T_X8_mean_B210 hX hR hnm hQ hE (F_X8_mean_L40 jx0 jx1 n) jx0 jx1 jx3  hk40  σ hF
      · refine g_aload_n hX 0 dX8_mean_57 rfl rfl ?_
        refine g_get hX fl_X8_95 (by decide) (by decide) dX8_mean_58 hF (fun jv14 hF => ?_)
        refine g_iload_n hX 2 dX8_mean_61 rfl rfl ?_
        refine g_aload_n hX 0 dX8_mean_62 rfl rfl ?_
        refine g_get hX fl_X8_50 (by decide) (by decide) dX8_mean_63 hF (fun jv15 hF => ?_)
        refine g_iload_n hX 2 dX8_mean_66 rfl rfl ?_
        refine g_iald hX dX8_mean_67 hF (fun jv16 hF => ?_)
        refine g_aload_n hX 0 dX8_mean_68 rfl rfl ?_
        refine g_get hX fl_X8_32 (by decide) (by decide) dX8_mean_69 hF (fun jv17 hF => ?_)
        refine g_iconst hX dX8_mean_72 ?_
        refine g_isub hX dX8_mean_73 ?_
        refine g_icmp_ne (tgt := 91) hX dX8_mean_74 (by decide) hF (fun hc hF => ?_) (fun hc hF => ?_)
        · refine g_aload_n hX 0 dX8_mean_77 rfl rfl ?_
          refine g_aload_n hX 0 dX8_mean_78 rfl rfl ?_
          refine g_get hX fl_X8_86 (by decide) (by decide) dX8_mean_79 hF (fun jv18 hF => ?_)
          refine g_iload_n hX 2 dX8_mean_82 rfl rfl ?_
          refine g_iald hX dX8_mean_83 hF (fun jv19 hF => ?_)
          refine g_callV (t := 0) (ci := 8) (rest := [(0, jx3), (2, jv14)]) [(0, jv19)] hX cw_X8_184 rfl (by decide) (by decide) (fun r σ1 h => T_X8_endOf l D dA b0  jx0 jv19 σ σ1 r h) ⟨by decide, by decide⟩ rfl rfl (Nat.le_of_ble_eq_true rfl) dX8_mean_84 hF (fun jv20 σ21 hF => ?_)
          refine g_i2l hX dX8_mean_87 hF (fun hF => ?_)
          refine g_goto (tgt := 92) hX dX8_mean_88 (by decide) ?_
          exact T_X8_mean_B92 hX hR hnm hQ hE (F_X8_mean_L40 jx0 jx1 n) jx0 jx1 jx3 jv20 jx3 jv14 hk40  σ21 hF
        · refine g_lconst (z := 0) hX dX8_mean_91 rfl ?_
          exact T_X8_mean_B92 hX hR hnm hQ hE (F_X8_mean_L40 jx0 jx1 n) jx0 jx1 jx3 0 jx3 jv14 hk40  σ hF
def F_X8_mean (jx0 : Int) (jx1 : Int) (jx2 : Int) (σ : Hp) : Option (Int × Hp) :=
  bd (iv 9 σ jx0 (F_X8_isNode  jx0 jx1 σ)) fun jv1 σ2 => bEq jv1 0 (some ((-9000000000000000000), σ2)) (bd (iv 9 σ2 jx0 (F_X8_isState  jx0 jx2 σ2)) fun jv3 σ4 => bEq jv3 0 (some ((-9000000000000000000), σ4)) (bd (iv 9 σ4 jx0 (F_X8_isWhole  jx0  σ4)) fun jv5 σ6 => bEq jv5 0 (some ((-9000000000000000000), σ6)) (bd (iv 9 σ6 jx0 (F_X8_walk  jx0 jx1 jx2 σ6)) fun jv7 σ8 => (rd 9 σ8 jx0 11).bind fun jv9 => F_X8_mean_L40 jx0 jx1 fu (jv9 - 1) σ8)))
theorem M_X8_mean (jx0 : Int) (jx1 : Int) (jx2 : Int) (σ : Hp) : Mn σ (F_X8_mean jx0 jx1 jx2 σ) := by
  unfold F_X8_mean
  repeat' first | exact Mn_ret | exact Mn_rz | exact M_X8_isNode _ _ _ | exact M_X8_isState _ _ _ | exact M_X8_isWhole _ _ | exact M_X8_walk _ _ _ _ | exact M_X8_mean_L40 _ _ _ _ _ | refine Mn_nm (fun _ => ?_) | refine Mn_nab (fun _ _ => ?_) | refine Mn_nwb (fun _ _ => ?_) | refine Mn_pw (fun _ => ?_) | refine Mn_pz (fun _ => ?_) | refine Mn_aw (fun _ => ?_) | refine Mn_az (fun _ => ?_) | refine Mn_aq (fun _ => ?_) | refine Mn_bo (fun _ => ?_) | refine Mn_bd ?_ (fun _ _ => ?_) | refine Mn_iv ?_ | refine Mn_bLt ?_ ?_ | refine Mn_bLe ?_ ?_ | refine Mn_bEq ?_ ?_ | refine Mn_bN ?_ ?_ | refine Mn_g3 ?_ | refine Mn_g33 ?_ | refine Mn_g66 ?_ | refine Mn_gD ?_
set_option maxRecDepth 100000 in
set_option maxHeartbeats 4000000 in
theorem T_X8_mean (l : Launch) (D : va_G) (dA : Nat → ClassId) (b0 : Nat) (jx0 : Int) (jx1 : Int) (jx2 : Int) (σ σE : Hp) (r : Int) (hF : F_X8_mean jx0 jx1 jx2 σ = some (r, σE)) : Ct l D dA b0 yX8_mean cX8_mean 5 (some .long) 4 90 [(2, jx0), (0, jx1), (0, jx2)] σ (some (pV 1 r)) σE := by
  refine Ct.of (lv0 := [(0, 2, jx0), (1, 0, jx1), (2, 0, jx2)]) (by decide) RX8 rfl (Nat.le_of_ble_eq_true rfl) rfl ?_ (M_X8_mean jx0 jx1 jx2 σ r σE hF)
  intro p e R s m args below meth c hX hR hnm
  obtain ⟨Q, hQ⟩ : ∃ Q, Q = Qm D dA b0 σ.1 σ.2.1 below args s (some (pV 1 r)) σE := ⟨_, rfl⟩
  rw [← hQ]
  have hE : σE.1 = σE.1 ∧ σE.2.1 = σE.2.1 := ⟨rfl, rfl⟩
  unfold F_X8_mean at hF
  refine g_aload_n hX 0 dX8_mean_0 rfl rfl ?_
  refine g_iload_n hX 1 dX8_mean_1 rfl rfl ?_
  refine g_callV (t := 0) (ci := 8) (rest := []) [(0, jx1)] hX cw_X8_144 rfl (by decide) (by decide) (fun r σ1 h => T_X8_isNode l D dA b0  jx0 jx1 σ σ1 r h) ⟨by decide, by decide⟩ rfl rfl (Nat.le_of_ble_eq_true rfl) dX8_mean_2 hF (fun jv1 σ2 hF => ?_)
  refine g_if_eq (tgt := 23) hX dX8_mean_5 (by decide) hF (fun hc hF => ?_) (fun hc hF => ?_)
  · refine g_ldc2 (z := -9000000000000000000) hX kc_X8_203 (by decide) dX8_mean_23 ?_
    exact g_lret hX hR hQ hE dX8_mean_26 hF
  · refine g_aload_n hX 0 dX8_mean_8 rfl rfl ?_
    refine g_iload_n hX 2 dX8_mean_9 rfl rfl ?_
    refine g_callV (t := 0) (ci := 8) (rest := []) [(0, jx2)] hX cw_X8_200 rfl (by decide) (by decide) (fun r σ1 h => T_X8_isState l D dA b0  jx0 jx2 σ2 σ1 r h) ⟨by decide, by decide⟩ rfl rfl (Nat.le_of_ble_eq_true rfl) dX8_mean_10 hF (fun jv3 σ4 hF => ?_)
    refine g_if_eq (tgt := 23) hX dX8_mean_13 (by decide) hF (fun hc hF => ?_) (fun hc hF => ?_)
    · refine g_ldc2 (z := -9000000000000000000) hX kc_X8_203 (by decide) dX8_mean_23 ?_
      exact g_lret hX hR hQ hE dX8_mean_26 hF
    · refine g_aload_n hX 0 dX8_mean_16 rfl rfl ?_
      refine g_callV (t := 0) (ci := 8) (rest := []) [] hX cw_X8_151 rfl (by decide) (by decide) (fun r σ1 h => T_X8_isWhole l D dA b0  jx0  σ4 σ1 r h) ⟨by decide, by decide⟩ rfl rfl (Nat.le_of_ble_eq_true rfl) dX8_mean_17 hF (fun jv5 σ6 hF => ?_)
      refine g_if_ne (tgt := 27) hX dX8_mean_20 (by decide) hF (fun hc hF => ?_) (fun hc hF => ?_)
      · refine g_ldc2 (z := -9000000000000000000) hX kc_X8_203 (by decide) dX8_mean_23 ?_
        exact g_lret hX hR hQ hE dX8_mean_26 hF
      · refine g_aload_n hX 0 dX8_mean_27 rfl rfl ?_
        refine g_iload_n hX 1 dX8_mean_28 rfl rfl ?_
        refine g_iload_n hX 2 dX8_mean_29 rfl rfl ?_
        refine g_callVv (ci := 8) (rest := []) [(0, jx1), (0, jx2)] hX cw_X8_218 rfl (by decide) (by decide) (fun r σ1 h => T_X8_walk l D dA b0  jx0 jx1 jx2 σ6 σ1 r h) ⟨by decide, by decide⟩ rfl rfl (Nat.le_of_ble_eq_true rfl) dX8_mean_30 hF (fun jv7 σ8 hF => ?_)
        refine g_aload_n hX 0 dX8_mean_33 rfl rfl ?_
        refine g_get hX fl_X8_41 (by decide) (by decide) dX8_mean_34 hF (fun jv9 hF => ?_)
        refine g_iconst hX dX8_mean_37 ?_
        refine g_isub hX dX8_mean_38 ?_
        refine g_istore_n (lv' := [(3, 0, (jv9 - 1)), (0, 2, jx0), (1, 0, jx1), (2, 0, jx2)]) hX dX8_mean_39 rfl (by decide) rfl ?_
        refine g_lvp (lv' := [(0, 2, jx0), (1, 0, jx1), (3, 0, (jv9 - 1))]) [1, 2, 0] rfl ?_
        exact T_X8_mean_L40 hX hR hnm hQ hE jx0 jx1  fu (jv9 - 1) σ8 hF
end

section
variable {p : Program} {l : Launch} {e : Env} {R : Room} {s : State} {m : MethodId} {args : Array Value} {below : List Frame} {meth : Method} {c : Code} {D : va_G} {dA : Nat → ClassId} {b0 n0 m0 nE mE : Nat} {Q : State → Prop}
def F_X8_worst_B124 (k41 : Int → Int → Int → Hp → Option (Int × Hp)) (jx0 : Int) (jx3 : Int) (jx4 : Int) (jx6 : Int) (σ : Hp) : Option (Int × Hp) :=
  k41 jx3 jx4 (jx6 + 1) σ
theorem M_X8_worst_B124 (k41 : Int → Int → Int → Hp → Option (Int × Hp)) (hk41 : ∀ (jx3 : Int) (jx4 : Int) (jx6 : Int) (σ : Hp), Mn σ (k41 jx3 jx4 jx6 σ)) (jx0 : Int) (jx3 : Int) (jx4 : Int) (jx6 : Int) (σ : Hp) : Mn σ (F_X8_worst_B124 k41 jx0 jx3 jx4 jx6 σ) := by
  unfold F_X8_worst_B124
  repeat' first | exact Mn_ret | exact Mn_rz | exact hk41 _ _ _  _ | refine Mn_nm (fun _ => ?_) | refine Mn_nab (fun _ _ => ?_) | refine Mn_nwb (fun _ _ => ?_) | refine Mn_pw (fun _ => ?_) | refine Mn_pz (fun _ => ?_) | refine Mn_aw (fun _ => ?_) | refine Mn_az (fun _ => ?_) | refine Mn_aq (fun _ => ?_) | refine Mn_bo (fun _ => ?_) | refine Mn_bd ?_ (fun _ _ => ?_) | refine Mn_iv ?_ | refine Mn_bLt ?_ ?_ | refine Mn_bLe ?_ ?_ | refine Mn_bEq ?_ ?_ | refine Mn_bN ?_ ?_ | refine Mn_g3 ?_ | refine Mn_g33 ?_ | refine Mn_g66 ?_ | refine Mn_gD ?_
set_option maxRecDepth 100000 in
set_option maxHeartbeats 4000000 in
theorem T_X8_worst_B124 {r : Int} {σE : Hp} (hX : Cx p R s m args meth c D dA b0 n0 m0 9 nE mE cX8_worst RX8 4 90) (hR : Rx meth (some .long)) (hnm : meth.name = yX8_worst.name) (hQ : Q = Qm D dA b0 n0 m0 below args s (some (pV 1 r)) σE) (hE : nE = σE.1 ∧ mE = σE.2.1) (k41 : Int → Int → Int → Hp → Option (Int × Hp)) (jx0 : Int) (jx3 : Int) (jx4 : Int) (jx6 : Int) (hk41 : ∀ (jx3 : Int) (jx4 : Int) (jx6 : Int) (σ : Hp), k41 jx3 jx4 jx6 σ = some (r, σE) → G p l e R s m args below meth c D dA b0 n0 m0 9 nE mE Q 41 [(0, 2, jx0), (3, 0, jx3), (4, 1, jx4), (6, 0, jx6)] [] σ) (σ : Hp) (hF : F_X8_worst_B124 k41 jx0 jx3 jx4 jx6 σ = some (r, σE)) : G p l e R s m args below meth c D dA b0 n0 m0 9 nE mE Q 124 [(0, 2, jx0), (3, 0, jx3), (4, 1, jx4), (6, 0, jx6)] [] σ := by
  unfold F_X8_worst_B124 at hF
  refine g_iinc (lv' := [(6, 0, (jx6 + 1)), (0, 2, jx0), (3, 0, jx3), (4, 1, jx4)]) hX 3 dX8_worst_124 rfl (by decide) rfl ?_
  refine g_goto (tgt := 41) hX dX8_worst_127 (by decide) ?_
  refine g_lvp (lv' := [(0, 2, jx0), (3, 0, jx3), (4, 1, jx4), (6, 0, (jx6 + 1))]) [1, 2, 3, 0] rfl ?_
  exact hk41 jx3 jx4 (jx6 + 1) σ hF
def F_X8_worst_B120 (k41 : Int → Int → Int → Hp → Option (Int × Hp)) (jx0 : Int) (jx6 : Int) (js0 : Int) (σ : Hp) : Option (Int × Hp) :=
  F_X8_worst_B124 k41 jx0 1 js0 jx6  σ
theorem M_X8_worst_B120 (k41 : Int → Int → Int → Hp → Option (Int × Hp)) (hk41 : ∀ (jx3 : Int) (jx4 : Int) (jx6 : Int) (σ : Hp), Mn σ (k41 jx3 jx4 jx6 σ)) (jx0 : Int) (jx6 : Int) (js0 : Int) (σ : Hp) : Mn σ (F_X8_worst_B120 k41 jx0 jx6 js0 σ) := by
  unfold F_X8_worst_B120
  repeat' first | exact Mn_ret | exact Mn_rz | exact hk41 _ _ _  _ | exact M_X8_worst_B124 k41 hk41 _ _ _ _  _ | refine Mn_nm (fun _ => ?_) | refine Mn_nab (fun _ _ => ?_) | refine Mn_nwb (fun _ _ => ?_) | refine Mn_pw (fun _ => ?_) | refine Mn_pz (fun _ => ?_) | refine Mn_aw (fun _ => ?_) | refine Mn_az (fun _ => ?_) | refine Mn_aq (fun _ => ?_) | refine Mn_bo (fun _ => ?_) | refine Mn_bd ?_ (fun _ _ => ?_) | refine Mn_iv ?_ | refine Mn_bLt ?_ ?_ | refine Mn_bLe ?_ ?_ | refine Mn_bEq ?_ ?_ | refine Mn_bN ?_ ?_ | refine Mn_g3 ?_ | refine Mn_g33 ?_ | refine Mn_g66 ?_ | refine Mn_gD ?_
set_option maxRecDepth 100000 in
set_option maxHeartbeats 4000000 in
theorem T_X8_worst_B120 {r : Int} {σE : Hp} (hX : Cx p R s m args meth c D dA b0 n0 m0 9 nE mE cX8_worst RX8 4 90) (hR : Rx meth (some .long)) (hnm : meth.name = yX8_worst.name) (hQ : Q = Qm D dA b0 n0 m0 below args s (some (pV 1 r)) σE) (hE : nE = σE.1 ∧ mE = σE.2.1) (k41 : Int → Int → Int → Hp → Option (Int × Hp)) (jx0 : Int) (jx6 : Int) (js0 : Int) (hk41 : ∀ (jx3 : Int) (jx4 : Int) (jx6 : Int) (σ : Hp), k41 jx3 jx4 jx6 σ = some (r, σE) → G p l e R s m args below meth c D dA b0 n0 m0 9 nE mE Q 41 [(0, 2, jx0), (3, 0, jx3), (4, 1, jx4), (6, 0, jx6)] [] σ) (σ : Hp) (hF : F_X8_worst_B120 k41 jx0 jx6 js0 σ = some (r, σE)) : G p l e R s m args below meth c D dA b0 n0 m0 9 nE mE Q 120 [(0, 2, jx0), (6, 0, jx6)] [(1, js0)] σ := by
  unfold F_X8_worst_B120 at hF
  refine g_lstore (lv' := [(4, 1, js0), (0, 2, jx0), (6, 0, jx6)]) hX dX8_worst_120 (by decide) rfl ?_
  refine g_iconst hX dX8_worst_122 ?_
  refine g_istore_n (lv' := [(3, 0, 1), (4, 1, js0), (0, 2, jx0), (6, 0, jx6)]) hX dX8_worst_123 rfl (by decide) rfl ?_
  refine g_lvp (lv' := [(0, 2, jx0), (3, 0, 1), (4, 1, js0), (6, 0, jx6)]) [2, 0, 1, 3] rfl ?_
  exact T_X8_worst_B124 hX hR hnm hQ hE k41 jx0 1 js0 jx6  hk41  σ hF
def F_X8_worst_B118 (k41 : Int → Int → Int → Hp → Option (Int × Hp)) (jx0 : Int) (jx6 : Int) (jx7 : Int) (σ : Hp) : Option (Int × Hp) :=
  F_X8_worst_B120 k41 jx0 jx6 jx7 σ
theorem M_X8_worst_B118 (k41 : Int → Int → Int → Hp → Option (Int × Hp)) (hk41 : ∀ (jx3 : Int) (jx4 : Int) (jx6 : Int) (σ : Hp), Mn σ (k41 jx3 jx4 jx6 σ)) (jx0 : Int) (jx6 : Int) (jx7 : Int) (σ : Hp) : Mn σ (F_X8_worst_B118 k41 jx0 jx6 jx7 σ) := by
  unfold F_X8_worst_B118
  repeat' first | exact Mn_ret | exact Mn_rz | exact hk41 _ _ _  _ | exact M_X8_worst_B120 k41 hk41 _ _ _ _ | refine Mn_nm (fun _ => ?_) | refine Mn_nab (fun _ _ => ?_) | refine Mn_nwb (fun _ _ => ?_) | refine Mn_pw (fun _ => ?_) | refine Mn_pz (fun _ => ?_) | refine Mn_aw (fun _ => ?_) | refine Mn_az (fun _ => ?_) | refine Mn_aq (fun _ => ?_) | refine Mn_bo (fun _ => ?_) | refine Mn_bd ?_ (fun _ _ => ?_) | refine Mn_iv ?_ | refine Mn_bLt ?_ ?_ | refine Mn_bLe ?_ ?_ | refine Mn_bEq ?_ ?_ | refine Mn_bN ?_ ?_ | refine Mn_g3 ?_ | refine Mn_g33 ?_ | refine Mn_g66 ?_ | refine Mn_gD ?_
set_option maxRecDepth 100000 in
set_option maxHeartbeats 4000000 in
theorem T_X8_worst_B118 {r : Int} {σE : Hp} (hX : Cx p R s m args meth c D dA b0 n0 m0 9 nE mE cX8_worst RX8 4 90) (hR : Rx meth (some .long)) (hnm : meth.name = yX8_worst.name) (hQ : Q = Qm D dA b0 n0 m0 below args s (some (pV 1 r)) σE) (hE : nE = σE.1 ∧ mE = σE.2.1) (k41 : Int → Int → Int → Hp → Option (Int × Hp)) (jx0 : Int) (jx6 : Int) (jx7 : Int) (hk41 : ∀ (jx3 : Int) (jx4 : Int) (jx6 : Int) (σ : Hp), k41 jx3 jx4 jx6 σ = some (r, σE) → G p l e R s m args below meth c D dA b0 n0 m0 9 nE mE Q 41 [(0, 2, jx0), (3, 0, jx3), (4, 1, jx4), (6, 0, jx6)] [] σ) (σ : Hp) (hF : F_X8_worst_B118 k41 jx0 jx6 jx7 σ = some (r, σE)) : G p l e R s m args below meth c D dA b0 n0 m0 9 nE mE Q 118 [(0, 2, jx0), (6, 0, jx6), (7, 1, jx7)] [] σ := by
  unfold F_X8_worst_B118 at hF
  refine g_lload hX 2 dX8_worst_118 rfl ?_
  refine g_lvp (lv' := [(0, 2, jx0), (6, 0, jx6)]) [0, 1] rfl ?_
  exact T_X8_worst_B120 hX hR hnm hQ hE k41 jx0 jx6 jx7 hk41  σ hF
def F_X8_worst_L41 (jx0 : Int) : Nat → Int → Int → Int → Hp → Option (Int × Hp)
  | 0, _, _, _, _ => none
  | n + 1, jx3, jx4, jx6, σ => (rd 9 σ jx0 11).bind fun jv9 => bLt jx6 jv9 ((rd 9 σ jx0 26).bind fun jv10 => (ar 13 σ jv10 jx6).bind fun jv11 => bEq jv11 0 (F_X8_worst_B124 (F_X8_worst_L41 jx0 n) jx0 jx3 jx4 jx6  σ) ((rd 9 σ jx0 14).bind fun jv12 => (ar 11 σ jv12 jx6).bind fun jv13 => (rd 9 σ jx0 8).bind fun jv14 => bLt jv13 (jv14 - 1) (F_X8_worst_B124 (F_X8_worst_L41 jx0 n) jx0 jx3 jx4 jx6  σ) ((rd 9 σ jx0 28).bind fun jv15 => (ar 11 σ jv15 jx6).bind fun jv16 => (rd 9 σ jx0 27).bind fun jv17 => (ar 11 σ jv17 jx6).bind fun jv18 => bd (iv 9 σ jx0 (F_X8_endOf  jx0 jv18 σ)) fun jv19 σ20 => g3 (jv16 + jv19) (bEq jx3 0 (F_X8_worst_B118 (F_X8_worst_L41 jx0 n) jx0 jx6 (jv16 + jv19)  σ20) (g66 jx4 (jv16 + jv19) (bLt (cmpL jx4 (jv16 + jv19)) 0 (F_X8_worst_B120 (F_X8_worst_L41 jx0 n) jx0 jx6 jx4 σ20) (F_X8_worst_B118 (F_X8_worst_L41 jx0 n) jx0 jx6 (jv16 + jv19)  σ20))))))) (some (jx4, σ))
theorem M_X8_worst_L41 (jx0 : Int) : ∀ (n : Nat) (jx3 : Int) (jx4 : Int) (jx6 : Int) (σ : Hp), Mn σ (F_X8_worst_L41 jx0 n jx3 jx4 jx6 σ) := by
  intro n
  induction n with
  | zero => intros; rw [F_X8_worst_L41]; exact Mn_none
  | succ n hk41 =>
    intros
    rw [F_X8_worst_L41]
    repeat' first | exact Mn_ret | exact Mn_rz | exact hk41 _ _ _  _ | exact M_X8_worst_B124 (F_X8_worst_L41 jx0 n) hk41 _ _ _ _  _ | exact M_X8_endOf _ _ _ | exact M_X8_worst_B118 (F_X8_worst_L41 jx0 n) hk41 _ _ _  _ | exact M_X8_worst_B120 (F_X8_worst_L41 jx0 n) hk41 _ _ _ _ | refine Mn_nm (fun _ => ?_) | refine Mn_nab (fun _ _ => ?_) | refine Mn_nwb (fun _ _ => ?_) | refine Mn_pw (fun _ => ?_) | refine Mn_pz (fun _ => ?_) | refine Mn_aw (fun _ => ?_) | refine Mn_az (fun _ => ?_) | refine Mn_aq (fun _ => ?_) | refine Mn_bo (fun _ => ?_) | refine Mn_bd ?_ (fun _ _ => ?_) | refine Mn_iv ?_ | refine Mn_bLt ?_ ?_ | refine Mn_bLe ?_ ?_ | refine Mn_bEq ?_ ?_ | refine Mn_bN ?_ ?_ | refine Mn_g3 ?_ | refine Mn_g33 ?_ | refine Mn_g66 ?_ | refine Mn_gD ?_
set_option maxRecDepth 100000 in
set_option maxHeartbeats 4000000 in
theorem T_X8_worst_L41 {r : Int} {σE : Hp} (hX : Cx p R s m args meth c D dA b0 n0 m0 9 nE mE cX8_worst RX8 4 90) (hR : Rx meth (some .long)) (hnm : meth.name = yX8_worst.name) (hQ : Q = Qm D dA b0 n0 m0 below args s (some (pV 1 r)) σE) (hE : nE = σE.1 ∧ mE = σE.2.1) (jx0 : Int) : ∀ (n : Nat) (jx3 : Int) (jx4 : Int) (jx6 : Int) (σ : Hp), F_X8_worst_L41 jx0 n jx3 jx4 jx6 σ = some (r, σE) → G p l e R s m args below meth c D dA b0 n0 m0 9 nE mE Q 41 [(0, 2, jx0), (3, 0, jx3), (4, 1, jx4), (6, 0, jx6)] [] σ := by
  intro n
  induction n with
  | zero =>
    intro jx3 jx4 jx6 σ hF
    rw [F_X8_worst_L41] at hF
    cases hF
  | succ n hk41 =>
    intro jx3 jx4 jx6 σ hF
    rw [F_X8_worst_L41] at hF
    refine g_iload hX 3 dX8_worst_41 rfl ?_
    refine g_aload_n hX 0 dX8_worst_43 rfl rfl ?_
    refine g_get hX fl_X8_41 (by decide) (by decide) dX8_worst_44 hF (fun jv9 hF => ?_)
    refine g_icmp_ge (tgt := 130) hX dX8_worst_47 (by decide) hF (fun hc hF => ?_) (fun hc hF => ?_)
    · refine g_aload_n hX 0 dX8_worst_50 rfl rfl ?_
      refine g_get hX fl_X8_83 (by decide) (by decide) dX8_worst_51 hF (fun jv10 hF => ?_)
      refine g_iload hX 3 dX8_worst_54 rfl ?_
      refine g_zald hX dX8_worst_56 hF (fun jv11 hF => ?_)
      refine g_if_eq (tgt := 124) hX dX8_worst_57 (by decide) hF (fun hc hF => ?_) (fun hc hF => ?_)
      · exact T_X8_worst_B124 hX hR hnm hQ hE (F_X8_worst_L41 jx0 n) jx0 jx3 jx4 jx6  hk41  σ hF
      · refine g_aload_n hX 0 dX8_worst_60 rfl rfl ?_
        refine g_get hX fl_X8_50 (by decide) (by decide) dX8_worst_61 hF (fun jv12 hF => ?_)
        refine g_iload hX 3 dX8_worst_64 rfl ?_
        refine g_iald hX dX8_worst_66 hF (fun jv13 hF => ?_)
        refine g_aload_n hX 0 dX8_worst_67 rfl rfl ?_
        refine g_get hX fl_X8_32 (by decide) (by decide) dX8_worst_68 hF (fun jv14 hF => ?_)
        refine g_iconst hX dX8_worst_71 ?_
        refine g_isub hX dX8_worst_72 ?_
        refine g_icmp_ge (tgt := 79) hX dX8_worst_73 (by decide) hF (fun hc hF => ?_) (fun hc hF => ?_)
        · refine g_goto (tgt := 124) hX dX8_worst_76 (by decide) ?_
          exact T_X8_worst_B124 hX hR hnm hQ hE (F_X8_worst_L41 jx0 n) jx0 jx3 jx4 jx6  hk41  σ hF
        · refine g_aload_n hX 0 dX8_worst_79 rfl rfl ?_
          refine g_get hX fl_X8_89 (by decide) (by decide) dX8_worst_80 hF (fun jv15 hF => ?_)
          refine g_iload hX 3 dX8_worst_83 rfl ?_
          refine g_iald hX dX8_worst_85 hF (fun jv16 hF => ?_)
          refine g_aload_n hX 0 dX8_worst_86 rfl rfl ?_
          refine g_aload_n hX 0 dX8_worst_87 rfl rfl ?_
          refine g_get hX fl_X8_86 (by decide) (by decide) dX8_worst_88 hF (fun jv17 hF => ?_)
          refine g_iload hX 3 dX8_worst_91 rfl ?_
          refine g_iald hX dX8_worst_93 hF (fun jv18 hF => ?_)
          refine g_callV (t := 0) (ci := 8) (rest := [(0, jv16)]) [(0, jv18)] hX cw_X8_184 rfl (by decide) (by decide) (fun r σ1 h => T_X8_endOf l D dA b0  jx0 jv18 σ σ1 r h) ⟨by decide, by decide⟩ rfl rfl (Nat.le_of_ble_eq_true rfl) dX8_worst_94 hF (fun jv19 σ20 hF => ?_)
          refine g_iadd hX dX8_worst_97 ?_
          refine g_i2l hX dX8_worst_98 hF (fun hF => ?_)
          refine g_lstore (lv' := [(7, 1, (jv16 + jv19)), (0, 2, jx0), (3, 0, jx3), (4, 1, jx4), (6, 0, jx6)]) hX dX8_worst_99 (by decide) rfl ?_
          refine g_iload_n hX 2 dX8_worst_101 rfl rfl ?_
          refine g_if_eq (tgt := 118) hX dX8_worst_102 (by decide) hF (fun hc hF => ?_) (fun hc hF => ?_)
          · refine g_lvp (lv' := [(0, 2, jx0), (6, 0, jx6), (7, 1, (jv16 + jv19))]) [1, 4, 0] rfl ?_
            exact T_X8_worst_B118 hX hR hnm hQ hE (F_X8_worst_L41 jx0 n) jx0 jx6 (jv16 + jv19)  hk41  σ20 hF
          · refine g_lload hX 3 dX8_worst_105 rfl ?_
            refine g_lload hX 0 dX8_worst_107 rfl ?_
            refine g_lcmp hX dX8_worst_109 hF (fun hF => ?_)
            refine g_if_ge (tgt := 118) hX dX8_worst_110 (by decide) hF (fun hc hF => ?_) (fun hc hF => ?_)
            · refine g_lload hX 3 dX8_worst_113 rfl ?_
              refine g_goto (tgt := 120) hX dX8_worst_115 (by decide) ?_
              refine g_lvp (lv' := [(0, 2, jx0), (6, 0, jx6)]) [1, 4] rfl ?_
              exact T_X8_worst_B120 hX hR hnm hQ hE (F_X8_worst_L41 jx0 n) jx0 jx6 jx4 hk41  σ20 hF
            · refine g_lvp (lv' := [(0, 2, jx0), (6, 0, jx6), (7, 1, (jv16 + jv19))]) [1, 4, 0] rfl ?_
              exact T_X8_worst_B118 hX hR hnm hQ hE (F_X8_worst_L41 jx0 n) jx0 jx6 (jv16 + jv19)  hk41  σ20 hF
    · refine g_lload hX 2 dX8_worst_130 rfl ?_
      exact g_lret hX hR hQ hE dX8_worst_132 hF
def F_X8_worst (jx0 : Int) (jx1 : Int) (jx2 : Int) (σ : Hp) : Option (Int × Hp) :=
  bd (iv 9 σ jx0 (F_X8_isNode  jx0 jx1 σ)) fun jv1 σ2 => bEq jv1 0 (some ((-9000000000000000000), σ2)) (bd (iv 9 σ2 jx0 (F_X8_isState  jx0 jx2 σ2)) fun jv3 σ4 => bEq jv3 0 (some ((-9000000000000000000), σ4)) (bd (iv 9 σ4 jx0 (F_X8_isWhole  jx0  σ4)) fun jv5 σ6 => bEq jv5 0 (some ((-9000000000000000000), σ6)) (bd (iv 9 σ6 jx0 (F_X8_walk  jx0 jx1 jx2 σ6)) fun jv7 σ8 => F_X8_worst_L41 jx0 fu 0 0 jx1 σ8)))
theorem M_X8_worst (jx0 : Int) (jx1 : Int) (jx2 : Int) (σ : Hp) : Mn σ (F_X8_worst jx0 jx1 jx2 σ) := by
  unfold F_X8_worst
  repeat' first | exact Mn_ret | exact Mn_rz | exact M_X8_isNode _ _ _ | exact M_X8_isState _ _ _ | exact M_X8_isWhole _ _ | exact M_X8_walk _ _ _ _ | exact M_X8_worst_L41 _ _ _ _ _ _ | refine Mn_nm (fun _ => ?_) | refine Mn_nab (fun _ _ => ?_) | refine Mn_nwb (fun _ _ => ?_) | refine Mn_pw (fun _ => ?_) | refine Mn_pz (fun _ => ?_) | refine Mn_aw (fun _ => ?_) | refine Mn_az (fun _ => ?_) | refine Mn_aq (fun _ => ?_) | refine Mn_bo (fun _ => ?_) | refine Mn_bd ?_ (fun _ _ => ?_) | refine Mn_iv ?_ | refine Mn_bLt ?_ ?_ | refine Mn_bLe ?_ ?_ | refine Mn_bEq ?_ ?_ | refine Mn_bN ?_ ?_ | refine Mn_g3 ?_ | refine Mn_g33 ?_ | refine Mn_g66 ?_ | refine Mn_gD ?_
set_option maxRecDepth 100000 in
set_option maxHeartbeats 4000000 in
theorem T_X8_worst (l : Launch) (D : va_G) (dA : Nat → ClassId) (b0 : Nat) (jx0 : Int) (jx1 : Int) (jx2 : Int) (σ σE : Hp) (r : Int) (hF : F_X8_worst jx0 jx1 jx2 σ = some (r, σE)) : Ct l D dA b0 yX8_worst cX8_worst 9 (some .long) 4 90 [(2, jx0), (0, jx1), (0, jx2)] σ (some (pV 1 r)) σE := by
  refine Ct.of (lv0 := [(0, 2, jx0), (1, 0, jx1), (2, 0, jx2)]) (by decide) RX8 rfl (Nat.le_of_ble_eq_true rfl) rfl ?_ (M_X8_worst jx0 jx1 jx2 σ r σE hF)
  intro p e R s m args below meth c hX hR hnm
  obtain ⟨Q, hQ⟩ : ∃ Q, Q = Qm D dA b0 σ.1 σ.2.1 below args s (some (pV 1 r)) σE := ⟨_, rfl⟩
  rw [← hQ]
  have hE : σE.1 = σE.1 ∧ σE.2.1 = σE.2.1 := ⟨rfl, rfl⟩
  unfold F_X8_worst at hF
  refine g_aload_n hX 0 dX8_worst_0 rfl rfl ?_
  refine g_iload_n hX 1 dX8_worst_1 rfl rfl ?_
  refine g_callV (t := 0) (ci := 8) (rest := []) [(0, jx1)] hX cw_X8_144 rfl (by decide) (by decide) (fun r σ1 h => T_X8_isNode l D dA b0  jx0 jx1 σ σ1 r h) ⟨by decide, by decide⟩ rfl rfl (Nat.le_of_ble_eq_true rfl) dX8_worst_2 hF (fun jv1 σ2 hF => ?_)
  refine g_if_eq (tgt := 23) hX dX8_worst_5 (by decide) hF (fun hc hF => ?_) (fun hc hF => ?_)
  · refine g_ldc2 (z := -9000000000000000000) hX kc_X8_203 (by decide) dX8_worst_23 ?_
    exact g_lret hX hR hQ hE dX8_worst_26 hF
  · refine g_aload_n hX 0 dX8_worst_8 rfl rfl ?_
    refine g_iload_n hX 2 dX8_worst_9 rfl rfl ?_
    refine g_callV (t := 0) (ci := 8) (rest := []) [(0, jx2)] hX cw_X8_200 rfl (by decide) (by decide) (fun r σ1 h => T_X8_isState l D dA b0  jx0 jx2 σ2 σ1 r h) ⟨by decide, by decide⟩ rfl rfl (Nat.le_of_ble_eq_true rfl) dX8_worst_10 hF (fun jv3 σ4 hF => ?_)
    refine g_if_eq (tgt := 23) hX dX8_worst_13 (by decide) hF (fun hc hF => ?_) (fun hc hF => ?_)
    · refine g_ldc2 (z := -9000000000000000000) hX kc_X8_203 (by decide) dX8_worst_23 ?_
      exact g_lret hX hR hQ hE dX8_worst_26 hF
    · refine g_aload_n hX 0 dX8_worst_16 rfl rfl ?_
      refine g_callV (t := 0) (ci := 8) (rest := []) [] hX cw_X8_151 rfl (by decide) (by decide) (fun r σ1 h => T_X8_isWhole l D dA b0  jx0  σ4 σ1 r h) ⟨by decide, by decide⟩ rfl rfl (Nat.le_of_ble_eq_true rfl) dX8_worst_17 hF (fun jv5 σ6 hF => ?_)
      refine g_if_ne (tgt := 27) hX dX8_worst_20 (by decide) hF (fun hc hF => ?_) (fun hc hF => ?_)
      · refine g_ldc2 (z := -9000000000000000000) hX kc_X8_203 (by decide) dX8_worst_23 ?_
        exact g_lret hX hR hQ hE dX8_worst_26 hF
      · refine g_aload_n hX 0 dX8_worst_27 rfl rfl ?_
        refine g_iload_n hX 1 dX8_worst_28 rfl rfl ?_
        refine g_iload_n hX 2 dX8_worst_29 rfl rfl ?_
        refine g_callVv (ci := 8) (rest := []) [(0, jx1), (0, jx2)] hX cw_X8_218 rfl (by decide) (by decide) (fun r σ1 h => T_X8_walk l D dA b0  jx0 jx1 jx2 σ6 σ1 r h) ⟨by decide, by decide⟩ rfl rfl (Nat.le_of_ble_eq_true rfl) dX8_worst_30 hF (fun jv7 σ8 hF => ?_)
        refine g_iconst hX dX8_worst_33 ?_
        refine g_istore_n (lv' := [(3, 0, 0), (0, 2, jx0), (1, 0, jx1), (2, 0, jx2)]) hX dX8_worst_34 rfl (by decide) rfl ?_
        refine g_lconst (z := 0) hX dX8_worst_35 rfl ?_
        refine g_lstore (lv' := [(4, 1, 0), (3, 0, 0), (0, 2, jx0), (1, 0, jx1), (2, 0, jx2)]) hX dX8_worst_36 (by decide) rfl ?_
        refine g_iload_n hX 3 dX8_worst_38 rfl rfl ?_
        refine g_istore (lv' := [(6, 0, jx1), (4, 1, 0), (3, 0, 0), (0, 2, jx0), (1, 0, jx1), (2, 0, jx2)]) hX dX8_worst_39 (by decide) rfl ?_
        refine g_lvp (lv' := [(0, 2, jx0), (3, 0, 0), (4, 1, 0), (6, 0, jx1)]) [3, 2, 1, 0] rfl ?_
        exact T_X8_worst_L41 hX hR hnm hQ hE jx0  fu 0 0 jx1 σ8 hF
end

section
variable {p : Program} {l : Launch} {e : Env} {R : Room} {s : State} {m : MethodId} {args : Array Value} {below : List Frame} {meth : Method} {c : Code} {D : va_G} {dA : Nat → ClassId} {b0 n0 m0 nE mE : Nat} {Q : State → Prop}
def F_X8_lack_B90 (k39 : Int → Int → Hp → Option (Int × Hp)) (jx0 : Int) (jx4 : Int) (js0 : Int) (js1 : Int) (σ : Hp) : Option (Int × Hp) :=
  k39 (js1 + js0) (jx4 + 1) σ
theorem M_X8_lack_B90 (k39 : Int → Int → Hp → Option (Int × Hp)) (hk39 : ∀ (jx3 : Int) (jx4 : Int) (σ : Hp), Mn σ (k39 jx3 jx4 σ)) (jx0 : Int) (jx4 : Int) (js0 : Int) (js1 : Int) (σ : Hp) : Mn σ (F_X8_lack_B90 k39 jx0 jx4 js0 js1 σ) := by
  unfold F_X8_lack_B90
  repeat' first | exact Mn_ret | exact Mn_rz | exact hk39 _ _  _ | refine Mn_nm (fun _ => ?_) | refine Mn_nab (fun _ _ => ?_) | refine Mn_nwb (fun _ _ => ?_) | refine Mn_pw (fun _ => ?_) | refine Mn_pz (fun _ => ?_) | refine Mn_aw (fun _ => ?_) | refine Mn_az (fun _ => ?_) | refine Mn_aq (fun _ => ?_) | refine Mn_bo (fun _ => ?_) | refine Mn_bd ?_ (fun _ _ => ?_) | refine Mn_iv ?_ | refine Mn_bLt ?_ ?_ | refine Mn_bLe ?_ ?_ | refine Mn_bEq ?_ ?_ | refine Mn_bN ?_ ?_ | refine Mn_g3 ?_ | refine Mn_g33 ?_ | refine Mn_g66 ?_ | refine Mn_gD ?_
set_option maxRecDepth 100000 in
set_option maxHeartbeats 4000000 in
theorem T_X8_lack_B90 {r : Int} {σE : Hp} (hX : Cx p R s m args meth c D dA b0 n0 m0 5 nE mE cX8_lack RX8 4 90) (hR : Rx meth (some .int)) (hnm : meth.name = yX8_lack.name) (hQ : Q = Qm D dA b0 n0 m0 below args s (some (pV 0 r)) σE) (hE : nE = σE.1 ∧ mE = σE.2.1) (k39 : Int → Int → Hp → Option (Int × Hp)) (jx0 : Int) (jx4 : Int) (js0 : Int) (js1 : Int) (hk39 : ∀ (jx3 : Int) (jx4 : Int) (σ : Hp), k39 jx3 jx4 σ = some (r, σE) → G p l e R s m args below meth c D dA b0 n0 m0 5 nE mE Q 39 [(0, 2, jx0), (3, 0, jx3), (4, 0, jx4)] [] σ) (σ : Hp) (hF : F_X8_lack_B90 k39 jx0 jx4 js0 js1 σ = some (r, σE)) : G p l e R s m args below meth c D dA b0 n0 m0 5 nE mE Q 90 [(0, 2, jx0), (4, 0, jx4)] [(0, js0), (0, js1)] σ := by
  unfold F_X8_lack_B90 at hF
  refine g_iadd hX dX8_lack_90 ?_
  refine g_istore_n (lv' := [(3, 0, (js1 + js0)), (0, 2, jx0), (4, 0, jx4)]) hX dX8_lack_91 rfl (by decide) rfl ?_
  refine g_iinc (lv' := [(4, 0, (jx4 + 1)), (3, 0, (js1 + js0)), (0, 2, jx0)]) hX 2 dX8_lack_92 rfl (by decide) rfl ?_
  refine g_goto (tgt := 39) hX dX8_lack_95 (by decide) ?_
  refine g_lvp (lv' := [(0, 2, jx0), (3, 0, (js1 + js0)), (4, 0, (jx4 + 1))]) [2, 1, 0] rfl ?_
  exact hk39 (js1 + js0) (jx4 + 1) σ hF
def F_X8_lack_B89 (k39 : Int → Int → Hp → Option (Int × Hp)) (jx0 : Int) (jx4 : Int) (js0 : Int) (σ : Hp) : Option (Int × Hp) :=
  F_X8_lack_B90 k39 jx0 jx4 0 js0 σ
theorem M_X8_lack_B89 (k39 : Int → Int → Hp → Option (Int × Hp)) (hk39 : ∀ (jx3 : Int) (jx4 : Int) (σ : Hp), Mn σ (k39 jx3 jx4 σ)) (jx0 : Int) (jx4 : Int) (js0 : Int) (σ : Hp) : Mn σ (F_X8_lack_B89 k39 jx0 jx4 js0 σ) := by
  unfold F_X8_lack_B89
  repeat' first | exact Mn_ret | exact Mn_rz | exact hk39 _ _  _ | exact M_X8_lack_B90 k39 hk39 _ _ _ _ _ | refine Mn_nm (fun _ => ?_) | refine Mn_nab (fun _ _ => ?_) | refine Mn_nwb (fun _ _ => ?_) | refine Mn_pw (fun _ => ?_) | refine Mn_pz (fun _ => ?_) | refine Mn_aw (fun _ => ?_) | refine Mn_az (fun _ => ?_) | refine Mn_aq (fun _ => ?_) | refine Mn_bo (fun _ => ?_) | refine Mn_bd ?_ (fun _ _ => ?_) | refine Mn_iv ?_ | refine Mn_bLt ?_ ?_ | refine Mn_bLe ?_ ?_ | refine Mn_bEq ?_ ?_ | refine Mn_bN ?_ ?_ | refine Mn_g3 ?_ | refine Mn_g33 ?_ | refine Mn_g66 ?_ | refine Mn_gD ?_
set_option maxRecDepth 100000 in
set_option maxHeartbeats 4000000 in
theorem T_X8_lack_B89 {r : Int} {σE : Hp} (hX : Cx p R s m args meth c D dA b0 n0 m0 5 nE mE cX8_lack RX8 4 90) (hR : Rx meth (some .int)) (hnm : meth.name = yX8_lack.name) (hQ : Q = Qm D dA b0 n0 m0 below args s (some (pV 0 r)) σE) (hE : nE = σE.1 ∧ mE = σE.2.1) (k39 : Int → Int → Hp → Option (Int × Hp)) (jx0 : Int) (jx4 : Int) (js0 : Int) (hk39 : ∀ (jx3 : Int) (jx4 : Int) (σ : Hp), k39 jx3 jx4 σ = some (r, σE) → G p l e R s m args below meth c D dA b0 n0 m0 5 nE mE Q 39 [(0, 2, jx0), (3, 0, jx3), (4, 0, jx4)] [] σ) (σ : Hp) (hF : F_X8_lack_B89 k39 jx0 jx4 js0 σ = some (r, σE)) : G p l e R s m args below meth c D dA b0 n0 m0 5 nE mE Q 89 [(0, 2, jx0), (4, 0, jx4)] [(0, js0)] σ := by
  unfold F_X8_lack_B89 at hF
  refine g_iconst hX dX8_lack_89 ?_
  exact T_X8_lack_B90 hX hR hnm hQ hE k39 jx0 jx4 0 js0 hk39  σ hF
def F_X8_lack_L39 (jx0 : Int) : Nat → Int → Int → Hp → Option (Int × Hp)
  | 0, _, _, _ => none
  | n + 1, jx3, jx4, σ => (rd 9 σ jx0 11).bind fun jv9 => bLt jx4 jv9 ((rd 9 σ jx0 26).bind fun jv10 => (ar 13 σ jv10 jx4).bind fun jv11 => bEq jv11 0 (F_X8_lack_B89 (F_X8_lack_L39 jx0 n) jx0 jx4 jx3 σ) ((rd 9 σ jx0 14).bind fun jv12 => (ar 11 σ jv12 jx4).bind fun jv13 => (rd 9 σ jx0 8).bind fun jv14 => bEq jv13 (jv14 - 1) ((rd 9 σ jx0 29).bind fun jv15 => (ar 13 σ jv15 jx4).bind fun jv16 => bEq jv16 0 (F_X8_lack_B89 (F_X8_lack_L39 jx0 n) jx0 jx4 jx3 σ) (F_X8_lack_B90 (F_X8_lack_L39 jx0 n) jx0 jx4 1 jx3 σ)) (F_X8_lack_B89 (F_X8_lack_L39 jx0 n) jx0 jx4 jx3 σ))) (some (jx3, σ))
theorem M_X8_lack_L39 (jx0 : Int) : ∀ (n : Nat) (jx3 : Int) (jx4 : Int) (σ : Hp), Mn σ (F_X8_lack_L39 jx0 n jx3 jx4 σ) := by
  intro n
  induction n with
  | zero => intros; rw [F_X8_lack_L39]; exact Mn_none
  | succ n hk39 =>
    intros
    rw [F_X8_lack_L39]
    repeat' first | exact Mn_ret | exact Mn_rz | exact hk39 _ _  _ | exact M_X8_lack_B89 (F_X8_lack_L39 jx0 n) hk39 _ _ _ _ | exact M_X8_lack_B90 (F_X8_lack_L39 jx0 n) hk39 _ _ _ _ _ | refine Mn_nm (fun _ => ?_) | refine Mn_nab (fun _ _ => ?_) | refine Mn_nwb (fun _ _ => ?_) | refine Mn_pw (fun _ => ?_) | refine Mn_pz (fun _ => ?_) | refine Mn_aw (fun _ => ?_) | refine Mn_az (fun _ => ?_) | refine Mn_aq (fun _ => ?_) | refine Mn_bo (fun _ => ?_) | refine Mn_bd ?_ (fun _ _ => ?_) | refine Mn_iv ?_ | refine Mn_bLt ?_ ?_ | refine Mn_bLe ?_ ?_ | refine Mn_bEq ?_ ?_ | refine Mn_bN ?_ ?_ | refine Mn_g3 ?_ | refine Mn_g33 ?_ | refine Mn_g66 ?_ | refine Mn_gD ?_
set_option maxRecDepth 100000 in
set_option maxHeartbeats 4000000 in
theorem T_X8_lack_L39 {r : Int} {σE : Hp} (hX : Cx p R s m args meth c D dA b0 n0 m0 5 nE mE cX8_lack RX8 4 90) (hR : Rx meth (some .int)) (hnm : meth.name = yX8_lack.name) (hQ : Q = Qm D dA b0 n0 m0 below args s (some (pV 0 r)) σE) (hE : nE = σE.1 ∧ mE = σE.2.1) (jx0 : Int) : ∀ (n : Nat) (jx3 : Int) (jx4 : Int) (σ : Hp), F_X8_lack_L39 jx0 n jx3 jx4 σ = some (r, σE) → G p l e R s m args below meth c D dA b0 n0 m0 5 nE mE Q 39 [(0, 2, jx0), (3, 0, jx3), (4, 0, jx4)] [] σ := by
  intro n
  induction n with
  | zero =>
    intro jx3 jx4 σ hF
    rw [F_X8_lack_L39] at hF
    cases hF
  | succ n hk39 =>
    intro jx3 jx4 σ hF
    rw [F_X8_lack_L39] at hF
    refine g_iload hX 2 dX8_lack_39 rfl ?_
    refine g_aload_n hX 0 dX8_lack_41 rfl rfl ?_
    refine g_get hX fl_X8_41 (by decide) (by decide) dX8_lack_42 hF (fun jv9 hF => ?_)
    refine g_icmp_ge (tgt := 98) hX dX8_lack_45 (by decide) hF (fun hc hF => ?_) (fun hc hF => ?_)
    · refine g_iload_n hX 1 dX8_lack_48 rfl rfl ?_
      refine g_aload_n hX 0 dX8_lack_49 rfl rfl ?_
      refine g_get hX fl_X8_83 (by decide) (by decide) dX8_lack_50 hF (fun jv10 hF => ?_)
      refine g_iload hX 2 dX8_lack_53 rfl ?_
      refine g_zald hX dX8_lack_55 hF (fun jv11 hF => ?_)
      refine g_if_eq (tgt := 89) hX dX8_lack_56 (by decide) hF (fun hc hF => ?_) (fun hc hF => ?_)
      · refine g_lvp (lv' := [(0, 2, jx0), (4, 0, jx4)]) [0, 2] rfl ?_
        exact T_X8_lack_B89 hX hR hnm hQ hE (F_X8_lack_L39 jx0 n) jx0 jx4 jx3 hk39  σ hF
      · refine g_aload_n hX 0 dX8_lack_59 rfl rfl ?_
        refine g_get hX fl_X8_50 (by decide) (by decide) dX8_lack_60 hF (fun jv12 hF => ?_)
        refine g_iload hX 2 dX8_lack_63 rfl ?_
        refine g_iald hX dX8_lack_65 hF (fun jv13 hF => ?_)
        refine g_aload_n hX 0 dX8_lack_66 rfl rfl ?_
        refine g_get hX fl_X8_32 (by decide) (by decide) dX8_lack_67 hF (fun jv14 hF => ?_)
        refine g_iconst hX dX8_lack_70 ?_
        refine g_isub hX dX8_lack_71 ?_
        refine g_icmp_ne (tgt := 89) hX dX8_lack_72 (by decide) hF (fun hc hF => ?_) (fun hc hF => ?_)
        · refine g_aload_n hX 0 dX8_lack_75 rfl rfl ?_
          refine g_get hX fl_X8_92 (by decide) (by decide) dX8_lack_76 hF (fun jv15 hF => ?_)
          refine g_iload hX 2 dX8_lack_79 rfl ?_
          refine g_zald hX dX8_lack_81 hF (fun jv16 hF => ?_)
          refine g_if_eq (tgt := 89) hX dX8_lack_82 (by decide) hF (fun hc hF => ?_) (fun hc hF => ?_)
          · refine g_lvp (lv' := [(0, 2, jx0), (4, 0, jx4)]) [0, 2] rfl ?_
            exact T_X8_lack_B89 hX hR hnm hQ hE (F_X8_lack_L39 jx0 n) jx0 jx4 jx3 hk39  σ hF
          · refine g_iconst hX dX8_lack_85 ?_
            refine g_goto (tgt := 90) hX dX8_lack_86 (by decide) ?_
            refine g_lvp (lv' := [(0, 2, jx0), (4, 0, jx4)]) [0, 2] rfl ?_
            exact T_X8_lack_B90 hX hR hnm hQ hE (F_X8_lack_L39 jx0 n) jx0 jx4 1 jx3 hk39  σ hF
        · refine g_lvp (lv' := [(0, 2, jx0), (4, 0, jx4)]) [0, 2] rfl ?_
          exact T_X8_lack_B89 hX hR hnm hQ hE (F_X8_lack_L39 jx0 n) jx0 jx4 jx3 hk39  σ hF
    · refine g_iload_n hX 1 dX8_lack_98 rfl rfl ?_
      exact g_iret hX hR hQ hE dX8_lack_99 hF
def F_X8_lack (jx0 : Int) (jx1 : Int) (jx2 : Int) (σ : Hp) : Option (Int × Hp) :=
  bd (iv 9 σ jx0 (F_X8_isNode  jx0 jx1 σ)) fun jv1 σ2 => bEq jv1 0 (some ((-1), σ2)) (bd (iv 9 σ2 jx0 (F_X8_isState  jx0 jx2 σ2)) fun jv3 σ4 => bEq jv3 0 (some ((-1), σ4)) (bd (iv 9 σ4 jx0 (F_X8_isWhole  jx0  σ4)) fun jv5 σ6 => bEq jv5 0 (some ((-3), σ6)) (bd (iv 9 σ6 jx0 (F_X8_walk  jx0 jx1 jx2 σ6)) fun jv7 σ8 => F_X8_lack_L39 jx0 fu 0 jx1 σ8)))
theorem M_X8_lack (jx0 : Int) (jx1 : Int) (jx2 : Int) (σ : Hp) : Mn σ (F_X8_lack jx0 jx1 jx2 σ) := by
  unfold F_X8_lack
  repeat' first | exact Mn_ret | exact Mn_rz | exact M_X8_isNode _ _ _ | exact M_X8_isState _ _ _ | exact M_X8_isWhole _ _ | exact M_X8_walk _ _ _ _ | exact M_X8_lack_L39 _ _ _ _ _ | refine Mn_nm (fun _ => ?_) | refine Mn_nab (fun _ _ => ?_) | refine Mn_nwb (fun _ _ => ?_) | refine Mn_pw (fun _ => ?_) | refine Mn_pz (fun _ => ?_) | refine Mn_aw (fun _ => ?_) | refine Mn_az (fun _ => ?_) | refine Mn_aq (fun _ => ?_) | refine Mn_bo (fun _ => ?_) | refine Mn_bd ?_ (fun _ _ => ?_) | refine Mn_iv ?_ | refine Mn_bLt ?_ ?_ | refine Mn_bLe ?_ ?_ | refine Mn_bEq ?_ ?_ | refine Mn_bN ?_ ?_ | refine Mn_g3 ?_ | refine Mn_g33 ?_ | refine Mn_g66 ?_ | refine Mn_gD ?_
set_option maxRecDepth 100000 in
set_option maxHeartbeats 4000000 in
theorem T_X8_lack (l : Launch) (D : va_G) (dA : Nat → ClassId) (b0 : Nat) (jx0 : Int) (jx1 : Int) (jx2 : Int) (σ σE : Hp) (r : Int) (hF : F_X8_lack jx0 jx1 jx2 σ = some (r, σE)) : Ct l D dA b0 yX8_lack cX8_lack 5 (some .int) 4 90 [(2, jx0), (0, jx1), (0, jx2)] σ (some (pV 0 r)) σE := by
  refine Ct.of (lv0 := [(0, 2, jx0), (1, 0, jx1), (2, 0, jx2)]) (by decide) RX8 rfl (Nat.le_of_ble_eq_true rfl) rfl ?_ (M_X8_lack jx0 jx1 jx2 σ r σE hF)
  intro p e R s m args below meth c hX hR hnm
  obtain ⟨Q, hQ⟩ : ∃ Q, Q = Qm D dA b0 σ.1 σ.2.1 below args s (some (pV 0 r)) σE := ⟨_, rfl⟩
  rw [← hQ]
  have hE : σE.1 = σE.1 ∧ σE.2.1 = σE.2.1 := ⟨rfl, rfl⟩
  unfold F_X8_lack at hF
  refine g_aload_n hX 0 dX8_lack_0 rfl rfl ?_
  refine g_iload_n hX 1 dX8_lack_1 rfl rfl ?_
  refine g_callV (t := 0) (ci := 8) (rest := []) [(0, jx1)] hX cw_X8_144 rfl (by decide) (by decide) (fun r σ1 h => T_X8_isNode l D dA b0  jx0 jx1 σ σ1 r h) ⟨by decide, by decide⟩ rfl rfl (Nat.le_of_ble_eq_true rfl) dX8_lack_2 hF (fun jv1 σ2 hF => ?_)
  refine g_if_eq (tgt := 16) hX dX8_lack_5 (by decide) hF (fun hc hF => ?_) (fun hc hF => ?_)
  · refine g_iconst hX dX8_lack_16 ?_
    exact g_iret hX hR hQ hE dX8_lack_17 hF
  · refine g_aload_n hX 0 dX8_lack_8 rfl rfl ?_
    refine g_iload_n hX 2 dX8_lack_9 rfl rfl ?_
    refine g_callV (t := 0) (ci := 8) (rest := []) [(0, jx2)] hX cw_X8_200 rfl (by decide) (by decide) (fun r σ1 h => T_X8_isState l D dA b0  jx0 jx2 σ2 σ1 r h) ⟨by decide, by decide⟩ rfl rfl (Nat.le_of_ble_eq_true rfl) dX8_lack_10 hF (fun jv3 σ4 hF => ?_)
    refine g_if_ne (tgt := 18) hX dX8_lack_13 (by decide) hF (fun hc hF => ?_) (fun hc hF => ?_)
    · refine g_iconst hX dX8_lack_16 ?_
      exact g_iret hX hR hQ hE dX8_lack_17 hF
    · refine g_aload_n hX 0 dX8_lack_18 rfl rfl ?_
      refine g_callV (t := 0) (ci := 8) (rest := []) [] hX cw_X8_151 rfl (by decide) (by decide) (fun r σ1 h => T_X8_isWhole l D dA b0  jx0  σ4 σ1 r h) ⟨by decide, by decide⟩ rfl rfl (Nat.le_of_ble_eq_true rfl) dX8_lack_19 hF (fun jv5 σ6 hF => ?_)
      refine g_if_ne (tgt := 28) hX dX8_lack_22 (by decide) hF (fun hc hF => ?_) (fun hc hF => ?_)
      · refine g_bipush hX dX8_lack_25 (by decide) ?_
        exact g_iret hX hR hQ hE dX8_lack_27 hF
      · refine g_aload_n hX 0 dX8_lack_28 rfl rfl ?_
        refine g_iload_n hX 1 dX8_lack_29 rfl rfl ?_
        refine g_iload_n hX 2 dX8_lack_30 rfl rfl ?_
        refine g_callVv (ci := 8) (rest := []) [(0, jx1), (0, jx2)] hX cw_X8_218 rfl (by decide) (by decide) (fun r σ1 h => T_X8_walk l D dA b0  jx0 jx1 jx2 σ6 σ1 r h) ⟨by decide, by decide⟩ rfl rfl (Nat.le_of_ble_eq_true rfl) dX8_lack_31 hF (fun jv7 σ8 hF => ?_)
        refine g_iconst hX dX8_lack_34 ?_
        refine g_istore_n (lv' := [(3, 0, 0), (0, 2, jx0), (1, 0, jx1), (2, 0, jx2)]) hX dX8_lack_35 rfl (by decide) rfl ?_
        refine g_iload_n hX 2 dX8_lack_36 rfl rfl ?_
        refine g_istore (lv' := [(4, 0, jx1), (3, 0, 0), (0, 2, jx0), (1, 0, jx1), (2, 0, jx2)]) hX dX8_lack_37 (by decide) rfl ?_
        refine g_lvp (lv' := [(0, 2, jx0), (3, 0, 0), (4, 0, jx1)]) [2, 1, 0] rfl ?_
        exact T_X8_lack_L39 hX hR hnm hQ hE jx0  fu 0 jx1 σ8 hF
end

section
variable {p : Program} {l : Launch} {e : Env} {R : Room} {s : State} {m : MethodId} {args : Array Value} {below : List Frame} {meth : Method} {c : Code} {D : va_G} {dA : Nat → ClassId} {b0 n0 m0 nE mE : Nat} {Q : State → Prop}
def F_X8_flood_B130 (k69 : Int → Int → Hp → Option (Int × Hp)) (jx0 : Int) (jx2 : Int) (jx3 : Int) (jx4 : Int) (jx5 : Int) (jx6 : Int) (σ : Hp) : Option (Int × Hp) :=
  k69 jx5 (jx6 + 1) σ
theorem M_X8_flood_B130 (k69 : Int → Int → Hp → Option (Int × Hp)) (hk69 : ∀ (jx5 : Int) (jx6 : Int) (σ : Hp), Mn σ (k69 jx5 jx6 σ)) (jx0 : Int) (jx2 : Int) (jx3 : Int) (jx4 : Int) (jx5 : Int) (jx6 : Int) (σ : Hp) : Mn σ (F_X8_flood_B130 k69 jx0 jx2 jx3 jx4 jx5 jx6 σ) := by
  unfold F_X8_flood_B130
  repeat' first | exact Mn_ret | exact Mn_rz | exact hk69 _ _  _ | refine Mn_nm (fun _ => ?_) | refine Mn_nab (fun _ _ => ?_) | refine Mn_nwb (fun _ _ => ?_) | refine Mn_pw (fun _ => ?_) | refine Mn_pz (fun _ => ?_) | refine Mn_aw (fun _ => ?_) | refine Mn_az (fun _ => ?_) | refine Mn_aq (fun _ => ?_) | refine Mn_bo (fun _ => ?_) | refine Mn_bd ?_ (fun _ _ => ?_) | refine Mn_iv ?_ | refine Mn_bLt ?_ ?_ | refine Mn_bLe ?_ ?_ | refine Mn_bEq ?_ ?_ | refine Mn_bN ?_ ?_ | refine Mn_g3 ?_ | refine Mn_g33 ?_ | refine Mn_g66 ?_ | refine Mn_gD ?_
set_option maxRecDepth 100000 in
set_option maxHeartbeats 4000000 in
theorem T_X8_flood_B130 {r : Int} {σE : Hp} (hX : Cx p R s m args meth c D dA b0 n0 m0 7 nE mE cX8_flood RX8 4 90) (hR : Rx meth (some .int)) (hnm : meth.name = yX8_flood.name) (hQ : Q = Qm D dA b0 n0 m0 below args s (some (pV 0 r)) σE) (hE : nE = σE.1 ∧ mE = σE.2.1) (k69 : Int → Int → Hp → Option (Int × Hp)) (jx0 : Int) (jx2 : Int) (jx3 : Int) (jx4 : Int) (jx5 : Int) (jx6 : Int) (hk69 : ∀ (jx5 : Int) (jx6 : Int) (σ : Hp), k69 jx5 jx6 σ = some (r, σE) → G p l e R s m args below meth c D dA b0 n0 m0 7 nE mE Q 69 [(0, 2, jx0), (2, 0, jx2), (3, 0, jx3), (4, 0, jx4), (5, 0, jx5), (6, 0, jx6)] [] σ) (σ : Hp) (hF : F_X8_flood_B130 k69 jx0 jx2 jx3 jx4 jx5 jx6 σ = some (r, σE)) : G p l e R s m args below meth c D dA b0 n0 m0 7 nE mE Q 130 [(0, 2, jx0), (2, 0, jx2), (3, 0, jx3), (4, 0, jx4), (5, 0, jx5), (6, 0, jx6)] [] σ := by
  unfold F_X8_flood_B130 at hF
  refine g_iinc (lv' := [(6, 0, (jx6 + 1)), (0, 2, jx0), (2, 0, jx2), (3, 0, jx3), (4, 0, jx4), (5, 0, jx5)]) hX 5 dX8_flood_130 rfl (by decide) rfl ?_
  refine g_goto (tgt := 69) hX dX8_flood_133 (by decide) ?_
  refine g_lvp (lv' := [(0, 2, jx0), (2, 0, jx2), (3, 0, jx3), (4, 0, jx4), (5, 0, jx5), (6, 0, (jx6 + 1))]) [1, 2, 3, 4, 5, 0] rfl ?_
  exact hk69 jx5 (jx6 + 1) σ hF
def F_X8_flood_B127 (k69 : Int → Int → Hp → Option (Int × Hp)) (jx0 : Int) (jx2 : Int) (jx3 : Int) (jx4 : Int) (jx6 : Int) (js0 : Int) (js1 : Int) (σ : Hp) : Option (Int × Hp) :=
  F_X8_flood_B130 k69 jx0 jx2 jx3 jx4 (js1 + js0) jx6  σ
theorem M_X8_flood_B127 (k69 : Int → Int → Hp → Option (Int × Hp)) (hk69 : ∀ (jx5 : Int) (jx6 : Int) (σ : Hp), Mn σ (k69 jx5 jx6 σ)) (jx0 : Int) (jx2 : Int) (jx3 : Int) (jx4 : Int) (jx6 : Int) (js0 : Int) (js1 : Int) (σ : Hp) : Mn σ (F_X8_flood_B127 k69 jx0 jx2 jx3 jx4 jx6 js0 js1 σ) := by
  unfold F_X8_flood_B127
  repeat' first | exact Mn_ret | exact Mn_rz | exact hk69 _ _  _ | exact M_X8_flood_B130 k69 hk69 _ _ _ _ _ _  _ | refine Mn_nm (fun _ => ?_) | refine Mn_nab (fun _ _ => ?_) | refine Mn_nwb (fun _ _ => ?_) | refine Mn_pw (fun _ => ?_) | refine Mn_pz (fun _ => ?_) | refine Mn_aw (fun _ => ?_) | refine Mn_az (fun _ => ?_) | refine Mn_aq (fun _ => ?_) | refine Mn_bo (fun _ => ?_) | refine Mn_bd ?_ (fun _ _ => ?_) | refine Mn_iv ?_ | refine Mn_bLt ?_ ?_ | refine Mn_bLe ?_ ?_ | refine Mn_bEq ?_ ?_ | refine Mn_bN ?_ ?_ | refine Mn_g3 ?_ | refine Mn_g33 ?_ | refine Mn_g66 ?_ | refine Mn_gD ?_
set_option maxRecDepth 100000 in
set_option maxHeartbeats 4000000 in
theorem T_X8_flood_B127 {r : Int} {σE : Hp} (hX : Cx p R s m args meth c D dA b0 n0 m0 7 nE mE cX8_flood RX8 4 90) (hR : Rx meth (some .int)) (hnm : meth.name = yX8_flood.name) (hQ : Q = Qm D dA b0 n0 m0 below args s (some (pV 0 r)) σE) (hE : nE = σE.1 ∧ mE = σE.2.1) (k69 : Int → Int → Hp → Option (Int × Hp)) (jx0 : Int) (jx2 : Int) (jx3 : Int) (jx4 : Int) (jx6 : Int) (js0 : Int) (js1 : Int) (hk69 : ∀ (jx5 : Int) (jx6 : Int) (σ : Hp), k69 jx5 jx6 σ = some (r, σE) → G p l e R s m args below meth c D dA b0 n0 m0 7 nE mE Q 69 [(0, 2, jx0), (2, 0, jx2), (3, 0, jx3), (4, 0, jx4), (5, 0, jx5), (6, 0, jx6)] [] σ) (σ : Hp) (hF : F_X8_flood_B127 k69 jx0 jx2 jx3 jx4 jx6 js0 js1 σ = some (r, σE)) : G p l e R s m args below meth c D dA b0 n0 m0 7 nE mE Q 127 [(0, 2, jx0), (2, 0, jx2), (3, 0, jx3), (4, 0, jx4), (6, 0, jx6)] [(0, js0), (0, js1)] σ := by
  unfold F_X8_flood_B127 at hF
  refine g_iadd hX dX8_flood_127 ?_
  refine g_istore (lv' := [(5, 0, (js1 + js0)), (0, 2, jx0), (2, 0, jx2), (3, 0, jx3), (4, 0, jx4), (6, 0, jx6)]) hX dX8_flood_128 (by decide) rfl ?_
  refine g_lvp (lv' := [(0, 2, jx0), (2, 0, jx2), (3, 0, jx3), (4, 0, jx4), (5, 0, (js1 + js0)), (6, 0, jx6)]) [1, 2, 3, 4, 0, 5] rfl ?_
  exact T_X8_flood_B130 hX hR hnm hQ hE k69 jx0 jx2 jx3 jx4 (js1 + js0) jx6  hk69  σ hF
def F_X8_flood_L69 (jx0 : Int) (jx2 : Int) (jx3 : Int) (jx4 : Int) : Nat → Int → Int → Hp → Option (Int × Hp)
  | 0, _, _, _ => none
  | n + 1, jx5, jx6, σ => (rd 9 σ jx0 11).bind fun jv16 => bLt jx6 jv16 ((rd 9 σ jx0 14).bind fun jv17 => (ar 11 σ jv17 jx6).bind fun jv18 => bEq jv18 jx4 ((rd 9 σ jx0 27).bind fun jv19 => (ar 11 σ jv19 jx6).bind fun jv20 => bd (iv 9 σ jx0 (F_X8_unfold  jx0 jv20 σ)) fun jv21 σ22 => (rd 9 σ22 jx0 16).bind fun jv23 => (ar 11 σ22 jv23 jx2).bind fun jv24 => bLe jv24 jx3 (F_X8_flood_B127 (F_X8_flood_L69 jx0 jx2 jx3 jx4 n) jx0 jx2 jx3 jx4 jx6 0 jx5 σ22) ((rd 9 σ22 jx0 31).bind fun jv25 => (ar 11 σ22 jv25 jx6).bind fun jv26 => F_X8_flood_B127 (F_X8_flood_L69 jx0 jx2 jx3 jx4 n) jx0 jx2 jx3 jx4 jx6 jv26 jx5 σ22)) (F_X8_flood_B130 (F_X8_flood_L69 jx0 jx2 jx3 jx4 n) jx0 jx2 jx3 jx4 jx5 jx6  σ)) (some (jx5, σ))
theorem M_X8_flood_L69 (jx0 : Int) (jx2 : Int) (jx3 : Int) (jx4 : Int) : ∀ (n : Nat) (jx5 : Int) (jx6 : Int) (σ : Hp), Mn σ (F_X8_flood_L69 jx0 jx2 jx3 jx4 n jx5 jx6 σ) := by
  intro n
  induction n with
  | zero => intros; rw [F_X8_flood_L69]; exact Mn_none
  | succ n hk69 =>
    intros
    rw [F_X8_flood_L69]
    repeat' first | exact Mn_ret | exact Mn_rz | exact hk69 _ _  _ | exact M_X8_unfold _ _ _ | exact M_X8_flood_B127 (F_X8_flood_L69 jx0 jx2 jx3 jx4 n) hk69 _ _ _ _ _ _ _ _ | exact M_X8_flood_B130 (F_X8_flood_L69 jx0 jx2 jx3 jx4 n) hk69 _ _ _ _ _ _  _ | refine Mn_nm (fun _ => ?_) | refine Mn_nab (fun _ _ => ?_) | refine Mn_nwb (fun _ _ => ?_) | refine Mn_pw (fun _ => ?_) | refine Mn_pz (fun _ => ?_) | refine Mn_aw (fun _ => ?_) | refine Mn_az (fun _ => ?_) | refine Mn_aq (fun _ => ?_) | refine Mn_bo (fun _ => ?_) | refine Mn_bd ?_ (fun _ _ => ?_) | refine Mn_iv ?_ | refine Mn_bLt ?_ ?_ | refine Mn_bLe ?_ ?_ | refine Mn_bEq ?_ ?_ | refine Mn_bN ?_ ?_ | refine Mn_g3 ?_ | refine Mn_g33 ?_ | refine Mn_g66 ?_ | refine Mn_gD ?_
set_option maxRecDepth 100000 in
set_option maxHeartbeats 4000000 in
theorem T_X8_flood_L69 {r : Int} {σE : Hp} (hX : Cx p R s m args meth c D dA b0 n0 m0 7 nE mE cX8_flood RX8 4 90) (hR : Rx meth (some .int)) (hnm : meth.name = yX8_flood.name) (hQ : Q = Qm D dA b0 n0 m0 below args s (some (pV 0 r)) σE) (hE : nE = σE.1 ∧ mE = σE.2.1) (jx0 : Int) (jx2 : Int) (jx3 : Int) (jx4 : Int) : ∀ (n : Nat) (jx5 : Int) (jx6 : Int) (σ : Hp), F_X8_flood_L69 jx0 jx2 jx3 jx4 n jx5 jx6 σ = some (r, σE) → G p l e R s m args below meth c D dA b0 n0 m0 7 nE mE Q 69 [(0, 2, jx0), (2, 0, jx2), (3, 0, jx3), (4, 0, jx4), (5, 0, jx5), (6, 0, jx6)] [] σ := by
  intro n
  induction n with
  | zero =>
    intro jx5 jx6 σ hF
    rw [F_X8_flood_L69] at hF
    cases hF
  | succ n hk69 =>
    intro jx5 jx6 σ hF
    rw [F_X8_flood_L69] at hF
    refine g_iload hX 5 dX8_flood_69 rfl ?_
    refine g_aload_n hX 0 dX8_flood_71 rfl rfl ?_
    refine g_get hX fl_X8_41 (by decide) (by decide) dX8_flood_72 hF (fun jv16 hF => ?_)
    refine g_icmp_ge (tgt := 136) hX dX8_flood_75 (by decide) hF (fun hc hF => ?_) (fun hc hF => ?_)
    · refine g_aload_n hX 0 dX8_flood_78 rfl rfl ?_
      refine g_get hX fl_X8_50 (by decide) (by decide) dX8_flood_79 hF (fun jv17 hF => ?_)
      refine g_iload hX 5 dX8_flood_82 rfl ?_
      refine g_iald hX dX8_flood_84 hF (fun jv18 hF => ?_)
      refine g_iload hX 3 dX8_flood_85 rfl ?_
      refine g_icmp_eq (tgt := 93) hX dX8_flood_87 (by decide) hF (fun hc hF => ?_) (fun hc hF => ?_)
      · refine g_aload_n hX 0 dX8_flood_93 rfl rfl ?_
        refine g_aload_n hX 0 dX8_flood_94 rfl rfl ?_
        refine g_get hX fl_X8_86 (by decide) (by decide) dX8_flood_95 hF (fun jv19 hF => ?_)
        refine g_iload hX 5 dX8_flood_98 rfl ?_
        refine g_iald hX dX8_flood_100 hF (fun jv20 hF => ?_)
        refine g_callVv (ci := 8) (rest := []) [(0, jv20)] hX cw_X8_164 rfl (by decide) (by decide) (fun r σ1 h => T_X8_unfold l D dA b0  jx0 jv20 σ σ1 r h) ⟨by decide, by decide⟩ rfl rfl (Nat.le_of_ble_eq_true rfl) dX8_flood_101 hF (fun jv21 σ22 hF => ?_)
        refine g_iload hX 4 dX8_flood_104 rfl ?_
        refine g_aload_n hX 0 dX8_flood_106 rfl rfl ?_
        refine g_get hX fl_X8_56 (by decide) (by decide) dX8_flood_107 hF (fun jv23 hF => ?_)
        refine g_iload_n hX 1 dX8_flood_110 rfl rfl ?_
        refine g_iald hX dX8_flood_111 hF (fun jv24 hF => ?_)
        refine g_iload_n hX 2 dX8_flood_112 rfl rfl ?_
        refine g_icmp_le (tgt := 126) hX dX8_flood_113 (by decide) hF (fun hc hF => ?_) (fun hc hF => ?_)
        · refine g_iconst hX dX8_flood_126 ?_
          refine g_lvp (lv' := [(0, 2, jx0), (2, 0, jx2), (3, 0, jx3), (4, 0, jx4), (6, 0, jx6)]) [0, 1, 2, 3, 5] rfl ?_
          exact T_X8_flood_B127 hX hR hnm hQ hE (F_X8_flood_L69 jx0 jx2 jx3 jx4 n) jx0 jx2 jx3 jx4 jx6 0 jx5 hk69  σ22 hF
        · refine g_aload_n hX 0 dX8_flood_116 rfl rfl ?_
          refine g_get hX fl_X8_98 (by decide) (by decide) dX8_flood_117 hF (fun jv25 hF => ?_)
          refine g_iload hX 5 dX8_flood_120 rfl ?_
          refine g_iald hX dX8_flood_122 hF (fun jv26 hF => ?_)
          refine g_goto (tgt := 127) hX dX8_flood_123 (by decide) ?_
          refine g_lvp (lv' := [(0, 2, jx0), (2, 0, jx2), (3, 0, jx3), (4, 0, jx4), (6, 0, jx6)]) [0, 1, 2, 3, 5] rfl ?_
          exact T_X8_flood_B127 hX hR hnm hQ hE (F_X8_flood_L69 jx0 jx2 jx3 jx4 n) jx0 jx2 jx3 jx4 jx6 jv26 jx5 hk69  σ22 hF
      · refine g_goto (tgt := 130) hX dX8_flood_90 (by decide) ?_
        exact T_X8_flood_B130 hX hR hnm hQ hE (F_X8_flood_L69 jx0 jx2 jx3 jx4 n) jx0 jx2 jx3 jx4 jx5 jx6  hk69  σ hF
    · refine g_iload hX 4 dX8_flood_136 rfl ?_
      exact g_iret hX hR hQ hE dX8_flood_138 hF
def F_X8_flood (jx0 : Int) (jx1 : Int) (jx2 : Int) (jx3 : Int) (jx4 : Int) (σ : Hp) : Option (Int × Hp) :=
  bd (iv 9 σ jx0 (F_X8_isState  jx0 jx1 σ)) fun jv1 σ2 => bEq jv1 0 (some ((-1), σ2)) (bd (iv 9 σ2 jx0 (F_X8_isLake  jx0 jx2 σ2)) fun jv3 σ4 => bEq jv3 0 (some ((-1), σ4)) ((rd 9 σ4 jx0 3).bind fun jv5 => (ar 11 σ4 jv5 jx2).bind fun jv6 => bd (F_X8_in jx3 0 jv6 σ4) fun jv7 σ8 => bEq jv7 0 (some ((-1), σ8)) ((rd 9 σ8 jx0 8).bind fun jv9 => bd (F_X8_in jx4 0 (jv9 - 1) σ8) fun jv10 σ11 => bEq jv10 0 (some ((-1), σ11)) (bd (iv 9 σ11 jx0 (F_X8_isWhole  jx0  σ11)) fun jv12 σ13 => bEq jv12 0 (some ((-3), σ13)) (bd (iv 9 σ13 jx0 (F_X8_walk  jx0 0 jx1 σ13)) fun jv14 σ15 => F_X8_flood_L69 jx0 jx2 jx3 jx4 fu 0 1 σ15)))))
theorem M_X8_flood (jx0 : Int) (jx1 : Int) (jx2 : Int) (jx3 : Int) (jx4 : Int) (σ : Hp) : Mn σ (F_X8_flood jx0 jx1 jx2 jx3 jx4 σ) := by
  unfold F_X8_flood
  repeat' first | exact Mn_ret | exact Mn_rz | exact M_X8_isState _ _ _ | exact M_X8_isLake _ _ _ | exact M_X8_in _ _ _ _ | exact M_X8_isWhole _ _ | exact M_X8_walk _ _ _ _ | exact M_X8_flood_L69 _ _ _ _ _ _ _ _ | refine Mn_nm (fun _ => ?_) | refine Mn_nab (fun _ _ => ?_) | refine Mn_nwb (fun _ _ => ?_) | refine Mn_pw (fun _ => ?_) | refine Mn_pz (fun _ => ?_) | refine Mn_aw (fun _ => ?_) | refine Mn_az (fun _ => ?_) | refine Mn_aq (fun _ => ?_) | refine Mn_bo (fun _ => ?_) | refine Mn_bd ?_ (fun _ _ => ?_) | refine Mn_iv ?_ | refine Mn_bLt ?_ ?_ | refine Mn_bLe ?_ ?_ | refine Mn_bEq ?_ ?_ | refine Mn_bN ?_ ?_ | refine Mn_g3 ?_ | refine Mn_g33 ?_ | refine Mn_g66 ?_ | refine Mn_gD ?_
set_option maxRecDepth 100000 in
set_option maxHeartbeats 4000000 in
theorem T_X8_flood (l : Launch) (D : va_G) (dA : Nat → ClassId) (b0 : Nat) (jx0 : Int) (jx1 : Int) (jx2 : Int) (jx3 : Int) (jx4 : Int) (σ σE : Hp) (r : Int) (hF : F_X8_flood jx0 jx1 jx2 jx3 jx4 σ = some (r, σE)) : Ct l D dA b0 yX8_flood cX8_flood 7 (some .int) 4 90 [(2, jx0), (0, jx1), (0, jx2), (0, jx3), (0, jx4)] σ (some (pV 0 r)) σE := by
  refine Ct.of (lv0 := [(0, 2, jx0), (1, 0, jx1), (2, 0, jx2), (3, 0, jx3), (4, 0, jx4)]) (by decide) RX8 rfl (Nat.le_of_ble_eq_true rfl) rfl ?_ (M_X8_flood jx0 jx1 jx2 jx3 jx4 σ r σE hF)
  intro p e R s m args below meth c hX hR hnm
  obtain ⟨Q, hQ⟩ : ∃ Q, Q = Qm D dA b0 σ.1 σ.2.1 below args s (some (pV 0 r)) σE := ⟨_, rfl⟩
  rw [← hQ]
  have hE : σE.1 = σE.1 ∧ σE.2.1 = σE.2.1 := ⟨rfl, rfl⟩
  unfold F_X8_flood at hF
  refine g_aload_n hX 0 dX8_flood_0 rfl rfl ?_
  refine g_iload_n hX 1 dX8_flood_1 rfl rfl ?_
  refine g_callV (t := 0) (ci := 8) (rest := []) [(0, jx1)] hX cw_X8_200 rfl (by decide) (by decide) (fun r σ1 h => T_X8_isState l D dA b0  jx0 jx1 σ σ1 r h) ⟨by decide, by decide⟩ rfl rfl (Nat.le_of_ble_eq_true rfl) dX8_flood_2 hF (fun jv1 σ2 hF => ?_)
  refine g_if_eq (tgt := 45) hX dX8_flood_5 (by decide) hF (fun hc hF => ?_) (fun hc hF => ?_)
  · refine g_iconst hX dX8_flood_45 ?_
    exact g_iret hX hR hQ hE dX8_flood_46 hF
  · refine g_aload_n hX 0 dX8_flood_8 rfl rfl ?_
    refine g_iload_n hX 2 dX8_flood_9 rfl rfl ?_
    refine g_callV (t := 0) (ci := 8) (rest := []) [(0, jx2)] hX cw_X8_140 rfl (by decide) (by decide) (fun r σ1 h => T_X8_isLake l D dA b0  jx0 jx2 σ2 σ1 r h) ⟨by decide, by decide⟩ rfl rfl (Nat.le_of_ble_eq_true rfl) dX8_flood_10 hF (fun jv3 σ4 hF => ?_)
    refine g_if_eq (tgt := 45) hX dX8_flood_13 (by decide) hF (fun hc hF => ?_) (fun hc hF => ?_)
    · refine g_iconst hX dX8_flood_45 ?_
      exact g_iret hX hR hQ hE dX8_flood_46 hF
    · refine g_iload_n hX 3 dX8_flood_16 rfl rfl ?_
      refine g_iconst hX dX8_flood_17 ?_
      refine g_aload_n hX 0 dX8_flood_18 rfl rfl ?_
      refine g_get hX fl_X8_17 (by decide) (by decide) dX8_flood_19 hF (fun jv5 hF => ?_)
      refine g_iload_n hX 2 dX8_flood_22 rfl rfl ?_
      refine g_iald hX dX8_flood_23 hF (fun jv6 hF => ?_)
      refine g_callS (t := 0) (rest := []) [(0, jx3), (0, 0), (0, jv6)] hX cw_X8_122 (fun r σ1 h => T_X8_in l D dA b0 jx3 0 jv6 σ4 σ1 r h) ⟨by decide, by decide⟩ rfl rfl (Nat.le_of_ble_eq_true rfl) dX8_flood_24 hF (fun jv7 σ8 hF => ?_)
      refine g_if_eq (tgt := 45) hX dX8_flood_27 (by decide) hF (fun hc hF => ?_) (fun hc hF => ?_)
      · refine g_iconst hX dX8_flood_45 ?_
        exact g_iret hX hR hQ hE dX8_flood_46 hF
      · refine g_iload hX 4 dX8_flood_30 rfl ?_
        refine g_iconst hX dX8_flood_32 ?_
        refine g_aload_n hX 0 dX8_flood_33 rfl rfl ?_
        refine g_get hX fl_X8_32 (by decide) (by decide) dX8_flood_34 hF (fun jv9 hF => ?_)
        refine g_iconst hX dX8_flood_37 ?_
        refine g_isub hX dX8_flood_38 ?_
        refine g_callS (t := 0) (rest := []) [(0, jx4), (0, 0), (0, (jv9 - 1))] hX cw_X8_122 (fun r σ1 h => T_X8_in l D dA b0 jx4 0 (jv9 - 1) σ8 σ1 r h) ⟨by decide, by decide⟩ rfl rfl (Nat.le_of_ble_eq_true rfl) dX8_flood_39 hF (fun jv10 σ11 hF => ?_)
        refine g_if_ne (tgt := 47) hX dX8_flood_42 (by decide) hF (fun hc hF => ?_) (fun hc hF => ?_)
        · refine g_iconst hX dX8_flood_45 ?_
          exact g_iret hX hR hQ hE dX8_flood_46 hF
        · refine g_aload_n hX 0 dX8_flood_47 rfl rfl ?_
          refine g_callV (t := 0) (ci := 8) (rest := []) [] hX cw_X8_151 rfl (by decide) (by decide) (fun r σ1 h => T_X8_isWhole l D dA b0  jx0  σ11 σ1 r h) ⟨by decide, by decide⟩ rfl rfl (Nat.le_of_ble_eq_true rfl) dX8_flood_48 hF (fun jv12 σ13 hF => ?_)
          refine g_if_ne (tgt := 57) hX dX8_flood_51 (by decide) hF (fun hc hF => ?_) (fun hc hF => ?_)
          · refine g_bipush hX dX8_flood_54 (by decide) ?_
            exact g_iret hX hR hQ hE dX8_flood_56 hF
          · refine g_aload_n hX 0 dX8_flood_57 rfl rfl ?_
            refine g_iconst hX dX8_flood_58 ?_
            refine g_iload_n hX 1 dX8_flood_59 rfl rfl ?_
            refine g_callVv (ci := 8) (rest := []) [(0, 0), (0, jx1)] hX cw_X8_218 rfl (by decide) (by decide) (fun r σ1 h => T_X8_walk l D dA b0  jx0 0 jx1 σ13 σ1 r h) ⟨by decide, by decide⟩ rfl rfl (Nat.le_of_ble_eq_true rfl) dX8_flood_60 hF (fun jv14 σ15 hF => ?_)
            refine g_iconst hX dX8_flood_63 ?_
            refine g_istore (lv' := [(5, 0, 0), (0, 2, jx0), (1, 0, jx1), (2, 0, jx2), (3, 0, jx3), (4, 0, jx4)]) hX dX8_flood_64 (by decide) rfl ?_
            refine g_iconst hX dX8_flood_66 ?_
            refine g_istore (lv' := [(6, 0, 1), (5, 0, 0), (0, 2, jx0), (1, 0, jx1), (2, 0, jx2), (3, 0, jx3), (4, 0, jx4)]) hX dX8_flood_67 (by decide) rfl ?_
            refine g_lvp (lv' := [(0, 2, jx0), (2, 0, jx2), (3, 0, jx3), (4, 0, jx4), (5, 0, 0), (6, 0, 1)]) [2, 4, 5, 6, 1, 0] rfl ?_
            exact T_X8_flood_L69 hX hR hnm hQ hE jx0 jx2 jx3 jx4  fu 0 1 σ15 hF
end

section
variable {p : Program} {l : Launch} {e : Env} {R : Room} {s : State} {m : MethodId} {args : Array Value} {below : List Frame} {meth : Method} {c : Code} {D : va_G} {dA : Nat → ClassId} {b0 n0 m0 nE mE : Nat} {Q : State → Prop}
def F_X8_cases (jx0 : Int) (jx1 : Int) (σ : Hp) : Option (Int × Hp) :=
  bd (iv 9 σ jx0 (F_X8_isNode  jx0 jx1 σ)) fun jv1 σ2 => bEq jv1 0 (some ((-1), σ2)) (bd (iv 9 σ2 jx0 (F_X8_isWhole  jx0  σ2)) fun jv3 σ4 => bEq jv3 0 (some ((-3), σ4)) (bd (iv 9 σ4 jx0 (F_X8_walk  jx0 jx1 0 σ4)) fun jv5 σ6 => (rd 9 σ6 jx0 31).bind fun jv7 => (ar 11 σ6 jv7 jx1).bind fun jv8 => some (jv8, σ6)))
theorem M_X8_cases (jx0 : Int) (jx1 : Int) (σ : Hp) : Mn σ (F_X8_cases jx0 jx1 σ) := by
  unfold F_X8_cases
  repeat' first | exact Mn_ret | exact Mn_rz | exact M_X8_isNode _ _ _ | exact M_X8_isWhole _ _ | exact M_X8_walk _ _ _ _ | refine Mn_nm (fun _ => ?_) | refine Mn_nab (fun _ _ => ?_) | refine Mn_nwb (fun _ _ => ?_) | refine Mn_pw (fun _ => ?_) | refine Mn_pz (fun _ => ?_) | refine Mn_aw (fun _ => ?_) | refine Mn_az (fun _ => ?_) | refine Mn_aq (fun _ => ?_) | refine Mn_bo (fun _ => ?_) | refine Mn_bd ?_ (fun _ _ => ?_) | refine Mn_iv ?_ | refine Mn_bLt ?_ ?_ | refine Mn_bLe ?_ ?_ | refine Mn_bEq ?_ ?_ | refine Mn_bN ?_ ?_ | refine Mn_g3 ?_ | refine Mn_g33 ?_ | refine Mn_g66 ?_ | refine Mn_gD ?_
set_option maxRecDepth 100000 in
set_option maxHeartbeats 4000000 in
theorem T_X8_cases (l : Launch) (D : va_G) (dA : Nat → ClassId) (b0 : Nat) (jx0 : Int) (jx1 : Int) (σ σE : Hp) (r : Int) (hF : F_X8_cases jx0 jx1 σ = some (r, σE)) : Ct l D dA b0 yX8_cases cX8_cases 2 (some .int) 4 90 [(2, jx0), (0, jx1)] σ (some (pV 0 r)) σE := by
  refine Ct.of (lv0 := [(0, 2, jx0), (1, 0, jx1)]) (by decide) RX8 rfl (Nat.le_of_ble_eq_true rfl) rfl ?_ (M_X8_cases jx0 jx1 σ r σE hF)
  intro p e R s m args below meth c hX hR hnm
  obtain ⟨Q, hQ⟩ : ∃ Q, Q = Qm D dA b0 σ.1 σ.2.1 below args s (some (pV 0 r)) σE := ⟨_, rfl⟩
  rw [← hQ]
  have hE : σE.1 = σE.1 ∧ σE.2.1 = σE.2.1 := ⟨rfl, rfl⟩
  unfold F_X8_cases at hF
  refine g_aload_n hX 0 dX8_cases_0 rfl rfl ?_
  refine g_iload_n hX 1 dX8_cases_1 rfl rfl ?_
  refine g_callV (t := 0) (ci := 8) (rest := []) [(0, jx1)] hX cw_X8_144 rfl (by decide) (by decide) (fun r σ1 h => T_X8_isNode l D dA b0  jx0 jx1 σ σ1 r h) ⟨by decide, by decide⟩ rfl rfl (Nat.le_of_ble_eq_true rfl) dX8_cases_2 hF (fun jv1 σ2 hF => ?_)
  refine g_if_ne (tgt := 10) hX dX8_cases_5 (by decide) hF (fun hc hF => ?_) (fun hc hF => ?_)
  · refine g_iconst hX dX8_cases_8 ?_
    exact g_iret hX hR hQ hE dX8_cases_9 hF
  · refine g_aload_n hX 0 dX8_cases_10 rfl rfl ?_
    refine g_callV (t := 0) (ci := 8) (rest := []) [] hX cw_X8_151 rfl (by decide) (by decide) (fun r σ1 h => T_X8_isWhole l D dA b0  jx0  σ2 σ1 r h) ⟨by decide, by decide⟩ rfl rfl (Nat.le_of_ble_eq_true rfl) dX8_cases_11 hF (fun jv3 σ4 hF => ?_)
    refine g_if_ne (tgt := 20) hX dX8_cases_14 (by decide) hF (fun hc hF => ?_) (fun hc hF => ?_)
    · refine g_bipush hX dX8_cases_17 (by decide) ?_
      exact g_iret hX hR hQ hE dX8_cases_19 hF
    · refine g_aload_n hX 0 dX8_cases_20 rfl rfl ?_
      refine g_iload_n hX 1 dX8_cases_21 rfl rfl ?_
      refine g_iconst hX dX8_cases_22 ?_
      refine g_callVv (ci := 8) (rest := []) [(0, jx1), (0, 0)] hX cw_X8_218 rfl (by decide) (by decide) (fun r σ1 h => T_X8_walk l D dA b0  jx0 jx1 0 σ4 σ1 r h) ⟨by decide, by decide⟩ rfl rfl (Nat.le_of_ble_eq_true rfl) dX8_cases_23 hF (fun jv5 σ6 hF => ?_)
      refine g_aload_n hX 0 dX8_cases_26 rfl rfl ?_
      refine g_get hX fl_X8_98 (by decide) (by decide) dX8_cases_27 hF (fun jv7 hF => ?_)
      refine g_iload_n hX 1 dX8_cases_30 rfl rfl ?_
      refine g_iald hX dX8_cases_31 hF (fun jv8 hF => ?_)
      exact g_iret hX hR hQ hE dX8_cases_32 hF
end

section
variable {p : Program} {l : Launch} {e : Env} {R : Room} {s : State} {m : MethodId} {args : Array Value} {below : List Frame} {meth : Method} {c : Code} {D : va_G} {dA : Nat → ClassId} {b0 n0 m0 nE mE : Nat} {Q : State → Prop}
def F_X8_begin (jx0 : Int) (jx1 : Int) (σ : Hp) : Option (Int × Hp) :=
  bd (iv 9 σ jx0 (F_X8_isState  jx0 jx1 σ)) fun jv1 σ2 => bEq jv1 0 (some ((-1), σ2)) (bd (iv 9 σ2 jx0 (F_X8_isWhole  jx0  σ2)) fun jv3 σ4 => bEq jv3 0 (some ((-3), σ4)) ((pz 9 σ4 jx0 32 1).bind fun σ5 => (pw 9 σ5 jx0 33 0).bind fun σ6 => (rd 9 σ6 jx0 34).bind fun jv7 => (aw 11 σ6 jv7 0 0).bind fun σ8 => (rd 9 σ8 jx0 35).bind fun jv9 => (aw 11 σ8 jv9 0 jx1).bind fun σ10 => (rd 9 σ10 jx0 36).bind fun jv11 => (aw 11 σ10 jv11 0 0).bind fun σ12 => (rd 9 σ12 jx0 37).bind fun jv13 => (aw 11 σ12 jv13 0 0).bind fun σ14 => (rd 9 σ14 jx0 38).bind fun jv15 => (aw 11 σ14 jv15 0 0).bind fun σ16 => (rd 9 σ16 jx0 39).bind fun jv17 => (aw 11 σ16 jv17 0 0).bind fun σ18 => some (1, σ18)))
theorem M_X8_begin (jx0 : Int) (jx1 : Int) (σ : Hp) : Mn σ (F_X8_begin jx0 jx1 σ) := by
  unfold F_X8_begin
  repeat' first | exact Mn_ret | exact Mn_rz | exact M_X8_isState _ _ _ | exact M_X8_isWhole _ _ | refine Mn_nm (fun _ => ?_) | refine Mn_nab (fun _ _ => ?_) | refine Mn_nwb (fun _ _ => ?_) | refine Mn_pw (fun _ => ?_) | refine Mn_pz (fun _ => ?_) | refine Mn_aw (fun _ => ?_) | refine Mn_az (fun _ => ?_) | refine Mn_aq (fun _ => ?_) | refine Mn_bo (fun _ => ?_) | refine Mn_bd ?_ (fun _ _ => ?_) | refine Mn_iv ?_ | refine Mn_bLt ?_ ?_ | refine Mn_bLe ?_ ?_ | refine Mn_bEq ?_ ?_ | refine Mn_bN ?_ ?_ | refine Mn_g3 ?_ | refine Mn_g33 ?_ | refine Mn_g66 ?_ | refine Mn_gD ?_
set_option maxRecDepth 100000 in
set_option maxHeartbeats 4000000 in
theorem T_X8_begin (l : Launch) (D : va_G) (dA : Nat → ClassId) (b0 : Nat) (jx0 : Int) (jx1 : Int) (σ σE : Hp) (r : Int) (hF : F_X8_begin jx0 jx1 σ = some (r, σE)) : Ct l D dA b0 yX8_begin cX8_begin 2 (some .int) 2 44 [(2, jx0), (0, jx1)] σ (some (pV 0 r)) σE := by
  refine Ct.of (lv0 := [(0, 2, jx0), (1, 0, jx1)]) (by decide) RX8 rfl (Nat.le_of_ble_eq_true rfl) rfl ?_ (M_X8_begin jx0 jx1 σ r σE hF)
  intro p e R s m args below meth c hX hR hnm
  obtain ⟨Q, hQ⟩ : ∃ Q, Q = Qm D dA b0 σ.1 σ.2.1 below args s (some (pV 0 r)) σE := ⟨_, rfl⟩
  rw [← hQ]
  have hE : σE.1 = σE.1 ∧ σE.2.1 = σE.2.1 := ⟨rfl, rfl⟩
  unfold F_X8_begin at hF
  refine g_aload_n hX 0 dX8_begin_0 rfl rfl ?_
  refine g_iload_n hX 1 dX8_begin_1 rfl rfl ?_
  refine g_callV (t := 0) (ci := 8) (rest := []) [(0, jx1)] hX cw_X8_200 rfl (by decide) (by decide) (fun r σ1 h => T_X8_isState l D dA b0  jx0 jx1 σ σ1 r h) ⟨by decide, by decide⟩ rfl rfl (Nat.le_of_ble_eq_true rfl) dX8_begin_2 hF (fun jv1 σ2 hF => ?_)
  refine g_if_ne (tgt := 10) hX dX8_begin_5 (by decide) hF (fun hc hF => ?_) (fun hc hF => ?_)
  · refine g_iconst hX dX8_begin_8 ?_
    exact g_iret hX hR hQ hE dX8_begin_9 hF
  · refine g_aload_n hX 0 dX8_begin_10 rfl rfl ?_
    refine g_callV (t := 0) (ci := 8) (rest := []) [] hX cw_X8_151 rfl (by decide) (by decide) (fun r σ1 h => T_X8_isWhole l D dA b0  jx0  σ2 σ1 r h) ⟨by decide, by decide⟩ rfl rfl (Nat.le_of_ble_eq_true rfl) dX8_begin_11 hF (fun jv3 σ4 hF => ?_)
    refine g_if_ne (tgt := 20) hX dX8_begin_14 (by decide) hF (fun hc hF => ?_) (fun hc hF => ?_)
    · refine g_bipush hX dX8_begin_17 (by decide) ?_
      exact g_iret hX hR hQ hE dX8_begin_19 hF
    · refine g_aload_n hX 0 dX8_begin_20 rfl rfl ?_
      refine g_iconst hX dX8_begin_21 ?_
      refine u_putZ hX fp_X8_134 (by decide) (by decide) dX8_begin_22 hF (fun σ5 hF => ?_)
      refine g_aload_n hX 0 dX8_begin_25 rfl rfl ?_
      refine g_iconst hX dX8_begin_26 ?_
      refine u_put hX fp_X8_221 (by decide) (by decide) dX8_begin_27 hF (fun σ6 hF => ?_)
      refine g_aload_n hX 0 dX8_begin_30 rfl rfl ?_
      refine g_get hX fl_X8_101 (by decide) (by decide) dX8_begin_31 hF (fun jv7 hF => ?_)
      refine g_iconst hX dX8_begin_34 ?_
      refine g_iconst hX dX8_begin_35 ?_
      refine u_iast hX dX8_begin_36 hF (fun σ8 hF => ?_)
      refine g_aload_n hX 0 dX8_begin_37 rfl rfl ?_
      refine g_get hX fl_X8_104 (by decide) (by decide) dX8_begin_38 hF (fun jv9 hF => ?_)
      refine g_iconst hX dX8_begin_41 ?_
      refine g_iload_n hX 1 dX8_begin_42 rfl rfl ?_
      refine u_iast hX dX8_begin_43 hF (fun σ10 hF => ?_)
      refine g_aload_n hX 0 dX8_begin_44 rfl rfl ?_
      refine g_get hX fl_X8_107 (by decide) (by decide) dX8_begin_45 hF (fun jv11 hF => ?_)
      refine g_iconst hX dX8_begin_48 ?_
      refine g_iconst hX dX8_begin_49 ?_
      refine u_iast hX dX8_begin_50 hF (fun σ12 hF => ?_)
      refine g_aload_n hX 0 dX8_begin_51 rfl rfl ?_
      refine g_get hX fl_X8_110 (by decide) (by decide) dX8_begin_52 hF (fun jv13 hF => ?_)
      refine g_iconst hX dX8_begin_55 ?_
      refine g_iconst hX dX8_begin_56 ?_
      refine u_iast hX dX8_begin_57 hF (fun σ14 hF => ?_)
      refine g_aload_n hX 0 dX8_begin_58 rfl rfl ?_
      refine g_get hX fl_X8_113 (by decide) (by decide) dX8_begin_59 hF (fun jv15 hF => ?_)
      refine g_iconst hX dX8_begin_62 ?_
      refine g_iconst hX dX8_begin_63 ?_
      refine u_iast hX dX8_begin_64 hF (fun σ16 hF => ?_)
      refine g_aload_n hX 0 dX8_begin_65 rfl rfl ?_
      refine g_get hX fl_X8_116 (by decide) (by decide) dX8_begin_66 hF (fun jv17 hF => ?_)
      refine g_iconst hX dX8_begin_69 ?_
      refine g_iconst hX dX8_begin_70 ?_
      refine u_iast hX dX8_begin_71 hF (fun σ18 hF => ?_)
      refine g_iconst hX dX8_begin_72 ?_
      exact g_iret hX hR hQ hE dX8_begin_73 hF
end

section
variable {p : Program} {l : Launch} {e : Env} {R : Room} {s : State} {m : MethodId} {args : Array Value} {below : List Frame} {meth : Method} {c : Code} {D : va_G} {dA : Nat → ClassId} {b0 n0 m0 nE mE : Nat} {Q : State → Prop}
def F_X8_child_B44 (k7 : Int → Int → Hp → Option (Int × Hp)) (jx0 : Int) (jx1 : Int) (jx2 : Int) (jx3 : Int) (jx4 : Int) (σ : Hp) : Option (Int × Hp) :=
  k7 jx3 (jx4 + 1) σ
theorem M_X8_child_B44 (k7 : Int → Int → Hp → Option (Int × Hp)) (hk7 : ∀ (jx3 : Int) (jx4 : Int) (σ : Hp), Mn σ (k7 jx3 jx4 σ)) (jx0 : Int) (jx1 : Int) (jx2 : Int) (jx3 : Int) (jx4 : Int) (σ : Hp) : Mn σ (F_X8_child_B44 k7 jx0 jx1 jx2 jx3 jx4 σ) := by
  unfold F_X8_child_B44
  repeat' first | exact Mn_ret | exact Mn_rz | exact hk7 _ _  _ | refine Mn_nm (fun _ => ?_) | refine Mn_nab (fun _ _ => ?_) | refine Mn_nwb (fun _ _ => ?_) | refine Mn_pw (fun _ => ?_) | refine Mn_pz (fun _ => ?_) | refine Mn_aw (fun _ => ?_) | refine Mn_az (fun _ => ?_) | refine Mn_aq (fun _ => ?_) | refine Mn_bo (fun _ => ?_) | refine Mn_bd ?_ (fun _ _ => ?_) | refine Mn_iv ?_ | refine Mn_bLt ?_ ?_ | refine Mn_bLe ?_ ?_ | refine Mn_bEq ?_ ?_ | refine Mn_bN ?_ ?_ | refine Mn_g3 ?_ | refine Mn_g33 ?_ | refine Mn_g66 ?_ | refine Mn_gD ?_
set_option maxRecDepth 100000 in
set_option maxHeartbeats 4000000 in
theorem T_X8_child_B44 {r : Int} {σE : Hp} (hX : Cx p R s m args meth c D dA b0 n0 m0 5 nE mE cX8_child RX8 0 0) (hR : Rx meth (some .int)) (hnm : meth.name = yX8_child.name) (hQ : Q = Qm D dA b0 n0 m0 below args s (some (pV 0 r)) σE) (hE : nE = σE.1 ∧ mE = σE.2.1) (k7 : Int → Int → Hp → Option (Int × Hp)) (jx0 : Int) (jx1 : Int) (jx2 : Int) (jx3 : Int) (jx4 : Int) (hk7 : ∀ (jx3 : Int) (jx4 : Int) (σ : Hp), k7 jx3 jx4 σ = some (r, σE) → G p l e R s m args below meth c D dA b0 n0 m0 5 nE mE Q 7 [(0, 2, jx0), (1, 0, jx1), (2, 0, jx2), (3, 0, jx3), (4, 0, jx4)] [] σ) (σ : Hp) (hF : F_X8_child_B44 k7 jx0 jx1 jx2 jx3 jx4 σ = some (r, σE)) : G p l e R s m args below meth c D dA b0 n0 m0 5 nE mE Q 44 [(0, 2, jx0), (1, 0, jx1), (2, 0, jx2), (3, 0, jx3), (4, 0, jx4)] [] σ := by
  unfold F_X8_child_B44 at hF
  refine g_iinc (lv' := [(4, 0, (jx4 + 1)), (0, 2, jx0), (1, 0, jx1), (2, 0, jx2), (3, 0, jx3)]) hX 4 dX8_child_44 rfl (by decide) rfl ?_
  refine g_goto (tgt := 7) hX dX8_child_47 (by decide) ?_
  refine g_lvp (lv' := [(0, 2, jx0), (1, 0, jx1), (2, 0, jx2), (3, 0, jx3), (4, 0, (jx4 + 1))]) [1, 2, 3, 4, 0] rfl ?_
  exact hk7 jx3 (jx4 + 1) σ hF
def F_X8_child_L7 (jx0 : Int) (jx1 : Int) (jx2 : Int) : Nat → Int → Int → Hp → Option (Int × Hp)
  | 0, _, _, _ => none
  | n + 1, jx3, jx4, σ => (rd 9 σ jx0 11).bind fun jv1 => bLt jx4 jv1 (bLt jx2 0 (some ((-1), σ)) ((rd 9 σ jx0 12).bind fun jv2 => (ar 11 σ jv2 jx4).bind fun jv3 => bEq jv3 jx1 (bEq jx3 0 (some (jx4, σ)) (F_X8_child_B44 (F_X8_child_L7 jx0 jx1 jx2 n) jx0 jx1 jx2 (jx3 + (-1)) jx4  σ)) (F_X8_child_B44 (F_X8_child_L7 jx0 jx1 jx2 n) jx0 jx1 jx2 jx3 jx4  σ))) (some ((-1), σ))
theorem M_X8_child_L7 (jx0 : Int) (jx1 : Int) (jx2 : Int) : ∀ (n : Nat) (jx3 : Int) (jx4 : Int) (σ : Hp), Mn σ (F_X8_child_L7 jx0 jx1 jx2 n jx3 jx4 σ) := by
  intro n
  induction n with
  | zero => intros; rw [F_X8_child_L7]; exact Mn_none
  | succ n hk7 =>
    intros
    rw [F_X8_child_L7]
    repeat' first | exact Mn_ret | exact Mn_rz | exact hk7 _ _  _ | exact M_X8_child_B44 (F_X8_child_L7 jx0 jx1 jx2 n) hk7 _ _ _ _ _  _ | refine Mn_nm (fun _ => ?_) | refine Mn_nab (fun _ _ => ?_) | refine Mn_nwb (fun _ _ => ?_) | refine Mn_pw (fun _ => ?_) | refine Mn_pz (fun _ => ?_) | refine Mn_aw (fun _ => ?_) | refine Mn_az (fun _ => ?_) | refine Mn_aq (fun _ => ?_) | refine Mn_bo (fun _ => ?_) | refine Mn_bd ?_ (fun _ _ => ?_) | refine Mn_iv ?_ | refine Mn_bLt ?_ ?_ | refine Mn_bLe ?_ ?_ | refine Mn_bEq ?_ ?_ | refine Mn_bN ?_ ?_ | refine Mn_g3 ?_ | refine Mn_g33 ?_ | refine Mn_g66 ?_ | refine Mn_gD ?_
set_option maxRecDepth 100000 in
set_option maxHeartbeats 4000000 in
theorem T_X8_child_L7 {r : Int} {σE : Hp} (hX : Cx p R s m args meth c D dA b0 n0 m0 5 nE mE cX8_child RX8 0 0) (hR : Rx meth (some .int)) (hnm : meth.name = yX8_child.name) (hQ : Q = Qm D dA b0 n0 m0 below args s (some (pV 0 r)) σE) (hE : nE = σE.1 ∧ mE = σE.2.1) (jx0 : Int) (jx1 : Int) (jx2 : Int) : ∀ (n : Nat) (jx3 : Int) (jx4 : Int) (σ : Hp), F_X8_child_L7 jx0 jx1 jx2 n jx3 jx4 σ = some (r, σE) → G p l e R s m args below meth c D dA b0 n0 m0 5 nE mE Q 7 [(0, 2, jx0), (1, 0, jx1), (2, 0, jx2), (3, 0, jx3), (4, 0, jx4)] [] σ := by
  intro n
  induction n with
  | zero =>
    intro jx3 jx4 σ hF
    rw [F_X8_child_L7] at hF
    cases hF
  | succ n hk7 =>
    intro jx3 jx4 σ hF
    rw [F_X8_child_L7] at hF
    refine g_iload hX 4 dX8_child_7 rfl ?_
    refine g_aload_n hX 0 dX8_child_9 rfl rfl ?_
    refine g_get hX fl_X8_41 (by decide) (by decide) dX8_child_10 hF (fun jv1 hF => ?_)
    refine g_icmp_ge (tgt := 50) hX dX8_child_13 (by decide) hF (fun hc hF => ?_) (fun hc hF => ?_)
    · refine g_iload_n hX 2 dX8_child_16 rfl rfl ?_
      refine g_if_lt (tgt := 50) hX dX8_child_17 (by decide) hF (fun hc hF => ?_) (fun hc hF => ?_)
      · refine g_iconst hX dX8_child_50 ?_
        exact g_iret hX hR hQ hE dX8_child_51 hF
      · refine g_aload_n hX 0 dX8_child_20 rfl rfl ?_
        refine g_get hX fl_X8_44 (by decide) (by decide) dX8_child_21 hF (fun jv2 hF => ?_)
        refine g_iload hX 4 dX8_child_24 rfl ?_
        refine g_iald hX dX8_child_26 hF (fun jv3 hF => ?_)
        refine g_iload_n hX 1 dX8_child_27 rfl rfl ?_
        refine g_icmp_eq (tgt := 34) hX dX8_child_28 (by decide) hF (fun hc hF => ?_) (fun hc hF => ?_)
        · refine g_iload_n hX 3 dX8_child_34 rfl rfl ?_
          refine g_if_ne (tgt := 41) hX dX8_child_35 (by decide) hF (fun hc hF => ?_) (fun hc hF => ?_)
          · refine g_iload hX 4 dX8_child_38 rfl ?_
            exact g_iret hX hR hQ hE dX8_child_40 hF
          · refine g_iinc (lv' := [(3, 0, (jx3 + (-1))), (0, 2, jx0), (1, 0, jx1), (2, 0, jx2), (4, 0, jx4)]) hX 3 dX8_child_41 rfl (by decide) rfl ?_
            refine g_lvp (lv' := [(0, 2, jx0), (1, 0, jx1), (2, 0, jx2), (3, 0, (jx3 + (-1))), (4, 0, jx4)]) [1, 2, 3, 0, 4] rfl ?_
            exact T_X8_child_B44 hX hR hnm hQ hE (F_X8_child_L7 jx0 jx1 jx2 n) jx0 jx1 jx2 (jx3 + (-1)) jx4  hk7  σ hF
        · refine g_goto (tgt := 44) hX dX8_child_31 (by decide) ?_
          exact T_X8_child_B44 hX hR hnm hQ hE (F_X8_child_L7 jx0 jx1 jx2 n) jx0 jx1 jx2 jx3 jx4  hk7  σ hF
    · refine g_iconst hX dX8_child_50 ?_
      exact g_iret hX hR hQ hE dX8_child_51 hF
def F_X8_child (jx0 : Int) (jx1 : Int) (jx2 : Int) (σ : Hp) : Option (Int × Hp) :=
  F_X8_child_L7 jx0 jx1 jx2 fu jx2 (jx1 + 1) σ
theorem M_X8_child (jx0 : Int) (jx1 : Int) (jx2 : Int) (σ : Hp) : Mn σ (F_X8_child jx0 jx1 jx2 σ) := by
  unfold F_X8_child
  repeat' first | exact Mn_ret | exact Mn_rz | exact M_X8_child_L7 _ _ _ _ _ _ _ | refine Mn_nm (fun _ => ?_) | refine Mn_nab (fun _ _ => ?_) | refine Mn_nwb (fun _ _ => ?_) | refine Mn_pw (fun _ => ?_) | refine Mn_pz (fun _ => ?_) | refine Mn_aw (fun _ => ?_) | refine Mn_az (fun _ => ?_) | refine Mn_aq (fun _ => ?_) | refine Mn_bo (fun _ => ?_) | refine Mn_bd ?_ (fun _ _ => ?_) | refine Mn_iv ?_ | refine Mn_bLt ?_ ?_ | refine Mn_bLe ?_ ?_ | refine Mn_bEq ?_ ?_ | refine Mn_bN ?_ ?_ | refine Mn_g3 ?_ | refine Mn_g33 ?_ | refine Mn_g66 ?_ | refine Mn_gD ?_
set_option maxRecDepth 100000 in
set_option maxHeartbeats 4000000 in
theorem T_X8_child (l : Launch) (D : va_G) (dA : Nat → ClassId) (b0 : Nat) (jx0 : Int) (jx1 : Int) (jx2 : Int) (σ σE : Hp) (r : Int) (hF : F_X8_child jx0 jx1 jx2 σ = some (r, σE)) : Ct l D dA b0 yX8_child cX8_child 5 (some .int) 0 0 [(2, jx0), (0, jx1), (0, jx2)] σ (some (pV 0 r)) σE := by
  refine Ct.of (lv0 := [(0, 2, jx0), (1, 0, jx1), (2, 0, jx2)]) (by decide) RX8 rfl (Nat.le_of_ble_eq_true rfl) rfl ?_ (M_X8_child jx0 jx1 jx2 σ r σE hF)
  intro p e R s m args below meth c hX hR hnm
  obtain ⟨Q, hQ⟩ : ∃ Q, Q = Qm D dA b0 σ.1 σ.2.1 below args s (some (pV 0 r)) σE := ⟨_, rfl⟩
  rw [← hQ]
  have hE : σE.1 = σE.1 ∧ σE.2.1 = σE.2.1 := ⟨rfl, rfl⟩
  unfold F_X8_child at hF
  refine g_iload_n hX 2 dX8_child_0 rfl rfl ?_
  refine g_istore_n (lv' := [(3, 0, jx2), (0, 2, jx0), (1, 0, jx1), (2, 0, jx2)]) hX dX8_child_1 rfl (by decide) rfl ?_
  refine g_iload_n hX 2 dX8_child_2 rfl rfl ?_
  refine g_iconst hX dX8_child_3 ?_
  refine g_iadd hX dX8_child_4 ?_
  refine g_istore (lv' := [(4, 0, (jx1 + 1)), (3, 0, jx2), (0, 2, jx0), (1, 0, jx1), (2, 0, jx2)]) hX dX8_child_5 (by decide) rfl ?_
  refine g_lvp (lv' := [(0, 2, jx0), (1, 0, jx1), (2, 0, jx2), (3, 0, jx2), (4, 0, (jx1 + 1))]) [2, 3, 4, 1, 0] rfl ?_
  exact T_X8_child_L7 hX hR hnm hQ hE jx0 jx1 jx2  fu jx2 (jx1 + 1) σ hF
end

section
variable {p : Program} {l : Launch} {e : Env} {R : Room} {s : State} {m : MethodId} {args : Array Value} {below : List Frame} {meth : Method} {c : Code} {D : va_G} {dA : Nat → ClassId} {b0 n0 m0 nE mE : Nat} {Q : State → Prop}
def F_X8_refused (jx0 : Int) (σ : Hp) : Option (Int × Hp) :=
  (rd 9 σ jx0 32).bind fun jv1 => bEq jv1 0 (some ((-6), σ)) ((rd 9 σ jx0 14).bind fun jv2 => (rd 9 σ jx0 34).bind fun jv3 => (rd 9 σ jx0 33).bind fun jv4 => (ar 11 σ jv3 jv4).bind fun jv5 => (ar 11 σ jv2 jv5).bind fun jv6 => (rd 9 σ jx0 8).bind fun jv7 => bEq jv6 (jv7 - 1) (some ((-4), σ)) (some (0, σ)))
theorem M_X8_refused (jx0 : Int) (σ : Hp) : Mn σ (F_X8_refused jx0 σ) := by
  unfold F_X8_refused
  repeat' first | exact Mn_ret | exact Mn_rz | refine Mn_nm (fun _ => ?_) | refine Mn_nab (fun _ _ => ?_) | refine Mn_nwb (fun _ _ => ?_) | refine Mn_pw (fun _ => ?_) | refine Mn_pz (fun _ => ?_) | refine Mn_aw (fun _ => ?_) | refine Mn_az (fun _ => ?_) | refine Mn_aq (fun _ => ?_) | refine Mn_bo (fun _ => ?_) | refine Mn_bd ?_ (fun _ _ => ?_) | refine Mn_iv ?_ | refine Mn_bLt ?_ ?_ | refine Mn_bLe ?_ ?_ | refine Mn_bEq ?_ ?_ | refine Mn_bN ?_ ?_ | refine Mn_g3 ?_ | refine Mn_g33 ?_ | refine Mn_g66 ?_ | refine Mn_gD ?_
set_option maxRecDepth 100000 in
set_option maxHeartbeats 4000000 in
theorem T_X8_refused (l : Launch) (D : va_G) (dA : Nat → ClassId) (b0 : Nat) (jx0 : Int) (σ σE : Hp) (r : Int) (hF : F_X8_refused jx0 σ = some (r, σE)) : Ct l D dA b0 yX8_refused cX8_refused 1 (some .int) 0 0 [(2, jx0)] σ (some (pV 0 r)) σE := by
  refine Ct.of (lv0 := [(0, 2, jx0)]) (by decide) RX8 rfl (Nat.le_of_ble_eq_true rfl) rfl ?_ (M_X8_refused jx0 σ r σE hF)
  intro p e R s m args below meth c hX hR hnm
  obtain ⟨Q, hQ⟩ : ∃ Q, Q = Qm D dA b0 σ.1 σ.2.1 below args s (some (pV 0 r)) σE := ⟨_, rfl⟩
  rw [← hQ]
  have hE : σE.1 = σE.1 ∧ σE.2.1 = σE.2.1 := ⟨rfl, rfl⟩
  unfold F_X8_refused at hF
  refine g_aload_n hX 0 dX8_refused_0 rfl rfl ?_
  refine g_get hX fl_X8_134 (by decide) (by decide) dX8_refused_1 hF (fun jv1 hF => ?_)
  refine g_if_ne (tgt := 12) hX dX8_refused_4 (by decide) hF (fun hc hF => ?_) (fun hc hF => ?_)
  · refine g_bipush hX dX8_refused_7 (by decide) ?_
    refine g_goto (tgt := 41) hX dX8_refused_9 (by decide) ?_
    exact g_iret hX hR hQ hE dX8_refused_41 hF
  · refine g_aload_n hX 0 dX8_refused_12 rfl rfl ?_
    refine g_get hX fl_X8_50 (by decide) (by decide) dX8_refused_13 hF (fun jv2 hF => ?_)
    refine g_aload_n hX 0 dX8_refused_16 rfl rfl ?_
    refine g_get hX fl_X8_101 (by decide) (by decide) dX8_refused_17 hF (fun jv3 hF => ?_)
    refine g_aload_n hX 0 dX8_refused_20 rfl rfl ?_
    refine g_get hX fl_X8_221 (by decide) (by decide) dX8_refused_21 hF (fun jv4 hF => ?_)
    refine g_iald hX dX8_refused_24 hF (fun jv5 hF => ?_)
    refine g_iald hX dX8_refused_25 hF (fun jv6 hF => ?_)
    refine g_aload_n hX 0 dX8_refused_26 rfl rfl ?_
    refine g_get hX fl_X8_32 (by decide) (by decide) dX8_refused_27 hF (fun jv7 hF => ?_)
    refine g_iconst hX dX8_refused_30 ?_
    refine g_isub hX dX8_refused_31 ?_
    refine g_icmp_ne (tgt := 40) hX dX8_refused_32 (by decide) hF (fun hc hF => ?_) (fun hc hF => ?_)
    · refine g_bipush hX dX8_refused_35 (by decide) ?_
      refine g_goto (tgt := 41) hX dX8_refused_37 (by decide) ?_
      exact g_iret hX hR hQ hE dX8_refused_41 hF
    · refine g_iconst hX dX8_refused_40 ?_
      exact g_iret hX hR hQ hE dX8_refused_41 hF
end

section
variable {p : Program} {l : Launch} {e : Env} {R : Room} {s : State} {m : MethodId} {args : Array Value} {below : List Frame} {meth : Method} {c : Code} {D : va_G} {dA : Nat → ClassId} {b0 n0 m0 nE mE : Nat} {Q : State → Prop}
def F_X8_goes_L36 (jx0 : Int) (jx1 : Int) (jx2 : Int) (jx3 : Int) : Nat → Int → Int → Hp → Option (Int × Hp)
  | 0, _, _, _ => none
  | n + 1, jx4, jx5, σ => (rd 9 σ jx0 1).bind fun jv12 => bLt jx5 jv12 ((rd 9 σ jx0 15).bind fun jv13 => (ar 11 σ jv13 ((3 * jx1) + jx5)).bind fun jv14 => (F_X8_goes_L36 jx0 jx1 jx2 jx3 n) (jx4 + jv14) (jx5 + 1) σ) ((rd 9 σ jx0 34).bind fun jv15 => (rd 9 σ jx0 33).bind fun jv16 => (aw 11 σ jv15 (jv16 + 1) jx1).bind fun σ17 => (rd 9 σ17 jx0 35).bind fun jv18 => (rd 9 σ17 jx0 33).bind fun jv19 => (aw 11 σ17 jv18 (jv19 + 1) jx3).bind fun σ20 => (rd 9 σ20 jx0 36).bind fun jv21 => (rd 9 σ20 jx0 33).bind fun jv22 => (rd 9 σ20 jx0 36).bind fun jv23 => (rd 9 σ20 jx0 33).bind fun jv24 => (ar 11 σ20 jv23 jv24).bind fun jv25 => (aw 11 σ20 jv21 (jv22 + 1) (jv25 + jx2)).bind fun σ26 => (rd 9 σ26 jx0 37).bind fun jv27 => (rd 9 σ26 jx0 33).bind fun jv28 => (rd 9 σ26 jx0 37).bind fun jv29 => (rd 9 σ26 jx0 33).bind fun jv30 => (ar 11 σ26 jv29 jv30).bind fun jv31 => (rd 9 σ26 jx0 18).bind fun jv32 => (aw 11 σ26 jv27 (jv28 + 1) (jv31 + jv32)).bind fun σ33 => (rd 9 σ33 jx0 38).bind fun jv34 => (rd 9 σ33 jx0 33).bind fun jv35 => (rd 9 σ33 jx0 38).bind fun jv36 => (rd 9 σ33 jx0 33).bind fun jv37 => (ar 11 σ33 jv36 jv37).bind fun jv38 => (rd 9 σ33 jx0 17).bind fun jv39 => (rd 9 σ33 jx0 1).bind fun jv40 => (ar 11 σ33 jv39 (jv40 - 1)).bind fun jv41 => (aw 11 σ33 jv34 (jv35 + 1) (jv38 + jv41)).bind fun σ42 => (rd 9 σ42 jx0 39).bind fun jv43 => (rd 9 σ42 jx0 33).bind fun jv44 => (rd 9 σ42 jx0 39).bind fun jv45 => (rd 9 σ42 jx0 33).bind fun jv46 => (ar 11 σ42 jv45 jv46).bind fun jv47 => (aw 11 σ42 jv43 (jv44 + 1) (jv47 + jx4)).bind fun σ48 => (rd 9 σ48 jx0 33).bind fun jv49 => (pw 9 σ48 jx0 33 (jv49 + 1)).bind fun σ50 => some (jx2, σ50))
theorem M_X8_goes_L36 (jx0 : Int) (jx1 : Int) (jx2 : Int) (jx3 : Int) : ∀ (n : Nat) (jx4 : Int) (jx5 : Int) (σ : Hp), Mn σ (F_X8_goes_L36 jx0 jx1 jx2 jx3 n jx4 jx5 σ) := by
  intro n
  induction n with
  | zero => intros; rw [F_X8_goes_L36]; exact Mn_none
  | succ n hk36 =>
    intros
    rw [F_X8_goes_L36]
    repeat' first | exact Mn_ret | exact Mn_rz | exact hk36 _ _  _ | refine Mn_nm (fun _ => ?_) | refine Mn_nab (fun _ _ => ?_) | refine Mn_nwb (fun _ _ => ?_) | refine Mn_pw (fun _ => ?_) | refine Mn_pz (fun _ => ?_) | refine Mn_aw (fun _ => ?_) | refine Mn_az (fun _ => ?_) | refine Mn_aq (fun _ => ?_) | refine Mn_bo (fun _ => ?_) | refine Mn_bd ?_ (fun _ _ => ?_) | refine Mn_iv ?_ | refine Mn_bLt ?_ ?_ | refine Mn_bLe ?_ ?_ | refine Mn_bEq ?_ ?_ | refine Mn_bN ?_ ?_ | refine Mn_g3 ?_ | refine Mn_g33 ?_ | refine Mn_g66 ?_ | refine Mn_gD ?_
set_option maxRecDepth 100000 in
set_option maxHeartbeats 4000000 in
theorem T_X8_goes_L36 {r : Int} {σE : Hp} (hX : Cx p R s m args meth c D dA b0 n0 m0 6 nE mE cX8_goes RX8 1 25) (hR : Rx meth (some .int)) (hnm : meth.name = yX8_goes.name) (hQ : Q = Qm D dA b0 n0 m0 below args s (some (pV 0 r)) σE) (hE : nE = σE.1 ∧ mE = σE.2.1) (jx0 : Int) (jx1 : Int) (jx2 : Int) (jx3 : Int) : ∀ (n : Nat) (jx4 : Int) (jx5 : Int) (σ : Hp), F_X8_goes_L36 jx0 jx1 jx2 jx3 n jx4 jx5 σ = some (r, σE) → G p l e R s m args below meth c D dA b0 n0 m0 6 nE mE Q 36 [(0, 2, jx0), (1, 0, jx1), (2, 0, jx2), (3, 0, jx3), (4, 0, jx4), (5, 0, jx5)] [] σ := by
  intro n
  induction n with
  | zero =>
    intro jx4 jx5 σ hF
    rw [F_X8_goes_L36] at hF
    cases hF
  | succ n hk36 =>
    intro jx4 jx5 σ hF
    rw [F_X8_goes_L36] at hF
    refine g_iload hX 5 dX8_goes_36 rfl ?_
    refine g_aload_n hX 0 dX8_goes_38 rfl rfl ?_
    refine g_get hX fl_X8_119 (by decide) (by decide) dX8_goes_39 hF (fun jv12 hF => ?_)
    refine g_icmp_ge (tgt := 67) hX dX8_goes_42 (by decide) hF (fun hc hF => ?_) (fun hc hF => ?_)
    · refine g_iload hX 4 dX8_goes_45 rfl ?_
      refine g_aload_n hX 0 dX8_goes_47 rfl rfl ?_
      refine g_get hX fl_X8_53 (by decide) (by decide) dX8_goes_48 hF (fun jv13 hF => ?_)
      refine g_iconst hX dX8_goes_51 ?_
      refine g_iload_n hX 1 dX8_goes_52 rfl rfl ?_
      refine g_imul hX dX8_goes_53 ?_
      refine g_iload hX 5 dX8_goes_54 rfl ?_
      refine g_iadd hX dX8_goes_56 ?_
      refine g_iald hX dX8_goes_57 hF (fun jv14 hF => ?_)
      refine g_iadd hX dX8_goes_58 ?_
      refine g_istore (lv' := [(4, 0, (jx4 + jv14)), (0, 2, jx0), (1, 0, jx1), (2, 0, jx2), (3, 0, jx3), (5, 0, jx5)]) hX dX8_goes_59 (by decide) rfl ?_
      refine g_iinc (lv' := [(5, 0, (jx5 + 1)), (4, 0, (jx4 + jv14)), (0, 2, jx0), (1, 0, jx1), (2, 0, jx2), (3, 0, jx3)]) hX 5 dX8_goes_61 rfl (by decide) rfl ?_
      refine g_goto (tgt := 36) hX dX8_goes_64 (by decide) ?_
      refine g_lvp (lv' := [(0, 2, jx0), (1, 0, jx1), (2, 0, jx2), (3, 0, jx3), (4, 0, (jx4 + jv14)), (5, 0, (jx5 + 1))]) [2, 3, 4, 5, 1, 0] rfl ?_
      exact hk36 (jx4 + jv14) (jx5 + 1) σ hF
    · refine g_aload_n hX 0 dX8_goes_67 rfl rfl ?_
      refine g_get hX fl_X8_101 (by decide) (by decide) dX8_goes_68 hF (fun jv15 hF => ?_)
      refine g_aload_n hX 0 dX8_goes_71 rfl rfl ?_
      refine g_get hX fl_X8_221 (by decide) (by decide) dX8_goes_72 hF (fun jv16 hF => ?_)
      refine g_iconst hX dX8_goes_75 ?_
      refine g_iadd hX dX8_goes_76 ?_
      refine g_iload_n hX 1 dX8_goes_77 rfl rfl ?_
      refine u_iast hX dX8_goes_78 hF (fun σ17 hF => ?_)
      refine g_aload_n hX 0 dX8_goes_79 rfl rfl ?_
      refine g_get hX fl_X8_104 (by decide) (by decide) dX8_goes_80 hF (fun jv18 hF => ?_)
      refine g_aload_n hX 0 dX8_goes_83 rfl rfl ?_
      refine g_get hX fl_X8_221 (by decide) (by decide) dX8_goes_84 hF (fun jv19 hF => ?_)
      refine g_iconst hX dX8_goes_87 ?_
      refine g_iadd hX dX8_goes_88 ?_
      refine g_iload_n hX 3 dX8_goes_89 rfl rfl ?_
      refine u_iast hX dX8_goes_90 hF (fun σ20 hF => ?_)
      refine g_aload_n hX 0 dX8_goes_91 rfl rfl ?_
      refine g_get hX fl_X8_107 (by decide) (by decide) dX8_goes_92 hF (fun jv21 hF => ?_)
      refine g_aload_n hX 0 dX8_goes_95 rfl rfl ?_
      refine g_get hX fl_X8_221 (by decide) (by decide) dX8_goes_96 hF (fun jv22 hF => ?_)
      refine g_iconst hX dX8_goes_99 ?_
      refine g_iadd hX dX8_goes_100 ?_
      refine g_aload_n hX 0 dX8_goes_101 rfl rfl ?_
      refine g_get hX fl_X8_107 (by decide) (by decide) dX8_goes_102 hF (fun jv23 hF => ?_)
      refine g_aload_n hX 0 dX8_goes_105 rfl rfl ?_
      refine g_get hX fl_X8_221 (by decide) (by decide) dX8_goes_106 hF (fun jv24 hF => ?_)
      refine g_iald hX dX8_goes_109 hF (fun jv25 hF => ?_)
      refine g_iload_n hX 2 dX8_goes_110 rfl rfl ?_
      refine g_iadd hX dX8_goes_111 ?_
      refine u_iast hX dX8_goes_112 hF (fun σ26 hF => ?_)
      refine g_aload_n hX 0 dX8_goes_113 rfl rfl ?_
      refine g_get hX fl_X8_110 (by decide) (by decide) dX8_goes_114 hF (fun jv27 hF => ?_)
      refine g_aload_n hX 0 dX8_goes_117 rfl rfl ?_
      refine g_get hX fl_X8_221 (by decide) (by decide) dX8_goes_118 hF (fun jv28 hF => ?_)
      refine g_iconst hX dX8_goes_121 ?_
      refine g_iadd hX dX8_goes_122 ?_
      refine g_aload_n hX 0 dX8_goes_123 rfl rfl ?_
      refine g_get hX fl_X8_110 (by decide) (by decide) dX8_goes_124 hF (fun jv29 hF => ?_)
      refine g_aload_n hX 0 dX8_goes_127 rfl rfl ?_
      refine g_get hX fl_X8_221 (by decide) (by decide) dX8_goes_128 hF (fun jv30 hF => ?_)
      refine g_iald hX dX8_goes_131 hF (fun jv31 hF => ?_)
      refine g_aload_n hX 0 dX8_goes_132 rfl rfl ?_
      refine g_get hX fl_X8_158 (by decide) (by decide) dX8_goes_133 hF (fun jv32 hF => ?_)
      refine g_iadd hX dX8_goes_136 ?_
      refine u_iast hX dX8_goes_137 hF (fun σ33 hF => ?_)
      refine g_aload_n hX 0 dX8_goes_138 rfl rfl ?_
      refine g_get hX fl_X8_113 (by decide) (by decide) dX8_goes_139 hF (fun jv34 hF => ?_)
      refine g_aload_n hX 0 dX8_goes_142 rfl rfl ?_
      refine g_get hX fl_X8_221 (by decide) (by decide) dX8_goes_143 hF (fun jv35 hF => ?_)
      refine g_iconst hX dX8_goes_146 ?_
      refine g_iadd hX dX8_goes_147 ?_
      refine g_aload_n hX 0 dX8_goes_148 rfl rfl ?_
      refine g_get hX fl_X8_113 (by decide) (by decide) dX8_goes_149 hF (fun jv36 hF => ?_)
      refine g_aload_n hX 0 dX8_goes_152 rfl rfl ?_
      refine g_get hX fl_X8_221 (by decide) (by decide) dX8_goes_153 hF (fun jv37 hF => ?_)
      refine g_iald hX dX8_goes_156 hF (fun jv38 hF => ?_)
      refine g_aload_n hX 0 dX8_goes_157 rfl rfl ?_
      refine g_get hX fl_X8_59 (by decide) (by decide) dX8_goes_158 hF (fun jv39 hF => ?_)
      refine g_aload_n hX 0 dX8_goes_161 rfl rfl ?_
      refine g_get hX fl_X8_119 (by decide) (by decide) dX8_goes_162 hF (fun jv40 hF => ?_)
      refine g_iconst hX dX8_goes_165 ?_
      refine g_isub hX dX8_goes_166 ?_
      refine g_iald hX dX8_goes_167 hF (fun jv41 hF => ?_)
      refine g_iadd hX dX8_goes_168 ?_
      refine u_iast hX dX8_goes_169 hF (fun σ42 hF => ?_)
      refine g_aload_n hX 0 dX8_goes_170 rfl rfl ?_
      refine g_get hX fl_X8_116 (by decide) (by decide) dX8_goes_171 hF (fun jv43 hF => ?_)
      refine g_aload_n hX 0 dX8_goes_174 rfl rfl ?_
      refine g_get hX fl_X8_221 (by decide) (by decide) dX8_goes_175 hF (fun jv44 hF => ?_)
      refine g_iconst hX dX8_goes_178 ?_
      refine g_iadd hX dX8_goes_179 ?_
      refine g_aload_n hX 0 dX8_goes_180 rfl rfl ?_
      refine g_get hX fl_X8_116 (by decide) (by decide) dX8_goes_181 hF (fun jv45 hF => ?_)
      refine g_aload_n hX 0 dX8_goes_184 rfl rfl ?_
      refine g_get hX fl_X8_221 (by decide) (by decide) dX8_goes_185 hF (fun jv46 hF => ?_)
      refine g_iald hX dX8_goes_188 hF (fun jv47 hF => ?_)
      refine g_iload hX 4 dX8_goes_189 rfl ?_
      refine g_iadd hX dX8_goes_191 ?_
      refine u_iast hX dX8_goes_192 hF (fun σ48 hF => ?_)
      refine g_aload_n hX 0 dX8_goes_193 rfl rfl ?_
      refine g_dup hX dX8_goes_194 (by decide) ?_
      refine g_get hX fl_X8_221 (by decide) (by decide) dX8_goes_195 hF (fun jv49 hF => ?_)
      refine g_iconst hX dX8_goes_198 ?_
      refine g_iadd hX dX8_goes_199 ?_
      refine u_put hX fp_X8_221 (by decide) (by decide) dX8_goes_200 hF (fun σ50 hF => ?_)
      refine g_iload_n hX 2 dX8_goes_203 rfl rfl ?_
      exact g_iret hX hR hQ hE dX8_goes_204 hF
def F_X8_goes (jx0 : Int) (jx1 : Int) (σ : Hp) : Option (Int × Hp) :=
  (rd 9 σ jx0 35).bind fun jv1 => (rd 9 σ jx0 33).bind fun jv2 => (ar 11 σ jv1 jv2).bind fun jv3 => bd (iv 9 σ jx0 (F_X8_unfold  jx0 jv3 σ)) fun jv4 σ5 => (rd 9 σ5 jx0 14).bind fun jv6 => (ar 11 σ5 jv6 jx1).bind fun jv7 => bd (iv 9 σ5 jx0 (F_X8_earns  jx0 jv7 σ5)) fun jv8 σ9 => bd (iv 9 σ9 jx0 (F_X8_comes  jx0 jx1 σ9)) fun jv10 σ11 => F_X8_goes_L36 jx0 jx1 jv8 jv10 fu 0 0 σ11
theorem M_X8_goes (jx0 : Int) (jx1 : Int) (σ : Hp) : Mn σ (F_X8_goes jx0 jx1 σ) := by
  unfold F_X8_goes
  repeat' first | exact Mn_ret | exact Mn_rz | exact M_X8_unfold _ _ _ | exact M_X8_earns _ _ _ | exact M_X8_comes _ _ _ | exact M_X8_goes_L36 _ _ _ _ _ _ _ _ | refine Mn_nm (fun _ => ?_) | refine Mn_nab (fun _ _ => ?_) | refine Mn_nwb (fun _ _ => ?_) | refine Mn_pw (fun _ => ?_) | refine Mn_pz (fun _ => ?_) | refine Mn_aw (fun _ => ?_) | refine Mn_az (fun _ => ?_) | refine Mn_aq (fun _ => ?_) | refine Mn_bo (fun _ => ?_) | refine Mn_bd ?_ (fun _ _ => ?_) | refine Mn_iv ?_ | refine Mn_bLt ?_ ?_ | refine Mn_bLe ?_ ?_ | refine Mn_bEq ?_ ?_ | refine Mn_bN ?_ ?_ | refine Mn_g3 ?_ | refine Mn_g33 ?_ | refine Mn_g66 ?_ | refine Mn_gD ?_
set_option maxRecDepth 100000 in
set_option maxHeartbeats 4000000 in
theorem T_X8_goes (l : Launch) (D : va_G) (dA : Nat → ClassId) (b0 : Nat) (jx0 : Int) (jx1 : Int) (σ σE : Hp) (r : Int) (hF : F_X8_goes jx0 jx1 σ = some (r, σE)) : Ct l D dA b0 yX8_goes cX8_goes 6 (some .int) 1 25 [(2, jx0), (0, jx1)] σ (some (pV 0 r)) σE := by
  refine Ct.of (lv0 := [(0, 2, jx0), (1, 0, jx1)]) (by decide) RX8 rfl (Nat.le_of_ble_eq_true rfl) rfl ?_ (M_X8_goes jx0 jx1 σ r σE hF)
  intro p e R s m args below meth c hX hR hnm
  obtain ⟨Q, hQ⟩ : ∃ Q, Q = Qm D dA b0 σ.1 σ.2.1 below args s (some (pV 0 r)) σE := ⟨_, rfl⟩
  rw [← hQ]
  have hE : σE.1 = σE.1 ∧ σE.2.1 = σE.2.1 := ⟨rfl, rfl⟩
  unfold F_X8_goes at hF
  refine g_aload_n hX 0 dX8_goes_0 rfl rfl ?_
  refine g_aload_n hX 0 dX8_goes_1 rfl rfl ?_
  refine g_get hX fl_X8_104 (by decide) (by decide) dX8_goes_2 hF (fun jv1 hF => ?_)
  refine g_aload_n hX 0 dX8_goes_5 rfl rfl ?_
  refine g_get hX fl_X8_221 (by decide) (by decide) dX8_goes_6 hF (fun jv2 hF => ?_)
  refine g_iald hX dX8_goes_9 hF (fun jv3 hF => ?_)
  refine g_callVv (ci := 8) (rest := []) [(0, jv3)] hX cw_X8_164 rfl (by decide) (by decide) (fun r σ1 h => T_X8_unfold l D dA b0  jx0 jv3 σ σ1 r h) ⟨by decide, by decide⟩ rfl rfl (Nat.le_of_ble_eq_true rfl) dX8_goes_10 hF (fun jv4 σ5 hF => ?_)
  refine g_aload_n hX 0 dX8_goes_13 rfl rfl ?_
  refine g_aload_n hX 0 dX8_goes_14 rfl rfl ?_
  refine g_get hX fl_X8_50 (by decide) (by decide) dX8_goes_15 hF (fun jv6 hF => ?_)
  refine g_iload_n hX 1 dX8_goes_18 rfl rfl ?_
  refine g_iald hX dX8_goes_19 hF (fun jv7 hF => ?_)
  refine g_callV (t := 0) (ci := 8) (rest := []) [(0, jv7)] hX cw_X8_191 rfl (by decide) (by decide) (fun r σ1 h => T_X8_earns l D dA b0  jx0 jv7 σ5 σ1 r h) ⟨by decide, by decide⟩ rfl rfl (Nat.le_of_ble_eq_true rfl) dX8_goes_20 hF (fun jv8 σ9 hF => ?_)
  refine g_istore_n (lv' := [(2, 0, jv8), (0, 2, jx0), (1, 0, jx1)]) hX dX8_goes_23 rfl (by decide) rfl ?_
  refine g_aload_n hX 1 dX8_goes_24 rfl rfl ?_
  refine g_iload_n hX 2 dX8_goes_25 rfl rfl ?_
  refine g_callV (t := 0) (ci := 8) (rest := []) [(0, jx1)] hX cw_X8_178 rfl (by decide) (by decide) (fun r σ1 h => T_X8_comes l D dA b0  jx0 jx1 σ9 σ1 r h) ⟨by decide, by decide⟩ rfl rfl (Nat.le_of_ble_eq_true rfl) dX8_goes_26 hF (fun jv10 σ11 hF => ?_)
  refine g_istore_n (lv' := [(3, 0, jv10), (2, 0, jv8), (0, 2, jx0), (1, 0, jx1)]) hX dX8_goes_29 rfl (by decide) rfl ?_
  refine g_iconst hX dX8_goes_30 ?_
  refine g_istore (lv' := [(4, 0, 0), (3, 0, jv10), (2, 0, jv8), (0, 2, jx0), (1, 0, jx1)]) hX dX8_goes_31 (by decide) rfl ?_
  refine g_iconst hX dX8_goes_33 ?_
  refine g_istore (lv' := [(5, 0, 0), (4, 0, 0), (3, 0, jv10), (2, 0, jv8), (0, 2, jx0), (1, 0, jx1)]) hX dX8_goes_34 (by decide) rfl ?_
  refine g_lvp (lv' := [(0, 2, jx0), (1, 0, jx1), (2, 0, jv8), (3, 0, jv10), (4, 0, 0), (5, 0, 0)]) [4, 5, 3, 2, 1, 0] rfl ?_
  exact T_X8_goes_L36 hX hR hnm hQ hE jx0 jx1 jv8 jv10  fu 0 0 σ11 hF
end

section
variable {p : Program} {l : Launch} {e : Env} {R : Room} {s : State} {m : MethodId} {args : Array Value} {below : List Frame} {meth : Method} {c : Code} {D : va_G} {dA : Nat → ClassId} {b0 n0 m0 nE mE : Nat} {Q : State → Prop}
def F_X8_week_L65 (jx0 : Int) (jx1 : Int) (jx4 : Int) : Nat → Int → Hp → Option (Int × Hp)
  | 0, _, _ => none
  | n + 1, jx5, σ => (rd 9 σ jx0 1).bind fun jv14 => bLt jx5 jv14 ((rd 9 σ jx0 17).bind fun jv15 => (rd 9 σ jx0 1).bind fun jv16 => (aw 11 σ jv15 jx5 (andI (shrI jx1 (4 * ((jv16 - 1) - jx5))) 15)).bind fun σ17 => (rd 9 σ17 jx0 17).bind fun jv18 => (ar 11 σ17 jv18 jx5).bind fun jv19 => bd (iv 9 σ17 jx0 (F_X8_lowest  jx0 jx5 σ17)) fun jv20 σ21 => bd (iv 9 σ21 jx0 (F_X8_highest  jx0 jx5 σ21)) fun jv22 σ23 => bd (F_X8_in jv19 jv20 jv22 σ23) fun jv24 σ25 => bEq jv24 0 (some ((-1), σ25)) ((F_X8_week_L65 jx0 jx1 jx4 n) (jx5 + 1) σ25)) (bd (iv 9 σ jx0 (F_X8_goes  jx0 jx4 σ)) fun jv26 σ27 => some (jv26, σ27))
theorem M_X8_week_L65 (jx0 : Int) (jx1 : Int) (jx4 : Int) : ∀ (n : Nat) (jx5 : Int) (σ : Hp), Mn σ (F_X8_week_L65 jx0 jx1 jx4 n jx5 σ) := by
  intro n
  induction n with
  | zero => intros; rw [F_X8_week_L65]; exact Mn_none
  | succ n hk65 =>
    intros
    rw [F_X8_week_L65]
    repeat' first | exact Mn_ret | exact Mn_rz | exact hk65 _  _ | exact M_X8_lowest _ _ _ | exact M_X8_highest _ _ _ | exact M_X8_in _ _ _ _ | exact M_X8_goes _ _ _ | refine Mn_nm (fun _ => ?_) | refine Mn_nab (fun _ _ => ?_) | refine Mn_nwb (fun _ _ => ?_) | refine Mn_pw (fun _ => ?_) | refine Mn_pz (fun _ => ?_) | refine Mn_aw (fun _ => ?_) | refine Mn_az (fun _ => ?_) | refine Mn_aq (fun _ => ?_) | refine Mn_bo (fun _ => ?_) | refine Mn_bd ?_ (fun _ _ => ?_) | refine Mn_iv ?_ | refine Mn_bLt ?_ ?_ | refine Mn_bLe ?_ ?_ | refine Mn_bEq ?_ ?_ | refine Mn_bN ?_ ?_ | refine Mn_g3 ?_ | refine Mn_g33 ?_ | refine Mn_g66 ?_ | refine Mn_gD ?_
set_option maxRecDepth 100000 in
set_option maxHeartbeats 4000000 in
theorem T_X8_week_L65 {r : Int} {σE : Hp} (hX : Cx p R s m args meth c D dA b0 n0 m0 6 nE mE cX8_week RX8 2 50) (hR : Rx meth (some .int)) (hnm : meth.name = yX8_week.name) (hQ : Q = Qm D dA b0 n0 m0 below args s (some (pV 0 r)) σE) (hE : nE = σE.1 ∧ mE = σE.2.1) (jx0 : Int) (jx1 : Int) (jx4 : Int) : ∀ (n : Nat) (jx5 : Int) (σ : Hp), F_X8_week_L65 jx0 jx1 jx4 n jx5 σ = some (r, σE) → G p l e R s m args below meth c D dA b0 n0 m0 6 nE mE Q 65 [(0, 2, jx0), (1, 0, jx1), (4, 0, jx4), (5, 0, jx5)] [] σ := by
  intro n
  induction n with
  | zero =>
    intro jx5 σ hF
    rw [F_X8_week_L65] at hF
    cases hF
  | succ n hk65 =>
    intro jx5 σ hF
    rw [F_X8_week_L65] at hF
    refine g_iload hX 3 dX8_week_65 rfl ?_
    refine g_aload_n hX 0 dX8_week_67 rfl rfl ?_
    refine g_get hX fl_X8_119 (by decide) (by decide) dX8_week_68 hF (fun jv14 hF => ?_)
    refine g_icmp_ge (tgt := 130) hX dX8_week_71 (by decide) hF (fun hc hF => ?_) (fun hc hF => ?_)
    · refine g_aload_n hX 0 dX8_week_74 rfl rfl ?_
      refine g_get hX fl_X8_59 (by decide) (by decide) dX8_week_75 hF (fun jv15 hF => ?_)
      refine g_iload hX 3 dX8_week_78 rfl ?_
      refine g_iload_n hX 1 dX8_week_80 rfl rfl ?_
      refine g_iconst hX dX8_week_81 ?_
      refine g_aload_n hX 0 dX8_week_82 rfl rfl ?_
      refine g_get hX fl_X8_119 (by decide) (by decide) dX8_week_83 hF (fun jv16 hF => ?_)
      refine g_iconst hX dX8_week_86 ?_
      refine g_isub hX dX8_week_87 ?_
      refine g_iload hX 3 dX8_week_88 rfl ?_
      refine g_isub hX dX8_week_90 ?_
      refine g_imul hX dX8_week_91 ?_
      refine g_ishr hX dX8_week_92 ?_
      refine g_bipush hX dX8_week_93 (by decide) ?_
      refine g_iand hX dX8_week_95 ?_
      refine u_iast hX dX8_week_96 hF (fun σ17 hF => ?_)
      refine g_aload_n hX 0 dX8_week_97 rfl rfl ?_
      refine g_get hX fl_X8_59 (by decide) (by decide) dX8_week_98 hF (fun jv18 hF => ?_)
      refine g_iload hX 3 dX8_week_101 rfl ?_
      refine g_iald hX dX8_week_103 hF (fun jv19 hF => ?_)
      refine g_aload_n hX 0 dX8_week_104 rfl rfl ?_
      refine g_iload hX 3 dX8_week_105 rfl ?_
      refine g_callV (t := 0) (ci := 8) (rest := [(0, jv19)]) [(0, jx5)] hX cw_X8_155 rfl (by decide) (by decide) (fun r σ1 h => T_X8_lowest l D dA b0  jx0 jx5 σ17 σ1 r h) ⟨by decide, by decide⟩ rfl rfl (Nat.le_of_ble_eq_true rfl) dX8_week_107 hF (fun jv20 σ21 hF => ?_)
      refine g_aload_n hX 0 dX8_week_110 rfl rfl ?_
      refine g_iload hX 3 dX8_week_111 rfl ?_
      refine g_callV (t := 0) (ci := 8) (rest := [(0, jv20), (0, jv19)]) [(0, jx5)] hX cw_X8_161 rfl (by decide) (by decide) (fun r σ1 h => T_X8_highest l D dA b0  jx0 jx5 σ21 σ1 r h) ⟨by decide, by decide⟩ rfl rfl (Nat.le_of_ble_eq_true rfl) dX8_week_113 hF (fun jv22 σ23 hF => ?_)
      refine g_callS (t := 0) (rest := []) [(0, jv19), (0, jv20), (0, jv22)] hX cw_X8_122 (fun r σ1 h => T_X8_in l D dA b0 jv19 jv20 jv22 σ23 σ1 r h) ⟨by decide, by decide⟩ rfl rfl (Nat.le_of_ble_eq_true rfl) dX8_week_116 hF (fun jv24 σ25 hF => ?_)
      refine g_if_ne (tgt := 124) hX dX8_week_119 (by decide) hF (fun hc hF => ?_) (fun hc hF => ?_)
      · refine g_iconst hX dX8_week_122 ?_
        exact g_iret hX hR hQ hE dX8_week_123 hF
      · refine g_iinc (lv' := [(5, 0, (jx5 + 1)), (0, 2, jx0), (1, 0, jx1), (4, 0, jx4)]) hX 3 dX8_week_124 rfl (by decide) rfl ?_
        refine g_goto (tgt := 65) hX dX8_week_127 (by decide) ?_
        refine g_lvp (lv' := [(0, 2, jx0), (1, 0, jx1), (4, 0, jx4), (5, 0, (jx5 + 1))]) [1, 2, 3, 0] rfl ?_
        exact hk65 (jx5 + 1) σ25 hF
    · refine g_aload_n hX 0 dX8_week_130 rfl rfl ?_
      refine g_iload hX 2 dX8_week_131 rfl ?_
      refine g_callV (t := 0) (ci := 8) (rest := []) [(0, jx4)] hX cw_X8_231 rfl (by decide) (by decide) (fun r σ1 h => T_X8_goes l D dA b0  jx0 jx4 σ σ1 r h) ⟨by decide, by decide⟩ rfl rfl (Nat.le_of_ble_eq_true rfl) dX8_week_133 hF (fun jv26 σ27 hF => ?_)
      exact g_iret hX hR hQ hE dX8_week_136 hF
def F_X8_week (jx0 : Int) (jx1 : Int) (jx2 : Int) (σ : Hp) : Option (Int × Hp) :=
  bd (iv 9 σ jx0 (F_X8_refused  jx0  σ)) fun jv1 σ2 => bLt jv1 0 (some (jv1, σ2)) ((rd 9 σ2 jx0 34).bind fun jv3 => (rd 9 σ2 jx0 33).bind fun jv4 => (ar 11 σ2 jv3 jv4).bind fun jv5 => bd (iv 9 σ2 jx0 (F_X8_child  jx0 jv5 jx2 σ2)) fun jv6 σ7 => bLt jv6 0 (some ((-1), σ7)) (bLt jx1 0 (some ((-1), σ7)) ((rd 9 σ7 jx0 1).bind fun jv8 => bEq (shrI jx1 (4 * jv8)) 0 ((rd 9 σ7 jx0 35).bind fun jv9 => (rd 9 σ7 jx0 33).bind fun jv10 => (ar 11 σ7 jv9 jv10).bind fun jv11 => bd (iv 9 σ7 jx0 (F_X8_unfold  jx0 jv11 σ7)) fun jv12 σ13 => F_X8_week_L65 jx0 jx1 jv6 fu 0 σ13) (some ((-1), σ7)))))
theorem M_X8_week (jx0 : Int) (jx1 : Int) (jx2 : Int) (σ : Hp) : Mn σ (F_X8_week jx0 jx1 jx2 σ) := by
  unfold F_X8_week
  repeat' first | exact Mn_ret | exact Mn_rz | exact M_X8_refused _ _ | exact M_X8_child _ _ _ _ | exact M_X8_unfold _ _ _ | exact M_X8_week_L65 _ _ _ _ _ _ | refine Mn_nm (fun _ => ?_) | refine Mn_nab (fun _ _ => ?_) | refine Mn_nwb (fun _ _ => ?_) | refine Mn_pw (fun _ => ?_) | refine Mn_pz (fun _ => ?_) | refine Mn_aw (fun _ => ?_) | refine Mn_az (fun _ => ?_) | refine Mn_aq (fun _ => ?_) | refine Mn_bo (fun _ => ?_) | refine Mn_bd ?_ (fun _ _ => ?_) | refine Mn_iv ?_ | refine Mn_bLt ?_ ?_ | refine Mn_bLe ?_ ?_ | refine Mn_bEq ?_ ?_ | refine Mn_bN ?_ ?_ | refine Mn_g3 ?_ | refine Mn_g33 ?_ | refine Mn_g66 ?_ | refine Mn_gD ?_
set_option maxRecDepth 100000 in
set_option maxHeartbeats 4000000 in
theorem T_X8_week (l : Launch) (D : va_G) (dA : Nat → ClassId) (b0 : Nat) (jx0 : Int) (jx1 : Int) (jx2 : Int) (σ σE : Hp) (r : Int) (hF : F_X8_week jx0 jx1 jx2 σ = some (r, σE)) : Ct l D dA b0 yX8_week cX8_week 6 (some .int) 2 50 [(2, jx0), (0, jx1), (0, jx2)] σ (some (pV 0 r)) σE := by
  refine Ct.of (lv0 := [(0, 2, jx0), (1, 0, jx1), (2, 0, jx2)]) (by decide) RX8 rfl (Nat.le_of_ble_eq_true rfl) rfl ?_ (M_X8_week jx0 jx1 jx2 σ r σE hF)
  intro p e R s m args below meth c hX hR hnm
  obtain ⟨Q, hQ⟩ : ∃ Q, Q = Qm D dA b0 σ.1 σ.2.1 below args s (some (pV 0 r)) σE := ⟨_, rfl⟩
  rw [← hQ]
  have hE : σE.1 = σE.1 ∧ σE.2.1 = σE.2.1 := ⟨rfl, rfl⟩
  unfold F_X8_week at hF
  refine g_aload_n hX 0 dX8_week_0 rfl rfl ?_
  refine g_callV (t := 0) (ci := 8) (rest := []) [] hX cw_X8_224 rfl (by decide) (by decide) (fun r σ1 h => T_X8_refused l D dA b0  jx0  σ σ1 r h) ⟨by decide, by decide⟩ rfl rfl (Nat.le_of_ble_eq_true rfl) dX8_week_1 hF (fun jv1 σ2 hF => ?_)
  refine g_istore_n (lv' := [(3, 0, jv1), (0, 2, jx0), (1, 0, jx1), (2, 0, jx2)]) hX dX8_week_4 rfl (by decide) rfl ?_
  refine g_iload_n hX 0 dX8_week_5 rfl rfl ?_
  refine g_if_ge (tgt := 11) hX dX8_week_6 (by decide) hF (fun hc hF => ?_) (fun hc hF => ?_)
  · refine g_iload_n hX 0 dX8_week_9 rfl rfl ?_
    exact g_iret hX hR hQ hE dX8_week_10 hF
  · refine g_aload_n hX 1 dX8_week_11 rfl rfl ?_
    refine g_aload_n hX 1 dX8_week_12 rfl rfl ?_
    refine g_get hX fl_X8_101 (by decide) (by decide) dX8_week_13 hF (fun jv3 hF => ?_)
    refine g_aload_n hX 1 dX8_week_16 rfl rfl ?_
    refine g_get hX fl_X8_221 (by decide) (by decide) dX8_week_17 hF (fun jv4 hF => ?_)
    refine g_iald hX dX8_week_20 hF (fun jv5 hF => ?_)
    refine g_iload_n hX 3 dX8_week_21 rfl rfl ?_
    refine g_callV (t := 0) (ci := 8) (rest := []) [(0, jv5), (0, jx2)] hX cw_X8_227 rfl (by decide) (by decide) (fun r σ1 h => T_X8_child l D dA b0  jx0 jv5 jx2 σ2 σ1 r h) ⟨by decide, by decide⟩ rfl rfl (Nat.le_of_ble_eq_true rfl) dX8_week_22 hF (fun jv6 σ7 hF => ?_)
    refine g_istore (lv' := [(4, 0, jv6), (3, 0, jv1), (0, 2, jx0), (1, 0, jx1), (2, 0, jx2)]) hX dX8_week_25 (by decide) rfl ?_
    refine g_iload hX 0 dX8_week_27 rfl ?_
    refine g_if_lt (tgt := 47) hX dX8_week_29 (by decide) hF (fun hc hF => ?_) (fun hc hF => ?_)
    · refine g_iconst hX dX8_week_47 ?_
      exact g_iret hX hR hQ hE dX8_week_48 hF
    · refine g_iload_n hX 3 dX8_week_32 rfl rfl ?_
      refine g_if_lt (tgt := 47) hX dX8_week_33 (by decide) hF (fun hc hF => ?_) (fun hc hF => ?_)
      · refine g_iconst hX dX8_week_47 ?_
        exact g_iret hX hR hQ hE dX8_week_48 hF
      · refine g_iload_n hX 3 dX8_week_36 rfl rfl ?_
        refine g_iconst hX dX8_week_37 ?_
        refine g_aload_n hX 2 dX8_week_38 rfl rfl ?_
        refine g_get hX fl_X8_119 (by decide) (by decide) dX8_week_39 hF (fun jv8 hF => ?_)
        refine g_imul hX dX8_week_42 ?_
        refine g_ishr hX dX8_week_43 ?_
        refine g_if_eq (tgt := 49) hX dX8_week_44 (by decide) hF (fun hc hF => ?_) (fun hc hF => ?_)
        · refine g_aload_n hX 2 dX8_week_49 rfl rfl ?_
          refine g_aload_n hX 2 dX8_week_50 rfl rfl ?_
          refine g_get hX fl_X8_104 (by decide) (by decide) dX8_week_51 hF (fun jv9 hF => ?_)
          refine g_aload_n hX 2 dX8_week_54 rfl rfl ?_
          refine g_get hX fl_X8_221 (by decide) (by decide) dX8_week_55 hF (fun jv10 hF => ?_)
          refine g_iald hX dX8_week_58 hF (fun jv11 hF => ?_)
          refine g_callVv (ci := 8) (rest := []) [(0, jv11)] hX cw_X8_164 rfl (by decide) (by decide) (fun r σ1 h => T_X8_unfold l D dA b0  jx0 jv11 σ7 σ1 r h) ⟨by decide, by decide⟩ rfl rfl (Nat.le_of_ble_eq_true rfl) dX8_week_59 hF (fun jv12 σ13 hF => ?_)
          refine g_iconst hX dX8_week_62 ?_
          refine g_istore (lv' := [(5, 0, 0), (4, 0, jv6), (3, 0, jv1), (0, 2, jx0), (1, 0, jx1), (2, 0, jx2)]) hX dX8_week_63 (by decide) rfl ?_
          refine g_lvp (lv' := [(0, 2, jx0), (1, 0, jx1), (4, 0, jv6), (5, 0, 0)]) [3, 4, 1, 0] rfl ?_
          exact T_X8_week_L65 hX hR hnm hQ hE jx0 jx1 jv6  fu 0 σ13 hF
        · refine g_iconst hX dX8_week_47 ?_
          exact g_iret hX hR hQ hE dX8_week_48 hF
end

section
variable {p : Program} {l : Launch} {e : Env} {R : Room} {s : State} {m : MethodId} {args : Array Value} {below : List Frame} {meth : Method} {c : Code} {D : va_G} {dA : Nat → ClassId} {b0 n0 m0 nE mE : Nat} {Q : State → Prop}
def F_X8_best (jx0 : Int) (jx1 : Int) (σ : Hp) : Option (Int × Hp) :=
  bd (iv 9 σ jx0 (F_X8_refused  jx0  σ)) fun jv1 σ2 => bLt jv1 0 (some (jv1, σ2)) ((rd 9 σ2 jx0 34).bind fun jv3 => (rd 9 σ2 jx0 33).bind fun jv4 => (ar 11 σ2 jv3 jv4).bind fun jv5 => bd (iv 9 σ2 jx0 (F_X8_child  jx0 jv5 jx1 σ2)) fun jv6 σ7 => bLt jv6 0 (some ((-1), σ7)) ((rd 9 σ7 jx0 34).bind fun jv8 => (rd 9 σ7 jx0 33).bind fun jv9 => (ar 11 σ7 jv8 jv9).bind fun jv10 => (rd 9 σ7 jx0 35).bind fun jv11 => (rd 9 σ7 jx0 33).bind fun jv12 => (ar 11 σ7 jv11 jv12).bind fun jv13 => bd (iv 9 σ7 jx0 (F_X8_bestLet  jx0 jv10 jv13 σ7)) fun jv14 σ15 => bd (iv 9 σ15 jx0 (F_X8_goes  jx0 jv6 σ15)) fun jv16 σ17 => some (jv16, σ17)))
theorem M_X8_best (jx0 : Int) (jx1 : Int) (σ : Hp) : Mn σ (F_X8_best jx0 jx1 σ) := by
  unfold F_X8_best
  repeat' first | exact Mn_ret | exact Mn_rz | exact M_X8_refused _ _ | exact M_X8_child _ _ _ _ | exact M_X8_bestLet _ _ _ _ | exact M_X8_goes _ _ _ | refine Mn_nm (fun _ => ?_) | refine Mn_nab (fun _ _ => ?_) | refine Mn_nwb (fun _ _ => ?_) | refine Mn_pw (fun _ => ?_) | refine Mn_pz (fun _ => ?_) | refine Mn_aw (fun _ => ?_) | refine Mn_az (fun _ => ?_) | refine Mn_aq (fun _ => ?_) | refine Mn_bo (fun _ => ?_) | refine Mn_bd ?_ (fun _ _ => ?_) | refine Mn_iv ?_ | refine Mn_bLt ?_ ?_ | refine Mn_bLe ?_ ?_ | refine Mn_bEq ?_ ?_ | refine Mn_bN ?_ ?_ | refine Mn_g3 ?_ | refine Mn_g33 ?_ | refine Mn_g66 ?_ | refine Mn_gD ?_
set_option maxRecDepth 100000 in
set_option maxHeartbeats 4000000 in
theorem T_X8_best (l : Launch) (D : va_G) (dA : Nat → ClassId) (b0 : Nat) (jx0 : Int) (jx1 : Int) (σ σE : Hp) (r : Int) (hF : F_X8_best jx0 jx1 σ = some (r, σE)) : Ct l D dA b0 yX8_best cX8_best 4 (some .int) 7 165 [(2, jx0), (0, jx1)] σ (some (pV 0 r)) σE := by
  refine Ct.of (lv0 := [(0, 2, jx0), (1, 0, jx1)]) (by decide) RX8 rfl (Nat.le_of_ble_eq_true rfl) rfl ?_ (M_X8_best jx0 jx1 σ r σE hF)
  intro p e R s m args below meth c hX hR hnm
  obtain ⟨Q, hQ⟩ : ∃ Q, Q = Qm D dA b0 σ.1 σ.2.1 below args s (some (pV 0 r)) σE := ⟨_, rfl⟩
  rw [← hQ]
  have hE : σE.1 = σE.1 ∧ σE.2.1 = σE.2.1 := ⟨rfl, rfl⟩
  unfold F_X8_best at hF
  refine g_aload_n hX 0 dX8_best_0 rfl rfl ?_
  refine g_callV (t := 0) (ci := 8) (rest := []) [] hX cw_X8_224 rfl (by decide) (by decide) (fun r σ1 h => T_X8_refused l D dA b0  jx0  σ σ1 r h) ⟨by decide, by decide⟩ rfl rfl (Nat.le_of_ble_eq_true rfl) dX8_best_1 hF (fun jv1 σ2 hF => ?_)
  refine g_istore_n (lv' := [(2, 0, jv1), (0, 2, jx0), (1, 0, jx1)]) hX dX8_best_4 rfl (by decide) rfl ?_
  refine g_iload_n hX 0 dX8_best_5 rfl rfl ?_
  refine g_if_ge (tgt := 11) hX dX8_best_6 (by decide) hF (fun hc hF => ?_) (fun hc hF => ?_)
  · refine g_iload_n hX 0 dX8_best_9 rfl rfl ?_
    exact g_iret hX hR hQ hE dX8_best_10 hF
  · refine g_aload_n hX 1 dX8_best_11 rfl rfl ?_
    refine g_aload_n hX 1 dX8_best_12 rfl rfl ?_
    refine g_get hX fl_X8_101 (by decide) (by decide) dX8_best_13 hF (fun jv3 hF => ?_)
    refine g_aload_n hX 1 dX8_best_16 rfl rfl ?_
    refine g_get hX fl_X8_221 (by decide) (by decide) dX8_best_17 hF (fun jv4 hF => ?_)
    refine g_iald hX dX8_best_20 hF (fun jv5 hF => ?_)
    refine g_iload_n hX 2 dX8_best_21 rfl rfl ?_
    refine g_callV (t := 0) (ci := 8) (rest := []) [(0, jv5), (0, jx1)] hX cw_X8_227 rfl (by decide) (by decide) (fun r σ1 h => T_X8_child l D dA b0  jx0 jv5 jx1 σ2 σ1 r h) ⟨by decide, by decide⟩ rfl rfl (Nat.le_of_ble_eq_true rfl) dX8_best_22 hF (fun jv6 σ7 hF => ?_)
    refine g_istore_n (lv' := [(3, 0, jv6), (2, 0, jv1), (0, 2, jx0), (1, 0, jx1)]) hX dX8_best_25 rfl (by decide) rfl ?_
    refine g_iload_n hX 0 dX8_best_26 rfl rfl ?_
    refine g_if_ge (tgt := 32) hX dX8_best_27 (by decide) hF (fun hc hF => ?_) (fun hc hF => ?_)
    · refine g_iconst hX dX8_best_30 ?_
      exact g_iret hX hR hQ hE dX8_best_31 hF
    · refine g_aload_n hX 2 dX8_best_32 rfl rfl ?_
      refine g_aload_n hX 2 dX8_best_33 rfl rfl ?_
      refine g_get hX fl_X8_101 (by decide) (by decide) dX8_best_34 hF (fun jv8 hF => ?_)
      refine g_aload_n hX 2 dX8_best_37 rfl rfl ?_
      refine g_get hX fl_X8_221 (by decide) (by decide) dX8_best_38 hF (fun jv9 hF => ?_)
      refine g_iald hX dX8_best_41 hF (fun jv10 hF => ?_)
      refine g_aload_n hX 2 dX8_best_42 rfl rfl ?_
      refine g_get hX fl_X8_104 (by decide) (by decide) dX8_best_43 hF (fun jv11 hF => ?_)
      refine g_aload_n hX 2 dX8_best_46 rfl rfl ?_
      refine g_get hX fl_X8_221 (by decide) (by decide) dX8_best_47 hF (fun jv12 hF => ?_)
      refine g_iald hX dX8_best_50 hF (fun jv13 hF => ?_)
      refine g_callVv (ci := 8) (rest := []) [(0, jv10), (0, jv13)] hX cw_X8_209 rfl (by decide) (by decide) (fun r σ1 h => T_X8_bestLet l D dA b0  jx0 jv10 jv13 σ7 σ1 r h) ⟨by decide, by decide⟩ rfl rfl (Nat.le_of_ble_eq_true rfl) dX8_best_51 hF (fun jv14 σ15 hF => ?_)
      refine g_aload_n hX 2 dX8_best_54 rfl rfl ?_
      refine g_iload_n hX 0 dX8_best_55 rfl rfl ?_
      refine g_callV (t := 0) (ci := 8) (rest := []) [(0, jv6)] hX cw_X8_231 rfl (by decide) (by decide) (fun r σ1 h => T_X8_goes l D dA b0  jx0 jv6 σ15 σ1 r h) ⟨by decide, by decide⟩ rfl rfl (Nat.le_of_ble_eq_true rfl) dX8_best_56 hF (fun jv16 σ17 hF => ?_)
      exact g_iret hX hR hQ hE dX8_best_59 hF
end

section
variable {p : Program} {l : Launch} {e : Env} {R : Room} {s : State} {m : MethodId} {args : Array Value} {below : List Frame} {meth : Method} {c : Code} {D : va_G} {dA : Nat → ClassId} {b0 n0 m0 nE mE : Nat} {Q : State → Prop}
def F_X8_ruled (jx0 : Int) (jx1 : Int) (σ : Hp) : Option (Int × Hp) :=
  bd (iv 9 σ jx0 (F_X8_refused  jx0  σ)) fun jv1 σ2 => bLt jv1 0 (some (jv1, σ2)) ((rd 9 σ2 jx0 34).bind fun jv3 => (rd 9 σ2 jx0 33).bind fun jv4 => (ar 11 σ2 jv3 jv4).bind fun jv5 => bd (iv 9 σ2 jx0 (F_X8_child  jx0 jv5 jx1 σ2)) fun jv6 σ7 => bLt jv6 0 (some ((-1), σ7)) ((rd 9 σ7 jx0 35).bind fun jv8 => (rd 9 σ7 jx0 33).bind fun jv9 => (ar 11 σ7 jv8 jv9).bind fun jv10 => bd (iv 9 σ7 jx0 (F_X8_unfold  jx0 jv10 σ7)) fun jv11 σ12 => bd (iv 9 σ12 jx0 (F_X8_ruledLet  jx0  σ12)) fun jv13 σ14 => bd (iv 9 σ14 jx0 (F_X8_goes  jx0 jv6 σ14)) fun jv15 σ16 => some (jv15, σ16)))
theorem M_X8_ruled (jx0 : Int) (jx1 : Int) (σ : Hp) : Mn σ (F_X8_ruled jx0 jx1 σ) := by
  unfold F_X8_ruled
  repeat' first | exact Mn_ret | exact Mn_rz | exact M_X8_refused _ _ | exact M_X8_child _ _ _ _ | exact M_X8_unfold _ _ _ | exact M_X8_ruledLet _ _ | exact M_X8_goes _ _ _ | refine Mn_nm (fun _ => ?_) | refine Mn_nab (fun _ _ => ?_) | refine Mn_nwb (fun _ _ => ?_) | refine Mn_pw (fun _ => ?_) | refine Mn_pz (fun _ => ?_) | refine Mn_aw (fun _ => ?_) | refine Mn_az (fun _ => ?_) | refine Mn_aq (fun _ => ?_) | refine Mn_bo (fun _ => ?_) | refine Mn_bd ?_ (fun _ _ => ?_) | refine Mn_iv ?_ | refine Mn_bLt ?_ ?_ | refine Mn_bLe ?_ ?_ | refine Mn_bEq ?_ ?_ | refine Mn_bN ?_ ?_ | refine Mn_g3 ?_ | refine Mn_g33 ?_ | refine Mn_g66 ?_ | refine Mn_gD ?_
set_option maxRecDepth 100000 in
set_option maxHeartbeats 4000000 in
theorem T_X8_ruled (l : Launch) (D : va_G) (dA : Nat → ClassId) (b0 : Nat) (jx0 : Int) (jx1 : Int) (σ σE : Hp) (r : Int) (hF : F_X8_ruled jx0 jx1 σ = some (r, σE)) : Ct l D dA b0 yX8_ruled cX8_ruled 4 (some .int) 3 66 [(2, jx0), (0, jx1)] σ (some (pV 0 r)) σE := by
  refine Ct.of (lv0 := [(0, 2, jx0), (1, 0, jx1)]) (by decide) RX8 rfl (Nat.le_of_ble_eq_true rfl) rfl ?_ (M_X8_ruled jx0 jx1 σ r σE hF)
  intro p e R s m args below meth c hX hR hnm
  obtain ⟨Q, hQ⟩ : ∃ Q, Q = Qm D dA b0 σ.1 σ.2.1 below args s (some (pV 0 r)) σE := ⟨_, rfl⟩
  rw [← hQ]
  have hE : σE.1 = σE.1 ∧ σE.2.1 = σE.2.1 := ⟨rfl, rfl⟩
  unfold F_X8_ruled at hF
  refine g_aload_n hX 0 dX8_ruled_0 rfl rfl ?_
  refine g_callV (t := 0) (ci := 8) (rest := []) [] hX cw_X8_224 rfl (by decide) (by decide) (fun r σ1 h => T_X8_refused l D dA b0  jx0  σ σ1 r h) ⟨by decide, by decide⟩ rfl rfl (Nat.le_of_ble_eq_true rfl) dX8_ruled_1 hF (fun jv1 σ2 hF => ?_)
  refine g_istore_n (lv' := [(2, 0, jv1), (0, 2, jx0), (1, 0, jx1)]) hX dX8_ruled_4 rfl (by decide) rfl ?_
  refine g_iload_n hX 0 dX8_ruled_5 rfl rfl ?_
  refine g_if_ge (tgt := 11) hX dX8_ruled_6 (by decide) hF (fun hc hF => ?_) (fun hc hF => ?_)
  · refine g_iload_n hX 0 dX8_ruled_9 rfl rfl ?_
    exact g_iret hX hR hQ hE dX8_ruled_10 hF
  · refine g_aload_n hX 1 dX8_ruled_11 rfl rfl ?_
    refine g_aload_n hX 1 dX8_ruled_12 rfl rfl ?_
    refine g_get hX fl_X8_101 (by decide) (by decide) dX8_ruled_13 hF (fun jv3 hF => ?_)
    refine g_aload_n hX 1 dX8_ruled_16 rfl rfl ?_
    refine g_get hX fl_X8_221 (by decide) (by decide) dX8_ruled_17 hF (fun jv4 hF => ?_)
    refine g_iald hX dX8_ruled_20 hF (fun jv5 hF => ?_)
    refine g_iload_n hX 2 dX8_ruled_21 rfl rfl ?_
    refine g_callV (t := 0) (ci := 8) (rest := []) [(0, jv5), (0, jx1)] hX cw_X8_227 rfl (by decide) (by decide) (fun r σ1 h => T_X8_child l D dA b0  jx0 jv5 jx1 σ2 σ1 r h) ⟨by decide, by decide⟩ rfl rfl (Nat.le_of_ble_eq_true rfl) dX8_ruled_22 hF (fun jv6 σ7 hF => ?_)
    refine g_istore_n (lv' := [(3, 0, jv6), (2, 0, jv1), (0, 2, jx0), (1, 0, jx1)]) hX dX8_ruled_25 rfl (by decide) rfl ?_
    refine g_iload_n hX 0 dX8_ruled_26 rfl rfl ?_
    refine g_if_ge (tgt := 32) hX dX8_ruled_27 (by decide) hF (fun hc hF => ?_) (fun hc hF => ?_)
    · refine g_iconst hX dX8_ruled_30 ?_
      exact g_iret hX hR hQ hE dX8_ruled_31 hF
    · refine g_aload_n hX 2 dX8_ruled_32 rfl rfl ?_
      refine g_aload_n hX 2 dX8_ruled_33 rfl rfl ?_
      refine g_get hX fl_X8_104 (by decide) (by decide) dX8_ruled_34 hF (fun jv8 hF => ?_)
      refine g_aload_n hX 2 dX8_ruled_37 rfl rfl ?_
      refine g_get hX fl_X8_221 (by decide) (by decide) dX8_ruled_38 hF (fun jv9 hF => ?_)
      refine g_iald hX dX8_ruled_41 hF (fun jv10 hF => ?_)
      refine g_callVv (ci := 8) (rest := []) [(0, jv10)] hX cw_X8_164 rfl (by decide) (by decide) (fun r σ1 h => T_X8_unfold l D dA b0  jx0 jv10 σ7 σ1 r h) ⟨by decide, by decide⟩ rfl rfl (Nat.le_of_ble_eq_true rfl) dX8_ruled_42 hF (fun jv11 σ12 hF => ?_)
      refine g_aload_n hX 2 dX8_ruled_45 rfl rfl ?_
      refine g_callVv (ci := 8) (rest := []) [] hX cw_X8_215 rfl (by decide) (by decide) (fun r σ1 h => T_X8_ruledLet l D dA b0  jx0  σ12 σ1 r h) ⟨by decide, by decide⟩ rfl rfl (Nat.le_of_ble_eq_true rfl) dX8_ruled_46 hF (fun jv13 σ14 hF => ?_)
      refine g_aload_n hX 2 dX8_ruled_49 rfl rfl ?_
      refine g_iload_n hX 0 dX8_ruled_50 rfl rfl ?_
      refine g_callV (t := 0) (ci := 8) (rest := []) [(0, jv6)] hX cw_X8_231 rfl (by decide) (by decide) (fun r σ1 h => T_X8_goes l D dA b0  jx0 jv6 σ14 σ1 r h) ⟨by decide, by decide⟩ rfl rfl (Nat.le_of_ble_eq_true rfl) dX8_ruled_51 hF (fun jv15 σ16 hF => ?_)
      exact g_iret hX hR hQ hE dX8_ruled_54 hF
end

section
variable {p : Program} {l : Launch} {e : Env} {R : Room} {s : State} {m : MethodId} {args : Array Value} {below : List Frame} {meth : Method} {c : Code} {D : va_G} {dA : Nat → ClassId} {b0 n0 m0 nE mE : Nat} {Q : State → Prop}
def F_X8_undo (jx0 : Int) (σ : Hp) : Option (Int × Hp) :=
  (rd 9 σ jx0 32).bind fun jv1 => bEq jv1 0 (some ((-6), σ)) ((rd 9 σ jx0 33).bind fun jv2 => bEq jv2 0 (some ((-6), σ)) ((rd 9 σ jx0 33).bind fun jv3 => (pw 9 σ jx0 33 (jv3 - 1)).bind fun σ4 => (rd 9 σ4 jx0 14).bind fun jv5 => (rd 9 σ4 jx0 34).bind fun jv6 => (rd 9 σ4 jx0 33).bind fun jv7 => (ar 11 σ4 jv6 jv7).bind fun jv8 => (ar 11 σ4 jv5 jv8).bind fun jv9 => some (jv9, σ4)))
theorem M_X8_undo (jx0 : Int) (σ : Hp) : Mn σ (F_X8_undo jx0 σ) := by
  unfold F_X8_undo
  repeat' first | exact Mn_ret | exact Mn_rz | refine Mn_nm (fun _ => ?_) | refine Mn_nab (fun _ _ => ?_) | refine Mn_nwb (fun _ _ => ?_) | refine Mn_pw (fun _ => ?_) | refine Mn_pz (fun _ => ?_) | refine Mn_aw (fun _ => ?_) | refine Mn_az (fun _ => ?_) | refine Mn_aq (fun _ => ?_) | refine Mn_bo (fun _ => ?_) | refine Mn_bd ?_ (fun _ _ => ?_) | refine Mn_iv ?_ | refine Mn_bLt ?_ ?_ | refine Mn_bLe ?_ ?_ | refine Mn_bEq ?_ ?_ | refine Mn_bN ?_ ?_ | refine Mn_g3 ?_ | refine Mn_g33 ?_ | refine Mn_g66 ?_ | refine Mn_gD ?_
set_option maxRecDepth 100000 in
set_option maxHeartbeats 4000000 in
theorem T_X8_undo (l : Launch) (D : va_G) (dA : Nat → ClassId) (b0 : Nat) (jx0 : Int) (σ σE : Hp) (r : Int) (hF : F_X8_undo jx0 σ = some (r, σE)) : Ct l D dA b0 yX8_undo cX8_undo 1 (some .int) 0 0 [(2, jx0)] σ (some (pV 0 r)) σE := by
  refine Ct.of (lv0 := [(0, 2, jx0)]) (by decide) RX8 rfl (Nat.le_of_ble_eq_true rfl) rfl ?_ (M_X8_undo jx0 σ r σE hF)
  intro p e R s m args below meth c hX hR hnm
  obtain ⟨Q, hQ⟩ : ∃ Q, Q = Qm D dA b0 σ.1 σ.2.1 below args s (some (pV 0 r)) σE := ⟨_, rfl⟩
  rw [← hQ]
  have hE : σE.1 = σE.1 ∧ σE.2.1 = σE.2.1 := ⟨rfl, rfl⟩
  unfold F_X8_undo at hF
  refine g_aload_n hX 0 dX8_undo_0 rfl rfl ?_
  refine g_get hX fl_X8_134 (by decide) (by decide) dX8_undo_1 hF (fun jv1 hF => ?_)
  refine g_if_eq (tgt := 14) hX dX8_undo_4 (by decide) hF (fun hc hF => ?_) (fun hc hF => ?_)
  · refine g_bipush hX dX8_undo_14 (by decide) ?_
    exact g_iret hX hR hQ hE dX8_undo_16 hF
  · refine g_aload_n hX 0 dX8_undo_7 rfl rfl ?_
    refine g_get hX fl_X8_221 (by decide) (by decide) dX8_undo_8 hF (fun jv2 hF => ?_)
    refine g_if_ne (tgt := 17) hX dX8_undo_11 (by decide) hF (fun hc hF => ?_) (fun hc hF => ?_)
    · refine g_bipush hX dX8_undo_14 (by decide) ?_
      exact g_iret hX hR hQ hE dX8_undo_16 hF
    · refine g_aload_n hX 0 dX8_undo_17 rfl rfl ?_
      refine g_dup hX dX8_undo_18 (by decide) ?_
      refine g_get hX fl_X8_221 (by decide) (by decide) dX8_undo_19 hF (fun jv3 hF => ?_)
      refine g_iconst hX dX8_undo_22 ?_
      refine g_isub hX dX8_undo_23 ?_
      refine u_put hX fp_X8_221 (by decide) (by decide) dX8_undo_24 hF (fun σ4 hF => ?_)
      refine g_aload_n hX 0 dX8_undo_27 rfl rfl ?_
      refine g_get hX fl_X8_50 (by decide) (by decide) dX8_undo_28 hF (fun jv5 hF => ?_)
      refine g_aload_n hX 0 dX8_undo_31 rfl rfl ?_
      refine g_get hX fl_X8_101 (by decide) (by decide) dX8_undo_32 hF (fun jv6 hF => ?_)
      refine g_aload_n hX 0 dX8_undo_35 rfl rfl ?_
      refine g_get hX fl_X8_221 (by decide) (by decide) dX8_undo_36 hF (fun jv7 hF => ?_)
      refine g_iald hX dX8_undo_39 hF (fun jv8 hF => ?_)
      refine g_iald hX dX8_undo_40 hF (fun jv9 hF => ?_)
      exact g_iret hX hR hQ hE dX8_undo_41 hF
end

section
variable {p : Program} {l : Launch} {e : Env} {R : Room} {s : State} {m : MethodId} {args : Array Value} {below : List Frame} {meth : Method} {c : Code} {D : va_G} {dA : Nat → ClassId} {b0 n0 m0 nE mE : Nat} {Q : State → Prop}
def F_X8_stop_B12 (jx0 : Int) (js0 : Int) (σ : Hp) : Option (Int × Hp) :=
  (pz 9 σ jx0 32 0).bind fun σ2 => some (js0, σ2)
theorem M_X8_stop_B12 (jx0 : Int) (js0 : Int) (σ : Hp) : Mn σ (F_X8_stop_B12 jx0 js0 σ) := by
  unfold F_X8_stop_B12
  repeat' first | exact Mn_ret | exact Mn_rz | refine Mn_nm (fun _ => ?_) | refine Mn_nab (fun _ _ => ?_) | refine Mn_nwb (fun _ _ => ?_) | refine Mn_pw (fun _ => ?_) | refine Mn_pz (fun _ => ?_) | refine Mn_aw (fun _ => ?_) | refine Mn_az (fun _ => ?_) | refine Mn_aq (fun _ => ?_) | refine Mn_bo (fun _ => ?_) | refine Mn_bd ?_ (fun _ _ => ?_) | refine Mn_iv ?_ | refine Mn_bLt ?_ ?_ | refine Mn_bLe ?_ ?_ | refine Mn_bEq ?_ ?_ | refine Mn_bN ?_ ?_ | refine Mn_g3 ?_ | refine Mn_g33 ?_ | refine Mn_g66 ?_ | refine Mn_gD ?_
set_option maxRecDepth 100000 in
set_option maxHeartbeats 4000000 in
theorem T_X8_stop_B12 {r : Int} {σE : Hp} (hX : Cx p R s m args meth c D dA b0 n0 m0 2 nE mE cX8_stop RX8 0 0) (hR : Rx meth (some .int)) (hnm : meth.name = yX8_stop.name) (hQ : Q = Qm D dA b0 n0 m0 below args s (some (pV 0 r)) σE) (hE : nE = σE.1 ∧ mE = σE.2.1) (jx0 : Int) (js0 : Int) (σ : Hp) (hF : F_X8_stop_B12 jx0 js0 σ = some (r, σE)) : G p l e R s m args below meth c D dA b0 n0 m0 2 nE mE Q 12 [(0, 2, jx0)] [(0, js0)] σ := by
  unfold F_X8_stop_B12 at hF
  refine g_istore_n (lv' := [(1, 0, js0), (0, 2, jx0)]) hX dX8_stop_12 rfl (by decide) rfl ?_
  refine g_aload_n hX 1 dX8_stop_13 rfl rfl ?_
  refine g_iconst hX dX8_stop_14 ?_
  refine u_putZ hX fp_X8_134 (by decide) (by decide) dX8_stop_15 hF (fun σ2 hF => ?_)
  refine g_iload_n hX 0 dX8_stop_18 rfl rfl ?_
  exact g_iret hX hR hQ hE dX8_stop_19 hF
def F_X8_stop (jx0 : Int) (σ : Hp) : Option (Int × Hp) :=
  (rd 9 σ jx0 32).bind fun jv1 => bEq jv1 0 (F_X8_stop_B12 jx0 0 σ) (F_X8_stop_B12 jx0 1 σ)
theorem M_X8_stop (jx0 : Int) (σ : Hp) : Mn σ (F_X8_stop jx0 σ) := by
  unfold F_X8_stop
  repeat' first | exact Mn_ret | exact Mn_rz | exact M_X8_stop_B12 _ _ _ | refine Mn_nm (fun _ => ?_) | refine Mn_nab (fun _ _ => ?_) | refine Mn_nwb (fun _ _ => ?_) | refine Mn_pw (fun _ => ?_) | refine Mn_pz (fun _ => ?_) | refine Mn_aw (fun _ => ?_) | refine Mn_az (fun _ => ?_) | refine Mn_aq (fun _ => ?_) | refine Mn_bo (fun _ => ?_) | refine Mn_bd ?_ (fun _ _ => ?_) | refine Mn_iv ?_ | refine Mn_bLt ?_ ?_ | refine Mn_bLe ?_ ?_ | refine Mn_bEq ?_ ?_ | refine Mn_bN ?_ ?_ | refine Mn_g3 ?_ | refine Mn_g33 ?_ | refine Mn_g66 ?_ | refine Mn_gD ?_
set_option maxRecDepth 100000 in
set_option maxHeartbeats 4000000 in
theorem T_X8_stop (l : Launch) (D : va_G) (dA : Nat → ClassId) (b0 : Nat) (jx0 : Int) (σ σE : Hp) (r : Int) (hF : F_X8_stop jx0 σ = some (r, σE)) : Ct l D dA b0 yX8_stop cX8_stop 2 (some .int) 0 0 [(2, jx0)] σ (some (pV 0 r)) σE := by
  refine Ct.of (lv0 := [(0, 2, jx0)]) (by decide) RX8 rfl (Nat.le_of_ble_eq_true rfl) rfl ?_ (M_X8_stop jx0 σ r σE hF)
  intro p e R s m args below meth c hX hR hnm
  obtain ⟨Q, hQ⟩ : ∃ Q, Q = Qm D dA b0 σ.1 σ.2.1 below args s (some (pV 0 r)) σE := ⟨_, rfl⟩
  rw [← hQ]
  have hE : σE.1 = σE.1 ∧ σE.2.1 = σE.2.1 := ⟨rfl, rfl⟩
  unfold F_X8_stop at hF
  refine g_aload_n hX 0 dX8_stop_0 rfl rfl ?_
  refine g_get hX fl_X8_134 (by decide) (by decide) dX8_stop_1 hF (fun jv1 hF => ?_)
  refine g_if_eq (tgt := 11) hX dX8_stop_4 (by decide) hF (fun hc hF => ?_) (fun hc hF => ?_)
  · refine g_iconst hX dX8_stop_11 ?_
    exact T_X8_stop_B12 hX hR hnm hQ hE jx0 0  σ hF
  · refine g_iconst hX dX8_stop_7 ?_
    refine g_goto (tgt := 12) hX dX8_stop_8 (by decide) ?_
    exact T_X8_stop_B12 hX hR hnm hQ hE jx0 1  σ hF
end

section
variable {p : Program} {l : Launch} {e : Env} {R : Room} {s : State} {m : MethodId} {args : Array Value} {below : List Frame} {meth : Method} {c : Code} {D : va_G} {dA : Nat → ClassId} {b0 n0 m0 nE mE : Nat} {Q : State → Prop}
def F_X8_now (jx0 : Int) (jx1 : Int) (σ : Hp) : Option (Int × Hp) :=
  (rd 9 σ jx0 32).bind fun jv1 => bEq jv1 0 (some ((-6), σ)) (bEq jx1 0 ((rd 9 σ jx0 34).bind fun jv2 => (rd 9 σ jx0 33).bind fun jv3 => (ar 11 σ jv2 jv3).bind fun jv4 => some (jv4, σ)) (bEq jx1 1 ((rd 9 σ jx0 35).bind fun jv5 => (rd 9 σ jx0 33).bind fun jv6 => (ar 11 σ jv5 jv6).bind fun jv7 => some (jv7, σ)) (bEq jx1 2 ((rd 9 σ jx0 36).bind fun jv8 => (rd 9 σ jx0 33).bind fun jv9 => (ar 11 σ jv8 jv9).bind fun jv10 => some (jv10, σ)) (bEq jx1 3 ((rd 9 σ jx0 37).bind fun jv11 => (rd 9 σ jx0 33).bind fun jv12 => (ar 11 σ jv11 jv12).bind fun jv13 => some (jv13, σ)) (bEq jx1 4 ((rd 9 σ jx0 38).bind fun jv14 => (rd 9 σ jx0 33).bind fun jv15 => (ar 11 σ jv14 jv15).bind fun jv16 => some (jv16, σ)) (bEq jx1 5 ((rd 9 σ jx0 39).bind fun jv17 => (rd 9 σ jx0 33).bind fun jv18 => (ar 11 σ jv17 jv18).bind fun jv19 => some (jv19, σ)) (bEq jx1 6 ((rd 9 σ jx0 33).bind fun jv20 => some (jv20, σ)) (some ((-1), σ)))))))))
theorem M_X8_now (jx0 : Int) (jx1 : Int) (σ : Hp) : Mn σ (F_X8_now jx0 jx1 σ) := by
  unfold F_X8_now
  repeat' first | exact Mn_ret | exact Mn_rz | refine Mn_nm (fun _ => ?_) | refine Mn_nab (fun _ _ => ?_) | refine Mn_nwb (fun _ _ => ?_) | refine Mn_pw (fun _ => ?_) | refine Mn_pz (fun _ => ?_) | refine Mn_aw (fun _ => ?_) | refine Mn_az (fun _ => ?_) | refine Mn_aq (fun _ => ?_) | refine Mn_bo (fun _ => ?_) | refine Mn_bd ?_ (fun _ _ => ?_) | refine Mn_iv ?_ | refine Mn_bLt ?_ ?_ | refine Mn_bLe ?_ ?_ | refine Mn_bEq ?_ ?_ | refine Mn_bN ?_ ?_ | refine Mn_g3 ?_ | refine Mn_g33 ?_ | refine Mn_g66 ?_ | refine Mn_gD ?_
set_option maxRecDepth 100000 in
set_option maxHeartbeats 4000000 in
theorem T_X8_now (l : Launch) (D : va_G) (dA : Nat → ClassId) (b0 : Nat) (jx0 : Int) (jx1 : Int) (σ σE : Hp) (r : Int) (hF : F_X8_now jx0 jx1 σ = some (r, σE)) : Ct l D dA b0 yX8_now cX8_now 2 (some .int) 0 0 [(2, jx0), (0, jx1)] σ (some (pV 0 r)) σE := by
  refine Ct.of (lv0 := [(0, 2, jx0), (1, 0, jx1)]) (by decide) RX8 rfl (Nat.le_of_ble_eq_true rfl) rfl ?_ (M_X8_now jx0 jx1 σ r σE hF)
  intro p e R s m args below meth c hX hR hnm
  obtain ⟨Q, hQ⟩ : ∃ Q, Q = Qm D dA b0 σ.1 σ.2.1 below args s (some (pV 0 r)) σE := ⟨_, rfl⟩
  rw [← hQ]
  have hE : σE.1 = σE.1 ∧ σE.2.1 = σE.2.1 := ⟨rfl, rfl⟩
  unfold F_X8_now at hF
  refine g_aload_n hX 0 dX8_now_0 rfl rfl ?_
  refine g_get hX fl_X8_134 (by decide) (by decide) dX8_now_1 hF (fun jv1 hF => ?_)
  refine g_if_ne (tgt := 10) hX dX8_now_4 (by decide) hF (fun hc hF => ?_) (fun hc hF => ?_)
  · refine g_bipush hX dX8_now_7 (by decide) ?_
    exact g_iret hX hR hQ hE dX8_now_9 hF
  · refine g_iload_n hX 1 dX8_now_10 rfl rfl ?_
    obtain ⟨rx, -, ⟨hc, hF⟩ | ⟨hc0, hF⟩⟩ := bEq_spec hF
    · refine g_tsIn (tgt := 52) hX 0 dX8_now_11 hc (by decide) (by decide) (by decide) rfl (by decide) ?_
      refine g_aload_n hX 0 dX8_now_52 rfl rfl ?_
      refine g_get hX fl_X8_101 (by decide) (by decide) dX8_now_53 hF (fun jv2 hF => ?_)
      refine g_aload_n hX 0 dX8_now_56 rfl rfl ?_
      refine g_get hX fl_X8_221 (by decide) (by decide) dX8_now_57 hF (fun jv3 hF => ?_)
      refine g_iald hX dX8_now_60 hF (fun jv4 hF => ?_)
      exact g_iret hX hR hQ hE dX8_now_61 hF
    obtain ⟨rx, -, ⟨hc, hF⟩ | ⟨hc1, hF⟩⟩ := bEq_spec hF
    · refine g_tsIn (tgt := 62) hX 1 dX8_now_11 hc (by decide) (by decide) (by decide) rfl (by decide) ?_
      refine g_aload_n hX 0 dX8_now_62 rfl rfl ?_
      refine g_get hX fl_X8_104 (by decide) (by decide) dX8_now_63 hF (fun jv5 hF => ?_)
      refine g_aload_n hX 0 dX8_now_66 rfl rfl ?_
      refine g_get hX fl_X8_221 (by decide) (by decide) dX8_now_67 hF (fun jv6 hF => ?_)
      refine g_iald hX dX8_now_70 hF (fun jv7 hF => ?_)
      exact g_iret hX hR hQ hE dX8_now_71 hF
    obtain ⟨rx, -, ⟨hc, hF⟩ | ⟨hc2, hF⟩⟩ := bEq_spec hF
    · refine g_tsIn (tgt := 72) hX 2 dX8_now_11 hc (by decide) (by decide) (by decide) rfl (by decide) ?_
      refine g_aload_n hX 0 dX8_now_72 rfl rfl ?_
      refine g_get hX fl_X8_107 (by decide) (by decide) dX8_now_73 hF (fun jv8 hF => ?_)
      refine g_aload_n hX 0 dX8_now_76 rfl rfl ?_
      refine g_get hX fl_X8_221 (by decide) (by decide) dX8_now_77 hF (fun jv9 hF => ?_)
      refine g_iald hX dX8_now_80 hF (fun jv10 hF => ?_)
      exact g_iret hX hR hQ hE dX8_now_81 hF
    obtain ⟨rx, -, ⟨hc, hF⟩ | ⟨hc3, hF⟩⟩ := bEq_spec hF
    · refine g_tsIn (tgt := 82) hX 3 dX8_now_11 hc (by decide) (by decide) (by decide) rfl (by decide) ?_
      refine g_aload_n hX 0 dX8_now_82 rfl rfl ?_
      refine g_get hX fl_X8_110 (by decide) (by decide) dX8_now_83 hF (fun jv11 hF => ?_)
      refine g_aload_n hX 0 dX8_now_86 rfl rfl ?_
      refine g_get hX fl_X8_221 (by decide) (by decide) dX8_now_87 hF (fun jv12 hF => ?_)
      refine g_iald hX dX8_now_90 hF (fun jv13 hF => ?_)
      exact g_iret hX hR hQ hE dX8_now_91 hF
    obtain ⟨rx, -, ⟨hc, hF⟩ | ⟨hc4, hF⟩⟩ := bEq_spec hF
    · refine g_tsIn (tgt := 92) hX 4 dX8_now_11 hc (by decide) (by decide) (by decide) rfl (by decide) ?_
      refine g_aload_n hX 0 dX8_now_92 rfl rfl ?_
      refine g_get hX fl_X8_113 (by decide) (by decide) dX8_now_93 hF (fun jv14 hF => ?_)
      refine g_aload_n hX 0 dX8_now_96 rfl rfl ?_
      refine g_get hX fl_X8_221 (by decide) (by decide) dX8_now_97 hF (fun jv15 hF => ?_)
      refine g_iald hX dX8_now_100 hF (fun jv16 hF => ?_)
      exact g_iret hX hR hQ hE dX8_now_101 hF
    obtain ⟨rx, -, ⟨hc, hF⟩ | ⟨hc5, hF⟩⟩ := bEq_spec hF
    · refine g_tsIn (tgt := 102) hX 5 dX8_now_11 hc (by decide) (by decide) (by decide) rfl (by decide) ?_
      refine g_aload_n hX 0 dX8_now_102 rfl rfl ?_
      refine g_get hX fl_X8_116 (by decide) (by decide) dX8_now_103 hF (fun jv17 hF => ?_)
      refine g_aload_n hX 0 dX8_now_106 rfl rfl ?_
      refine g_get hX fl_X8_221 (by decide) (by decide) dX8_now_107 hF (fun jv18 hF => ?_)
      refine g_iald hX dX8_now_110 hF (fun jv19 hF => ?_)
      exact g_iret hX hR hQ hE dX8_now_111 hF
    obtain ⟨rx, -, ⟨hc, hF⟩ | ⟨hc6, hF⟩⟩ := bEq_spec hF
    · refine g_tsIn (tgt := 112) hX 6 dX8_now_11 hc (by decide) (by decide) (by decide) rfl (by decide) ?_
      refine g_aload_n hX 0 dX8_now_112 rfl rfl ?_
      refine g_get hX fl_X8_221 (by decide) (by decide) dX8_now_113 hF (fun jv20 hF => ?_)
      exact g_iret hX hR hQ hE dX8_now_116 hF
    refine g_tsOut (tgt := 117) hX dX8_now_11 rx (by omega) (by decide) ?_
    refine g_iconst hX dX8_now_117 ?_
    exact g_iret hX hR hQ hE dX8_now_118 hF
end
