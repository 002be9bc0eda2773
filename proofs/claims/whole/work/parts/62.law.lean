section
variable {p : Program} {l : Launch} {e : Env} {R : Room} {s : State} {m : MethodId} {args : Array Value} {below : List Frame} {meth : Method} {c : Code} {D : va_G} {dA : Nat → ClassId} {b0 n0 m0 nE mE : Nat} {Q : State → Prop}
def F_L_law_B997 (jxs : Int → Int) (jL : Int) (k18 : Int → Hp → Option (Int × Hp)) (jx1 : Int) (jx2 : Int) (jx3 : Int) (σ : Hp) : Option (Int × Hp) :=
  k18 (jx3 + 5) σ
set_option maxRecDepth 100000 in
set_option maxHeartbeats 4000000 in
theorem T_L_law_B997 {r : Int} {σE : Hp} (hr1 : r = 1) {b L : Nat} {xs : Nat → Int32} {jxs : Int → Int} {jL : Int} (hX : Cx p R s m args meth c D dA b0 n0 m0 4 nE mE cL_law RL 2048 84000) (hR : LwC R s args below meth b0 n0 m0 nE mE Q b L xs jxs jL σE) (k18 : Int → Hp → Option (Int × Hp)) (jx1 : Int) (jx2 : Int) (jx3 : Int) (hk18 : ∀ (jx3 : Int) (σ : Hp), k18 jx3 σ = some (r, σE) → G p l e R s m args below meth c D dA b0 n0 m0 4 nE mE Q 18 [(0, 2, (b : Int)), (1, 2, jx1), (2, 2, jx2), (3, 0, jx3)] [] σ) (σ : Hp) (hF : F_L_law_B997 jxs jL k18 jx1 jx2 jx3 σ = some (r, σE)) : G p l e R s m args below meth c D dA b0 n0 m0 4 nE mE Q 997 [(0, 2, (b : Int)), (1, 2, jx1), (2, 2, jx2), (3, 0, jx3)] [] σ := by
  unfold F_L_law_B997 at hF
  refine g_iinc (lv' := [(3, 0, (jx3 + 5)), (0, 2, (b : Int)), (1, 2, jx1), (2, 2, jx2)]) hX 3 dL_law_997 rfl (by decide) rfl ?_
  refine g_goto (tgt := 18) hX dL_law_1000 (by decide) ?_
  refine g_lvp (lv' := [(0, 2, (b : Int)), (1, 2, jx1), (2, 2, jx2), (3, 0, (jx3 + 5))]) [1, 2, 3, 0] rfl ?_
  exact hk18 (jx3 + 5) σ hF
def F_L_law_B148 (jxs : Int → Int) (jL : Int) (k18 : Int → Hp → Option (Int × Hp)) (jx1 : Int) (jx2 : Int) (jx3 : Int) (σ : Hp) : Option (Int × Hp) :=
  (sr jxs jL (jx3 + 1)).bind fun jv10 => (sr jxs jL (jx3 + 2)).bind fun jv11 => (sr jxs jL (jx3 + 3)).bind fun jv12 => (sr jxs jL (jx3 + 4)).bind fun jv13 => bd (iv 8 σ jx1 (F_X7_lake  jx1 jv10 jv11 jv12 jv13 σ)) fun jv14 σ15 => (sr jxs jL (jx3 + 1)).bind fun jv16 => (sr jxs jL (jx3 + 2)).bind fun jv17 => (sr jxs jL (jx3 + 3)).bind fun jv18 => (sr jxs jL (jx3 + 4)).bind fun jv19 => bd (iv 9 σ15 jx2 (F_X8_lake  jx2 jv16 jv17 jv18 jv19 σ15)) fun jv20 σ21 => bEq jv14 jv20 (F_L_law_B997 jxs jL k18 jx1 jx2 jx3  σ21) (some (0, σ21))
set_option maxRecDepth 100000 in
set_option maxHeartbeats 4000000 in
theorem T_L_law_B148 {r : Int} {σE : Hp} (hr1 : r = 1) {b L : Nat} {xs : Nat → Int32} {jxs : Int → Int} {jL : Int} (hX : Cx p R s m args meth c D dA b0 n0 m0 4 nE mE cL_law RL 2048 84000) (hR : LwC R s args below meth b0 n0 m0 nE mE Q b L xs jxs jL σE) (k18 : Int → Hp → Option (Int × Hp)) (jx1 : Int) (jx2 : Int) (jx3 : Int) (hk18 : ∀ (jx3 : Int) (σ : Hp), k18 jx3 σ = some (r, σE) → G p l e R s m args below meth c D dA b0 n0 m0 4 nE mE Q 18 [(0, 2, (b : Int)), (1, 2, jx1), (2, 2, jx2), (3, 0, jx3)] [] σ) (σ : Hp) (hF : F_L_law_B148 jxs jL k18 jx1 jx2 jx3 σ = some (r, σE)) : G p l e R s m args below meth c D dA b0 n0 m0 4 nE mE Q 148 [(0, 2, (b : Int)), (1, 2, jx1), (2, 2, jx2), (3, 0, jx3)] [] σ := by
  unfold F_L_law_B148 at hF
  refine g_aload_n hX 1 dL_law_148 rfl rfl ?_
  refine g_aload_n hX 0 dL_law_149 rfl rfl ?_
  refine g_iload_n hX 3 dL_law_150 rfl rfl ?_
  refine g_iconst hX dL_law_151 ?_
  refine g_iadd hX dL_law_152 ?_
  refine g_sld hX hR dL_law_153 hF (fun jv10 hF => ?_)
  refine g_aload_n hX 0 dL_law_154 rfl rfl ?_
  refine g_iload_n hX 3 dL_law_155 rfl rfl ?_
  refine g_iconst hX dL_law_156 ?_
  refine g_iadd hX dL_law_157 ?_
  refine g_sld hX hR dL_law_158 hF (fun jv11 hF => ?_)
  refine g_aload_n hX 0 dL_law_159 rfl rfl ?_
  refine g_iload_n hX 3 dL_law_160 rfl rfl ?_
  refine g_iconst hX dL_law_161 ?_
  refine g_iadd hX dL_law_162 ?_
  refine g_sld hX hR dL_law_163 hF (fun jv12 hF => ?_)
  refine g_aload_n hX 0 dL_law_164 rfl rfl ?_
  refine g_iload_n hX 3 dL_law_165 rfl rfl ?_
  refine g_iconst hX dL_law_166 ?_
  refine g_iadd hX dL_law_167 ?_
  refine g_sld hX hR dL_law_168 hF (fun jv13 hF => ?_)
  refine g_callV (t := 0) (ci := 7) (rest := []) [(0, jv10), (0, jv11), (0, jv12), (0, jv13)] hX cw_L_13 rfl (by decide) (by decide) (fun r σ1 h => T_X7_lake l D dA b0  jx1 jv10 jv11 jv12 jv13 σ σ1 r h) ⟨by decide, by decide⟩ rfl rfl (Nat.le_of_ble_eq_true rfl) dL_law_169 hF (fun jv14 σ15 hF => ?_)
  refine g_aload_n hX 2 dL_law_172 rfl rfl ?_
  refine g_aload_n hX 0 dL_law_173 rfl rfl ?_
  refine g_iload_n hX 3 dL_law_174 rfl rfl ?_
  refine g_iconst hX dL_law_175 ?_
  refine g_iadd hX dL_law_176 ?_
  refine g_sld hX hR dL_law_177 hF (fun jv16 hF => ?_)
  refine g_aload_n hX 0 dL_law_178 rfl rfl ?_
  refine g_iload_n hX 3 dL_law_179 rfl rfl ?_
  refine g_iconst hX dL_law_180 ?_
  refine g_iadd hX dL_law_181 ?_
  refine g_sld hX hR dL_law_182 hF (fun jv17 hF => ?_)
  refine g_aload_n hX 0 dL_law_183 rfl rfl ?_
  refine g_iload_n hX 3 dL_law_184 rfl rfl ?_
  refine g_iconst hX dL_law_185 ?_
  refine g_iadd hX dL_law_186 ?_
  refine g_sld hX hR dL_law_187 hF (fun jv18 hF => ?_)
  refine g_aload_n hX 0 dL_law_188 rfl rfl ?_
  refine g_iload_n hX 3 dL_law_189 rfl rfl ?_
  refine g_iconst hX dL_law_190 ?_
  refine g_iadd hX dL_law_191 ?_
  refine g_sld hX hR dL_law_192 hF (fun jv19 hF => ?_)
  refine g_callV (t := 0) (ci := 8) (rest := [(0, jv14)]) [(0, jv16), (0, jv17), (0, jv18), (0, jv19)] hX cw_L_17 rfl (by decide) (by decide) (fun r σ1 h => T_X8_lake l D dA b0  jx2 jv16 jv17 jv18 jv19 σ15 σ1 r h) ⟨by decide, by decide⟩ rfl rfl (Nat.le_of_ble_eq_true rfl) dL_law_193 hF (fun jv20 σ21 hF => ?_)
  refine g_icmp_eq (tgt := 997) hX dL_law_196 (by decide) hF (fun hc hF => ?_) (fun hc hF => ?_)
  · exact T_L_law_B997 hr1 hX hR k18 jx1 jx2 jx3  hk18  σ21 hF
  · refine g_iconst hX dL_law_199 ?_
    exact g_lawret hX hR hr1 dL_law_200 hF
def F_L_law_B201 (jxs : Int → Int) (jL : Int) (k18 : Int → Hp → Option (Int × Hp)) (jx1 : Int) (jx2 : Int) (jx3 : Int) (σ : Hp) : Option (Int × Hp) :=
  (sr jxs jL (jx3 + 1)).bind fun jv22 => (sr jxs jL (jx3 + 2)).bind fun jv23 => (sr jxs jL (jx3 + 3)).bind fun jv24 => bd (iv 8 σ jx1 (F_X7_head  jx1 jv22 jv23 jv24 σ)) fun jv25 σ26 => (sr jxs jL (jx3 + 1)).bind fun jv27 => (sr jxs jL (jx3 + 2)).bind fun jv28 => (sr jxs jL (jx3 + 3)).bind fun jv29 => bd (iv 9 σ26 jx2 (F_X8_head  jx2 jv27 jv28 jv29 σ26)) fun jv30 σ31 => bEq jv25 jv30 (F_L_law_B997 jxs jL k18 jx1 jx2 jx3  σ31) (some (0, σ31))
set_option maxRecDepth 100000 in
set_option maxHeartbeats 4000000 in
theorem T_L_law_B201 {r : Int} {σE : Hp} (hr1 : r = 1) {b L : Nat} {xs : Nat → Int32} {jxs : Int → Int} {jL : Int} (hX : Cx p R s m args meth c D dA b0 n0 m0 4 nE mE cL_law RL 2048 84000) (hR : LwC R s args below meth b0 n0 m0 nE mE Q b L xs jxs jL σE) (k18 : Int → Hp → Option (Int × Hp)) (jx1 : Int) (jx2 : Int) (jx3 : Int) (hk18 : ∀ (jx3 : Int) (σ : Hp), k18 jx3 σ = some (r, σE) → G p l e R s m args below meth c D dA b0 n0 m0 4 nE mE Q 18 [(0, 2, (b : Int)), (1, 2, jx1), (2, 2, jx2), (3, 0, jx3)] [] σ) (σ : Hp) (hF : F_L_law_B201 jxs jL k18 jx1 jx2 jx3 σ = some (r, σE)) : G p l e R s m args below meth c D dA b0 n0 m0 4 nE mE Q 201 [(0, 2, (b : Int)), (1, 2, jx1), (2, 2, jx2), (3, 0, jx3)] [] σ := by
  unfold F_L_law_B201 at hF
  refine g_aload_n hX 1 dL_law_201 rfl rfl ?_
  refine g_aload_n hX 0 dL_law_202 rfl rfl ?_
  refine g_iload_n hX 3 dL_law_203 rfl rfl ?_
  refine g_iconst hX dL_law_204 ?_
  refine g_iadd hX dL_law_205 ?_
  refine g_sld hX hR dL_law_206 hF (fun jv22 hF => ?_)
  refine g_aload_n hX 0 dL_law_207 rfl rfl ?_
  refine g_iload_n hX 3 dL_law_208 rfl rfl ?_
  refine g_iconst hX dL_law_209 ?_
  refine g_iadd hX dL_law_210 ?_
  refine g_sld hX hR dL_law_211 hF (fun jv23 hF => ?_)
  refine g_aload_n hX 0 dL_law_212 rfl rfl ?_
  refine g_iload_n hX 3 dL_law_213 rfl rfl ?_
  refine g_iconst hX dL_law_214 ?_
  refine g_iadd hX dL_law_215 ?_
  refine g_sld hX hR dL_law_216 hF (fun jv24 hF => ?_)
  refine g_callV (t := 0) (ci := 7) (rest := []) [(0, jv22), (0, jv23), (0, jv24)] hX cw_L_18 rfl (by decide) (by decide) (fun r σ1 h => T_X7_head l D dA b0  jx1 jv22 jv23 jv24 σ σ1 r h) ⟨by decide, by decide⟩ rfl rfl (Nat.le_of_ble_eq_true rfl) dL_law_217 hF (fun jv25 σ26 hF => ?_)
  refine g_aload_n hX 2 dL_law_220 rfl rfl ?_
  refine g_aload_n hX 0 dL_law_221 rfl rfl ?_
  refine g_iload_n hX 3 dL_law_222 rfl rfl ?_
  refine g_iconst hX dL_law_223 ?_
  refine g_iadd hX dL_law_224 ?_
  refine g_sld hX hR dL_law_225 hF (fun jv27 hF => ?_)
  refine g_aload_n hX 0 dL_law_226 rfl rfl ?_
  refine g_iload_n hX 3 dL_law_227 rfl rfl ?_
  refine g_iconst hX dL_law_228 ?_
  refine g_iadd hX dL_law_229 ?_
  refine g_sld hX hR dL_law_230 hF (fun jv28 hF => ?_)
  refine g_aload_n hX 0 dL_law_231 rfl rfl ?_
  refine g_iload_n hX 3 dL_law_232 rfl rfl ?_
  refine g_iconst hX dL_law_233 ?_
  refine g_iadd hX dL_law_234 ?_
  refine g_sld hX hR dL_law_235 hF (fun jv29 hF => ?_)
  refine g_callV (t := 0) (ci := 8) (rest := [(0, jv25)]) [(0, jv27), (0, jv28), (0, jv29)] hX cw_L_22 rfl (by decide) (by decide) (fun r σ1 h => T_X8_head l D dA b0  jx2 jv27 jv28 jv29 σ26 σ1 r h) ⟨by decide, by decide⟩ rfl rfl (Nat.le_of_ble_eq_true rfl) dL_law_236 hF (fun jv30 σ31 hF => ?_)
  refine g_icmp_eq (tgt := 997) hX dL_law_239 (by decide) hF (fun hc hF => ?_) (fun hc hF => ?_)
  · exact T_L_law_B997 hr1 hX hR k18 jx1 jx2 jx3  hk18  σ31 hF
  · refine g_iconst hX dL_law_242 ?_
    exact g_lawret hX hR hr1 dL_law_243 hF
def F_L_law_B244 (jxs : Int → Int) (jL : Int) (k18 : Int → Hp → Option (Int × Hp)) (jx1 : Int) (jx2 : Int) (jx3 : Int) (σ : Hp) : Option (Int × Hp) :=
  (sr jxs jL (jx3 + 1)).bind fun jv32 => (sr jxs jL (jx3 + 2)).bind fun jv33 => bd (iv 8 σ jx1 (F_X7_end  jx1 jv32 jv33 σ)) fun jv34 σ35 => (sr jxs jL (jx3 + 1)).bind fun jv36 => (sr jxs jL (jx3 + 2)).bind fun jv37 => bd (iv 9 σ35 jx2 (F_X8_end  jx2 jv36 jv37 σ35)) fun jv38 σ39 => bEq jv34 jv38 (F_L_law_B997 jxs jL k18 jx1 jx2 jx3  σ39) (some (0, σ39))
set_option maxRecDepth 100000 in
set_option maxHeartbeats 4000000 in
theorem T_L_law_B244 {r : Int} {σE : Hp} (hr1 : r = 1) {b L : Nat} {xs : Nat → Int32} {jxs : Int → Int} {jL : Int} (hX : Cx p R s m args meth c D dA b0 n0 m0 4 nE mE cL_law RL 2048 84000) (hR : LwC R s args below meth b0 n0 m0 nE mE Q b L xs jxs jL σE) (k18 : Int → Hp → Option (Int × Hp)) (jx1 : Int) (jx2 : Int) (jx3 : Int) (hk18 : ∀ (jx3 : Int) (σ : Hp), k18 jx3 σ = some (r, σE) → G p l e R s m args below meth c D dA b0 n0 m0 4 nE mE Q 18 [(0, 2, (b : Int)), (1, 2, jx1), (2, 2, jx2), (3, 0, jx3)] [] σ) (σ : Hp) (hF : F_L_law_B244 jxs jL k18 jx1 jx2 jx3 σ = some (r, σE)) : G p l e R s m args below meth c D dA b0 n0 m0 4 nE mE Q 244 [(0, 2, (b : Int)), (1, 2, jx1), (2, 2, jx2), (3, 0, jx3)] [] σ := by
  unfold F_L_law_B244 at hF
  refine g_aload_n hX 1 dL_law_244 rfl rfl ?_
  refine g_aload_n hX 0 dL_law_245 rfl rfl ?_
  refine g_iload_n hX 3 dL_law_246 rfl rfl ?_
  refine g_iconst hX dL_law_247 ?_
  refine g_iadd hX dL_law_248 ?_
  refine g_sld hX hR dL_law_249 hF (fun jv32 hF => ?_)
  refine g_aload_n hX 0 dL_law_250 rfl rfl ?_
  refine g_iload_n hX 3 dL_law_251 rfl rfl ?_
  refine g_iconst hX dL_law_252 ?_
  refine g_iadd hX dL_law_253 ?_
  refine g_sld hX hR dL_law_254 hF (fun jv33 hF => ?_)
  refine g_callV (t := 0) (ci := 7) (rest := []) [(0, jv32), (0, jv33)] hX cw_L_23 rfl (by decide) (by decide) (fun r σ1 h => T_X7_end l D dA b0  jx1 jv32 jv33 σ σ1 r h) ⟨by decide, by decide⟩ rfl rfl (Nat.le_of_ble_eq_true rfl) dL_law_255 hF (fun jv34 σ35 hF => ?_)
  refine g_aload_n hX 2 dL_law_258 rfl rfl ?_
  refine g_aload_n hX 0 dL_law_259 rfl rfl ?_
  refine g_iload_n hX 3 dL_law_260 rfl rfl ?_
  refine g_iconst hX dL_law_261 ?_
  refine g_iadd hX dL_law_262 ?_
  refine g_sld hX hR dL_law_263 hF (fun jv36 hF => ?_)
  refine g_aload_n hX 0 dL_law_264 rfl rfl ?_
  refine g_iload_n hX 3 dL_law_265 rfl rfl ?_
  refine g_iconst hX dL_law_266 ?_
  refine g_iadd hX dL_law_267 ?_
  refine g_sld hX hR dL_law_268 hF (fun jv37 hF => ?_)
  refine g_callV (t := 0) (ci := 8) (rest := [(0, jv34)]) [(0, jv36), (0, jv37)] hX cw_L_27 rfl (by decide) (by decide) (fun r σ1 h => T_X8_end l D dA b0  jx2 jv36 jv37 σ35 σ1 r h) ⟨by decide, by decide⟩ rfl rfl (Nat.le_of_ble_eq_true rfl) dL_law_269 hF (fun jv38 σ39 hF => ?_)
  refine g_icmp_eq (tgt := 997) hX dL_law_272 (by decide) hF (fun hc hF => ?_) (fun hc hF => ?_)
  · exact T_L_law_B997 hr1 hX hR k18 jx1 jx2 jx3  hk18  σ39 hF
  · refine g_iconst hX dL_law_275 ?_
    exact g_lawret hX hR hr1 dL_law_276 hF
def F_L_law_B277 (jxs : Int → Int) (jL : Int) (k18 : Int → Hp → Option (Int × Hp)) (jx1 : Int) (jx2 : Int) (jx3 : Int) (σ : Hp) : Option (Int × Hp) :=
  (sr jxs jL (jx3 + 1)).bind fun jv40 => (sr jxs jL (jx3 + 2)).bind fun jv41 => bd (iv 8 σ jx1 (F_X7_weeks  jx1 jv40 jv41 σ)) fun jv42 σ43 => (sr jxs jL (jx3 + 1)).bind fun jv44 => (sr jxs jL (jx3 + 2)).bind fun jv45 => bd (iv 9 σ43 jx2 (F_X8_weeks  jx2 jv44 jv45 σ43)) fun jv46 σ47 => bEq jv42 jv46 (F_L_law_B997 jxs jL k18 jx1 jx2 jx3  σ47) (some (0, σ47))
set_option maxRecDepth 100000 in
set_option maxHeartbeats 4000000 in
theorem T_L_law_B277 {r : Int} {σE : Hp} (hr1 : r = 1) {b L : Nat} {xs : Nat → Int32} {jxs : Int → Int} {jL : Int} (hX : Cx p R s m args meth c D dA b0 n0 m0 4 nE mE cL_law RL 2048 84000) (hR : LwC R s args below meth b0 n0 m0 nE mE Q b L xs jxs jL σE) (k18 : Int → Hp → Option (Int × Hp)) (jx1 : Int) (jx2 : Int) (jx3 : Int) (hk18 : ∀ (jx3 : Int) (σ : Hp), k18 jx3 σ = some (r, σE) → G p l e R s m args below meth c D dA b0 n0 m0 4 nE mE Q 18 [(0, 2, (b : Int)), (1, 2, jx1), (2, 2, jx2), (3, 0, jx3)] [] σ) (σ : Hp) (hF : F_L_law_B277 jxs jL k18 jx1 jx2 jx3 σ = some (r, σE)) : G p l e R s m args below meth c D dA b0 n0 m0 4 nE mE Q 277 [(0, 2, (b : Int)), (1, 2, jx1), (2, 2, jx2), (3, 0, jx3)] [] σ := by
  unfold F_L_law_B277 at hF
  refine g_aload_n hX 1 dL_law_277 rfl rfl ?_
  refine g_aload_n hX 0 dL_law_278 rfl rfl ?_
  refine g_iload_n hX 3 dL_law_279 rfl rfl ?_
  refine g_iconst hX dL_law_280 ?_
  refine g_iadd hX dL_law_281 ?_
  refine g_sld hX hR dL_law_282 hF (fun jv40 hF => ?_)
  refine g_aload_n hX 0 dL_law_283 rfl rfl ?_
  refine g_iload_n hX 3 dL_law_284 rfl rfl ?_
  refine g_iconst hX dL_law_285 ?_
  refine g_iadd hX dL_law_286 ?_
  refine g_sld hX hR dL_law_287 hF (fun jv41 hF => ?_)
  refine g_callV (t := 0) (ci := 7) (rest := []) [(0, jv40), (0, jv41)] hX cw_L_28 rfl (by decide) (by decide) (fun r σ1 h => T_X7_weeks l D dA b0  jx1 jv40 jv41 σ σ1 r h) ⟨by decide, by decide⟩ rfl rfl (Nat.le_of_ble_eq_true rfl) dL_law_288 hF (fun jv42 σ43 hF => ?_)
  refine g_aload_n hX 2 dL_law_291 rfl rfl ?_
  refine g_aload_n hX 0 dL_law_292 rfl rfl ?_
  refine g_iload_n hX 3 dL_law_293 rfl rfl ?_
  refine g_iconst hX dL_law_294 ?_
  refine g_iadd hX dL_law_295 ?_
  refine g_sld hX hR dL_law_296 hF (fun jv44 hF => ?_)
  refine g_aload_n hX 0 dL_law_297 rfl rfl ?_
  refine g_iload_n hX 3 dL_law_298 rfl rfl ?_
  refine g_iconst hX dL_law_299 ?_
  refine g_iadd hX dL_law_300 ?_
  refine g_sld hX hR dL_law_301 hF (fun jv45 hF => ?_)
  refine g_callV (t := 0) (ci := 8) (rest := [(0, jv42)]) [(0, jv44), (0, jv45)] hX cw_L_31 rfl (by decide) (by decide) (fun r σ1 h => T_X8_weeks l D dA b0  jx2 jv44 jv45 σ43 σ1 r h) ⟨by decide, by decide⟩ rfl rfl (Nat.le_of_ble_eq_true rfl) dL_law_302 hF (fun jv46 σ47 hF => ?_)
  refine g_icmp_eq (tgt := 997) hX dL_law_305 (by decide) hF (fun hc hF => ?_) (fun hc hF => ?_)
  · exact T_L_law_B997 hr1 hX hR k18 jx1 jx2 jx3  hk18  σ47 hF
  · refine g_iconst hX dL_law_308 ?_
    exact g_lawret hX hR hr1 dL_law_309 hF
def F_L_law_B310 (jxs : Int → Int) (jL : Int) (k18 : Int → Hp → Option (Int × Hp)) (jx1 : Int) (jx2 : Int) (jx3 : Int) (σ : Hp) : Option (Int × Hp) :=
  (sr jxs jL (jx3 + 1)).bind fun jv48 => (sr jxs jL (jx3 + 2)).bind fun jv49 => bd (iv 8 σ jx1 (F_X7_price  jx1 jv48 jv49 σ)) fun jv50 σ51 => (sr jxs jL (jx3 + 1)).bind fun jv52 => (sr jxs jL (jx3 + 2)).bind fun jv53 => bd (iv 9 σ51 jx2 (F_X8_price  jx2 jv52 jv53 σ51)) fun jv54 σ55 => bEq jv50 jv54 (F_L_law_B997 jxs jL k18 jx1 jx2 jx3  σ55) (some (0, σ55))
set_option maxRecDepth 100000 in
set_option maxHeartbeats 4000000 in
theorem T_L_law_B310 {r : Int} {σE : Hp} (hr1 : r = 1) {b L : Nat} {xs : Nat → Int32} {jxs : Int → Int} {jL : Int} (hX : Cx p R s m args meth c D dA b0 n0 m0 4 nE mE cL_law RL 2048 84000) (hR : LwC R s args below meth b0 n0 m0 nE mE Q b L xs jxs jL σE) (k18 : Int → Hp → Option (Int × Hp)) (jx1 : Int) (jx2 : Int) (jx3 : Int) (hk18 : ∀ (jx3 : Int) (σ : Hp), k18 jx3 σ = some (r, σE) → G p l e R s m args below meth c D dA b0 n0 m0 4 nE mE Q 18 [(0, 2, (b : Int)), (1, 2, jx1), (2, 2, jx2), (3, 0, jx3)] [] σ) (σ : Hp) (hF : F_L_law_B310 jxs jL k18 jx1 jx2 jx3 σ = some (r, σE)) : G p l e R s m args below meth c D dA b0 n0 m0 4 nE mE Q 310 [(0, 2, (b : Int)), (1, 2, jx1), (2, 2, jx2), (3, 0, jx3)] [] σ := by
  unfold F_L_law_B310 at hF
  refine g_aload_n hX 1 dL_law_310 rfl rfl ?_
  refine g_aload_n hX 0 dL_law_311 rfl rfl ?_
  refine g_iload_n hX 3 dL_law_312 rfl rfl ?_
  refine g_iconst hX dL_law_313 ?_
  refine g_iadd hX dL_law_314 ?_
  refine g_sld hX hR dL_law_315 hF (fun jv48 hF => ?_)
  refine g_aload_n hX 0 dL_law_316 rfl rfl ?_
  refine g_iload_n hX 3 dL_law_317 rfl rfl ?_
  refine g_iconst hX dL_law_318 ?_
  refine g_iadd hX dL_law_319 ?_
  refine g_sld hX hR dL_law_320 hF (fun jv49 hF => ?_)
  refine g_callV (t := 0) (ci := 7) (rest := []) [(0, jv48), (0, jv49)] hX cw_L_32 rfl (by decide) (by decide) (fun r σ1 h => T_X7_price l D dA b0  jx1 jv48 jv49 σ σ1 r h) ⟨by decide, by decide⟩ rfl rfl (Nat.le_of_ble_eq_true rfl) dL_law_321 hF (fun jv50 σ51 hF => ?_)
  refine g_aload_n hX 2 dL_law_324 rfl rfl ?_
  refine g_aload_n hX 0 dL_law_325 rfl rfl ?_
  refine g_iload_n hX 3 dL_law_326 rfl rfl ?_
  refine g_iconst hX dL_law_327 ?_
  refine g_iadd hX dL_law_328 ?_
  refine g_sld hX hR dL_law_329 hF (fun jv52 hF => ?_)
  refine g_aload_n hX 0 dL_law_330 rfl rfl ?_
  refine g_iload_n hX 3 dL_law_331 rfl rfl ?_
  refine g_iconst hX dL_law_332 ?_
  refine g_iadd hX dL_law_333 ?_
  refine g_sld hX hR dL_law_334 hF (fun jv53 hF => ?_)
  refine g_callV (t := 0) (ci := 8) (rest := [(0, jv50)]) [(0, jv52), (0, jv53)] hX cw_L_35 rfl (by decide) (by decide) (fun r σ1 h => T_X8_price l D dA b0  jx2 jv52 jv53 σ51 σ1 r h) ⟨by decide, by decide⟩ rfl rfl (Nat.le_of_ble_eq_true rfl) dL_law_335 hF (fun jv54 σ55 hF => ?_)
  refine g_icmp_eq (tgt := 997) hX dL_law_338 (by decide) hF (fun hc hF => ?_) (fun hc hF => ?_)
  · exact T_L_law_B997 hr1 hX hR k18 jx1 jx2 jx3  hk18  σ55 hF
  · refine g_iconst hX dL_law_341 ?_
    exact g_lawret hX hR hr1 dL_law_342 hF
def F_L_law_B343 (jxs : Int → Int) (jL : Int) (k18 : Int → Hp → Option (Int × Hp)) (jx1 : Int) (jx2 : Int) (jx3 : Int) (σ : Hp) : Option (Int × Hp) :=
  (sr jxs jL (jx3 + 1)).bind fun jv56 => (sr jxs jL (jx3 + 2)).bind fun jv57 => (sr jxs jL (jx3 + 3)).bind fun jv58 => bd (iv 8 σ jx1 (F_X7_node  jx1 jv56 jv57 jv58 σ)) fun jv59 σ60 => (sr jxs jL (jx3 + 1)).bind fun jv61 => (sr jxs jL (jx3 + 2)).bind fun jv62 => (sr jxs jL (jx3 + 3)).bind fun jv63 => bd (iv 9 σ60 jx2 (F_X8_node  jx2 jv61 jv62 jv63 σ60)) fun jv64 σ65 => bEq jv59 jv64 (F_L_law_B997 jxs jL k18 jx1 jx2 jx3  σ65) (some (0, σ65))
set_option maxRecDepth 100000 in
set_option maxHeartbeats 4000000 in
theorem T_L_law_B343 {r : Int} {σE : Hp} (hr1 : r = 1) {b L : Nat} {xs : Nat → Int32} {jxs : Int → Int} {jL : Int} (hX : Cx p R s m args meth c D dA b0 n0 m0 4 nE mE cL_law RL 2048 84000) (hR : LwC R s args below meth b0 n0 m0 nE mE Q b L xs jxs jL σE) (k18 : Int → Hp → Option (Int × Hp)) (jx1 : Int) (jx2 : Int) (jx3 : Int) (hk18 : ∀ (jx3 : Int) (σ : Hp), k18 jx3 σ = some (r, σE) → G p l e R s m args below meth c D dA b0 n0 m0 4 nE mE Q 18 [(0, 2, (b : Int)), (1, 2, jx1), (2, 2, jx2), (3, 0, jx3)] [] σ) (σ : Hp) (hF : F_L_law_B343 jxs jL k18 jx1 jx2 jx3 σ = some (r, σE)) : G p l e R s m args below meth c D dA b0 n0 m0 4 nE mE Q 343 [(0, 2, (b : Int)), (1, 2, jx1), (2, 2, jx2), (3, 0, jx3)] [] σ := by
  unfold F_L_law_B343 at hF
  refine g_aload_n hX 1 dL_law_343 rfl rfl ?_
  refine g_aload_n hX 0 dL_law_344 rfl rfl ?_
  refine g_iload_n hX 3 dL_law_345 rfl rfl ?_
  refine g_iconst hX dL_law_346 ?_
  refine g_iadd hX dL_law_347 ?_
  refine g_sld hX hR dL_law_348 hF (fun jv56 hF => ?_)
  refine g_aload_n hX 0 dL_law_349 rfl rfl ?_
  refine g_iload_n hX 3 dL_law_350 rfl rfl ?_
  refine g_iconst hX dL_law_351 ?_
  refine g_iadd hX dL_law_352 ?_
  refine g_sld hX hR dL_law_353 hF (fun jv57 hF => ?_)
  refine g_aload_n hX 0 dL_law_354 rfl rfl ?_
  refine g_iload_n hX 3 dL_law_355 rfl rfl ?_
  refine g_iconst hX dL_law_356 ?_
  refine g_iadd hX dL_law_357 ?_
  refine g_sld hX hR dL_law_358 hF (fun jv58 hF => ?_)
  refine g_callV (t := 0) (ci := 7) (rest := []) [(0, jv56), (0, jv57), (0, jv58)] hX cw_L_36 rfl (by decide) (by decide) (fun r σ1 h => T_X7_node l D dA b0  jx1 jv56 jv57 jv58 σ σ1 r h) ⟨by decide, by decide⟩ rfl rfl (Nat.le_of_ble_eq_true rfl) dL_law_359 hF (fun jv59 σ60 hF => ?_)
  refine g_aload_n hX 2 dL_law_362 rfl rfl ?_
  refine g_aload_n hX 0 dL_law_363 rfl rfl ?_
  refine g_iload_n hX 3 dL_law_364 rfl rfl ?_
  refine g_iconst hX dL_law_365 ?_
  refine g_iadd hX dL_law_366 ?_
  refine g_sld hX hR dL_law_367 hF (fun jv61 hF => ?_)
  refine g_aload_n hX 0 dL_law_368 rfl rfl ?_
  refine g_iload_n hX 3 dL_law_369 rfl rfl ?_
  refine g_iconst hX dL_law_370 ?_
  refine g_iadd hX dL_law_371 ?_
  refine g_sld hX hR dL_law_372 hF (fun jv62 hF => ?_)
  refine g_aload_n hX 0 dL_law_373 rfl rfl ?_
  refine g_iload_n hX 3 dL_law_374 rfl rfl ?_
  refine g_iconst hX dL_law_375 ?_
  refine g_iadd hX dL_law_376 ?_
  refine g_sld hX hR dL_law_377 hF (fun jv63 hF => ?_)
  refine g_callV (t := 0) (ci := 8) (rest := [(0, jv59)]) [(0, jv61), (0, jv62), (0, jv63)] hX cw_L_39 rfl (by decide) (by decide) (fun r σ1 h => T_X8_node l D dA b0  jx2 jv61 jv62 jv63 σ60 σ1 r h) ⟨by decide, by decide⟩ rfl rfl (Nat.le_of_ble_eq_true rfl) dL_law_378 hF (fun jv64 σ65 hF => ?_)
  refine g_icmp_eq (tgt := 997) hX dL_law_381 (by decide) hF (fun hc hF => ?_) (fun hc hF => ?_)
  · exact T_L_law_B997 hr1 hX hR k18 jx1 jx2 jx3  hk18  σ65 hF
  · refine g_iconst hX dL_law_384 ?_
    exact g_lawret hX hR hr1 dL_law_385 hF
def F_L_law_B386 (jxs : Int → Int) (jL : Int) (k18 : Int → Hp → Option (Int × Hp)) (jx1 : Int) (jx2 : Int) (jx3 : Int) (σ : Hp) : Option (Int × Hp) :=
  (sr jxs jL (jx3 + 1)).bind fun jv66 => (sr jxs jL (jx3 + 2)).bind fun jv67 => bd (iv 8 σ jx1 (F_X7_about  jx1 jv66 jv67 σ)) fun jv68 σ69 => (sr jxs jL (jx3 + 1)).bind fun jv70 => (sr jxs jL (jx3 + 2)).bind fun jv71 => bd (iv 9 σ69 jx2 (F_X8_about  jx2 jv70 jv71 σ69)) fun jv72 σ73 => bEq jv68 jv72 (F_L_law_B997 jxs jL k18 jx1 jx2 jx3  σ73) (some (0, σ73))
set_option maxRecDepth 100000 in
set_option maxHeartbeats 4000000 in
theorem T_L_law_B386 {r : Int} {σE : Hp} (hr1 : r = 1) {b L : Nat} {xs : Nat → Int32} {jxs : Int → Int} {jL : Int} (hX : Cx p R s m args meth c D dA b0 n0 m0 4 nE mE cL_law RL 2048 84000) (hR : LwC R s args below meth b0 n0 m0 nE mE Q b L xs jxs jL σE) (k18 : Int → Hp → Option (Int × Hp)) (jx1 : Int) (jx2 : Int) (jx3 : Int) (hk18 : ∀ (jx3 : Int) (σ : Hp), k18 jx3 σ = some (r, σE) → G p l e R s m args below meth c D dA b0 n0 m0 4 nE mE Q 18 [(0, 2, (b : Int)), (1, 2, jx1), (2, 2, jx2), (3, 0, jx3)] [] σ) (σ : Hp) (hF : F_L_law_B386 jxs jL k18 jx1 jx2 jx3 σ = some (r, σE)) : G p l e R s m args below meth c D dA b0 n0 m0 4 nE mE Q 386 [(0, 2, (b : Int)), (1, 2, jx1), (2, 2, jx2), (3, 0, jx3)] [] σ := by
  unfold F_L_law_B386 at hF
  refine g_aload_n hX 1 dL_law_386 rfl rfl ?_
  refine g_aload_n hX 0 dL_law_387 rfl rfl ?_
  refine g_iload_n hX 3 dL_law_388 rfl rfl ?_
  refine g_iconst hX dL_law_389 ?_
  refine g_iadd hX dL_law_390 ?_
  refine g_sld hX hR dL_law_391 hF (fun jv66 hF => ?_)
  refine g_aload_n hX 0 dL_law_392 rfl rfl ?_
  refine g_iload_n hX 3 dL_law_393 rfl rfl ?_
  refine g_iconst hX dL_law_394 ?_
  refine g_iadd hX dL_law_395 ?_
  refine g_sld hX hR dL_law_396 hF (fun jv67 hF => ?_)
  refine g_callV (t := 0) (ci := 7) (rest := []) [(0, jv66), (0, jv67)] hX cw_L_40 rfl (by decide) (by decide) (fun r σ1 h => T_X7_about l D dA b0  jx1 jv66 jv67 σ σ1 r h) ⟨by decide, by decide⟩ rfl rfl (Nat.le_of_ble_eq_true rfl) dL_law_397 hF (fun jv68 σ69 hF => ?_)
  refine g_aload_n hX 2 dL_law_400 rfl rfl ?_
  refine g_aload_n hX 0 dL_law_401 rfl rfl ?_
  refine g_iload_n hX 3 dL_law_402 rfl rfl ?_
  refine g_iconst hX dL_law_403 ?_
  refine g_iadd hX dL_law_404 ?_
  refine g_sld hX hR dL_law_405 hF (fun jv70 hF => ?_)
  refine g_aload_n hX 0 dL_law_406 rfl rfl ?_
  refine g_iload_n hX 3 dL_law_407 rfl rfl ?_
  refine g_iconst hX dL_law_408 ?_
  refine g_iadd hX dL_law_409 ?_
  refine g_sld hX hR dL_law_410 hF (fun jv71 hF => ?_)
  refine g_callV (t := 0) (ci := 8) (rest := [(0, jv68)]) [(0, jv70), (0, jv71)] hX cw_L_43 rfl (by decide) (by decide) (fun r σ1 h => T_X8_about l D dA b0  jx2 jv70 jv71 σ69 σ1 r h) ⟨by decide, by decide⟩ rfl rfl (Nat.le_of_ble_eq_true rfl) dL_law_411 hF (fun jv72 σ73 hF => ?_)
  refine g_icmp_eq (tgt := 997) hX dL_law_414 (by decide) hF (fun hc hF => ?_) (fun hc hF => ?_)
  · exact T_L_law_B997 hr1 hX hR k18 jx1 jx2 jx3  hk18  σ73 hF
  · refine g_iconst hX dL_law_417 ?_
    exact g_lawret hX hR hr1 dL_law_418 hF
def F_L_law_B419 (jxs : Int → Int) (jL : Int) (k18 : Int → Hp → Option (Int × Hp)) (jx1 : Int) (jx2 : Int) (jx3 : Int) (σ : Hp) : Option (Int × Hp) :=
  (sr jxs jL (jx3 + 1)).bind fun jv74 => bd (iv 8 σ jx1 (F_X7_count  jx1 jv74 σ)) fun jv75 σ76 => (sr jxs jL (jx3 + 1)).bind fun jv77 => bd (iv 9 σ76 jx2 (F_X8_count  jx2 jv77 σ76)) fun jv78 σ79 => bEq jv75 jv78 (F_L_law_B997 jxs jL k18 jx1 jx2 jx3  σ79) (some (0, σ79))
set_option maxRecDepth 100000 in
set_option maxHeartbeats 4000000 in
theorem T_L_law_B419 {r : Int} {σE : Hp} (hr1 : r = 1) {b L : Nat} {xs : Nat → Int32} {jxs : Int → Int} {jL : Int} (hX : Cx p R s m args meth c D dA b0 n0 m0 4 nE mE cL_law RL 2048 84000) (hR : LwC R s args below meth b0 n0 m0 nE mE Q b L xs jxs jL σE) (k18 : Int → Hp → Option (Int × Hp)) (jx1 : Int) (jx2 : Int) (jx3 : Int) (hk18 : ∀ (jx3 : Int) (σ : Hp), k18 jx3 σ = some (r, σE) → G p l e R s m args below meth c D dA b0 n0 m0 4 nE mE Q 18 [(0, 2, (b : Int)), (1, 2, jx1), (2, 2, jx2), (3, 0, jx3)] [] σ) (σ : Hp) (hF : F_L_law_B419 jxs jL k18 jx1 jx2 jx3 σ = some (r, σE)) : G p l e R s m args below meth c D dA b0 n0 m0 4 nE mE Q 419 [(0, 2, (b : Int)), (1, 2, jx1), (2, 2, jx2), (3, 0, jx3)] [] σ := by
  unfold F_L_law_B419 at hF
  refine g_aload_n hX 1 dL_law_419 rfl rfl ?_
  refine g_aload_n hX 0 dL_law_420 rfl rfl ?_
  refine g_iload_n hX 3 dL_law_421 rfl rfl ?_
  refine g_iconst hX dL_law_422 ?_
  refine g_iadd hX dL_law_423 ?_
  refine g_sld hX hR dL_law_424 hF (fun jv74 hF => ?_)
  refine g_callV (t := 0) (ci := 7) (rest := []) [(0, jv74)] hX cw_L_44 rfl (by decide) (by decide) (fun r σ1 h => T_X7_count l D dA b0  jx1 jv74 σ σ1 r h) ⟨by decide, by decide⟩ rfl rfl (Nat.le_of_ble_eq_true rfl) dL_law_425 hF (fun jv75 σ76 hF => ?_)
  refine g_aload_n hX 2 dL_law_428 rfl rfl ?_
  refine g_aload_n hX 0 dL_law_429 rfl rfl ?_
  refine g_iload_n hX 3 dL_law_430 rfl rfl ?_
  refine g_iconst hX dL_law_431 ?_
  refine g_iadd hX dL_law_432 ?_
  refine g_sld hX hR dL_law_433 hF (fun jv77 hF => ?_)
  refine g_callV (t := 0) (ci := 8) (rest := [(0, jv75)]) [(0, jv77)] hX cw_L_48 rfl (by decide) (by decide) (fun r σ1 h => T_X8_count l D dA b0  jx2 jv77 σ76 σ1 r h) ⟨by decide, by decide⟩ rfl rfl (Nat.le_of_ble_eq_true rfl) dL_law_434 hF (fun jv78 σ79 hF => ?_)
  refine g_icmp_eq (tgt := 997) hX dL_law_437 (by decide) hF (fun hc hF => ?_) (fun hc hF => ?_)
  · exact T_L_law_B997 hr1 hX hR k18 jx1 jx2 jx3  hk18  σ79 hF
  · refine g_iconst hX dL_law_440 ?_
    exact g_lawret hX hR hr1 dL_law_441 hF
def F_L_law_B442 (jxs : Int → Int) (jL : Int) (k18 : Int → Hp → Option (Int × Hp)) (jx1 : Int) (jx2 : Int) (jx3 : Int) (σ : Hp) : Option (Int × Hp) :=
  (sr jxs jL (jx3 + 1)).bind fun jv80 => (sr jxs jL (jx3 + 2)).bind fun jv81 => bd (iv 8 σ jx1 (F_X7_worth  jx1 jv80 jv81 σ)) fun jv82 σ83 => (sr jxs jL (jx3 + 1)).bind fun jv84 => (sr jxs jL (jx3 + 2)).bind fun jv85 => bd (iv 9 σ83 jx2 (F_X8_worth  jx2 jv84 jv85 σ83)) fun jv86 σ87 => g66 jv82 jv86 (bEq (cmpL jv82 jv86) 0 (F_L_law_B997 jxs jL k18 jx1 jx2 jx3  σ87) (some (0, σ87)))
set_option maxRecDepth 100000 in
set_option maxHeartbeats 4000000 in
theorem T_L_law_B442 {r : Int} {σE : Hp} (hr1 : r = 1) {b L : Nat} {xs : Nat → Int32} {jxs : Int → Int} {jL : Int} (hX : Cx p R s m args meth c D dA b0 n0 m0 4 nE mE cL_law RL 2048 84000) (hR : LwC R s args below meth b0 n0 m0 nE mE Q b L xs jxs jL σE) (k18 : Int → Hp → Option (Int × Hp)) (jx1 : Int) (jx2 : Int) (jx3 : Int) (hk18 : ∀ (jx3 : Int) (σ : Hp), k18 jx3 σ = some (r, σE) → G p l e R s m args below meth c D dA b0 n0 m0 4 nE mE Q 18 [(0, 2, (b : Int)), (1, 2, jx1), (2, 2, jx2), (3, 0, jx3)] [] σ) (σ : Hp) (hF : F_L_law_B442 jxs jL k18 jx1 jx2 jx3 σ = some (r, σE)) : G p l e R s m args below meth c D dA b0 n0 m0 4 nE mE Q 442 [(0, 2, (b : Int)), (1, 2, jx1), (2, 2, jx2), (3, 0, jx3)] [] σ := by
  unfold F_L_law_B442 at hF
  refine g_aload_n hX 1 dL_law_442 rfl rfl ?_
  refine g_aload_n hX 0 dL_law_443 rfl rfl ?_
  refine g_iload_n hX 3 dL_law_444 rfl rfl ?_
  refine g_iconst hX dL_law_445 ?_
  refine g_iadd hX dL_law_446 ?_
  refine g_sld hX hR dL_law_447 hF (fun jv80 hF => ?_)
  refine g_aload_n hX 0 dL_law_448 rfl rfl ?_
  refine g_iload_n hX 3 dL_law_449 rfl rfl ?_
  refine g_iconst hX dL_law_450 ?_
  refine g_iadd hX dL_law_451 ?_
  refine g_sld hX hR dL_law_452 hF (fun jv81 hF => ?_)
  refine g_callV (t := 1) (ci := 7) (rest := []) [(0, jv80), (0, jv81)] hX cw_L_49 rfl (by decide) (by decide) (fun r σ1 h => T_X7_worth l D dA b0  jx1 jv80 jv81 σ σ1 r h) ⟨by decide, by decide⟩ rfl rfl (Nat.le_of_ble_eq_true rfl) dL_law_453 hF (fun jv82 σ83 hF => ?_)
  refine g_aload_n hX 2 dL_law_456 rfl rfl ?_
  refine g_aload_n hX 0 dL_law_457 rfl rfl ?_
  refine g_iload_n hX 3 dL_law_458 rfl rfl ?_
  refine g_iconst hX dL_law_459 ?_
  refine g_iadd hX dL_law_460 ?_
  refine g_sld hX hR dL_law_461 hF (fun jv84 hF => ?_)
  refine g_aload_n hX 0 dL_law_462 rfl rfl ?_
  refine g_iload_n hX 3 dL_law_463 rfl rfl ?_
  refine g_iconst hX dL_law_464 ?_
  refine g_iadd hX dL_law_465 ?_
  refine g_sld hX hR dL_law_466 hF (fun jv85 hF => ?_)
  refine g_callV (t := 1) (ci := 8) (rest := [(1, jv82)]) [(0, jv84), (0, jv85)] hX cw_L_53 rfl (by decide) (by decide) (fun r σ1 h => T_X8_worth l D dA b0  jx2 jv84 jv85 σ83 σ1 r h) ⟨by decide, by decide⟩ rfl rfl (Nat.le_of_ble_eq_true rfl) dL_law_467 hF (fun jv86 σ87 hF => ?_)
  refine g_lcmp hX dL_law_470 hF (fun hF => ?_)
  refine g_if_eq (tgt := 997) hX dL_law_471 (by decide) hF (fun hc hF => ?_) (fun hc hF => ?_)
  · exact T_L_law_B997 hr1 hX hR k18 jx1 jx2 jx3  hk18  σ87 hF
  · refine g_iconst hX dL_law_474 ?_
    exact g_lawret hX hR hr1 dL_law_475 hF
def F_L_law_B476 (jxs : Int → Int) (jL : Int) (k18 : Int → Hp → Option (Int × Hp)) (jx1 : Int) (jx2 : Int) (jx3 : Int) (σ : Hp) : Option (Int × Hp) :=
  (sr jxs jL (jx3 + 1)).bind fun jv88 => (sr jxs jL (jx3 + 2)).bind fun jv89 => (sr jxs jL (jx3 + 3)).bind fun jv90 => bd (iv 8 σ jx1 (F_X7_policy  jx1 jv88 jv89 jv90 σ)) fun jv91 σ92 => (sr jxs jL (jx3 + 1)).bind fun jv93 => (sr jxs jL (jx3 + 2)).bind fun jv94 => (sr jxs jL (jx3 + 3)).bind fun jv95 => bd (iv 9 σ92 jx2 (F_X8_policy  jx2 jv93 jv94 jv95 σ92)) fun jv96 σ97 => bEq jv91 jv96 (F_L_law_B997 jxs jL k18 jx1 jx2 jx3  σ97) (some (0, σ97))
set_option maxRecDepth 100000 in
set_option maxHeartbeats 4000000 in
theorem T_L_law_B476 {r : Int} {σE : Hp} (hr1 : r = 1) {b L : Nat} {xs : Nat → Int32} {jxs : Int → Int} {jL : Int} (hX : Cx p R s m args meth c D dA b0 n0 m0 4 nE mE cL_law RL 2048 84000) (hR : LwC R s args below meth b0 n0 m0 nE mE Q b L xs jxs jL σE) (k18 : Int → Hp → Option (Int × Hp)) (jx1 : Int) (jx2 : Int) (jx3 : Int) (hk18 : ∀ (jx3 : Int) (σ : Hp), k18 jx3 σ = some (r, σE) → G p l e R s m args below meth c D dA b0 n0 m0 4 nE mE Q 18 [(0, 2, (b : Int)), (1, 2, jx1), (2, 2, jx2), (3, 0, jx3)] [] σ) (σ : Hp) (hF : F_L_law_B476 jxs jL k18 jx1 jx2 jx3 σ = some (r, σE)) : G p l e R s m args below meth c D dA b0 n0 m0 4 nE mE Q 476 [(0, 2, (b : Int)), (1, 2, jx1), (2, 2, jx2), (3, 0, jx3)] [] σ := by
  unfold F_L_law_B476 at hF
  refine g_aload_n hX 1 dL_law_476 rfl rfl ?_
  refine g_aload_n hX 0 dL_law_477 rfl rfl ?_
  refine g_iload_n hX 3 dL_law_478 rfl rfl ?_
  refine g_iconst hX dL_law_479 ?_
  refine g_iadd hX dL_law_480 ?_
  refine g_sld hX hR dL_law_481 hF (fun jv88 hF => ?_)
  refine g_aload_n hX 0 dL_law_482 rfl rfl ?_
  refine g_iload_n hX 3 dL_law_483 rfl rfl ?_
  refine g_iconst hX dL_law_484 ?_
  refine g_iadd hX dL_law_485 ?_
  refine g_sld hX hR dL_law_486 hF (fun jv89 hF => ?_)
  refine g_aload_n hX 0 dL_law_487 rfl rfl ?_
  refine g_iload_n hX 3 dL_law_488 rfl rfl ?_
  refine g_iconst hX dL_law_489 ?_
  refine g_iadd hX dL_law_490 ?_
  refine g_sld hX hR dL_law_491 hF (fun jv90 hF => ?_)
  refine g_callV (t := 0) (ci := 7) (rest := []) [(0, jv88), (0, jv89), (0, jv90)] hX cw_L_54 rfl (by decide) (by decide) (fun r σ1 h => T_X7_policy l D dA b0  jx1 jv88 jv89 jv90 σ σ1 r h) ⟨by decide, by decide⟩ rfl rfl (Nat.le_of_ble_eq_true rfl) dL_law_492 hF (fun jv91 σ92 hF => ?_)
  refine g_aload_n hX 2 dL_law_495 rfl rfl ?_
  refine g_aload_n hX 0 dL_law_496 rfl rfl ?_
  refine g_iload_n hX 3 dL_law_497 rfl rfl ?_
  refine g_iconst hX dL_law_498 ?_
  refine g_iadd hX dL_law_499 ?_
  refine g_sld hX hR dL_law_500 hF (fun jv93 hF => ?_)
  refine g_aload_n hX 0 dL_law_501 rfl rfl ?_
  refine g_iload_n hX 3 dL_law_502 rfl rfl ?_
  refine g_iconst hX dL_law_503 ?_
  refine g_iadd hX dL_law_504 ?_
  refine g_sld hX hR dL_law_505 hF (fun jv94 hF => ?_)
  refine g_aload_n hX 0 dL_law_506 rfl rfl ?_
  refine g_iload_n hX 3 dL_law_507 rfl rfl ?_
  refine g_iconst hX dL_law_508 ?_
  refine g_iadd hX dL_law_509 ?_
  refine g_sld hX hR dL_law_510 hF (fun jv95 hF => ?_)
  refine g_callV (t := 0) (ci := 8) (rest := [(0, jv91)]) [(0, jv93), (0, jv94), (0, jv95)] hX cw_L_57 rfl (by decide) (by decide) (fun r σ1 h => T_X8_policy l D dA b0  jx2 jv93 jv94 jv95 σ92 σ1 r h) ⟨by decide, by decide⟩ rfl rfl (Nat.le_of_ble_eq_true rfl) dL_law_511 hF (fun jv96 σ97 hF => ?_)
  refine g_icmp_eq (tgt := 997) hX dL_law_514 (by decide) hF (fun hc hF => ?_) (fun hc hF => ?_)
  · exact T_L_law_B997 hr1 hX hR k18 jx1 jx2 jx3  hk18  σ97 hF
  · refine g_iconst hX dL_law_517 ?_
    exact g_lawret hX hR hr1 dL_law_518 hF
def F_L_law_B519 (jxs : Int → Int) (jL : Int) (k18 : Int → Hp → Option (Int × Hp)) (jx1 : Int) (jx2 : Int) (jx3 : Int) (σ : Hp) : Option (Int × Hp) :=
  (sr jxs jL (jx3 + 1)).bind fun jv98 => (sr jxs jL (jx3 + 2)).bind fun jv99 => (sr jxs jL (jx3 + 3)).bind fun jv100 => bd (iv 8 σ jx1 (F_X7_water  jx1 jv98 jv99 jv100 σ)) fun jv101 σ102 => (sr jxs jL (jx3 + 1)).bind fun jv103 => (sr jxs jL (jx3 + 2)).bind fun jv104 => (sr jxs jL (jx3 + 3)).bind fun jv105 => bd (iv 9 σ102 jx2 (F_X8_water  jx2 jv103 jv104 jv105 σ102)) fun jv106 σ107 => g66 jv101 jv106 (bEq (cmpL jv101 jv106) 0 (F_L_law_B997 jxs jL k18 jx1 jx2 jx3  σ107) (some (0, σ107)))
set_option maxRecDepth 100000 in
set_option maxHeartbeats 4000000 in
theorem T_L_law_B519 {r : Int} {σE : Hp} (hr1 : r = 1) {b L : Nat} {xs : Nat → Int32} {jxs : Int → Int} {jL : Int} (hX : Cx p R s m args meth c D dA b0 n0 m0 4 nE mE cL_law RL 2048 84000) (hR : LwC R s args below meth b0 n0 m0 nE mE Q b L xs jxs jL σE) (k18 : Int → Hp → Option (Int × Hp)) (jx1 : Int) (jx2 : Int) (jx3 : Int) (hk18 : ∀ (jx3 : Int) (σ : Hp), k18 jx3 σ = some (r, σE) → G p l e R s m args below meth c D dA b0 n0 m0 4 nE mE Q 18 [(0, 2, (b : Int)), (1, 2, jx1), (2, 2, jx2), (3, 0, jx3)] [] σ) (σ : Hp) (hF : F_L_law_B519 jxs jL k18 jx1 jx2 jx3 σ = some (r, σE)) : G p l e R s m args below meth c D dA b0 n0 m0 4 nE mE Q 519 [(0, 2, (b : Int)), (1, 2, jx1), (2, 2, jx2), (3, 0, jx3)] [] σ := by
  unfold F_L_law_B519 at hF
  refine g_aload_n hX 1 dL_law_519 rfl rfl ?_
  refine g_aload_n hX 0 dL_law_520 rfl rfl ?_
  refine g_iload_n hX 3 dL_law_521 rfl rfl ?_
  refine g_iconst hX dL_law_522 ?_
  refine g_iadd hX dL_law_523 ?_
  refine g_sld hX hR dL_law_524 hF (fun jv98 hF => ?_)
  refine g_aload_n hX 0 dL_law_525 rfl rfl ?_
  refine g_iload_n hX 3 dL_law_526 rfl rfl ?_
  refine g_iconst hX dL_law_527 ?_
  refine g_iadd hX dL_law_528 ?_
  refine g_sld hX hR dL_law_529 hF (fun jv99 hF => ?_)
  refine g_aload_n hX 0 dL_law_530 rfl rfl ?_
  refine g_iload_n hX 3 dL_law_531 rfl rfl ?_
  refine g_iconst hX dL_law_532 ?_
  refine g_iadd hX dL_law_533 ?_
  refine g_sld hX hR dL_law_534 hF (fun jv100 hF => ?_)
  refine g_callV (t := 1) (ci := 7) (rest := []) [(0, jv98), (0, jv99), (0, jv100)] hX cw_L_58 rfl (by decide) (by decide) (fun r σ1 h => T_X7_water l D dA b0  jx1 jv98 jv99 jv100 σ σ1 r h) ⟨by decide, by decide⟩ rfl rfl (Nat.le_of_ble_eq_true rfl) dL_law_535 hF (fun jv101 σ102 hF => ?_)
  refine g_aload_n hX 2 dL_law_538 rfl rfl ?_
  refine g_aload_n hX 0 dL_law_539 rfl rfl ?_
  refine g_iload_n hX 3 dL_law_540 rfl rfl ?_
  refine g_iconst hX dL_law_541 ?_
  refine g_iadd hX dL_law_542 ?_
  refine g_sld hX hR dL_law_543 hF (fun jv103 hF => ?_)
  refine g_aload_n hX 0 dL_law_544 rfl rfl ?_
  refine g_iload_n hX 3 dL_law_545 rfl rfl ?_
  refine g_iconst hX dL_law_546 ?_
  refine g_iadd hX dL_law_547 ?_
  refine g_sld hX hR dL_law_548 hF (fun jv104 hF => ?_)
  refine g_aload_n hX 0 dL_law_549 rfl rfl ?_
  refine g_iload_n hX 3 dL_law_550 rfl rfl ?_
  refine g_iconst hX dL_law_551 ?_
  refine g_iadd hX dL_law_552 ?_
  refine g_sld hX hR dL_law_553 hF (fun jv105 hF => ?_)
  refine g_callV (t := 1) (ci := 8) (rest := [(1, jv101)]) [(0, jv103), (0, jv104), (0, jv105)] hX cw_L_62 rfl (by decide) (by decide) (fun r σ1 h => T_X8_water l D dA b0  jx2 jv103 jv104 jv105 σ102 σ1 r h) ⟨by decide, by decide⟩ rfl rfl (Nat.le_of_ble_eq_true rfl) dL_law_554 hF (fun jv106 σ107 hF => ?_)
  refine g_lcmp hX dL_law_557 hF (fun hF => ?_)
  refine g_if_eq (tgt := 997) hX dL_law_558 (by decide) hF (fun hc hF => ?_) (fun hc hF => ?_)
  · exact T_L_law_B997 hr1 hX hR k18 jx1 jx2 jx3  hk18  σ107 hF
  · refine g_iconst hX dL_law_561 ?_
    exact g_lawret hX hR hr1 dL_law_562 hF
def F_L_law_B563 (jxs : Int → Int) (jL : Int) (k18 : Int → Hp → Option (Int × Hp)) (jx1 : Int) (jx2 : Int) (jx3 : Int) (σ : Hp) : Option (Int × Hp) :=
  (sr jxs jL (jx3 + 1)).bind fun jv108 => (sr jxs jL (jx3 + 2)).bind fun jv109 => g3 jv109 ((sr jxs jL (jx3 + 3)).bind fun jv110 => g3 jv110 (bd (iv 8 σ jx1 (F_X7_needs  jx1 jv108 (orL (shlL jv109 32) (andL jv110 4294967295)) σ)) fun jv111 σ112 => (sr jxs jL (jx3 + 1)).bind fun jv113 => (sr jxs jL (jx3 + 2)).bind fun jv114 => g3 jv114 ((sr jxs jL (jx3 + 3)).bind fun jv115 => g3 jv115 (bd (iv 9 σ112 jx2 (F_X8_needs  jx2 jv113 (orL (shlL jv114 32) (andL jv115 4294967295)) σ112)) fun jv116 σ117 => bEq jv111 jv116 (F_L_law_B997 jxs jL k18 jx1 jx2 jx3  σ117) (some (0, σ117))))))
set_option maxRecDepth 100000 in
set_option maxHeartbeats 4000000 in
theorem T_L_law_B563 {r : Int} {σE : Hp} (hr1 : r = 1) {b L : Nat} {xs : Nat → Int32} {jxs : Int → Int} {jL : Int} (hX : Cx p R s m args meth c D dA b0 n0 m0 4 nE mE cL_law RL 2048 84000) (hR : LwC R s args below meth b0 n0 m0 nE mE Q b L xs jxs jL σE) (k18 : Int → Hp → Option (Int × Hp)) (jx1 : Int) (jx2 : Int) (jx3 : Int) (hk18 : ∀ (jx3 : Int) (σ : Hp), k18 jx3 σ = some (r, σE) → G p l e R s m args below meth c D dA b0 n0 m0 4 nE mE Q 18 [(0, 2, (b : Int)), (1, 2, jx1), (2, 2, jx2), (3, 0, jx3)] [] σ) (σ : Hp) (hF : F_L_law_B563 jxs jL k18 jx1 jx2 jx3 σ = some (r, σE)) : G p l e R s m args below meth c D dA b0 n0 m0 4 nE mE Q 563 [(0, 2, (b : Int)), (1, 2, jx1), (2, 2, jx2), (3, 0, jx3)] [] σ := by
  unfold F_L_law_B563 at hF
  refine g_aload_n hX 1 dL_law_563 rfl rfl ?_
  refine g_aload_n hX 0 dL_law_564 rfl rfl ?_
  refine g_iload_n hX 3 dL_law_565 rfl rfl ?_
  refine g_iconst hX dL_law_566 ?_
  refine g_iadd hX dL_law_567 ?_
  refine g_sld hX hR dL_law_568 hF (fun jv108 hF => ?_)
  refine g_aload_n hX 0 dL_law_569 rfl rfl ?_
  refine g_iload_n hX 3 dL_law_570 rfl rfl ?_
  refine g_iconst hX dL_law_571 ?_
  refine g_iadd hX dL_law_572 ?_
  refine g_sld hX hR dL_law_573 hF (fun jv109 hF => ?_)
  refine g_i2l hX dL_law_574 hF (fun hF => ?_)
  refine g_bipush hX dL_law_575 (by decide) ?_
  refine g_lshl hX dL_law_577 ?_
  refine g_aload_n hX 0 dL_law_578 rfl rfl ?_
  refine g_iload_n hX 3 dL_law_579 rfl rfl ?_
  refine g_iconst hX dL_law_580 ?_
  refine g_iadd hX dL_law_581 ?_
  refine g_sld hX hR dL_law_582 hF (fun jv110 hF => ?_)
  refine g_i2l hX dL_law_583 hF (fun hF => ?_)
  refine g_ldc2 (z := 4294967295) hX kc_L_63 (by decide) dL_law_584 ?_
  refine g_land hX dL_law_587 ?_
  refine g_lor hX dL_law_588 ?_
  refine g_callV (t := 0) (ci := 7) (rest := []) [(0, jv108), (1, (orL (shlL jv109 32) (andL jv110 4294967295)))] hX cw_L_65 rfl (by decide) (by decide) (fun r σ1 h => T_X7_needs l D dA b0  jx1 jv108 (orL (shlL jv109 32) (andL jv110 4294967295)) σ σ1 r h) ⟨by decide, by decide⟩ rfl rfl (Nat.le_of_ble_eq_true rfl) dL_law_589 hF (fun jv111 σ112 hF => ?_)
  refine g_aload_n hX 2 dL_law_592 rfl rfl ?_
  refine g_aload_n hX 0 dL_law_593 rfl rfl ?_
  refine g_iload_n hX 3 dL_law_594 rfl rfl ?_
  refine g_iconst hX dL_law_595 ?_
  refine g_iadd hX dL_law_596 ?_
  refine g_sld hX hR dL_law_597 hF (fun jv113 hF => ?_)
  refine g_aload_n hX 0 dL_law_598 rfl rfl ?_
  refine g_iload_n hX 3 dL_law_599 rfl rfl ?_
  refine g_iconst hX dL_law_600 ?_
  refine g_iadd hX dL_law_601 ?_
  refine g_sld hX hR dL_law_602 hF (fun jv114 hF => ?_)
  refine g_i2l hX dL_law_603 hF (fun hF => ?_)
  refine g_bipush hX dL_law_604 (by decide) ?_
  refine g_lshl hX dL_law_606 ?_
  refine g_aload_n hX 0 dL_law_607 rfl rfl ?_
  refine g_iload_n hX 3 dL_law_608 rfl rfl ?_
  refine g_iconst hX dL_law_609 ?_
  refine g_iadd hX dL_law_610 ?_
  refine g_sld hX hR dL_law_611 hF (fun jv115 hF => ?_)
  refine g_i2l hX dL_law_612 hF (fun hF => ?_)
  refine g_ldc2 (z := 4294967295) hX kc_L_63 (by decide) dL_law_613 ?_
  refine g_land hX dL_law_616 ?_
  refine g_lor hX dL_law_617 ?_
  refine g_callV (t := 0) (ci := 8) (rest := [(0, jv111)]) [(0, jv113), (1, (orL (shlL jv114 32) (andL jv115 4294967295)))] hX cw_L_69 rfl (by decide) (by decide) (fun r σ1 h => T_X8_needs l D dA b0  jx2 jv113 (orL (shlL jv114 32) (andL jv115 4294967295)) σ112 σ1 r h) ⟨by decide, by decide⟩ rfl rfl (Nat.le_of_ble_eq_true rfl) dL_law_618 hF (fun jv116 σ117 hF => ?_)
  refine g_icmp_eq (tgt := 997) hX dL_law_621 (by decide) hF (fun hc hF => ?_) (fun hc hF => ?_)
  · exact T_L_law_B997 hr1 hX hR k18 jx1 jx2 jx3  hk18  σ117 hF
  · refine g_iconst hX dL_law_624 ?_
    exact g_lawret hX hR hr1 dL_law_625 hF
def F_L_law_B626 (jxs : Int → Int) (jL : Int) (k18 : Int → Hp → Option (Int × Hp)) (jx1 : Int) (jx2 : Int) (jx3 : Int) (σ : Hp) : Option (Int × Hp) :=
  (sr jxs jL (jx3 + 1)).bind fun jv118 => (sr jxs jL (jx3 + 2)).bind fun jv119 => (sr jxs jL (jx3 + 3)).bind fun jv120 => bd (iv 8 σ jx1 (F_X7_rule  jx1 jv118 jv119 jv120 σ)) fun jv121 σ122 => (sr jxs jL (jx3 + 1)).bind fun jv123 => (sr jxs jL (jx3 + 2)).bind fun jv124 => (sr jxs jL (jx3 + 3)).bind fun jv125 => bd (iv 9 σ122 jx2 (F_X8_rule  jx2 jv123 jv124 jv125 σ122)) fun jv126 σ127 => bEq jv121 jv126 (F_L_law_B997 jxs jL k18 jx1 jx2 jx3  σ127) (some (0, σ127))
set_option maxRecDepth 100000 in
set_option maxHeartbeats 4000000 in
theorem T_L_law_B626 {r : Int} {σE : Hp} (hr1 : r = 1) {b L : Nat} {xs : Nat → Int32} {jxs : Int → Int} {jL : Int} (hX : Cx p R s m args meth c D dA b0 n0 m0 4 nE mE cL_law RL 2048 84000) (hR : LwC R s args below meth b0 n0 m0 nE mE Q b L xs jxs jL σE) (k18 : Int → Hp → Option (Int × Hp)) (jx1 : Int) (jx2 : Int) (jx3 : Int) (hk18 : ∀ (jx3 : Int) (σ : Hp), k18 jx3 σ = some (r, σE) → G p l e R s m args below meth c D dA b0 n0 m0 4 nE mE Q 18 [(0, 2, (b : Int)), (1, 2, jx1), (2, 2, jx2), (3, 0, jx3)] [] σ) (σ : Hp) (hF : F_L_law_B626 jxs jL k18 jx1 jx2 jx3 σ = some (r, σE)) : G p l e R s m args below meth c D dA b0 n0 m0 4 nE mE Q 626 [(0, 2, (b : Int)), (1, 2, jx1), (2, 2, jx2), (3, 0, jx3)] [] σ := by
  unfold F_L_law_B626 at hF
  refine g_aload_n hX 1 dL_law_626 rfl rfl ?_
  refine g_aload_n hX 0 dL_law_627 rfl rfl ?_
  refine g_iload_n hX 3 dL_law_628 rfl rfl ?_
  refine g_iconst hX dL_law_629 ?_
  refine g_iadd hX dL_law_630 ?_
  refine g_sld hX hR dL_law_631 hF (fun jv118 hF => ?_)
  refine g_aload_n hX 0 dL_law_632 rfl rfl ?_
  refine g_iload_n hX 3 dL_law_633 rfl rfl ?_
  refine g_iconst hX dL_law_634 ?_
  refine g_iadd hX dL_law_635 ?_
  refine g_sld hX hR dL_law_636 hF (fun jv119 hF => ?_)
  refine g_aload_n hX 0 dL_law_637 rfl rfl ?_
  refine g_iload_n hX 3 dL_law_638 rfl rfl ?_
  refine g_iconst hX dL_law_639 ?_
  refine g_iadd hX dL_law_640 ?_
  refine g_sld hX hR dL_law_641 hF (fun jv120 hF => ?_)
  refine g_callV (t := 0) (ci := 7) (rest := []) [(0, jv118), (0, jv119), (0, jv120)] hX cw_L_70 rfl (by decide) (by decide) (fun r σ1 h => T_X7_rule l D dA b0  jx1 jv118 jv119 jv120 σ σ1 r h) ⟨by decide, by decide⟩ rfl rfl (Nat.le_of_ble_eq_true rfl) dL_law_642 hF (fun jv121 σ122 hF => ?_)
  refine g_aload_n hX 2 dL_law_645 rfl rfl ?_
  refine g_aload_n hX 0 dL_law_646 rfl rfl ?_
  refine g_iload_n hX 3 dL_law_647 rfl rfl ?_
  refine g_iconst hX dL_law_648 ?_
  refine g_iadd hX dL_law_649 ?_
  refine g_sld hX hR dL_law_650 hF (fun jv123 hF => ?_)
  refine g_aload_n hX 0 dL_law_651 rfl rfl ?_
  refine g_iload_n hX 3 dL_law_652 rfl rfl ?_
  refine g_iconst hX dL_law_653 ?_
  refine g_iadd hX dL_law_654 ?_
  refine g_sld hX hR dL_law_655 hF (fun jv124 hF => ?_)
  refine g_aload_n hX 0 dL_law_656 rfl rfl ?_
  refine g_iload_n hX 3 dL_law_657 rfl rfl ?_
  refine g_iconst hX dL_law_658 ?_
  refine g_iadd hX dL_law_659 ?_
  refine g_sld hX hR dL_law_660 hF (fun jv125 hF => ?_)
  refine g_callV (t := 0) (ci := 8) (rest := [(0, jv121)]) [(0, jv123), (0, jv124), (0, jv125)] hX cw_L_73 rfl (by decide) (by decide) (fun r σ1 h => T_X8_rule l D dA b0  jx2 jv123 jv124 jv125 σ122 σ1 r h) ⟨by decide, by decide⟩ rfl rfl (Nat.le_of_ble_eq_true rfl) dL_law_661 hF (fun jv126 σ127 hF => ?_)
  refine g_icmp_eq (tgt := 997) hX dL_law_664 (by decide) hF (fun hc hF => ?_) (fun hc hF => ?_)
  · exact T_L_law_B997 hr1 hX hR k18 jx1 jx2 jx3  hk18  σ127 hF
  · refine g_iconst hX dL_law_667 ?_
    exact g_lawret hX hR hr1 dL_law_668 hF
def F_L_law_B669 (jxs : Int → Int) (jL : Int) (k18 : Int → Hp → Option (Int × Hp)) (jx1 : Int) (jx2 : Int) (jx3 : Int) (σ : Hp) : Option (Int × Hp) :=
  (sr jxs jL (jx3 + 1)).bind fun jv128 => (sr jxs jL (jx3 + 2)).bind fun jv129 => bd (iv 8 σ jx1 (F_X7_mean  jx1 jv128 jv129 σ)) fun jv130 σ131 => (sr jxs jL (jx3 + 1)).bind fun jv132 => (sr jxs jL (jx3 + 2)).bind fun jv133 => bd (iv 9 σ131 jx2 (F_X8_mean  jx2 jv132 jv133 σ131)) fun jv134 σ135 => g66 jv130 jv134 (bEq (cmpL jv130 jv134) 0 (F_L_law_B997 jxs jL k18 jx1 jx2 jx3  σ135) (some (0, σ135)))
set_option maxRecDepth 100000 in
set_option maxHeartbeats 4000000 in
theorem T_L_law_B669 {r : Int} {σE : Hp} (hr1 : r = 1) {b L : Nat} {xs : Nat → Int32} {jxs : Int → Int} {jL : Int} (hX : Cx p R s m args meth c D dA b0 n0 m0 4 nE mE cL_law RL 2048 84000) (hR : LwC R s args below meth b0 n0 m0 nE mE Q b L xs jxs jL σE) (k18 : Int → Hp → Option (Int × Hp)) (jx1 : Int) (jx2 : Int) (jx3 : Int) (hk18 : ∀ (jx3 : Int) (σ : Hp), k18 jx3 σ = some (r, σE) → G p l e R s m args below meth c D dA b0 n0 m0 4 nE mE Q 18 [(0, 2, (b : Int)), (1, 2, jx1), (2, 2, jx2), (3, 0, jx3)] [] σ) (σ : Hp) (hF : F_L_law_B669 jxs jL k18 jx1 jx2 jx3 σ = some (r, σE)) : G p l e R s m args below meth c D dA b0 n0 m0 4 nE mE Q 669 [(0, 2, (b : Int)), (1, 2, jx1), (2, 2, jx2), (3, 0, jx3)] [] σ := by
  unfold F_L_law_B669 at hF
  refine g_aload_n hX 1 dL_law_669 rfl rfl ?_
  refine g_aload_n hX 0 dL_law_670 rfl rfl ?_
  refine g_iload_n hX 3 dL_law_671 rfl rfl ?_
  refine g_iconst hX dL_law_672 ?_
  refine g_iadd hX dL_law_673 ?_
  refine g_sld hX hR dL_law_674 hF (fun jv128 hF => ?_)
  refine g_aload_n hX 0 dL_law_675 rfl rfl ?_
  refine g_iload_n hX 3 dL_law_676 rfl rfl ?_
  refine g_iconst hX dL_law_677 ?_
  refine g_iadd hX dL_law_678 ?_
  refine g_sld hX hR dL_law_679 hF (fun jv129 hF => ?_)
  refine g_callV (t := 1) (ci := 7) (rest := []) [(0, jv128), (0, jv129)] hX cw_L_74 rfl (by decide) (by decide) (fun r σ1 h => T_X7_mean l D dA b0  jx1 jv128 jv129 σ σ1 r h) ⟨by decide, by decide⟩ rfl rfl (Nat.le_of_ble_eq_true rfl) dL_law_680 hF (fun jv130 σ131 hF => ?_)
  refine g_aload_n hX 2 dL_law_683 rfl rfl ?_
  refine g_aload_n hX 0 dL_law_684 rfl rfl ?_
  refine g_iload_n hX 3 dL_law_685 rfl rfl ?_
  refine g_iconst hX dL_law_686 ?_
  refine g_iadd hX dL_law_687 ?_
  refine g_sld hX hR dL_law_688 hF (fun jv132 hF => ?_)
  refine g_aload_n hX 0 dL_law_689 rfl rfl ?_
  refine g_iload_n hX 3 dL_law_690 rfl rfl ?_
  refine g_iconst hX dL_law_691 ?_
  refine g_iadd hX dL_law_692 ?_
  refine g_sld hX hR dL_law_693 hF (fun jv133 hF => ?_)
  refine g_callV (t := 1) (ci := 8) (rest := [(1, jv130)]) [(0, jv132), (0, jv133)] hX cw_L_77 rfl (by decide) (by decide) (fun r σ1 h => T_X8_mean l D dA b0  jx2 jv132 jv133 σ131 σ1 r h) ⟨by decide, by decide⟩ rfl rfl (Nat.le_of_ble_eq_true rfl) dL_law_694 hF (fun jv134 σ135 hF => ?_)
  refine g_lcmp hX dL_law_697 hF (fun hF => ?_)
  refine g_if_eq (tgt := 997) hX dL_law_698 (by decide) hF (fun hc hF => ?_) (fun hc hF => ?_)
  · exact T_L_law_B997 hr1 hX hR k18 jx1 jx2 jx3  hk18  σ135 hF
  · refine g_iconst hX dL_law_701 ?_
    exact g_lawret hX hR hr1 dL_law_702 hF
def F_L_law_B703 (jxs : Int → Int) (jL : Int) (k18 : Int → Hp → Option (Int × Hp)) (jx1 : Int) (jx2 : Int) (jx3 : Int) (σ : Hp) : Option (Int × Hp) :=
  (sr jxs jL (jx3 + 1)).bind fun jv136 => (sr jxs jL (jx3 + 2)).bind fun jv137 => bd (iv 8 σ jx1 (F_X7_worst  jx1 jv136 jv137 σ)) fun jv138 σ139 => (sr jxs jL (jx3 + 1)).bind fun jv140 => (sr jxs jL (jx3 + 2)).bind fun jv141 => bd (iv 9 σ139 jx2 (F_X8_worst  jx2 jv140 jv141 σ139)) fun jv142 σ143 => g66 jv138 jv142 (bEq (cmpL jv138 jv142) 0 (F_L_law_B997 jxs jL k18 jx1 jx2 jx3  σ143) (some (0, σ143)))
set_option maxRecDepth 100000 in
set_option maxHeartbeats 4000000 in
theorem T_L_law_B703 {r : Int} {σE : Hp} (hr1 : r = 1) {b L : Nat} {xs : Nat → Int32} {jxs : Int → Int} {jL : Int} (hX : Cx p R s m args meth c D dA b0 n0 m0 4 nE mE cL_law RL 2048 84000) (hR : LwC R s args below meth b0 n0 m0 nE mE Q b L xs jxs jL σE) (k18 : Int → Hp → Option (Int × Hp)) (jx1 : Int) (jx2 : Int) (jx3 : Int) (hk18 : ∀ (jx3 : Int) (σ : Hp), k18 jx3 σ = some (r, σE) → G p l e R s m args below meth c D dA b0 n0 m0 4 nE mE Q 18 [(0, 2, (b : Int)), (1, 2, jx1), (2, 2, jx2), (3, 0, jx3)] [] σ) (σ : Hp) (hF : F_L_law_B703 jxs jL k18 jx1 jx2 jx3 σ = some (r, σE)) : G p l e R s m args below meth c D dA b0 n0 m0 4 nE mE Q 703 [(0, 2, (b : Int)), (1, 2, jx1), (2, 2, jx2), (3, 0, jx3)] [] σ := by
  unfold F_L_law_B703 at hF
  refine g_aload_n hX 1 dL_law_703 rfl rfl ?_
  refine g_aload_n hX 0 dL_law_704 rfl rfl ?_
  refine g_iload_n hX 3 dL_law_705 rfl rfl ?_
  refine g_iconst hX dL_law_706 ?_
  refine g_iadd hX dL_law_707 ?_
  refine g_sld hX hR dL_law_708 hF (fun jv136 hF => ?_)
  refine g_aload_n hX 0 dL_law_709 rfl rfl ?_
  refine g_iload_n hX 3 dL_law_710 rfl rfl ?_
  refine g_iconst hX dL_law_711 ?_
  refine g_iadd hX dL_law_712 ?_
  refine g_sld hX hR dL_law_713 hF (fun jv137 hF => ?_)
  refine g_callV (t := 1) (ci := 7) (rest := []) [(0, jv136), (0, jv137)] hX cw_L_78 rfl (by decide) (by decide) (fun r σ1 h => T_X7_worst l D dA b0  jx1 jv136 jv137 σ σ1 r h) ⟨by decide, by decide⟩ rfl rfl (Nat.le_of_ble_eq_true rfl) dL_law_714 hF (fun jv138 σ139 hF => ?_)
  refine g_aload_n hX 2 dL_law_717 rfl rfl ?_
  refine g_aload_n hX 0 dL_law_718 rfl rfl ?_
  refine g_iload_n hX 3 dL_law_719 rfl rfl ?_
  refine g_iconst hX dL_law_720 ?_
  refine g_iadd hX dL_law_721 ?_
  refine g_sld hX hR dL_law_722 hF (fun jv140 hF => ?_)
  refine g_aload_n hX 0 dL_law_723 rfl rfl ?_
  refine g_iload_n hX 3 dL_law_724 rfl rfl ?_
  refine g_iconst hX dL_law_725 ?_
  refine g_iadd hX dL_law_726 ?_
  refine g_sld hX hR dL_law_727 hF (fun jv141 hF => ?_)
  refine g_callV (t := 1) (ci := 8) (rest := [(1, jv138)]) [(0, jv140), (0, jv141)] hX cw_L_81 rfl (by decide) (by decide) (fun r σ1 h => T_X8_worst l D dA b0  jx2 jv140 jv141 σ139 σ1 r h) ⟨by decide, by decide⟩ rfl rfl (Nat.le_of_ble_eq_true rfl) dL_law_728 hF (fun jv142 σ143 hF => ?_)
  refine g_lcmp hX dL_law_731 hF (fun hF => ?_)
  refine g_if_eq (tgt := 997) hX dL_law_732 (by decide) hF (fun hc hF => ?_) (fun hc hF => ?_)
  · exact T_L_law_B997 hr1 hX hR k18 jx1 jx2 jx3  hk18  σ143 hF
  · refine g_iconst hX dL_law_735 ?_
    exact g_lawret hX hR hr1 dL_law_736 hF
def F_L_law_B737 (jxs : Int → Int) (jL : Int) (k18 : Int → Hp → Option (Int × Hp)) (jx1 : Int) (jx2 : Int) (jx3 : Int) (σ : Hp) : Option (Int × Hp) :=
  (sr jxs jL (jx3 + 1)).bind fun jv144 => (sr jxs jL (jx3 + 2)).bind fun jv145 => bd (iv 8 σ jx1 (F_X7_lack  jx1 jv144 jv145 σ)) fun jv146 σ147 => (sr jxs jL (jx3 + 1)).bind fun jv148 => (sr jxs jL (jx3 + 2)).bind fun jv149 => bd (iv 9 σ147 jx2 (F_X8_lack  jx2 jv148 jv149 σ147)) fun jv150 σ151 => bEq jv146 jv150 (F_L_law_B997 jxs jL k18 jx1 jx2 jx3  σ151) (some (0, σ151))
set_option maxRecDepth 100000 in
set_option maxHeartbeats 4000000 in
theorem T_L_law_B737 {r : Int} {σE : Hp} (hr1 : r = 1) {b L : Nat} {xs : Nat → Int32} {jxs : Int → Int} {jL : Int} (hX : Cx p R s m args meth c D dA b0 n0 m0 4 nE mE cL_law RL 2048 84000) (hR : LwC R s args below meth b0 n0 m0 nE mE Q b L xs jxs jL σE) (k18 : Int → Hp → Option (Int × Hp)) (jx1 : Int) (jx2 : Int) (jx3 : Int) (hk18 : ∀ (jx3 : Int) (σ : Hp), k18 jx3 σ = some (r, σE) → G p l e R s m args below meth c D dA b0 n0 m0 4 nE mE Q 18 [(0, 2, (b : Int)), (1, 2, jx1), (2, 2, jx2), (3, 0, jx3)] [] σ) (σ : Hp) (hF : F_L_law_B737 jxs jL k18 jx1 jx2 jx3 σ = some (r, σE)) : G p l e R s m args below meth c D dA b0 n0 m0 4 nE mE Q 737 [(0, 2, (b : Int)), (1, 2, jx1), (2, 2, jx2), (3, 0, jx3)] [] σ := by
  unfold F_L_law_B737 at hF
  refine g_aload_n hX 1 dL_law_737 rfl rfl ?_
  refine g_aload_n hX 0 dL_law_738 rfl rfl ?_
  refine g_iload_n hX 3 dL_law_739 rfl rfl ?_
  refine g_iconst hX dL_law_740 ?_
  refine g_iadd hX dL_law_741 ?_
  refine g_sld hX hR dL_law_742 hF (fun jv144 hF => ?_)
  refine g_aload_n hX 0 dL_law_743 rfl rfl ?_
  refine g_iload_n hX 3 dL_law_744 rfl rfl ?_
  refine g_iconst hX dL_law_745 ?_
  refine g_iadd hX dL_law_746 ?_
  refine g_sld hX hR dL_law_747 hF (fun jv145 hF => ?_)
  refine g_callV (t := 0) (ci := 7) (rest := []) [(0, jv144), (0, jv145)] hX cw_L_82 rfl (by decide) (by decide) (fun r σ1 h => T_X7_lack l D dA b0  jx1 jv144 jv145 σ σ1 r h) ⟨by decide, by decide⟩ rfl rfl (Nat.le_of_ble_eq_true rfl) dL_law_748 hF (fun jv146 σ147 hF => ?_)
  refine g_aload_n hX 2 dL_law_751 rfl rfl ?_
  refine g_aload_n hX 0 dL_law_752 rfl rfl ?_
  refine g_iload_n hX 3 dL_law_753 rfl rfl ?_
  refine g_iconst hX dL_law_754 ?_
  refine g_iadd hX dL_law_755 ?_
  refine g_sld hX hR dL_law_756 hF (fun jv148 hF => ?_)
  refine g_aload_n hX 0 dL_law_757 rfl rfl ?_
  refine g_iload_n hX 3 dL_law_758 rfl rfl ?_
  refine g_iconst hX dL_law_759 ?_
  refine g_iadd hX dL_law_760 ?_
  refine g_sld hX hR dL_law_761 hF (fun jv149 hF => ?_)
  refine g_callV (t := 0) (ci := 8) (rest := [(0, jv146)]) [(0, jv148), (0, jv149)] hX cw_L_85 rfl (by decide) (by decide) (fun r σ1 h => T_X8_lack l D dA b0  jx2 jv148 jv149 σ147 σ1 r h) ⟨by decide, by decide⟩ rfl rfl (Nat.le_of_ble_eq_true rfl) dL_law_762 hF (fun jv150 σ151 hF => ?_)
  refine g_icmp_eq (tgt := 997) hX dL_law_765 (by decide) hF (fun hc hF => ?_) (fun hc hF => ?_)
  · exact T_L_law_B997 hr1 hX hR k18 jx1 jx2 jx3  hk18  σ151 hF
  · refine g_iconst hX dL_law_768 ?_
    exact g_lawret hX hR hr1 dL_law_769 hF
def F_L_law_B770 (jxs : Int → Int) (jL : Int) (k18 : Int → Hp → Option (Int × Hp)) (jx1 : Int) (jx2 : Int) (jx3 : Int) (σ : Hp) : Option (Int × Hp) :=
  (sr jxs jL (jx3 + 1)).bind fun jv152 => (sr jxs jL (jx3 + 2)).bind fun jv153 => (sr jxs jL (jx3 + 3)).bind fun jv154 => (sr jxs jL (jx3 + 4)).bind fun jv155 => bd (iv 8 σ jx1 (F_X7_flood  jx1 jv152 jv153 jv154 jv155 σ)) fun jv156 σ157 => (sr jxs jL (jx3 + 1)).bind fun jv158 => (sr jxs jL (jx3 + 2)).bind fun jv159 => (sr jxs jL (jx3 + 3)).bind fun jv160 => (sr jxs jL (jx3 + 4)).bind fun jv161 => bd (iv 9 σ157 jx2 (F_X8_flood  jx2 jv158 jv159 jv160 jv161 σ157)) fun jv162 σ163 => bEq jv156 jv162 (F_L_law_B997 jxs jL k18 jx1 jx2 jx3  σ163) (some (0, σ163))
set_option maxRecDepth 100000 in
set_option maxHeartbeats 4000000 in
theorem T_L_law_B770 {r : Int} {σE : Hp} (hr1 : r = 1) {b L : Nat} {xs : Nat → Int32} {jxs : Int → Int} {jL : Int} (hX : Cx p R s m args meth c D dA b0 n0 m0 4 nE mE cL_law RL 2048 84000) (hR : LwC R s args below meth b0 n0 m0 nE mE Q b L xs jxs jL σE) (k18 : Int → Hp → Option (Int × Hp)) (jx1 : Int) (jx2 : Int) (jx3 : Int) (hk18 : ∀ (jx3 : Int) (σ : Hp), k18 jx3 σ = some (r, σE) → G p l e R s m args below meth c D dA b0 n0 m0 4 nE mE Q 18 [(0, 2, (b : Int)), (1, 2, jx1), (2, 2, jx2), (3, 0, jx3)] [] σ) (σ : Hp) (hF : F_L_law_B770 jxs jL k18 jx1 jx2 jx3 σ = some (r, σE)) : G p l e R s m args below meth c D dA b0 n0 m0 4 nE mE Q 770 [(0, 2, (b : Int)), (1, 2, jx1), (2, 2, jx2), (3, 0, jx3)] [] σ := by
  unfold F_L_law_B770 at hF
  refine g_aload_n hX 1 dL_law_770 rfl rfl ?_
  refine g_aload_n hX 0 dL_law_771 rfl rfl ?_
  refine g_iload_n hX 3 dL_law_772 rfl rfl ?_
  refine g_iconst hX dL_law_773 ?_
  refine g_iadd hX dL_law_774 ?_
  refine g_sld hX hR dL_law_775 hF (fun jv152 hF => ?_)
  refine g_aload_n hX 0 dL_law_776 rfl rfl ?_
  refine g_iload_n hX 3 dL_law_777 rfl rfl ?_
  refine g_iconst hX dL_law_778 ?_
  refine g_iadd hX dL_law_779 ?_
  refine g_sld hX hR dL_law_780 hF (fun jv153 hF => ?_)
  refine g_aload_n hX 0 dL_law_781 rfl rfl ?_
  refine g_iload_n hX 3 dL_law_782 rfl rfl ?_
  refine g_iconst hX dL_law_783 ?_
  refine g_iadd hX dL_law_784 ?_
  refine g_sld hX hR dL_law_785 hF (fun jv154 hF => ?_)
  refine g_aload_n hX 0 dL_law_786 rfl rfl ?_
  refine g_iload_n hX 3 dL_law_787 rfl rfl ?_
  refine g_iconst hX dL_law_788 ?_
  refine g_iadd hX dL_law_789 ?_
  refine g_sld hX hR dL_law_790 hF (fun jv155 hF => ?_)
  refine g_callV (t := 0) (ci := 7) (rest := []) [(0, jv152), (0, jv153), (0, jv154), (0, jv155)] hX cw_L_86 rfl (by decide) (by decide) (fun r σ1 h => T_X7_flood l D dA b0  jx1 jv152 jv153 jv154 jv155 σ σ1 r h) ⟨by decide, by decide⟩ rfl rfl (Nat.le_of_ble_eq_true rfl) dL_law_791 hF (fun jv156 σ157 hF => ?_)
  refine g_aload_n hX 2 dL_law_794 rfl rfl ?_
  refine g_aload_n hX 0 dL_law_795 rfl rfl ?_
  refine g_iload_n hX 3 dL_law_796 rfl rfl ?_
  refine g_iconst hX dL_law_797 ?_
  refine g_iadd hX dL_law_798 ?_
  refine g_sld hX hR dL_law_799 hF (fun jv158 hF => ?_)
  refine g_aload_n hX 0 dL_law_800 rfl rfl ?_
  refine g_iload_n hX 3 dL_law_801 rfl rfl ?_
  refine g_iconst hX dL_law_802 ?_
  refine g_iadd hX dL_law_803 ?_
  refine g_sld hX hR dL_law_804 hF (fun jv159 hF => ?_)
  refine g_aload_n hX 0 dL_law_805 rfl rfl ?_
  refine g_iload_n hX 3 dL_law_806 rfl rfl ?_
  refine g_iconst hX dL_law_807 ?_
  refine g_iadd hX dL_law_808 ?_
  refine g_sld hX hR dL_law_809 hF (fun jv160 hF => ?_)
  refine g_aload_n hX 0 dL_law_810 rfl rfl ?_
  refine g_iload_n hX 3 dL_law_811 rfl rfl ?_
  refine g_iconst hX dL_law_812 ?_
  refine g_iadd hX dL_law_813 ?_
  refine g_sld hX hR dL_law_814 hF (fun jv161 hF => ?_)
  refine g_callV (t := 0) (ci := 8) (rest := [(0, jv156)]) [(0, jv158), (0, jv159), (0, jv160), (0, jv161)] hX cw_L_89 rfl (by decide) (by decide) (fun r σ1 h => T_X8_flood l D dA b0  jx2 jv158 jv159 jv160 jv161 σ157 σ1 r h) ⟨by decide, by decide⟩ rfl rfl (Nat.le_of_ble_eq_true rfl) dL_law_815 hF (fun jv162 σ163 hF => ?_)
  refine g_icmp_eq (tgt := 997) hX dL_law_818 (by decide) hF (fun hc hF => ?_) (fun hc hF => ?_)
  · exact T_L_law_B997 hr1 hX hR k18 jx1 jx2 jx3  hk18  σ163 hF
  · refine g_iconst hX dL_law_821 ?_
    exact g_lawret hX hR hr1 dL_law_822 hF
def F_L_law_B823 (jxs : Int → Int) (jL : Int) (k18 : Int → Hp → Option (Int × Hp)) (jx1 : Int) (jx2 : Int) (jx3 : Int) (σ : Hp) : Option (Int × Hp) :=
  (sr jxs jL (jx3 + 1)).bind fun jv164 => bd (iv 8 σ jx1 (F_X7_cases  jx1 jv164 σ)) fun jv165 σ166 => (sr jxs jL (jx3 + 1)).bind fun jv167 => bd (iv 9 σ166 jx2 (F_X8_cases  jx2 jv167 σ166)) fun jv168 σ169 => bEq jv165 jv168 (F_L_law_B997 jxs jL k18 jx1 jx2 jx3  σ169) (some (0, σ169))
set_option maxRecDepth 100000 in
set_option maxHeartbeats 4000000 in
theorem T_L_law_B823 {r : Int} {σE : Hp} (hr1 : r = 1) {b L : Nat} {xs : Nat → Int32} {jxs : Int → Int} {jL : Int} (hX : Cx p R s m args meth c D dA b0 n0 m0 4 nE mE cL_law RL 2048 84000) (hR : LwC R s args below meth b0 n0 m0 nE mE Q b L xs jxs jL σE) (k18 : Int → Hp → Option (Int × Hp)) (jx1 : Int) (jx2 : Int) (jx3 : Int) (hk18 : ∀ (jx3 : Int) (σ : Hp), k18 jx3 σ = some (r, σE) → G p l e R s m args below meth c D dA b0 n0 m0 4 nE mE Q 18 [(0, 2, (b : Int)), (1, 2, jx1), (2, 2, jx2), (3, 0, jx3)] [] σ) (σ : Hp) (hF : F_L_law_B823 jxs jL k18 jx1 jx2 jx3 σ = some (r, σE)) : G p l e R s m args below meth c D dA b0 n0 m0 4 nE mE Q 823 [(0, 2, (b : Int)), (1, 2, jx1), (2, 2, jx2), (3, 0, jx3)] [] σ := by
  unfold F_L_law_B823 at hF
  refine g_aload_n hX 1 dL_law_823 rfl rfl ?_
  refine g_aload_n hX 0 dL_law_824 rfl rfl ?_
  refine g_iload_n hX 3 dL_law_825 rfl rfl ?_
  refine g_iconst hX dL_law_826 ?_
  refine g_iadd hX dL_law_827 ?_
  refine g_sld hX hR dL_law_828 hF (fun jv164 hF => ?_)
  refine g_callV (t := 0) (ci := 7) (rest := []) [(0, jv164)] hX cw_L_90 rfl (by decide) (by decide) (fun r σ1 h => T_X7_cases l D dA b0  jx1 jv164 σ σ1 r h) ⟨by decide, by decide⟩ rfl rfl (Nat.le_of_ble_eq_true rfl) dL_law_829 hF (fun jv165 σ166 hF => ?_)
  refine g_aload_n hX 2 dL_law_832 rfl rfl ?_
  refine g_aload_n hX 0 dL_law_833 rfl rfl ?_
  refine g_iload_n hX 3 dL_law_834 rfl rfl ?_
  refine g_iconst hX dL_law_835 ?_
  refine g_iadd hX dL_law_836 ?_
  refine g_sld hX hR dL_law_837 hF (fun jv167 hF => ?_)
  refine g_callV (t := 0) (ci := 8) (rest := [(0, jv165)]) [(0, jv167)] hX cw_L_93 rfl (by decide) (by decide) (fun r σ1 h => T_X8_cases l D dA b0  jx2 jv167 σ166 σ1 r h) ⟨by decide, by decide⟩ rfl rfl (Nat.le_of_ble_eq_true rfl) dL_law_838 hF (fun jv168 σ169 hF => ?_)
  refine g_icmp_eq (tgt := 997) hX dL_law_841 (by decide) hF (fun hc hF => ?_) (fun hc hF => ?_)
  · exact T_L_law_B997 hr1 hX hR k18 jx1 jx2 jx3  hk18  σ169 hF
  · refine g_iconst hX dL_law_844 ?_
    exact g_lawret hX hR hr1 dL_law_845 hF
def F_L_law_B846 (jxs : Int → Int) (jL : Int) (k18 : Int → Hp → Option (Int × Hp)) (jx1 : Int) (jx2 : Int) (jx3 : Int) (σ : Hp) : Option (Int × Hp) :=
  (sr jxs jL (jx3 + 1)).bind fun jv170 => bd (iv 8 σ jx1 (F_X7_begin  jx1 jv170 σ)) fun jv171 σ172 => (sr jxs jL (jx3 + 1)).bind fun jv173 => bd (iv 9 σ172 jx2 (F_X8_begin  jx2 jv173 σ172)) fun jv174 σ175 => bEq jv171 jv174 (F_L_law_B997 jxs jL k18 jx1 jx2 jx3  σ175) (some (0, σ175))
set_option maxRecDepth 100000 in
set_option maxHeartbeats 4000000 in
theorem T_L_law_B846 {r : Int} {σE : Hp} (hr1 : r = 1) {b L : Nat} {xs : Nat → Int32} {jxs : Int → Int} {jL : Int} (hX : Cx p R s m args meth c D dA b0 n0 m0 4 nE mE cL_law RL 2048 84000) (hR : LwC R s args below meth b0 n0 m0 nE mE Q b L xs jxs jL σE) (k18 : Int → Hp → Option (Int × Hp)) (jx1 : Int) (jx2 : Int) (jx3 : Int) (hk18 : ∀ (jx3 : Int) (σ : Hp), k18 jx3 σ = some (r, σE) → G p l e R s m args below meth c D dA b0 n0 m0 4 nE mE Q 18 [(0, 2, (b : Int)), (1, 2, jx1), (2, 2, jx2), (3, 0, jx3)] [] σ) (σ : Hp) (hF : F_L_law_B846 jxs jL k18 jx1 jx2 jx3 σ = some (r, σE)) : G p l e R s m args below meth c D dA b0 n0 m0 4 nE mE Q 846 [(0, 2, (b : Int)), (1, 2, jx1), (2, 2, jx2), (3, 0, jx3)] [] σ := by
  unfold F_L_law_B846 at hF
  refine g_aload_n hX 1 dL_law_846 rfl rfl ?_
  refine g_aload_n hX 0 dL_law_847 rfl rfl ?_
  refine g_iload_n hX 3 dL_law_848 rfl rfl ?_
  refine g_iconst hX dL_law_849 ?_
  refine g_iadd hX dL_law_850 ?_
  refine g_sld hX hR dL_law_851 hF (fun jv170 hF => ?_)
  refine g_callV (t := 0) (ci := 7) (rest := []) [(0, jv170)] hX cw_L_94 rfl (by decide) (by decide) (fun r σ1 h => T_X7_begin l D dA b0  jx1 jv170 σ σ1 r h) ⟨by decide, by decide⟩ rfl rfl (Nat.le_of_ble_eq_true rfl) dL_law_852 hF (fun jv171 σ172 hF => ?_)
  refine g_aload_n hX 2 dL_law_855 rfl rfl ?_
  refine g_aload_n hX 0 dL_law_856 rfl rfl ?_
  refine g_iload_n hX 3 dL_law_857 rfl rfl ?_
  refine g_iconst hX dL_law_858 ?_
  refine g_iadd hX dL_law_859 ?_
  refine g_sld hX hR dL_law_860 hF (fun jv173 hF => ?_)
  refine g_callV (t := 0) (ci := 8) (rest := [(0, jv171)]) [(0, jv173)] hX cw_L_97 rfl (by decide) (by decide) (fun r σ1 h => T_X8_begin l D dA b0  jx2 jv173 σ172 σ1 r h) ⟨by decide, by decide⟩ rfl rfl (Nat.le_of_ble_eq_true rfl) dL_law_861 hF (fun jv174 σ175 hF => ?_)
  refine g_icmp_eq (tgt := 997) hX dL_law_864 (by decide) hF (fun hc hF => ?_) (fun hc hF => ?_)
  · exact T_L_law_B997 hr1 hX hR k18 jx1 jx2 jx3  hk18  σ175 hF
  · refine g_iconst hX dL_law_867 ?_
    exact g_lawret hX hR hr1 dL_law_868 hF
def F_L_law_B869 (jxs : Int → Int) (jL : Int) (k18 : Int → Hp → Option (Int × Hp)) (jx1 : Int) (jx2 : Int) (jx3 : Int) (σ : Hp) : Option (Int × Hp) :=
  (sr jxs jL (jx3 + 1)).bind fun jv176 => (sr jxs jL (jx3 + 2)).bind fun jv177 => bd (iv 8 σ jx1 (F_X7_week  jx1 jv176 jv177 σ)) fun jv178 σ179 => (sr jxs jL (jx3 + 1)).bind fun jv180 => (sr jxs jL (jx3 + 2)).bind fun jv181 => bd (iv 9 σ179 jx2 (F_X8_week  jx2 jv180 jv181 σ179)) fun jv182 σ183 => bEq jv178 jv182 (F_L_law_B997 jxs jL k18 jx1 jx2 jx3  σ183) (some (0, σ183))
set_option maxRecDepth 100000 in
set_option maxHeartbeats 4000000 in
theorem T_L_law_B869 {r : Int} {σE : Hp} (hr1 : r = 1) {b L : Nat} {xs : Nat → Int32} {jxs : Int → Int} {jL : Int} (hX : Cx p R s m args meth c D dA b0 n0 m0 4 nE mE cL_law RL 2048 84000) (hR : LwC R s args below meth b0 n0 m0 nE mE Q b L xs jxs jL σE) (k18 : Int → Hp → Option (Int × Hp)) (jx1 : Int) (jx2 : Int) (jx3 : Int) (hk18 : ∀ (jx3 : Int) (σ : Hp), k18 jx3 σ = some (r, σE) → G p l e R s m args below meth c D dA b0 n0 m0 4 nE mE Q 18 [(0, 2, (b : Int)), (1, 2, jx1), (2, 2, jx2), (3, 0, jx3)] [] σ) (σ : Hp) (hF : F_L_law_B869 jxs jL k18 jx1 jx2 jx3 σ = some (r, σE)) : G p l e R s m args below meth c D dA b0 n0 m0 4 nE mE Q 869 [(0, 2, (b : Int)), (1, 2, jx1), (2, 2, jx2), (3, 0, jx3)] [] σ := by
  unfold F_L_law_B869 at hF
  refine g_aload_n hX 1 dL_law_869 rfl rfl ?_
  refine g_aload_n hX 0 dL_law_870 rfl rfl ?_
  refine g_iload_n hX 3 dL_law_871 rfl rfl ?_
  refine g_iconst hX dL_law_872 ?_
  refine g_iadd hX dL_law_873 ?_
  refine g_sld hX hR dL_law_874 hF (fun jv176 hF => ?_)
  refine g_aload_n hX 0 dL_law_875 rfl rfl ?_
  refine g_iload_n hX 3 dL_law_876 rfl rfl ?_
  refine g_iconst hX dL_law_877 ?_
  refine g_iadd hX dL_law_878 ?_
  refine g_sld hX hR dL_law_879 hF (fun jv177 hF => ?_)
  refine g_callV (t := 0) (ci := 7) (rest := []) [(0, jv176), (0, jv177)] hX cw_L_98 rfl (by decide) (by decide) (fun r σ1 h => T_X7_week l D dA b0  jx1 jv176 jv177 σ σ1 r h) ⟨by decide, by decide⟩ rfl rfl (Nat.le_of_ble_eq_true rfl) dL_law_880 hF (fun jv178 σ179 hF => ?_)
  refine g_aload_n hX 2 dL_law_883 rfl rfl ?_
  refine g_aload_n hX 0 dL_law_884 rfl rfl ?_
  refine g_iload_n hX 3 dL_law_885 rfl rfl ?_
  refine g_iconst hX dL_law_886 ?_
  refine g_iadd hX dL_law_887 ?_
  refine g_sld hX hR dL_law_888 hF (fun jv180 hF => ?_)
  refine g_aload_n hX 0 dL_law_889 rfl rfl ?_
  refine g_iload_n hX 3 dL_law_890 rfl rfl ?_
  refine g_iconst hX dL_law_891 ?_
  refine g_iadd hX dL_law_892 ?_
  refine g_sld hX hR dL_law_893 hF (fun jv181 hF => ?_)
  refine g_callV (t := 0) (ci := 8) (rest := [(0, jv178)]) [(0, jv180), (0, jv181)] hX cw_L_101 rfl (by decide) (by decide) (fun r σ1 h => T_X8_week l D dA b0  jx2 jv180 jv181 σ179 σ1 r h) ⟨by decide, by decide⟩ rfl rfl (Nat.le_of_ble_eq_true rfl) dL_law_894 hF (fun jv182 σ183 hF => ?_)
  refine g_icmp_eq (tgt := 997) hX dL_law_897 (by decide) hF (fun hc hF => ?_) (fun hc hF => ?_)
  · exact T_L_law_B997 hr1 hX hR k18 jx1 jx2 jx3  hk18  σ183 hF
  · refine g_iconst hX dL_law_900 ?_
    exact g_lawret hX hR hr1 dL_law_901 hF
def F_L_law_B902 (jxs : Int → Int) (jL : Int) (k18 : Int → Hp → Option (Int × Hp)) (jx1 : Int) (jx2 : Int) (jx3 : Int) (σ : Hp) : Option (Int × Hp) :=
  (sr jxs jL (jx3 + 1)).bind fun jv184 => bd (iv 8 σ jx1 (F_X7_best  jx1 jv184 σ)) fun jv185 σ186 => (sr jxs jL (jx3 + 1)).bind fun jv187 => bd (iv 9 σ186 jx2 (F_X8_best  jx2 jv187 σ186)) fun jv188 σ189 => bEq jv185 jv188 (F_L_law_B997 jxs jL k18 jx1 jx2 jx3  σ189) (some (0, σ189))
set_option maxRecDepth 100000 in
set_option maxHeartbeats 4000000 in
theorem T_L_law_B902 {r : Int} {σE : Hp} (hr1 : r = 1) {b L : Nat} {xs : Nat → Int32} {jxs : Int → Int} {jL : Int} (hX : Cx p R s m args meth c D dA b0 n0 m0 4 nE mE cL_law RL 2048 84000) (hR : LwC R s args below meth b0 n0 m0 nE mE Q b L xs jxs jL σE) (k18 : Int → Hp → Option (Int × Hp)) (jx1 : Int) (jx2 : Int) (jx3 : Int) (hk18 : ∀ (jx3 : Int) (σ : Hp), k18 jx3 σ = some (r, σE) → G p l e R s m args below meth c D dA b0 n0 m0 4 nE mE Q 18 [(0, 2, (b : Int)), (1, 2, jx1), (2, 2, jx2), (3, 0, jx3)] [] σ) (σ : Hp) (hF : F_L_law_B902 jxs jL k18 jx1 jx2 jx3 σ = some (r, σE)) : G p l e R s m args below meth c D dA b0 n0 m0 4 nE mE Q 902 [(0, 2, (b : Int)), (1, 2, jx1), (2, 2, jx2), (3, 0, jx3)] [] σ := by
  unfold F_L_law_B902 at hF
  refine g_aload_n hX 1 dL_law_902 rfl rfl ?_
  refine g_aload_n hX 0 dL_law_903 rfl rfl ?_
  refine g_iload_n hX 3 dL_law_904 rfl rfl ?_
  refine g_iconst hX dL_law_905 ?_
  refine g_iadd hX dL_law_906 ?_
  refine g_sld hX hR dL_law_907 hF (fun jv184 hF => ?_)
  refine g_callV (t := 0) (ci := 7) (rest := []) [(0, jv184)] hX cw_L_102 rfl (by decide) (by decide) (fun r σ1 h => T_X7_best l D dA b0  jx1 jv184 σ σ1 r h) ⟨by decide, by decide⟩ rfl rfl (Nat.le_of_ble_eq_true rfl) dL_law_908 hF (fun jv185 σ186 hF => ?_)
  refine g_aload_n hX 2 dL_law_911 rfl rfl ?_
  refine g_aload_n hX 0 dL_law_912 rfl rfl ?_
  refine g_iload_n hX 3 dL_law_913 rfl rfl ?_
  refine g_iconst hX dL_law_914 ?_
  refine g_iadd hX dL_law_915 ?_
  refine g_sld hX hR dL_law_916 hF (fun jv187 hF => ?_)
  refine g_callV (t := 0) (ci := 8) (rest := [(0, jv185)]) [(0, jv187)] hX cw_L_105 rfl (by decide) (by decide) (fun r σ1 h => T_X8_best l D dA b0  jx2 jv187 σ186 σ1 r h) ⟨by decide, by decide⟩ rfl rfl (Nat.le_of_ble_eq_true rfl) dL_law_917 hF (fun jv188 σ189 hF => ?_)
  refine g_icmp_eq (tgt := 997) hX dL_law_920 (by decide) hF (fun hc hF => ?_) (fun hc hF => ?_)
  · exact T_L_law_B997 hr1 hX hR k18 jx1 jx2 jx3  hk18  σ189 hF
  · refine g_iconst hX dL_law_923 ?_
    exact g_lawret hX hR hr1 dL_law_924 hF
def F_L_law_B925 (jxs : Int → Int) (jL : Int) (k18 : Int → Hp → Option (Int × Hp)) (jx1 : Int) (jx2 : Int) (jx3 : Int) (σ : Hp) : Option (Int × Hp) :=
  (sr jxs jL (jx3 + 1)).bind fun jv190 => bd (iv 8 σ jx1 (F_X7_ruled  jx1 jv190 σ)) fun jv191 σ192 => (sr jxs jL (jx3 + 1)).bind fun jv193 => bd (iv 9 σ192 jx2 (F_X8_ruled  jx2 jv193 σ192)) fun jv194 σ195 => bEq jv191 jv194 (F_L_law_B997 jxs jL k18 jx1 jx2 jx3  σ195) (some (0, σ195))
set_option maxRecDepth 100000 in
set_option maxHeartbeats 4000000 in
theorem T_L_law_B925 {r : Int} {σE : Hp} (hr1 : r = 1) {b L : Nat} {xs : Nat → Int32} {jxs : Int → Int} {jL : Int} (hX : Cx p R s m args meth c D dA b0 n0 m0 4 nE mE cL_law RL 2048 84000) (hR : LwC R s args below meth b0 n0 m0 nE mE Q b L xs jxs jL σE) (k18 : Int → Hp → Option (Int × Hp)) (jx1 : Int) (jx2 : Int) (jx3 : Int) (hk18 : ∀ (jx3 : Int) (σ : Hp), k18 jx3 σ = some (r, σE) → G p l e R s m args below meth c D dA b0 n0 m0 4 nE mE Q 18 [(0, 2, (b : Int)), (1, 2, jx1), (2, 2, jx2), (3, 0, jx3)] [] σ) (σ : Hp) (hF : F_L_law_B925 jxs jL k18 jx1 jx2 jx3 σ = some (r, σE)) : G p l e R s m args below meth c D dA b0 n0 m0 4 nE mE Q 925 [(0, 2, (b : Int)), (1, 2, jx1), (2, 2, jx2), (3, 0, jx3)] [] σ := by
  unfold F_L_law_B925 at hF
  refine g_aload_n hX 1 dL_law_925 rfl rfl ?_
  refine g_aload_n hX 0 dL_law_926 rfl rfl ?_
  refine g_iload_n hX 3 dL_law_927 rfl rfl ?_
  refine g_iconst hX dL_law_928 ?_
  refine g_iadd hX dL_law_929 ?_
  refine g_sld hX hR dL_law_930 hF (fun jv190 hF => ?_)
  refine g_callV (t := 0) (ci := 7) (rest := []) [(0, jv190)] hX cw_L_106 rfl (by decide) (by decide) (fun r σ1 h => T_X7_ruled l D dA b0  jx1 jv190 σ σ1 r h) ⟨by decide, by decide⟩ rfl rfl (Nat.le_of_ble_eq_true rfl) dL_law_931 hF (fun jv191 σ192 hF => ?_)
  refine g_aload_n hX 2 dL_law_934 rfl rfl ?_
  refine g_aload_n hX 0 dL_law_935 rfl rfl ?_
  refine g_iload_n hX 3 dL_law_936 rfl rfl ?_
  refine g_iconst hX dL_law_937 ?_
  refine g_iadd hX dL_law_938 ?_
  refine g_sld hX hR dL_law_939 hF (fun jv193 hF => ?_)
  refine g_callV (t := 0) (ci := 8) (rest := [(0, jv191)]) [(0, jv193)] hX cw_L_109 rfl (by decide) (by decide) (fun r σ1 h => T_X8_ruled l D dA b0  jx2 jv193 σ192 σ1 r h) ⟨by decide, by decide⟩ rfl rfl (Nat.le_of_ble_eq_true rfl) dL_law_940 hF (fun jv194 σ195 hF => ?_)
  refine g_icmp_eq (tgt := 997) hX dL_law_943 (by decide) hF (fun hc hF => ?_) (fun hc hF => ?_)
  · exact T_L_law_B997 hr1 hX hR k18 jx1 jx2 jx3  hk18  σ195 hF
  · refine g_iconst hX dL_law_946 ?_
    exact g_lawret hX hR hr1 dL_law_947 hF
def F_L_law_B948 (jxs : Int → Int) (jL : Int) (k18 : Int → Hp → Option (Int × Hp)) (jx1 : Int) (jx2 : Int) (jx3 : Int) (σ : Hp) : Option (Int × Hp) :=
  bd (iv 8 σ jx1 (F_X7_undo  jx1  σ)) fun jv196 σ197 => bd (iv 9 σ197 jx2 (F_X8_undo  jx2  σ197)) fun jv198 σ199 => bEq jv196 jv198 (F_L_law_B997 jxs jL k18 jx1 jx2 jx3  σ199) (some (0, σ199))
set_option maxRecDepth 100000 in
set_option maxHeartbeats 4000000 in
theorem T_L_law_B948 {r : Int} {σE : Hp} (hr1 : r = 1) {b L : Nat} {xs : Nat → Int32} {jxs : Int → Int} {jL : Int} (hX : Cx p R s m args meth c D dA b0 n0 m0 4 nE mE cL_law RL 2048 84000) (hR : LwC R s args below meth b0 n0 m0 nE mE Q b L xs jxs jL σE) (k18 : Int → Hp → Option (Int × Hp)) (jx1 : Int) (jx2 : Int) (jx3 : Int) (hk18 : ∀ (jx3 : Int) (σ : Hp), k18 jx3 σ = some (r, σE) → G p l e R s m args below meth c D dA b0 n0 m0 4 nE mE Q 18 [(0, 2, (b : Int)), (1, 2, jx1), (2, 2, jx2), (3, 0, jx3)] [] σ) (σ : Hp) (hF : F_L_law_B948 jxs jL k18 jx1 jx2 jx3 σ = some (r, σE)) : G p l e R s m args below meth c D dA b0 n0 m0 4 nE mE Q 948 [(0, 2, (b : Int)), (1, 2, jx1), (2, 2, jx2), (3, 0, jx3)] [] σ := by
  unfold F_L_law_B948 at hF
  refine g_aload_n hX 1 dL_law_948 rfl rfl ?_
  refine g_callV (t := 0) (ci := 7) (rest := []) [] hX cw_L_110 rfl (by decide) (by decide) (fun r σ1 h => T_X7_undo l D dA b0  jx1  σ σ1 r h) ⟨by decide, by decide⟩ rfl rfl (Nat.le_of_ble_eq_true rfl) dL_law_949 hF (fun jv196 σ197 hF => ?_)
  refine g_aload_n hX 2 dL_law_952 rfl rfl ?_
  refine g_callV (t := 0) (ci := 8) (rest := [(0, jv196)]) [] hX cw_L_114 rfl (by decide) (by decide) (fun r σ1 h => T_X8_undo l D dA b0  jx2  σ197 σ1 r h) ⟨by decide, by decide⟩ rfl rfl (Nat.le_of_ble_eq_true rfl) dL_law_953 hF (fun jv198 σ199 hF => ?_)
  refine g_icmp_eq (tgt := 997) hX dL_law_956 (by decide) hF (fun hc hF => ?_) (fun hc hF => ?_)
  · exact T_L_law_B997 hr1 hX hR k18 jx1 jx2 jx3  hk18  σ199 hF
  · refine g_iconst hX dL_law_959 ?_
    exact g_lawret hX hR hr1 dL_law_960 hF
def F_L_law_B961 (jxs : Int → Int) (jL : Int) (k18 : Int → Hp → Option (Int × Hp)) (jx1 : Int) (jx2 : Int) (jx3 : Int) (σ : Hp) : Option (Int × Hp) :=
  bd (iv 8 σ jx1 (F_X7_stop  jx1  σ)) fun jv200 σ201 => bd (iv 9 σ201 jx2 (F_X8_stop  jx2  σ201)) fun jv202 σ203 => bEq jv200 jv202 (F_L_law_B997 jxs jL k18 jx1 jx2 jx3  σ203) (some (0, σ203))
set_option maxRecDepth 100000 in
set_option maxHeartbeats 4000000 in
theorem T_L_law_B961 {r : Int} {σE : Hp} (hr1 : r = 1) {b L : Nat} {xs : Nat → Int32} {jxs : Int → Int} {jL : Int} (hX : Cx p R s m args meth c D dA b0 n0 m0 4 nE mE cL_law RL 2048 84000) (hR : LwC R s args below meth b0 n0 m0 nE mE Q b L xs jxs jL σE) (k18 : Int → Hp → Option (Int × Hp)) (jx1 : Int) (jx2 : Int) (jx3 : Int) (hk18 : ∀ (jx3 : Int) (σ : Hp), k18 jx3 σ = some (r, σE) → G p l e R s m args below meth c D dA b0 n0 m0 4 nE mE Q 18 [(0, 2, (b : Int)), (1, 2, jx1), (2, 2, jx2), (3, 0, jx3)] [] σ) (σ : Hp) (hF : F_L_law_B961 jxs jL k18 jx1 jx2 jx3 σ = some (r, σE)) : G p l e R s m args below meth c D dA b0 n0 m0 4 nE mE Q 961 [(0, 2, (b : Int)), (1, 2, jx1), (2, 2, jx2), (3, 0, jx3)] [] σ := by
  unfold F_L_law_B961 at hF
  refine g_aload_n hX 1 dL_law_961 rfl rfl ?_
  refine g_callV (t := 0) (ci := 7) (rest := []) [] hX cw_L_115 rfl (by decide) (by decide) (fun r σ1 h => T_X7_stop l D dA b0  jx1  σ σ1 r h) ⟨by decide, by decide⟩ rfl rfl (Nat.le_of_ble_eq_true rfl) dL_law_962 hF (fun jv200 σ201 hF => ?_)
  refine g_aload_n hX 2 dL_law_965 rfl rfl ?_
  refine g_callV (t := 0) (ci := 8) (rest := [(0, jv200)]) [] hX cw_L_118 rfl (by decide) (by decide) (fun r σ1 h => T_X8_stop l D dA b0  jx2  σ201 σ1 r h) ⟨by decide, by decide⟩ rfl rfl (Nat.le_of_ble_eq_true rfl) dL_law_966 hF (fun jv202 σ203 hF => ?_)
  refine g_icmp_eq (tgt := 997) hX dL_law_969 (by decide) hF (fun hc hF => ?_) (fun hc hF => ?_)
  · exact T_L_law_B997 hr1 hX hR k18 jx1 jx2 jx3  hk18  σ203 hF
  · refine g_iconst hX dL_law_972 ?_
    exact g_lawret hX hR hr1 dL_law_973 hF
def F_L_law_B974 (jxs : Int → Int) (jL : Int) (k18 : Int → Hp → Option (Int × Hp)) (jx1 : Int) (jx2 : Int) (jx3 : Int) (σ : Hp) : Option (Int × Hp) :=
  (sr jxs jL (jx3 + 1)).bind fun jv204 => bd (iv 8 σ jx1 (F_X7_now  jx1 jv204 σ)) fun jv205 σ206 => (sr jxs jL (jx3 + 1)).bind fun jv207 => bd (iv 9 σ206 jx2 (F_X8_now  jx2 jv207 σ206)) fun jv208 σ209 => bEq jv205 jv208 (F_L_law_B997 jxs jL k18 jx1 jx2 jx3  σ209) (some (0, σ209))
set_option maxRecDepth 100000 in
set_option maxHeartbeats 4000000 in
theorem T_L_law_B974 {r : Int} {σE : Hp} (hr1 : r = 1) {b L : Nat} {xs : Nat → Int32} {jxs : Int → Int} {jL : Int} (hX : Cx p R s m args meth c D dA b0 n0 m0 4 nE mE cL_law RL 2048 84000) (hR : LwC R s args below meth b0 n0 m0 nE mE Q b L xs jxs jL σE) (k18 : Int → Hp → Option (Int × Hp)) (jx1 : Int) (jx2 : Int) (jx3 : Int) (hk18 : ∀ (jx3 : Int) (σ : Hp), k18 jx3 σ = some (r, σE) → G p l e R s m args below meth c D dA b0 n0 m0 4 nE mE Q 18 [(0, 2, (b : Int)), (1, 2, jx1), (2, 2, jx2), (3, 0, jx3)] [] σ) (σ : Hp) (hF : F_L_law_B974 jxs jL k18 jx1 jx2 jx3 σ = some (r, σE)) : G p l e R s m args below meth c D dA b0 n0 m0 4 nE mE Q 974 [(0, 2, (b : Int)), (1, 2, jx1), (2, 2, jx2), (3, 0, jx3)] [] σ := by
  unfold F_L_law_B974 at hF
  refine g_aload_n hX 1 dL_law_974 rfl rfl ?_
  refine g_aload_n hX 0 dL_law_975 rfl rfl ?_
  refine g_iload_n hX 3 dL_law_976 rfl rfl ?_
  refine g_iconst hX dL_law_977 ?_
  refine g_iadd hX dL_law_978 ?_
  refine g_sld hX hR dL_law_979 hF (fun jv204 hF => ?_)
  refine g_callV (t := 0) (ci := 7) (rest := []) [(0, jv204)] hX cw_L_119 rfl (by decide) (by decide) (fun r σ1 h => T_X7_now l D dA b0  jx1 jv204 σ σ1 r h) ⟨by decide, by decide⟩ rfl rfl (Nat.le_of_ble_eq_true rfl) dL_law_980 hF (fun jv205 σ206 hF => ?_)
  refine g_aload_n hX 2 dL_law_983 rfl rfl ?_
  refine g_aload_n hX 0 dL_law_984 rfl rfl ?_
  refine g_iload_n hX 3 dL_law_985 rfl rfl ?_
  refine g_iconst hX dL_law_986 ?_
  refine g_iadd hX dL_law_987 ?_
  refine g_sld hX hR dL_law_988 hF (fun jv207 hF => ?_)
  refine g_callV (t := 0) (ci := 8) (rest := [(0, jv205)]) [(0, jv207)] hX cw_L_122 rfl (by decide) (by decide) (fun r σ1 h => T_X8_now l D dA b0  jx2 jv207 σ206 σ1 r h) ⟨by decide, by decide⟩ rfl rfl (Nat.le_of_ble_eq_true rfl) dL_law_989 hF (fun jv208 σ209 hF => ?_)
  refine g_icmp_eq (tgt := 997) hX dL_law_992 (by decide) hF (fun hc hF => ?_) (fun hc hF => ?_)
  · exact T_L_law_B997 hr1 hX hR k18 jx1 jx2 jx3  hk18  σ209 hF
  · refine g_iconst hX dL_law_995 ?_
    exact g_lawret hX hR hr1 dL_law_996 hF
def F_L_law_L18 (jxs : Int → Int) (jL : Int) (jx1 : Int) (jx2 : Int) : Nat → Int → Hp → Option (Int × Hp)
  | 0, _, _ => none
  | n + 1, jx3, σ => bLe jx3 (jL - 5) ((sr jxs jL jx3).bind fun jv9 => bEq (andI jv9 31) 0 (F_L_law_B148 jxs jL (F_L_law_L18 jxs jL jx1 jx2 n) jx1 jx2 jx3  σ) (bEq (andI jv9 31) 1 (F_L_law_B201 jxs jL (F_L_law_L18 jxs jL jx1 jx2 n) jx1 jx2 jx3  σ) (bEq (andI jv9 31) 2 (F_L_law_B244 jxs jL (F_L_law_L18 jxs jL jx1 jx2 n) jx1 jx2 jx3  σ) (bEq (andI jv9 31) 3 (F_L_law_B277 jxs jL (F_L_law_L18 jxs jL jx1 jx2 n) jx1 jx2 jx3  σ) (bEq (andI jv9 31) 4 (F_L_law_B310 jxs jL (F_L_law_L18 jxs jL jx1 jx2 n) jx1 jx2 jx3  σ) (bEq (andI jv9 31) 5 (F_L_law_B343 jxs jL (F_L_law_L18 jxs jL jx1 jx2 n) jx1 jx2 jx3  σ) (bEq (andI jv9 31) 6 (F_L_law_B386 jxs jL (F_L_law_L18 jxs jL jx1 jx2 n) jx1 jx2 jx3  σ) (bEq (andI jv9 31) 7 (F_L_law_B419 jxs jL (F_L_law_L18 jxs jL jx1 jx2 n) jx1 jx2 jx3  σ) (bEq (andI jv9 31) 8 (F_L_law_B442 jxs jL (F_L_law_L18 jxs jL jx1 jx2 n) jx1 jx2 jx3  σ) (bEq (andI jv9 31) 9 (F_L_law_B476 jxs jL (F_L_law_L18 jxs jL jx1 jx2 n) jx1 jx2 jx3  σ) (bEq (andI jv9 31) 10 (F_L_law_B519 jxs jL (F_L_law_L18 jxs jL jx1 jx2 n) jx1 jx2 jx3  σ) (bEq (andI jv9 31) 11 (F_L_law_B563 jxs jL (F_L_law_L18 jxs jL jx1 jx2 n) jx1 jx2 jx3  σ) (bEq (andI jv9 31) 12 (F_L_law_B626 jxs jL (F_L_law_L18 jxs jL jx1 jx2 n) jx1 jx2 jx3  σ) (bEq (andI jv9 31) 13 (F_L_law_B669 jxs jL (F_L_law_L18 jxs jL jx1 jx2 n) jx1 jx2 jx3  σ) (bEq (andI jv9 31) 14 (F_L_law_B703 jxs jL (F_L_law_L18 jxs jL jx1 jx2 n) jx1 jx2 jx3  σ) (bEq (andI jv9 31) 15 (F_L_law_B737 jxs jL (F_L_law_L18 jxs jL jx1 jx2 n) jx1 jx2 jx3  σ) (bEq (andI jv9 31) 16 (F_L_law_B770 jxs jL (F_L_law_L18 jxs jL jx1 jx2 n) jx1 jx2 jx3  σ) (bEq (andI jv9 31) 17 (F_L_law_B823 jxs jL (F_L_law_L18 jxs jL jx1 jx2 n) jx1 jx2 jx3  σ) (bEq (andI jv9 31) 18 (F_L_law_B846 jxs jL (F_L_law_L18 jxs jL jx1 jx2 n) jx1 jx2 jx3  σ) (bEq (andI jv9 31) 19 (F_L_law_B869 jxs jL (F_L_law_L18 jxs jL jx1 jx2 n) jx1 jx2 jx3  σ) (bEq (andI jv9 31) 20 (F_L_law_B902 jxs jL (F_L_law_L18 jxs jL jx1 jx2 n) jx1 jx2 jx3  σ) (bEq (andI jv9 31) 21 (F_L_law_B925 jxs jL (F_L_law_L18 jxs jL jx1 jx2 n) jx1 jx2 jx3  σ) (bEq (andI jv9 31) 22 (F_L_law_B948 jxs jL (F_L_law_L18 jxs jL jx1 jx2 n) jx1 jx2 jx3  σ) (bEq (andI jv9 31) 23 (F_L_law_B961 jxs jL (F_L_law_L18 jxs jL jx1 jx2 n) jx1 jx2 jx3  σ) (bEq (andI jv9 31) 24 (F_L_law_B974 jxs jL (F_L_law_L18 jxs jL jx1 jx2 n) jx1 jx2 jx3  σ) (F_L_law_B997 jxs jL (F_L_law_L18 jxs jL jx1 jx2 n) jx1 jx2 jx3  σ)))))))))))))))))))))))))) (some (1, σ))
set_option maxRecDepth 100000 in
set_option maxHeartbeats 4000000 in
theorem T_L_law_L18 {r : Int} {σE : Hp} (hr1 : r = 1) {b L : Nat} {xs : Nat → Int32} {jxs : Int → Int} {jL : Int} (hX : Cx p R s m args meth c D dA b0 n0 m0 4 nE mE cL_law RL 2048 84000) (hR : LwC R s args below meth b0 n0 m0 nE mE Q b L xs jxs jL σE) (jx1 : Int) (jx2 : Int) : ∀ (n : Nat) (jx3 : Int) (σ : Hp), F_L_law_L18 jxs jL jx1 jx2 n jx3 σ = some (r, σE) → G p l e R s m args below meth c D dA b0 n0 m0 4 nE mE Q 18 [(0, 2, (b : Int)), (1, 2, jx1), (2, 2, jx2), (3, 0, jx3)] [] σ := by
  intro n
  induction n with
  | zero =>
    intro jx3 σ hF
    rw [F_L_law_L18] at hF
    cases hF
  | succ n hk18 =>
    intro jx3 σ hF
    rw [F_L_law_L18] at hF
    refine g_iload_n hX 3 dL_law_18 rfl rfl ?_
    refine g_aload_n hX 0 dL_law_19 rfl rfl ?_
    refine g_slen hX hR dL_law_20 ?_
    refine g_iconst hX dL_law_21 ?_
    refine g_isub hX dL_law_22 ?_
    refine g_icmp_gt (tgt := 1003) hX dL_law_23 (by decide) hF (fun hc hF => ?_) (fun hc hF => ?_)
    · refine g_aload_n hX 0 dL_law_26 rfl rfl ?_
      refine g_iload_n hX 3 dL_law_27 rfl rfl ?_
      refine g_sld hX hR dL_law_28 hF (fun jv9 hF => ?_)
      refine g_bipush hX dL_law_29 (by decide) ?_
      refine g_iand hX dL_law_31 ?_
      obtain ⟨rx, -, ⟨hc, hF⟩ | ⟨hc0, hF⟩⟩ := bEq_spec hF
      · refine g_tsIn (tgt := 148) hX 0 dL_law_32 hc (by decide) (by decide) (by decide) rfl (by decide) ?_
        exact T_L_law_B148 hr1 hX hR (F_L_law_L18 jxs jL jx1 jx2 n) jx1 jx2 jx3  hk18  σ hF
      obtain ⟨rx, -, ⟨hc, hF⟩ | ⟨hc1, hF⟩⟩ := bEq_spec hF
      · refine g_tsIn (tgt := 201) hX 1 dL_law_32 hc (by decide) (by decide) (by decide) rfl (by decide) ?_
        exact T_L_law_B201 hr1 hX hR (F_L_law_L18 jxs jL jx1 jx2 n) jx1 jx2 jx3  hk18  σ hF
      obtain ⟨rx, -, ⟨hc, hF⟩ | ⟨hc2, hF⟩⟩ := bEq_spec hF
      · refine g_tsIn (tgt := 244) hX 2 dL_law_32 hc (by decide) (by decide) (by decide) rfl (by decide) ?_
        exact T_L_law_B244 hr1 hX hR (F_L_law_L18 jxs jL jx1 jx2 n) jx1 jx2 jx3  hk18  σ hF
      obtain ⟨rx, -, ⟨hc, hF⟩ | ⟨hc3, hF⟩⟩ := bEq_spec hF
      · refine g_tsIn (tgt := 277) hX 3 dL_law_32 hc (by decide) (by decide) (by decide) rfl (by decide) ?_
        exact T_L_law_B277 hr1 hX hR (F_L_law_L18 jxs jL jx1 jx2 n) jx1 jx2 jx3  hk18  σ hF
      obtain ⟨rx, -, ⟨hc, hF⟩ | ⟨hc4, hF⟩⟩ := bEq_spec hF
      · refine g_tsIn (tgt := 310) hX 4 dL_law_32 hc (by decide) (by decide) (by decide) rfl (by decide) ?_
        exact T_L_law_B310 hr1 hX hR (F_L_law_L18 jxs jL jx1 jx2 n) jx1 jx2 jx3  hk18  σ hF
      obtain ⟨rx, -, ⟨hc, hF⟩ | ⟨hc5, hF⟩⟩ := bEq_spec hF
      · refine g_tsIn (tgt := 343) hX 5 dL_law_32 hc (by decide) (by decide) (by decide) rfl (by decide) ?_
        exact T_L_law_B343 hr1 hX hR (F_L_law_L18 jxs jL jx1 jx2 n) jx1 jx2 jx3  hk18  σ hF
      obtain ⟨rx, -, ⟨hc, hF⟩ | ⟨hc6, hF⟩⟩ := bEq_spec hF
      · refine g_tsIn (tgt := 386) hX 6 dL_law_32 hc (by decide) (by decide) (by decide) rfl (by decide) ?_
        exact T_L_law_B386 hr1 hX hR (F_L_law_L18 jxs jL jx1 jx2 n) jx1 jx2 jx3  hk18  σ hF
      obtain ⟨rx, -, ⟨hc, hF⟩ | ⟨hc7, hF⟩⟩ := bEq_spec hF
      · refine g_tsIn (tgt := 419) hX 7 dL_law_32 hc (by decide) (by decide) (by decide) rfl (by decide) ?_
        exact T_L_law_B419 hr1 hX hR (F_L_law_L18 jxs jL jx1 jx2 n) jx1 jx2 jx3  hk18  σ hF
      obtain ⟨rx, -, ⟨hc, hF⟩ | ⟨hc8, hF⟩⟩ := bEq_spec hF
      · refine g_tsIn (tgt := 442) hX 8 dL_law_32 hc (by decide) (by decide) (by decide) rfl (by decide) ?_
        exact T_L_law_B442 hr1 hX hR (F_L_law_L18 jxs jL jx1 jx2 n) jx1 jx2 jx3  hk18  σ hF
      obtain ⟨rx, -, ⟨hc, hF⟩ | ⟨hc9, hF⟩⟩ := bEq_spec hF
      · refine g_tsIn (tgt := 476) hX 9 dL_law_32 hc (by decide) (by decide) (by decide) rfl (by decide) ?_
        exact T_L_law_B476 hr1 hX hR (F_L_law_L18 jxs jL jx1 jx2 n) jx1 jx2 jx3  hk18  σ hF
      obtain ⟨rx, -, ⟨hc, hF⟩ | ⟨hc10, hF⟩⟩ := bEq_spec hF
      · refine g_tsIn (tgt := 519) hX 10 dL_law_32 hc (by decide) (by decide) (by decide) rfl (by decide) ?_
        exact T_L_law_B519 hr1 hX hR (F_L_law_L18 jxs jL jx1 jx2 n) jx1 jx2 jx3  hk18  σ hF
      obtain ⟨rx, -, ⟨hc, hF⟩ | ⟨hc11, hF⟩⟩ := bEq_spec hF
      · refine g_tsIn (tgt := 563) hX 11 dL_law_32 hc (by decide) (by decide) (by decide) rfl (by decide) ?_
        exact T_L_law_B563 hr1 hX hR (F_L_law_L18 jxs jL jx1 jx2 n) jx1 jx2 jx3  hk18  σ hF
      obtain ⟨rx, -, ⟨hc, hF⟩ | ⟨hc12, hF⟩⟩ := bEq_spec hF
      · refine g_tsIn (tgt := 626) hX 12 dL_law_32 hc (by decide) (by decide) (by decide) rfl (by decide) ?_
        exact T_L_law_B626 hr1 hX hR (F_L_law_L18 jxs jL jx1 jx2 n) jx1 jx2 jx3  hk18  σ hF
      obtain ⟨rx, -, ⟨hc, hF⟩ | ⟨hc13, hF⟩⟩ := bEq_spec hF
      · refine g_tsIn (tgt := 669) hX 13 dL_law_32 hc (by decide) (by decide) (by decide) rfl (by decide) ?_
        exact T_L_law_B669 hr1 hX hR (F_L_law_L18 jxs jL jx1 jx2 n) jx1 jx2 jx3  hk18  σ hF
      obtain ⟨rx, -, ⟨hc, hF⟩ | ⟨hc14, hF⟩⟩ := bEq_spec hF
      · refine g_tsIn (tgt := 703) hX 14 dL_law_32 hc (by decide) (by decide) (by decide) rfl (by decide) ?_
        exact T_L_law_B703 hr1 hX hR (F_L_law_L18 jxs jL jx1 jx2 n) jx1 jx2 jx3  hk18  σ hF
      obtain ⟨rx, -, ⟨hc, hF⟩ | ⟨hc15, hF⟩⟩ := bEq_spec hF
      · refine g_tsIn (tgt := 737) hX 15 dL_law_32 hc (by decide) (by decide) (by decide) rfl (by decide) ?_
        exact T_L_law_B737 hr1 hX hR (F_L_law_L18 jxs jL jx1 jx2 n) jx1 jx2 jx3  hk18  σ hF
      obtain ⟨rx, -, ⟨hc, hF⟩ | ⟨hc16, hF⟩⟩ := bEq_spec hF
      · refine g_tsIn (tgt := 770) hX 16 dL_law_32 hc (by decide) (by decide) (by decide) rfl (by decide) ?_
        exact T_L_law_B770 hr1 hX hR (F_L_law_L18 jxs jL jx1 jx2 n) jx1 jx2 jx3  hk18  σ hF
      obtain ⟨rx, -, ⟨hc, hF⟩ | ⟨hc17, hF⟩⟩ := bEq_spec hF
      · refine g_tsIn (tgt := 823) hX 17 dL_law_32 hc (by decide) (by decide) (by decide) rfl (by decide) ?_
        exact T_L_law_B823 hr1 hX hR (F_L_law_L18 jxs jL jx1 jx2 n) jx1 jx2 jx3  hk18  σ hF
      obtain ⟨rx, -, ⟨hc, hF⟩ | ⟨hc18, hF⟩⟩ := bEq_spec hF
      · refine g_tsIn (tgt := 846) hX 18 dL_law_32 hc (by decide) (by decide) (by decide) rfl (by decide) ?_
        exact T_L_law_B846 hr1 hX hR (F_L_law_L18 jxs jL jx1 jx2 n) jx1 jx2 jx3  hk18  σ hF
      obtain ⟨rx, -, ⟨hc, hF⟩ | ⟨hc19, hF⟩⟩ := bEq_spec hF
      · refine g_tsIn (tgt := 869) hX 19 dL_law_32 hc (by decide) (by decide) (by decide) rfl (by decide) ?_
        exact T_L_law_B869 hr1 hX hR (F_L_law_L18 jxs jL jx1 jx2 n) jx1 jx2 jx3  hk18  σ hF
      obtain ⟨rx, -, ⟨hc, hF⟩ | ⟨hc20, hF⟩⟩ := bEq_spec hF
      · refine g_tsIn (tgt := 902) hX 20 dL_law_32 hc (by decide) (by decide) (by decide) rfl (by decide) ?_
        exact T_L_law_B902 hr1 hX hR (F_L_law_L18 jxs jL jx1 jx2 n) jx1 jx2 jx3  hk18  σ hF
      obtain ⟨rx, -, ⟨hc, hF⟩ | ⟨hc21, hF⟩⟩ := bEq_spec hF
      · refine g_tsIn (tgt := 925) hX 21 dL_law_32 hc (by decide) (by decide) (by decide) rfl (by decide) ?_
        exact T_L_law_B925 hr1 hX hR (F_L_law_L18 jxs jL jx1 jx2 n) jx1 jx2 jx3  hk18  σ hF
      obtain ⟨rx, -, ⟨hc, hF⟩ | ⟨hc22, hF⟩⟩ := bEq_spec hF
      · refine g_tsIn (tgt := 948) hX 22 dL_law_32 hc (by decide) (by decide) (by decide) rfl (by decide) ?_
        exact T_L_law_B948 hr1 hX hR (F_L_law_L18 jxs jL jx1 jx2 n) jx1 jx2 jx3  hk18  σ hF
      obtain ⟨rx, -, ⟨hc, hF⟩ | ⟨hc23, hF⟩⟩ := bEq_spec hF
      · refine g_tsIn (tgt := 961) hX 23 dL_law_32 hc (by decide) (by decide) (by decide) rfl (by decide) ?_
        exact T_L_law_B961 hr1 hX hR (F_L_law_L18 jxs jL jx1 jx2 n) jx1 jx2 jx3  hk18  σ hF
      obtain ⟨rx, -, ⟨hc, hF⟩ | ⟨hc24, hF⟩⟩ := bEq_spec hF
      · refine g_tsIn (tgt := 974) hX 24 dL_law_32 hc (by decide) (by decide) (by decide) rfl (by decide) ?_
        exact T_L_law_B974 hr1 hX hR (F_L_law_L18 jxs jL jx1 jx2 n) jx1 jx2 jx3  hk18  σ hF
      refine g_tsOut (tgt := 997) hX dL_law_32 rx (by omega) (by decide) ?_
      exact T_L_law_B997 hr1 hX hR (F_L_law_L18 jxs jL jx1 jx2 n) jx1 jx2 jx3  hk18  σ hF
    · refine g_iconst hX dL_law_1003 ?_
      exact g_lawret hX hR hr1 dL_law_1004 hF
def F_L_law (jxs : Int → Int) (jL : Int) (σ : Hp) : Option (Int × Hp) :=
  nwb 8 σ 5 7 fun ja1 σ2 => bd (F_X7_init ja1  σ2) fun jv3 σ4 => nwb 9 σ4 40 8 fun ja5 σ6 => bd (F_X8_init ja5  σ6) fun jv7 σ8 => F_L_law_L18 jxs jL ja1 ja5 fu 0 σ8
set_option maxRecDepth 100000 in
set_option maxHeartbeats 4000000 in
theorem T_L_law {r : Int} {σE : Hp} (hr1 : r = 1) {b L : Nat} {xs : Nat → Int32} {jxs : Int → Int} {jL : Int} (hX : Cx p R s m args meth c D dA b0 n0 m0 4 nE mE cL_law RL 2048 84000) (hR : LwC R s args below meth b0 n0 m0 nE mE Q b L xs jxs jL σE) (σ : Hp) (hF : F_L_law jxs jL σ = some (r, σE)) : G p l e R s m args below meth c D dA b0 n0 m0 4 nE mE Q 0 [(0, 2, (b : Int))] [] σ := by
  unfold F_L_law at hF
  refine u_new hX nw_L_7 (by decide) rfl dL_law_0 hF (fun ja1 σ2 hja1 hF => ?_)
  refine g_dup hX dL_law_3 (by decide) ?_
  refine g_callI (K := 0) (rest := [(2, ja1)]) [] hX cw_L_9 hja1 (fun r σ1 h => T_X7_init l D dA b0 ja1  σ2 σ1 r h) ⟨by decide, by decide⟩ rfl rfl (Nat.le_of_ble_eq_true rfl) dL_law_4 hF (fun jv3 σ4 hF => ?_)
  refine g_astore_n (lv' := [(1, 2, ja1), (0, 2, (b : Int))]) hX dL_law_7 rfl (by decide) rfl ?_
  refine u_new hX nw_L_10 (by decide) rfl dL_law_8 hF (fun ja5 σ6 hja5 hF => ?_)
  refine g_dup hX dL_law_11 (by decide) ?_
  refine g_callI (K := 0) (rest := [(2, ja5)]) [] hX cw_L_12 hja5 (fun r σ1 h => T_X8_init l D dA b0 ja5  σ6 σ1 r h) ⟨by decide, by decide⟩ rfl rfl (Nat.le_of_ble_eq_true rfl) dL_law_12 hF (fun jv7 σ8 hF => ?_)
  refine g_astore_n (lv' := [(2, 2, ja5), (1, 2, ja1), (0, 2, (b : Int))]) hX dL_law_15 rfl (by decide) rfl ?_
  refine g_iconst hX dL_law_16 ?_
  refine g_istore_n (lv' := [(3, 0, 0), (2, 2, ja5), (1, 2, ja1), (0, 2, (b : Int))]) hX dL_law_17 rfl (by decide) rfl ?_
  refine g_lvp (lv' := [(0, 2, (b : Int)), (1, 2, ja1), (2, 2, ja5), (3, 0, 0)]) [3, 2, 1, 0] rfl ?_
  exact T_L_law_L18 hr1 hX hR ja1 ja5  fu 0 σ8 hF
end
