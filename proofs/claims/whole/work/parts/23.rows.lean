section GB
variable {p : Program} {l : Launch} {e : Env} {R : Room} {s : State} {m : MethodId} {args : Array Value} {below : List Frame} {meth : Method} {c : Code} {D : va_G} {dA : Nat → ClassId} {b0 n0 m0 nL nE mE : Nat} {Q : State → Prop}
variable {cc : ByteArray} {own : String} {fr lo : Nat} {pc : Nat} {lv : List (Nat × Nat × Int)} {st : List (Nat × Int)} {σ : Hp}
variable {γ : Type} {z : γ} {T E : Option γ} {a b : Int}
theorem g_dup (hX : Cx p R s m args meth c D dA b0 n0 m0 nL nE mE cc own fr lo) {t : Nat} {v : Int} (hd : decode cc pc = .ok (.dup, 1)) (ht : t ≠ 1) (k : G p l e R s m args below meth c D dA b0 n0 m0 nL nE mE Q (pc + 1) lv ((t, v) :: (t, v) :: st) σ) : G p l e R s m args below meth c D dA b0 n0 m0 nL nE mE Q pc lv ((t, v) :: st) σ :=
  ⟨k.1, fun h1 h2 H locs ls hP hS hl => lv_dup hX.1 hX.2.1 hd (by show (pV t v).category = 1; rw [pV_cat, if_neg ht]) (k.2 h1 h2 H locs ls hP hS hl)⟩
theorem g_dup2 (hX : Cx p R s m args meth c D dA b0 n0 m0 nL nE mE cc own fr lo) {t t' : Nat} {v v' : Int} (hd : decode cc pc = .ok (.dup2, 1)) (ht : t ≠ 1) (ht' : t' ≠ 1) (k : G p l e R s m args below meth c D dA b0 n0 m0 nL nE mE Q (pc + 1) lv ((t, v) :: (t', v') :: (t, v) :: (t', v') :: st) σ) : G p l e R s m args below meth c D dA b0 n0 m0 nL nE mE Q pc lv ((t, v) :: (t', v') :: st) σ :=
  ⟨k.1, fun h1 h2 H locs ls hP hS hl => lv_dup2_11 hX.1 hX.2.1 hd (by show (pV t v).category = 1; rw [pV_cat, if_neg ht]) (by show (pV t' v').category = 1; rw [pV_cat, if_neg ht']) (k.2 h1 h2 H locs ls hP hS hl)⟩
theorem g_pop2 (hX : Cx p R s m args meth c D dA b0 n0 m0 nL nE mE cc own fr lo) {v : Int} (hd : decode cc pc = .ok (.pop2, 1)) (k : G p l e R s m args below meth c D dA b0 n0 m0 nL nE mE Q (pc + 1) lv st σ) : G p l e R s m args below meth c D dA b0 n0 m0 nL nE mE Q pc lv ((1, v) :: st) σ :=
  ⟨k.1, fun h1 h2 H locs ls hP hS hl => lv_pop2_2 hX.1 hX.2.1 hd (by show (pV 1 v).category = 2; rfl) (k.2 h1 h2 H locs ls hP hS hl)⟩
theorem g_goto (hX : Cx p R s m args meth c D dA b0 n0 m0 nL nE mE cc own fr lo) {off : Int} {tgt : Nat} (hd : decode cc pc = .ok (.goto off, 3)) (ht : (pc : Int) + off = (tgt : Int)) (k : G p l e R s m args below meth c D dA b0 n0 m0 nL nE mE Q tgt lv st σ) : G p l e R s m args below meth c D dA b0 n0 m0 nL nE mE Q pc lv st σ :=
  ⟨k.1, fun h1 h2 H locs ls hP hS hl => lv_goto hX.1 hX.2.1 hd ht (k.2 h1 h2 H locs ls hP hS hl)⟩
theorem g_ifnull (hX : Cx p R s m args meth c D dA b0 n0 m0 nL nE mE cc own fr lo) {off : Int} {tgt : Nat} (hd : decode cc pc = .ok (.ifnull off, 3)) (ht : (pc : Int) + off = (tgt : Int)) (hF : bN a T E = some z) (kT : a < 0 → T = some z → G p l e R s m args below meth c D dA b0 n0 m0 nL nE mE Q tgt lv st σ) (kE : ¬ a < 0 → E = some z → G p l e R s m args below meth c D dA b0 n0 m0 nL nE mE Q (pc + 3) lv st σ) : G p l e R s m args below meth c D dA b0 n0 m0 nL nE mE Q pc lv ((2, a) :: st) σ := by
  unfold bN at hF
  split at hF
  · rename_i h
    have k := kT h hF
    refine ⟨k.1, fun h1 h2 H locs ls hP hS hl => ?_⟩
    show W p l e R s m args below meth c H locs (σ.1 - n0) (σ.2.1 - m0) Q (F0 m pc ls (pV 2 a :: st.map pVs))
    rw [pV_null h]
    exact lv_ifnullN hX.1 hX.2.1 hd ht (k.2 h1 h2 H locs ls hP hS hl)
  · rename_i h
    have k := kE h hF
    refine ⟨k.1, fun h1 h2 H locs ls hP hS hl => ?_⟩
    show W p l e R s m args below meth c H locs (σ.1 - n0) (σ.2.1 - m0) Q (F0 m pc ls (pV 2 a :: st.map pVs))
    rw [pV_ref (by omega)]
    exact lv_ifnull hX.1 hX.2.1 hd (k.2 h1 h2 H locs ls hP hS hl)
theorem g_ifnonnull (hX : Cx p R s m args meth c D dA b0 n0 m0 nL nE mE cc own fr lo) {off : Int} {tgt : Nat} (hd : decode cc pc = .ok (.ifnonnull off, 3)) (ht : (pc : Int) + off = (tgt : Int)) (hF : bN a T E = some z) (kT : a < 0 → T = some z → G p l e R s m args below meth c D dA b0 n0 m0 nL nE mE Q (pc + 3) lv st σ) (kE : ¬ a < 0 → E = some z → G p l e R s m args below meth c D dA b0 n0 m0 nL nE mE Q tgt lv st σ) : G p l e R s m args below meth c D dA b0 n0 m0 nL nE mE Q pc lv ((2, a) :: st) σ := by
  unfold bN at hF
  split at hF
  · rename_i h
    have k := kT h hF
    refine ⟨k.1, fun h1 h2 H locs ls hP hS hl => ?_⟩
    show W p l e R s m args below meth c H locs (σ.1 - n0) (σ.2.1 - m0) Q (F0 m pc ls (pV 2 a :: st.map pVs))
    rw [pV_null h]
    exact lv_ifnonnullN hX.1 hX.2.1 hd (k.2 h1 h2 H locs ls hP hS hl)
  · rename_i h
    have k := kE h hF
    refine ⟨k.1, fun h1 h2 H locs ls hP hS hl => ?_⟩
    show W p l e R s m args below meth c H locs (σ.1 - n0) (σ.2.1 - m0) Q (F0 m pc ls (pV 2 a :: st.map pVs))
    rw [pV_ref (by omega)]
    exact lv_ifnonnull hX.1 hX.2.1 hd ht (k.2 h1 h2 H locs ls hP hS hl)
theorem g_tsIn (hX : Cx p R s m args meth c D dA b0 n0 m0 nL nE mE cc own fr lo) {dflt lw hi : Int} {offs : Array Int} {len : Nat} {off : Int} {tgt : Nat} (v : Int) (hd : decode cc pc = .ok (.tableswitch dflt lw hi offs, len)) (hv : a = v) (hr : R3 v) (h1 : ¬ v < lw) (h2 : ¬ hi < v) (ho : offs[(v - lw).toNat]? = some off) (ht : (pc : Int) + off = (tgt : Int)) (k : G p l e R s m args below meth c D dA b0 n0 m0 nL nE mE Q tgt lv st σ) : G p l e R s m args below meth c D dA b0 n0 m0 nL nE mE Q pc lv ((0, a) :: st) σ := by
  subst hv
  exact ⟨k.1, fun q1 q2 H locs ls hP hS hl => lv_tableIn hX.1 hX.2.1 hd (by rw [iI_toInt hr]; exact h1) (by rw [iI_toInt hr]; exact h2) (by rw [iI_toInt hr]; exact ho) ht (k.2 q1 q2 H locs ls hP hS hl)⟩
theorem g_tsOut (hX : Cx p R s m args meth c D dA b0 n0 m0 nL nE mE cc own fr lo) {dflt lw hi : Int} {offs : Array Int} {len : Nat} {tgt : Nat} (hd : decode cc pc = .ok (.tableswitch dflt lw hi offs, len)) (hr : R3 a) (h1 : a < lw ∨ hi < a) (ht : (pc : Int) + dflt = (tgt : Int)) (k : G p l e R s m args below meth c D dA b0 n0 m0 nL nE mE Q tgt lv st σ) : G p l e R s m args below meth c D dA b0 n0 m0 nL nE mE Q pc lv ((0, a) :: st) σ :=
  ⟨k.1, fun q1 q2 H locs ls hP hS hl => lv_tableOut hX.1 hX.2.1 hd (by rw [iI_toInt hr]; exact h1) ht (k.2 q1 q2 H locs ls hP hS hl)⟩
/-- the words of Math.min, Math.max, called from a class -/
def Mw (own : String) (idx : Nat) (y : MethodName) (code : ByteArray) : Prop := Cond.methodLink own idx y ∈ tb ∧ Cond.static y ∈ tb ∧ Cond.initialized "java/lang/Math" ∈ tb ∧ Cond.code y code 2 (some .int) ∈ tb
theorem g_max (hX : Cx p R s m args meth c D dA b0 n0 m0 nL nE mE cc own fr lo) {idx : Nat} (hw : Mw own idx Lib.Math.max.name Lib.Math.max.code) (hfr : 1 ≤ fr) (hlo : ws8 st + 13 ≤ lo) (hd : decode cc pc = .ok (.invokestatic idx, 3)) (hF : g33 a b T = some z) (k : T = some z → G p l e R s m args below meth c D dA b0 n0 m0 nL nE mE Q (pc + 3) lv ((0, max a b) :: st) σ) : G p l e R s m args below meth c D dA b0 n0 m0 nL nE mE Q pc lv ((0, b) :: (0, a) :: st) σ := by
  unfold g33 at hF
  split at hF
  · rename_i h
    have k := k hF
    obtain ⟨hx, hb, hml, hown, hts, ⟨hK, hAO⟩, hbs, hroom, hfl⟩ := hX
    refine ⟨k.1, fun h1 h2 H locs ls hP hS hl => va_mmax hx hb (by rw [hml]; exact hl.1.symm) hown (hts _ hw.1) (hts _ hw.2.1) (hts _ hw.2.2.1) (hts _ hw.2.2.2) (Nat.le_trans hfr hfl.1) (by rw [ws8_eq]; exact Nat.le_trans hlo hfl.2) ?_ ?_ hd ?_⟩
    · have := k.1.1; omega
    · have := k.1.2; omega
    · rw [iI_max h.1 h.2]
      exact k.2 h1 h2 H locs ls hP hS hl
  · cases hF
theorem g_min (hX : Cx p R s m args meth c D dA b0 n0 m0 nL nE mE cc own fr lo) {idx : Nat} (hw : Mw own idx Lib.Math.min.name Lib.Math.min.code) (hfr : 1 ≤ fr) (hlo : ws8 st + 13 ≤ lo) (hd : decode cc pc = .ok (.invokestatic idx, 3)) (hF : g33 a b T = some z) (k : T = some z → G p l e R s m args below meth c D dA b0 n0 m0 nL nE mE Q (pc + 3) lv ((0, min a b) :: st) σ) : G p l e R s m args below meth c D dA b0 n0 m0 nL nE mE Q pc lv ((0, b) :: (0, a) :: st) σ := by
  unfold g33 at hF
  split at hF
  · rename_i h
    have k := k hF
    obtain ⟨hx, hb, hml, hown, hts, ⟨hK, hAO⟩, hbs, hroom, hfl⟩ := hX
    refine ⟨k.1, fun h1 h2 H locs ls hP hS hl => va_mmin hx hb (by rw [hml]; exact hl.1.symm) hown (hts _ hw.1) (hts _ hw.2.1) (hts _ hw.2.2.1) (hts _ hw.2.2.2) (Nat.le_trans hfr hfl.1) (by rw [ws8_eq]; exact Nat.le_trans hlo hfl.2) ?_ ?_ hd ?_⟩
    · have := k.1.1; omega
    · have := k.1.2; omega
    · rw [iI_min h.1 h.2]
      exact k.2 h1 h2 H locs ls hP hS hl
  · cases hF
theorem g_objInit (hX : Cx p R s m args meth c D dA b0 n0 m0 nL nE mE cc own fr lo) {idx : Nat} (hw : Cond.methodLink own idx objectInit ∈ tb ∧ Cond.instanceMethod objectInit ∈ tb ∧ Cond.code objectInit ⟨#[0xb1]⟩ 1 none ∈ tb) (h0 : 0 ≤ a) (hfr : 1 ≤ fr) (hlo : ws8 st + 12 ≤ lo) (hd : decode cc pc = .ok (.invokespecial idx, 3)) (k : G p l e R s m args below meth c D dA b0 n0 m0 nL nE mE Q (pc + 3) lv st σ) : G p l e R s m args below meth c D dA b0 n0 m0 nL nE mE Q pc lv ((2, a) :: st) σ := by
  obtain ⟨hx, hb, hml, hown, hts, ⟨hK, hAO⟩, hbs, hroom, hfl⟩ := hX
  refine ⟨k.1, fun h1 h2 H locs ls hP hS hl => ?_⟩
  show W p l e R s m args below meth c H locs (σ.1 - n0) (σ.2.1 - m0) Q (F0 m pc ls (pV 2 a :: st.map pVs))
  rw [pV_ref h0]
  exact W.objInit hx hb hown (hts _ hw.1) (hts _ hw.2.1) (hts _ hw.2.2) rfl (by rw [hml]; exact hl.1) rfl hd (Nat.le_trans hfr hfl.1) (by show 2 * 0 + ((st.map pVs).map fun v => v.category).sum + 12 ≤ _; rw [ws8_eq]; omega) (k.2 h1 h2 H locs ls hP hS hl)
/-- a class's facts -/
def CFt (ci : Nat) (C : String) (T : u_T) (N : Nat) (ty : Nat → FieldType) : Prop := vwCl[ci]? = some (C, T, N) ∧ (∀ w ∈ u_ws C T N, w ∈ tb) ∧ (∀ k, k < N → parseFieldDescriptor (T k).2.2.1 = some (ty k)) ∧ (∀ a, a < N → ∀ b, b < N → a ≠ b → (T a).2.1 ≠ (T b).2.1) ∧ tyC ci = ty ∧ nF ci = N ∧ ci < 9
/-- a field's words -/
def FL (own : String) (idx ci k t : Nat) : Prop := ∃ (C : String) (T : u_T) (N : Nat) (ty : Nat → FieldType), CFt ci C T N ty ∧ k < N ∧ Cond.fieldLink own idx (T k).1 (T k).2.1 (T k).2.2.1 ∈ tb ∧ tagOf (ty k) = t
theorem g_get (hX : Cx p R s m args meth c D dA b0 n0 m0 nL nE mE cc own fr lo) {idx ci k t : Nat} {C K : Int} {f : Int → Option γ} (hw : FL own idx ci k t) (hC : C = ci + 1) (hK : K = k) (hd : decode cc pc = .ok (.getfield idx, 3)) (hF : (rd C σ a K).bind f = some z) (kk : ∀ v, f v = some z → G p l e R s m args below meth c D dA b0 n0 m0 nL nE mE Q (pc + 3) lv ((t, v) :: st) σ) : G p l e R s m args below meth c D dA b0 n0 m0 nL nE mE Q pc lv ((2, a) :: st) σ := by
  obtain ⟨v, hv, hF⟩ := bo_spec hF
  have kk := kk v hF
  unfold rd at hv
  split at hv
  · rename_i hkd
    cases hv
    obtain ⟨hx, hb, hml, hown, hts, ⟨hKK, hAO⟩, hbs, hroom, hfl⟩ := hX
    obtain ⟨Cn, Tn, N, ty, ⟨c1, c2, c3, c4, c5, c6, c7⟩, hkN, hlink, htag⟩ := hw
    refine ⟨kk.1, fun h1 h2 H locs ls hP hS hl => ?_⟩
    obtain ⟨a0, ab, hob⟩ := hP.obj hkd hC c7
    show W p l e R s m args below meth c H locs (σ.1 - n0) (σ.2.1 - m0) Q (F0 m pc ls (pV 2 a :: st.map pVs))
    rw [pV_ref a0]
    have hP1 : va_P D vwCl [(a.toNat, .inr (ci, (List.range N).map (fun k => pV (tagOf (ty k)) (gf σ a k))))] H := by
      intro i q hq
      have hi : i < 1 := (List.getElem?_eq_some_iff.mp hq).1
      rw [show i = 0 by omega] at hq
      cases hq
      refine ⟨_, c1, ?_⟩
      rw [c6] at hob
      refine hob.to (fun j hj => ?_)
      simp only [vp_V, c5]
      simp [hj]
    refine va_get hx hb hts c2 hown hKK hP1 0 rfl c1 k hkN (hts _ hlink) (fun _ h => h) (v := pV t (gf σ a K)) ?_ hd (kk.2 h1 h2 H locs ls hP hS hl)
    rw [hK, ← htag]
    simp [hkN]
  · cases hv
end GB
