theorem lw_good {w : Cond} (h : w ∈ tb) : w ∈ tb ∧ ((w.onTables && w.keeps) = true ∨ ∃ ty, w = .arrayClass ty) := ⟨h, good_of_word (List.mem_filter.mp h).2⟩
/-- the words of a call -/
def Vw (own : String) (idx : Nat) (C : String) (y : MethodName) (bytes : ByteArray) (maxL : Nat) (ret : Option FieldType) (n : Nat) : Prop := Cond.methodLink own idx y ∈ tb ∧ Cond.instanceMethod y ∈ tb ∧ Cond.selects C y y ∈ tb ∧ Cond.initialized C ∈ tb ∧ Cond.code y bytes maxL ret ∈ tb ∧ (y.cls = C ∧ y.cls ≠ "java/lang/invoke/MethodHandle" ∧ y.cls ≠ "java/lang/invoke/VarHandle" ∧ (parseMethodDescriptor y.desc).map (fun d => d.parameters.length) = some n)
def Sw (own : String) (idx : Nat) (y : MethodName) (bytes : ByteArray) (maxL : Nat) (ret : Option FieldType) (n : Nat) : Prop := Cond.methodLink own idx y ∈ tb ∧ Cond.static y ∈ tb ∧ Cond.initialized y.cls ∈ tb ∧ Cond.code y bytes maxL ret ∈ tb ∧ (y.cls ≠ "java/lang/invoke/MethodHandle" ∧ y.cls ≠ "java/lang/invoke/VarHandle" ∧ (parseMethodDescriptor y.desc).map (fun d => d.parameters.length) = some n)
def Iw (own : String) (idx : Nat) (y : MethodName) (bytes : ByteArray) (maxL : Nat) (n : Nat) : Prop := Cond.methodLink own idx y ∈ tb ∧ Cond.instanceMethod y ∈ tb ∧ Cond.initialized y.cls ∈ tb ∧ Cond.code y bytes maxL none ∈ tb ∧ y.name = "<init>" ∧ (y.cls ≠ "java/lang/invoke/MethodHandle" ∧ y.cls ≠ "java/lang/invoke/VarHandle" ∧ (parseMethodDescriptor y.desc).map (fun d => d.parameters.length) = some n)
section GE
variable {p : Program} {l : Launch} {e : Env} {R : Room} {s : State} {m : MethodId} {args : Array Value} {below : List Frame} {meth : Method} {c : Code} {D : va_G} {dA : Nat → ClassId} {b0 n0 m0 nL nE mE : Nat} {Q : State → Prop}
variable {cc : ByteArray} {own : String} {fr lo : Nat} {pc : Nat} {lv : List (Nat × Nat × Int)} {st : List (Nat × Int)} {σ : Hp}
variable {γ : Type} {z : γ} {a b : Int}
theorem va_pcBlind {av : List Value} {σ : Hp} : FrameBlind (va_Pc av (fun U => Pw D dA b0 σ U.heap ∧ KK D dA U)) := fun a U g mk q => by
  obtain ⟨q0, qP, qK⟩ := q
  exact ⟨q0, qP, KK.moved (u := U) (U := U.calling g mk a) (Vm.Alike.refl U.vm) qK⟩
theorem g_run {ρ : Option Value} {σ1 : Hp} {rest stk st' : List (Nat × Int)} {av : Array Value} (hle : σ.1 ≤ σ1.1 ∧ σ.2.1 ≤ σ1.2.1)
    (hrun : n0 ≤ σ.1 → m0 ≤ σ.2.1 → σ1.1 ≤ nE → σ1.2.1 ≤ mE → ∀ (H : Heap) (locs : List Loc) (ls : Array Slot), Pw D dA b0 σ H → lv_has ls nL (lvV lv) → va_Run p l e R s m args below meth c H locs (σ.1 - n0) (σ.2.1 - m0) (σ1.1 - σ.1) (σ1.2.1 - σ.2.1) (F0 m pc ls (stk.map pVs)) (rest.map pVs) (QcO D dA b0 ρ σ1 av) (fun q => b0 ≤ q))
    (hρ : ρ.toList ++ rest.map pVs = st'.map pVs) (kk : G p l e R s m args below meth c D dA b0 n0 m0 nL nE mE Q (pc + 3) lv st' σ1) : G p l e R s m args below meth c D dA b0 n0 m0 nL nE mE Q pc lv stk σ := by
  refine ⟨⟨Nat.le_trans hle.1 kk.1.1, Nat.le_trans hle.2 kk.1.2⟩, fun h1 h2 H locs ls hP hS hl => ?_⟩
  have hr := hrun h1 h2 kk.1.1 kk.1.2 H locs ls hP hl
  intro T hT X
  obtain ⟨v, st₀, t, T', L, h0, X', hL, e1, e2, ⟨⟨hv, hP1, hK1⟩, hz, hk⟩, stp⟩ := hr T hT X
  cases hv
  rw [h0] at hz hk
  have k2 := kk.2 (Nat.le_trans h1 hle.1) (Nat.le_trans h2 hle.2) T'.heap (locs ++ L) ls (by rw [e1]; exact hP1)
    ⟨Nat.le_trans hS.1 (by rw [e1]; exact hz), fun q q1 q2 => by rw [e1, hk q (Nat.lt_of_lt_of_le q1 hS.1) q2]; exact hS.2.1 q q1 q2, fun q hq => by
      rcases List.mem_append.mp hq with h | h
      · exact hS.2.2 q h
      · exact hL q h⟩ hl
  have ec : σ.1 - n0 + (σ1.1 - σ.1) = σ1.1 - n0 := by omega
  have es : σ.2.1 - m0 + (σ1.2.1 - σ.2.1) = σ1.2.1 - m0 := by omega
  rw [ec, es] at X'
  rw [← hρ] at k2
  obtain ⟨t2, a1, b1⟩ := k2 T' rfl X'
  exact ⟨t2, stp t2 a1, b1⟩
theorem iv_spec {K : Int} {X : Option γ} (h : iv K σ a X = some z) : kd σ a = K ∧ X = some z := by
  unfold iv at h
  split at h
  · exact ⟨by assumption, h⟩
  · cases h
theorem callV_run {idx ci : Nat} {C : String} {y : MethodName} {bytes : ByteArray} {maxL n fr1 lo1 : Nat} {ret : Option FieldType} {ρ : Option Value} {σ1 : Hp} {K : Int} {As rest stk : List (Nat × Int)} (hX : Cx p R s m args meth c D dA b0 n0 m0 nL nE mE cc own fr lo) (hw : Vw own idx C y bytes maxL ret n) (hcl : (vwCl[ci]?).map (fun r => r.1) = some C) (h9 : ci < 9) (hK : K = ci + 1) (hkd : kd σ b = K)
    (hM : Ct l D dA b0 y bytes maxL ret fr1 lo1 ((2, b) :: As) σ ρ σ1) (hroom : fr1 + 1 ≤ fr ∧ 8 + (maxL + 11) + lo1 ≤ lo) (hn : As.length = n) (hst : stk = As.reverse ++ (2, b) :: rest) (hcat : ws8 rest ≤ 8) (hd : decode cc pc = .ok (.invokevirtual idx, 3)) :
    n0 ≤ σ.1 → m0 ≤ σ.2.1 → σ1.1 ≤ nE → σ1.2.1 ≤ mE → ∀ (H : Heap) (locs : List Loc) (ls : Array Slot), Pw D dA b0 σ H → lv_has ls nL (lvV lv) → va_Run p l e R s m args below meth c H locs (σ.1 - n0) (σ.2.1 - m0) (σ1.1 - σ.1) (σ1.2.1 - σ.2.1) (F0 m pc ls (stk.map pVs)) (rest.map pVs) (QcO D dA b0 ρ σ1 (Value.ref b.toNat :: As.map pVs).toArray) (fun q => b0 ≤ q) := by
  intro h1 h2 h3 h4 H locs ls hP hl
  obtain ⟨hx, hb, hml, hown, hts, hKK, hbs, hrm, hfl⟩ := hX
  obtain ⟨w1, w2, w3, w4, w5, w6⟩ := hw
  obtain ⟨b1, b2, cell, g1, g2, g3, -⟩ := hP.obj hkd hK h9
  obtain ⟨⟨m1, m2⟩, hM⟩ := hM
  have hGood : GoodIn tb (wsV own idx C y (.code y bytes maxL ret :: tb)) := by
    intro w hw
    unfold wsV at hw
    simp only [List.cons_append, List.nil_append, List.mem_cons] at hw
    rcases hw with rfl | rfl | rfl | rfl | rfl | hw
    · exact lw_good w1
    · exact lw_good w2
    · exact lw_good w3
    · exact lw_good w4
    · exact lw_good w5
    · exact lw_good hw
  have hrec : s.vm.findClass C = some cell.cls := by
    obtain ⟨r, hr, hr2⟩ := Option.map_eq_some_iff.mp hcl
    rw [g2, ← hr2]
    exact (hKK.1.1 ci r hr).2.1
  refine va_runV (As := As.map pVs) (rest := rest.map pVs) (b := b.toNat) ⟨hx, hb, hml, hown, hts⟩ hM (cwV n hts hGood rfl rfl rfl w6 ⟨Nat.le_trans hroom.1 hfl.1, Nat.le_trans hroom.2 hfl.2⟩) ⟨va_pcBlind, ⟨cell, g1, by rw [g3]; rfl, hrec⟩, fun U hU hW => ⟨?_, by rw [hU]; exact hP, KK.moved hW.alike hKK⟩⟩ rfl (by rw [List.length_map]; exact hn) hl.1 ?_ (lv_room (by rw [ws8_eq]; exact hcat)) hd ⟨by omega, by omega⟩
  · show (Value.ref b.toNat :: As.map pVs).toArray = (pV 2 b :: As.map pVs).toArray
    rw [pV_ref b1]
  · rw [hst]
    show ((As.reverse ++ (2, b) :: rest).map pVs) = _
    rw [List.map_append, List.map_cons, List.map_reverse]
    show _ ++ pV 2 b :: _ = _
    rw [pV_ref b1]
theorem g_callV {idx ci t : Nat} {C : String} {y : MethodName} {bytes : ByteArray} {maxL n fr1 lo1 : Nat} {ret : Option FieldType} {K : Int} {rest stk : List (Nat × Int)} {fy : Option (Int × Hp)} {f : Int → Hp → Option γ} (As : List (Nat × Int)) (hX : Cx p R s m args meth c D dA b0 n0 m0 nL nE mE cc own fr lo) (hw : Vw own idx C y bytes maxL ret n) (hcl : (vwCl[ci]?).map (fun r => r.1) = some C) (h9 : ci < 9) (hK : K = ci + 1)
    (hT : ∀ r σ1, fy = some (r, σ1) → Ct l D dA b0 y bytes maxL ret fr1 lo1 ((2, b) :: As) σ (some (pV t r)) σ1) (hroom : fr1 + 1 ≤ fr ∧ 8 + (maxL + 11) + lo1 ≤ lo) (hn : As.length = n) (hst : stk = As.reverse ++ (2, b) :: rest) (hcat : ws8 rest ≤ 8) (hd : decode cc pc = .ok (.invokevirtual idx, 3))
    (hF : bd (iv K σ b fy) f = some z) (kk : ∀ r σ1, f r σ1 = some z → G p l e R s m args below meth c D dA b0 n0 m0 nL nE mE Q (pc + 3) lv ((t, r) :: rest) σ1) : G p l e R s m args below meth c D dA b0 n0 m0 nL nE mE Q pc lv stk σ := by
  obtain ⟨r, σ1, hy, hF⟩ := bd_spec hF
  obtain ⟨hkd, hy⟩ := iv_spec hy
  have hM := hT r σ1 hy
  exact g_run hM.1 (callV_run hX hw hcl h9 hK hkd hM hroom hn hst hcat hd) rfl (kk r σ1 hF)
theorem g_callVv {idx ci : Nat} {C : String} {y : MethodName} {bytes : ByteArray} {maxL n fr1 lo1 : Nat} {ret : Option FieldType} {K : Int} {rest stk : List (Nat × Int)} {fy : Option (Int × Hp)} {f : Int → Hp → Option γ} (As : List (Nat × Int)) (hX : Cx p R s m args meth c D dA b0 n0 m0 nL nE mE cc own fr lo) (hw : Vw own idx C y bytes maxL ret n) (hcl : (vwCl[ci]?).map (fun r => r.1) = some C) (h9 : ci < 9) (hK : K = ci + 1)
    (hT : ∀ r σ1, fy = some (r, σ1) → Ct l D dA b0 y bytes maxL ret fr1 lo1 ((2, b) :: As) σ none σ1) (hroom : fr1 + 1 ≤ fr ∧ 8 + (maxL + 11) + lo1 ≤ lo) (hn : As.length = n) (hst : stk = As.reverse ++ (2, b) :: rest) (hcat : ws8 rest ≤ 8) (hd : decode cc pc = .ok (.invokevirtual idx, 3))
    (hF : bd (iv K σ b fy) f = some z) (kk : ∀ r σ1, f r σ1 = some z → G p l e R s m args below meth c D dA b0 n0 m0 nL nE mE Q (pc + 3) lv rest σ1) : G p l e R s m args below meth c D dA b0 n0 m0 nL nE mE Q pc lv stk σ := by
  obtain ⟨r, σ1, hy, hF⟩ := bd_spec hF
  obtain ⟨hkd, hy⟩ := iv_spec hy
  have hM := hT r σ1 hy
  exact g_run hM.1 (callV_run hX hw hcl h9 hK hkd hM hroom hn hst hcat hd) rfl (kk r σ1 hF)
theorem callS_run {idx : Nat} {y : MethodName} {bytes : ByteArray} {maxL n fr1 lo1 : Nat} {ret : Option FieldType} {ρ : Option Value} {σ1 : Hp} {As rest stk : List (Nat × Int)} (hX : Cx p R s m args meth c D dA b0 n0 m0 nL nE mE cc own fr lo) (hw : Sw own idx y bytes maxL ret n)
    (hM : Ct l D dA b0 y bytes maxL ret fr1 lo1 As σ ρ σ1) (hroom : fr1 + 1 ≤ fr ∧ 8 + (maxL + 11) + lo1 ≤ lo) (hn : As.length = n) (hst : stk = As.reverse ++ rest) (hcat : ws8 rest ≤ 8) (hd : decode cc pc = .ok (.invokestatic idx, 3)) :
    n0 ≤ σ.1 → m0 ≤ σ.2.1 → σ1.1 ≤ nE → σ1.2.1 ≤ mE → ∀ (H : Heap) (locs : List Loc) (ls : Array Slot), Pw D dA b0 σ H → lv_has ls nL (lvV lv) → va_Run p l e R s m args below meth c H locs (σ.1 - n0) (σ.2.1 - m0) (σ1.1 - σ.1) (σ1.2.1 - σ.2.1) (F0 m pc ls (stk.map pVs)) (rest.map pVs) (QcO D dA b0 ρ σ1 (As.map pVs).toArray) (fun q => b0 ≤ q) := by
  intro h1 h2 h3 h4 H locs ls hP hl
  obtain ⟨hx, hb, hml, hown, hts, hKK, hbs, hrm, hfl⟩ := hX
  obtain ⟨w1, w2, w3, w4, w6⟩ := hw
  obtain ⟨⟨m1, m2⟩, hM⟩ := hM
  have hGood : GoodIn tb (va_wsS own idx y (.code y bytes maxL ret :: tb)) := by
    intro w hw
    unfold va_wsS at hw
    simp only [List.cons_append, List.nil_append, List.mem_cons] at hw
    rcases hw with rfl | rfl | rfl | rfl | hw
    · exact lw_good w1
    · exact lw_good w2
    · exact lw_good w3
    · exact lw_good w4
    · exact lw_good hw
  refine va_runS (As := As.map pVs) (rest := rest.map pVs) ⟨hx, hb, hml, hown, hts⟩ hM (va_cwS n hts hGood rfl rfl rfl w6 ⟨Nat.le_trans hroom.1 hfl.1, Nat.le_trans hroom.2 hfl.2⟩) ⟨va_pcBlind, fun U hU hW => ⟨rfl, by rw [hU]; exact hP, KK.moved hW.alike hKK⟩⟩ rfl (by rw [List.length_map]; exact hn) hl.1 ?_ (lv_room (by rw [ws8_eq]; exact hcat)) hd ⟨by omega, by omega⟩
  rw [hst]
  show ((As.reverse ++ rest).map pVs) = _
  rw [List.map_append, List.map_reverse]
theorem g_callS {idx t : Nat} {y : MethodName} {bytes : ByteArray} {maxL n fr1 lo1 : Nat} {ret : Option FieldType} {rest stk : List (Nat × Int)} {fy : Option (Int × Hp)} {f : Int → Hp → Option γ} (As : List (Nat × Int)) (hX : Cx p R s m args meth c D dA b0 n0 m0 nL nE mE cc own fr lo) (hw : Sw own idx y bytes maxL ret n)
    (hT : ∀ r σ1, fy = some (r, σ1) → Ct l D dA b0 y bytes maxL ret fr1 lo1 As σ (some (pV t r)) σ1) (hroom : fr1 + 1 ≤ fr ∧ 8 + (maxL + 11) + lo1 ≤ lo) (hn : As.length = n) (hst : stk = As.reverse ++ rest) (hcat : ws8 rest ≤ 8) (hd : decode cc pc = .ok (.invokestatic idx, 3))
    (hF : bd fy f = some z) (kk : ∀ r σ1, f r σ1 = some z → G p l e R s m args below meth c D dA b0 n0 m0 nL nE mE Q (pc + 3) lv ((t, r) :: rest) σ1) : G p l e R s m args below meth c D dA b0 n0 m0 nL nE mE Q pc lv stk σ := by
  obtain ⟨r, σ1, hy, hF⟩ := bd_spec hF
  have hM := hT r σ1 hy
  exact g_run hM.1 (callS_run hX hw hM hroom hn hst hcat hd) rfl (kk r σ1 hF)
theorem g_callSv {idx : Nat} {y : MethodName} {bytes : ByteArray} {maxL n fr1 lo1 : Nat} {ret : Option FieldType} {rest stk : List (Nat × Int)} {fy : Option (Int × Hp)} {f : Int → Hp → Option γ} (As : List (Nat × Int)) (hX : Cx p R s m args meth c D dA b0 n0 m0 nL nE mE cc own fr lo) (hw : Sw own idx y bytes maxL ret n)
    (hT : ∀ r σ1, fy = some (r, σ1) → Ct l D dA b0 y bytes maxL ret fr1 lo1 As σ none σ1) (hroom : fr1 + 1 ≤ fr ∧ 8 + (maxL + 11) + lo1 ≤ lo) (hn : As.length = n) (hst : stk = As.reverse ++ rest) (hcat : ws8 rest ≤ 8) (hd : decode cc pc = .ok (.invokestatic idx, 3))
    (hF : bd fy f = some z) (kk : ∀ r σ1, f r σ1 = some z → G p l e R s m args below meth c D dA b0 n0 m0 nL nE mE Q (pc + 3) lv rest σ1) : G p l e R s m args below meth c D dA b0 n0 m0 nL nE mE Q pc lv stk σ := by
  obtain ⟨r, σ1, hy, hF⟩ := bd_spec hF
  have hM := hT r σ1 hy
  exact g_run hM.1 (callS_run hX hw hM hroom hn hst hcat hd) rfl (kk r σ1 hF)
theorem g_callI {idx : Nat} {y : MethodName} {bytes : ByteArray} {maxL n fr1 lo1 : Nat} {K : Int} {rest stk : List (Nat × Int)} {fy : Option (Int × Hp)} {f : Int → Hp → Option γ} (As : List (Nat × Int)) (hX : Cx p R s m args meth c D dA b0 n0 m0 nL nE mE cc own fr lo) (hw : Iw own idx y bytes maxL n) (h0 : 0 ≤ b)
    (hT : ∀ r σ1, fy = some (r, σ1) → Ct l D dA b0 y bytes maxL none fr1 lo1 ((2, b) :: As) σ none σ1) (hroom : fr1 + 1 ≤ fr ∧ 8 + (maxL + 11) + lo1 ≤ lo) (hn : As.length = n) (hst : stk = As.reverse ++ (2, b) :: rest) (hcat : ws8 rest ≤ 8) (hd : decode cc pc = .ok (.invokespecial idx, 3))
    (hF : bd fy f = some z) (kk : ∀ r σ1, f r σ1 = some z → G p l e R s m args below meth c D dA b0 n0 m0 nL nE mE Q (pc + 3) lv rest σ1) : G p l e R s m args below meth c D dA b0 n0 m0 nL nE mE Q pc lv stk σ := by
  obtain ⟨r, σ1, hy, hF⟩ := bd_spec hF
  have hM := hT r σ1 hy
  refine g_run (rest := rest) (ρ := none) (av := (Value.ref b.toNat :: As.map pVs).toArray) hM.1 ?_ rfl (kk r σ1 hF)
  intro h1 h2 h3 h4 H locs ls hP hl
  obtain ⟨hx, hb, hml, hown, hts, hKK, hbs, hrm, hfl⟩ := hX
  obtain ⟨w1, w2, w3, w4, w5, w6⟩ := hw
  obtain ⟨⟨m1, m2⟩, hM⟩ := hM
  have hGood : GoodIn tb (.code y bytes maxL none :: tb) := by
    intro w hw
    rcases List.mem_cons.mp hw with rfl | hw
    · exact lw_good w4
    · exact lw_good hw
  refine va_runI (As := As.map pVs) (rest := rest.map pVs) (b := b.toNat) ⟨hx, hb, hml, hown, hts⟩ hM (cwI n hts hGood rfl rfl rfl (hts _ w3) (hts _ w1) (hts _ w2) w5 w6 ⟨Nat.le_trans hroom.1 hfl.1, Nat.le_trans hroom.2 hfl.2⟩) ⟨va_pcBlind, fun U hU hW => ⟨?_, by rw [hU]; exact hP, KK.moved hW.alike hKK⟩⟩ rfl (by rw [List.length_map]; exact hn) hl.1 ?_ (lv_room (by rw [ws8_eq]; exact hcat)) hd ⟨by omega, by omega⟩
  · show (Value.ref b.toNat :: As.map pVs).toArray = (pV 2 b :: As.map pVs).toArray
    rw [pV_ref h0]
  · rw [hst]
    show ((As.reverse ++ (2, b) :: rest).map pVs) = _
    rw [List.map_append, List.map_cons, List.map_reverse]
    show _ ++ pV 2 b :: _ = _
    rw [pV_ref h0]
/-- the locals at a method's entry -/
def avL : Nat → List (Nat × Int) → List (Nat × Nat × Int)
  | _, [] => []
  | i, q :: r => (i, q.1, q.2) :: avL (i + (if q.1 = 1 then 2 else 1)) r
theorem avL_V : ∀ (av : List (Nat × Int)) (i : Nat), lv_args i (av.map pVs) = lvV (avL i av)
  | [], _ => rfl
  | q :: r, i => by
    show (i, pV q.1 q.2) :: lv_args (if (pV q.1 q.2).category = 2 then i + 2 else i + 1) (r.map pVs) = (i, pV q.1 q.2) :: lvV (avL (i + (if q.1 = 1 then 2 else 1)) r)
    rw [pV_cat]
    by_cases h : q.1 = 1
    · rw [if_pos h, if_pos rfl, avL_V r]
    · rw [if_neg h, if_neg (by decide), avL_V r]
theorem lg_sl_len : ∀ (vs : List Value), (lg_sl vs).length = (vs.map fun v => v.category).sum
  | [] => rfl
  | v :: r => by
    have h : lg_sl (v :: r) = (if v.category = 2 then [Slot.val v, Slot.second] else [Slot.val v]) ++ lg_sl r := by simp [lg_sl]
    rw [h, List.length_append, lg_sl_len r, List.map_cons, List.sum_cons]
    rcases lv_cat v with hc | hc <;> simp [hc]
/-- a method's contract out of the walk of its body -/
theorem Ct.of {y : MethodName} {bytes : ByteArray} {maxL fr lo : Nat} {ret : Option FieldType} {av : List (Nat × Int)} {lv0 : List (Nat × Nat × Int)} {ρ : Option Value} {σ σE : Hp} (hy : plainName y.cls = true) (own : String) (hown : y.cls = own) (hlen : ws8 av ≤ maxL) (hlv : avL 0 av = lv0)
    (body : ∀ (p : Program) (e : Env) (R : Room) (s : State) (m : MethodId) (args : Array Value) (below : List Frame) (meth : Method) (c : Code), Cx p R s m args meth c D dA b0 σ.1 σ.2.1 maxL σE.1 σE.2.1 bytes own fr lo → Rx meth ret → meth.name = y.name → G p l e R s m args below meth c D dA b0 σ.1 σ.2.1 maxL σE.1 σE.2.1 (Qm D dA b0 σ.1 σ.2.1 below args s ρ σE) 0 lv0 [] σ)
    (hne : σ.1 ≤ σE.1 ∧ σ.2.1 ≤ σE.2.1) : Ct l D dA b0 y bytes maxL ret fr lo av σ ρ σE := by
  refine ⟨hne, ?_⟩
  refine Met.ofW (cc := bytes) (maxL := maxL) (ret := ret) hy rfl ?_
  intro p e s m args below meth c s₁ B hml hv
  obtain ⟨rfl, hP, hK⟩ := hv
  have hts := atoms_spec (ws := .code y bytes maxL ret :: tb) B.pre
  have hl := lv_entry (av.map pVs) (n := maxL) (by rw [lg_sl_len, ws8_eq]; exact hlen)
  rw [lg_entry_eq]
  have hnm := (name_of_methodNamed B.named B.method).1
  have hg := body p e (headSpec (.code y bytes maxL ret :: tb) { frames := fr, cells := σE.1 - σ.1, slots := σE.2.1 - σ.2.1, locals := lo }).room s m _ below meth c
    ⟨B.exec, B.bytes, hml, by rw [← hown]; exact findClass_of_methodNamed B.named, fun w hw => hts w (List.mem_cons_of_mem _ hw), hK, by rw [hP.1]; exact hP.2.1, ⟨Nat.le_refl _, Nat.le_refl _⟩, ⟨Nat.le_refl _, Nat.le_refl _⟩⟩ ⟨B.returns, B.notSynchronized⟩ hnm
  rw [avL_V, hlv] at hl
  have k := hg.2 (Nat.le_refl _) (Nat.le_refl _) s.heap [] _ hP va_S.rf hl
  rw [Nat.sub_self, Nat.sub_self] at k
  exact k
end GE
