/-! the judgement over the pure heap -/
def tysA (dA : Nat → ClassId) : List (ClassId × FieldType) := [(dA 0, .int), (dA 1, .long), (dA 2, .boolean), (dA 3, .object "LakeChain$Lake"), (dA 4, .object "LakeChain$Node")]
/-- what the tables say, at a state -/
def KK (D : va_G) (dA : Nat → ClassId) (U : State) : Prop := va_K D vwCl (tysA dA) U ∧ va_AO "LakeChain$Lake" U ∧ va_AO "LakeChain$Node" U
theorem KK.moved {D : va_G} {dA : Nat → ClassId} {u U : State} (hvm : u.vm.Alike U.vm) (h : KK D dA u) : KK D dA U := ⟨va_K.moved hvm h.1, va_AO.moved hvm h.2.1, va_AO.moved hvm h.2.2⟩
abbrev lvV (lv : List (Nat × Nat × Int)) : List (Nat × Value) := lv.map fun q => (q.1, pV q.2.1 q.2.2)
def G (p : Program) (l : Launch) (e : Env) (R : Room) (s : State) (m : MethodId) (args : Array Value) (below : List Frame) (meth : Method) (c : Code) (D : va_G) (dA : Nat → ClassId) (b0 n0 m0 nL nE mE : Nat) (Q : State → Prop) (pc : Nat) (lv : List (Nat × Nat × Int)) (st : List (Nat × Int)) (σ : Hp) : Prop :=
  (σ.1 ≤ nE ∧ σ.2.1 ≤ mE) ∧ (n0 ≤ σ.1 → m0 ≤ σ.2.1 → ∀ (H : Heap) (locs : List Loc) (ls : Array Slot), Pw D dA b0 σ H → va_S (fun q => b0 ≤ q) s.heap H locs → lv_has ls nL (lvV lv) → W p l e R s m args below meth c H locs (σ.1 - n0) (σ.2.1 - m0) Q (F0 m pc ls (st.map pVs)))
/-- what holds all along a method's body -/
def Cx (p : Program) (R : Room) (s : State) (m : MethodId) (args : Array Value) (meth : Method) (c : Code) (D : va_G) (dA : Nat → ClassId) (b0 n0 m0 nL nE mE : Nat) (cc : ByteArray) (own : String) (fr lo : Nat) : Prop :=
  p.tables.exec = Jvm.exec ∧ c.code = cc ∧ c.maxLocals = nL ∧ s.vm.findClass own = some m.cls ∧ (∀ w ∈ tb, w.before args s = true) ∧ KK D dA s ∧ b0 ≤ s.heap.size ∧ (nE - n0 ≤ R.cells ∧ mE - m0 ≤ R.slots) ∧ (fr ≤ R.frames ∧ lo ≤ R.locals)
section GG
variable {p : Program} {l : Launch} {e : Env} {R : Room} {s : State} {m : MethodId} {args : Array Value} {below : List Frame} {meth : Method} {c : Code} {D : va_G} {dA : Nat → ClassId} {b0 n0 m0 nL nE mE : Nat} {Q : State → Prop}
variable {cc : ByteArray} {own : String} {fr lo : Nat} {pc : Nat} {lv : List (Nat × Nat × Int)} {st : List (Nat × Int)} {σ : Hp}
theorem g_iconst (hX : Cx p R s m args meth c D dA b0 n0 m0 nL nE mE cc own fr lo) {n : Int} (hd : decode cc pc = .ok (.iconst n, 1)) (k : G p l e R s m args below meth c D dA b0 n0 m0 nL nE mE Q (pc + 1) lv ((0, n) :: st) σ) : G p l e R s m args below meth c D dA b0 n0 m0 nL nE mE Q pc lv st σ :=
  ⟨k.1, fun h1 h2 H locs ls hP hS hl => lv_iconst hX.1 hX.2.1 hd rfl (k.2 h1 h2 H locs ls hP hS hl)⟩
theorem g_bipush (hX : Cx p R s m args meth c D dA b0 n0 m0 nL nE mE cc own fr lo) {n : Int} (hd : decode cc pc = .ok (.bipush n, 2)) (hn : (Int8.ofInt n).toInt32 = iI n) (k : G p l e R s m args below meth c D dA b0 n0 m0 nL nE mE Q (pc + 2) lv ((0, n) :: st) σ) : G p l e R s m args below meth c D dA b0 n0 m0 nL nE mE Q pc lv st σ :=
  ⟨k.1, fun h1 h2 H locs ls hP hS hl => lv_bipush hX.1 hX.2.1 hd hn (k.2 h1 h2 H locs ls hP hS hl)⟩
theorem g_sipush (hX : Cx p R s m args meth c D dA b0 n0 m0 nL nE mE cc own fr lo) {n : Int} (hd : decode cc pc = .ok (.sipush n, 3)) (hn : (Int16.ofInt n).toInt32 = iI n) (k : G p l e R s m args below meth c D dA b0 n0 m0 nL nE mE Q (pc + 3) lv ((0, n) :: st) σ) : G p l e R s m args below meth c D dA b0 n0 m0 nL nE mE Q pc lv st σ :=
  ⟨k.1, fun h1 h2 H locs ls hP hS hl => lv_sipush hX.1 hX.2.1 hd hn (k.2 h1 h2 H locs ls hP hS hl)⟩
theorem g_lconst (hX : Cx p R s m args meth c D dA b0 n0 m0 nL nE mE cc own fr lo) {n : Fin 2} {z : Int} (hd : decode cc pc = .ok (.lconst n, 1)) (hn : Int64.ofNat (n : Nat) = lI z) (k : G p l e R s m args below meth c D dA b0 n0 m0 nL nE mE Q (pc + 1) lv ((1, z) :: st) σ) : G p l e R s m args below meth c D dA b0 n0 m0 nL nE mE Q pc lv st σ :=
  ⟨k.1, fun h1 h2 H locs ls hP hS hl => lv_lconst hX.1 hX.2.1 hd hn (k.2 h1 h2 H locs ls hP hS hl)⟩
theorem g_null (hX : Cx p R s m args meth c D dA b0 n0 m0 nL nE mE cc own fr lo) (hd : decode cc pc = .ok (.aconst_null, 1)) (k : G p l e R s m args below meth c D dA b0 n0 m0 nL nE mE Q (pc + 1) lv ((2, -1) :: st) σ) : G p l e R s m args below meth c D dA b0 n0 m0 nL nE mE Q pc lv st σ :=
  ⟨k.1, fun h1 h2 H locs ls hP hS hl => lv_null hX.1 hX.2.1 hd (k.2 h1 h2 H locs ls hP hS hl)⟩
theorem g_ldc (hX : Cx p R s m args meth c D dA b0 n0 m0 nL nE mE cc own fr lo) {idx : Nat} {v : Int32} {z : Int} (hw : Cond.constant own idx v ∈ tb) (hz : v = iI z) (hd : decode cc pc = .ok (.ldc idx, 2)) (k : G p l e R s m args below meth c D dA b0 n0 m0 nL nE mE Q (pc + 2) lv ((0, z) :: st) σ) : G p l e R s m args below meth c D dA b0 n0 m0 nL nE mE Q pc lv st σ :=
  ⟨k.1, fun h1 h2 H locs ls hP hS hl => lv_ldc hX.1 hX.2.1 hX.2.2.2.1 (hX.2.2.2.2.1 _ hw) hd (by subst hz; exact k.2 h1 h2 H locs ls hP hS hl)⟩
theorem g_ldc2 (hX : Cx p R s m args meth c D dA b0 n0 m0 nL nE mE cc own fr lo) {idx : Nat} {v : Int64} {z : Int} (hw : Cond.constantLong own idx v ∈ tb) (hz : v = lI z) (hd : decode cc pc = .ok (.ldc2_w idx, 3)) (k : G p l e R s m args below meth c D dA b0 n0 m0 nL nE mE Q (pc + 3) lv ((1, z) :: st) σ) : G p l e R s m args below meth c D dA b0 n0 m0 nL nE mE Q pc lv st σ :=
  ⟨k.1, fun h1 h2 H locs ls hP hS hl => lv_ldc2 hX.1 hX.2.1 hX.2.2.2.1 (hX.2.2.2.2.1 _ hw) hd (by subst hz; exact k.2 h1 h2 H locs ls hP hS hl)⟩
theorem lvV_at {ls : Array Slot} {j i t : Nat} {z : Int} (hl : lv_has ls nL (lvV lv)) (hk : lv[j]? = some (i, t, z)) : ls[i]? = some (.val (pV t z)) := lv_at hl j (by rw [List.getElem?_map, hk]; rfl)
theorem g_iload_n (hX : Cx p R s m args meth c D dA b0 n0 m0 nL nE mE cc own fr lo) {k4 : Fin 4} {i : Nat} {z : Int} (j : Nat) (hd : decode cc pc = .ok (.iload_n k4, 1)) (hi : (k4 : Nat) = i) (hj : lv[j]? = some (i, 0, z)) (k : G p l e R s m args below meth c D dA b0 n0 m0 nL nE mE Q (pc + 1) lv ((0, z) :: st) σ) : G p l e R s m args below meth c D dA b0 n0 m0 nL nE mE Q pc lv st σ :=
  ⟨k.1, fun h1 h2 H locs ls hP hS hl => lv_iload_n hX.1 hX.2.1 hd hi (lvV_at hl hj) (k.2 h1 h2 H locs ls hP hS hl)⟩
theorem g_iload (hX : Cx p R s m args meth c D dA b0 n0 m0 nL nE mE cc own fr lo) {i : Nat} {z : Int} (j : Nat) (hd : decode cc pc = .ok (.iload i, 2)) (hj : lv[j]? = some (i, 0, z)) (k : G p l e R s m args below meth c D dA b0 n0 m0 nL nE mE Q (pc + 2) lv ((0, z) :: st) σ) : G p l e R s m args below meth c D dA b0 n0 m0 nL nE mE Q pc lv st σ :=
  ⟨k.1, fun h1 h2 H locs ls hP hS hl => lv_iload hX.1 hX.2.1 hd (lvV_at hl hj) (k.2 h1 h2 H locs ls hP hS hl)⟩
theorem g_lload_n (hX : Cx p R s m args meth c D dA b0 n0 m0 nL nE mE cc own fr lo) {k4 : Fin 4} {i : Nat} {z : Int} (j : Nat) (hd : decode cc pc = .ok (.lload_n k4, 1)) (hi : (k4 : Nat) = i) (hj : lv[j]? = some (i, 1, z)) (k : G p l e R s m args below meth c D dA b0 n0 m0 nL nE mE Q (pc + 1) lv ((1, z) :: st) σ) : G p l e R s m args below meth c D dA b0 n0 m0 nL nE mE Q pc lv st σ :=
  ⟨k.1, fun h1 h2 H locs ls hP hS hl => lv_lload_n hX.1 hX.2.1 hd hi (lvV_at hl hj) (k.2 h1 h2 H locs ls hP hS hl)⟩
theorem g_lload (hX : Cx p R s m args meth c D dA b0 n0 m0 nL nE mE cc own fr lo) {i : Nat} {z : Int} (j : Nat) (hd : decode cc pc = .ok (.lload i, 2)) (hj : lv[j]? = some (i, 1, z)) (k : G p l e R s m args below meth c D dA b0 n0 m0 nL nE mE Q (pc + 2) lv ((1, z) :: st) σ) : G p l e R s m args below meth c D dA b0 n0 m0 nL nE mE Q pc lv st σ :=
  ⟨k.1, fun h1 h2 H locs ls hP hS hl => lv_lload hX.1 hX.2.1 hd (lvV_at hl hj) (k.2 h1 h2 H locs ls hP hS hl)⟩
theorem g_aload_n (hX : Cx p R s m args meth c D dA b0 n0 m0 nL nE mE cc own fr lo) {k4 : Fin 4} {i : Nat} {z : Int} (j : Nat) (hd : decode cc pc = .ok (.aload_n k4, 1)) (hi : (k4 : Nat) = i) (hj : lv[j]? = some (i, 2, z)) (k : G p l e R s m args below meth c D dA b0 n0 m0 nL nE mE Q (pc + 1) lv ((2, z) :: st) σ) : G p l e R s m args below meth c D dA b0 n0 m0 nL nE mE Q pc lv st σ :=
  ⟨k.1, fun h1 h2 H locs ls hP hS hl => by
    have h := lvV_at hl hj
    have kk : W p l e R s m args below meth c H locs (σ.1 - n0) (σ.2.1 - m0) Q (F0 m (pc + 1) ls (pV 2 z :: st.map pVs)) := k.2 h1 h2 H locs ls hP hS hl
    by_cases hz : z < 0
    · rw [pV_null hz] at h kk
      exact lv_aload_nN hX.1 hX.2.1 hd hi h kk
    · rw [pV_ref (by omega)] at h kk
      exact lv_aload_n hX.1 hX.2.1 hd hi h kk⟩
theorem g_aload (hX : Cx p R s m args meth c D dA b0 n0 m0 nL nE mE cc own fr lo) {i : Nat} {z : Int} (j : Nat) (hd : decode cc pc = .ok (.aload i, 2)) (hj : lv[j]? = some (i, 2, z)) (k : G p l e R s m args below meth c D dA b0 n0 m0 nL nE mE Q (pc + 2) lv ((2, z) :: st) σ) : G p l e R s m args below meth c D dA b0 n0 m0 nL nE mE Q pc lv st σ :=
  ⟨k.1, fun h1 h2 H locs ls hP hS hl => by
    have h := lvV_at hl hj
    have kk : W p l e R s m args below meth c H locs (σ.1 - n0) (σ.2.1 - m0) Q (F0 m (pc + 2) ls (pV 2 z :: st.map pVs)) := k.2 h1 h2 H locs ls hP hS hl
    by_cases hz : z < 0
    · rw [pV_null hz] at h kk
      exact lv_aloadN hX.1 hX.2.1 hd h kk
    · rw [pV_ref (by omega)] at h kk
      exact lv_aload hX.1 hX.2.1 hd h kk⟩
/-- the locals behind a store of one word, of two words -/
def st1 (i t : Nat) (z : Int) (lv : List (Nat × Nat × Int)) : List (Nat × Nat × Int) := (i, t, z) :: lv.filter (fun q => !(q.1 == i) && !(q.1 + 1 == i && q.2.1 == 1))
def st2 (i : Nat) (z : Int) (lv : List (Nat × Nat × Int)) : List (Nat × Nat × Int) := (i, 1, z) :: lv.filter (fun q => !(q.1 == i) && (!(q.1 == i + 1) && !(q.1 + 1 == i && q.2.1 == 1)))
theorem cat_two (t : Nat) (z : Int) : ((pV t z).category == 2) = (t == 1) := by
  rw [pV_cat]
  by_cases h : t = 1
  · subst h; rfl
  · rw [if_neg h, show (t == 1) = false from beq_eq_false_iff_ne.mpr h]; rfl
theorem st1_V (i t : Nat) (z : Int) (v : Value) (hv : pV t z = v) (lv : List (Nat × Nat × Int)) : (i, v) :: (lvV lv).filter (fun q => !(q.1 == i) && !(q.1 + 1 == i && q.2.category == 2)) = lvV (st1 i t z lv) := by
  subst hv
  show _ = (i, pV t z) :: lvV _
  rw [List.filter_map]
  congr 3
  funext q
  simp only [Function.comp, cat_two]
theorem st2_V (i : Nat) (z : Int) (lv : List (Nat × Nat × Int)) : (i, Value.long (lI z)) :: (lvV lv).filter (fun q => !(q.1 == i) && (!(q.1 == i + 1) && !(q.1 + 1 == i && q.2.category == 2))) = lvV (st2 i z lv) := by
  show _ = (i, Value.long (lI z)) :: lvV _
  rw [List.filter_map]
  congr 3
  funext q
  simp only [Function.comp, cat_two]
theorem g_istore_n (hX : Cx p R s m args meth c D dA b0 n0 m0 nL nE mE cc own fr lo) {k4 : Fin 4} {i : Nat} {z : Int} {lv' : List (Nat × Nat × Int)} (hd : decode cc pc = .ok (.istore_n k4, 1)) (hi : (k4 : Nat) = i) (hn : i < nL) (hl' : st1 i 0 z lv = lv') (k : G p l e R s m args below meth c D dA b0 n0 m0 nL nE mE Q (pc + 1) lv' st σ) : G p l e R s m args below meth c D dA b0 n0 m0 nL nE mE Q pc lv ((0, z) :: st) σ :=
  ⟨k.1, fun h1 h2 H locs ls hP hS hl => lv_istore_n hX.1 hX.2.1 hd hi hl hn ((st1_V i 0 z _ rfl lv).trans (by rw [hl'])) (fun ls' hl2 => k.2 h1 h2 H locs ls' hP hS hl2)⟩
theorem g_istore (hX : Cx p R s m args meth c D dA b0 n0 m0 nL nE mE cc own fr lo) {i : Nat} {z : Int} {lv' : List (Nat × Nat × Int)} (hd : decode cc pc = .ok (.istore i, 2)) (hn : i < nL) (hl' : st1 i 0 z lv = lv') (k : G p l e R s m args below meth c D dA b0 n0 m0 nL nE mE Q (pc + 2) lv' st σ) : G p l e R s m args below meth c D dA b0 n0 m0 nL nE mE Q pc lv ((0, z) :: st) σ :=
  ⟨k.1, fun h1 h2 H locs ls hP hS hl => lv_istore hX.1 hX.2.1 hd hl hn ((st1_V i 0 z _ rfl lv).trans (by rw [hl'])) (fun ls' hl2 => k.2 h1 h2 H locs ls' hP hS hl2)⟩
theorem g_lstore_n (hX : Cx p R s m args meth c D dA b0 n0 m0 nL nE mE cc own fr lo) {k4 : Fin 4} {i : Nat} {z : Int} {lv' : List (Nat × Nat × Int)} (hd : decode cc pc = .ok (.lstore_n k4, 1)) (hi : (k4 : Nat) = i) (hn : i + 1 < nL) (hl' : st2 i z lv = lv') (k : G p l e R s m args below meth c D dA b0 n0 m0 nL nE mE Q (pc + 1) lv' st σ) : G p l e R s m args below meth c D dA b0 n0 m0 nL nE mE Q pc lv ((1, z) :: st) σ :=
  ⟨k.1, fun h1 h2 H locs ls hP hS hl => lv_lstore_n hX.1 hX.2.1 hd hi hl hn ((st2_V i z lv).trans (by rw [hl'])) (fun ls' hl2 => k.2 h1 h2 H locs ls' hP hS hl2)⟩
theorem g_lstore (hX : Cx p R s m args meth c D dA b0 n0 m0 nL nE mE cc own fr lo) {i : Nat} {z : Int} {lv' : List (Nat × Nat × Int)} (hd : decode cc pc = .ok (.lstore i, 2)) (hn : i + 1 < nL) (hl' : st2 i z lv = lv') (k : G p l e R s m args below meth c D dA b0 n0 m0 nL nE mE Q (pc + 2) lv' st σ) : G p l e R s m args below meth c D dA b0 n0 m0 nL nE mE Q pc lv ((1, z) :: st) σ :=
  ⟨k.1, fun h1 h2 H locs ls hP hS hl => lv_lstore hX.1 hX.2.1 hd hl hn ((st2_V i z lv).trans (by rw [hl'])) (fun ls' hl2 => k.2 h1 h2 H locs ls' hP hS hl2)⟩
theorem g_astore_n (hX : Cx p R s m args meth c D dA b0 n0 m0 nL nE mE cc own fr lo) {k4 : Fin 4} {i : Nat} {z : Int} {lv' : List (Nat × Nat × Int)} (hd : decode cc pc = .ok (.astore_n k4, 1)) (hi : (k4 : Nat) = i) (hn : i < nL) (hl' : st1 i 2 z lv = lv') (k : G p l e R s m args below meth c D dA b0 n0 m0 nL nE mE Q (pc + 1) lv' st σ) : G p l e R s m args below meth c D dA b0 n0 m0 nL nE mE Q pc lv ((2, z) :: st) σ :=
  ⟨k.1, fun h1 h2 H locs ls hP hS hl => by
    show W p l e R s m args below meth c H locs (σ.1 - n0) (σ.2.1 - m0) Q (F0 m pc ls (pV 2 z :: st.map pVs))
    by_cases hz : z < 0
    · rw [pV_null hz]
      exact lv_astore_nN hX.1 hX.2.1 hd hi hl hn ((st1_V i 2 z _ (pV_null hz) lv).trans (by rw [hl'])) (fun ls' hl2 => k.2 h1 h2 H locs ls' hP hS hl2)
    · rw [pV_ref (by omega)]
      exact lv_astore_n hX.1 hX.2.1 hd hi hl hn ((st1_V i 2 z _ (pV_ref (by omega)) lv).trans (by rw [hl'])) (fun ls' hl2 => k.2 h1 h2 H locs ls' hP hS hl2)⟩
theorem g_astore (hX : Cx p R s m args meth c D dA b0 n0 m0 nL nE mE cc own fr lo) {i : Nat} {z : Int} {lv' : List (Nat × Nat × Int)} (hd : decode cc pc = .ok (.astore i, 2)) (hn : i < nL) (hl' : st1 i 2 z lv = lv') (k : G p l e R s m args below meth c D dA b0 n0 m0 nL nE mE Q (pc + 2) lv' st σ) : G p l e R s m args below meth c D dA b0 n0 m0 nL nE mE Q pc lv ((2, z) :: st) σ :=
  ⟨k.1, fun h1 h2 H locs ls hP hS hl => by
    show W p l e R s m args below meth c H locs (σ.1 - n0) (σ.2.1 - m0) Q (F0 m pc ls (pV 2 z :: st.map pVs))
    by_cases hz : z < 0
    · rw [pV_null hz]
      exact lv_astoreN hX.1 hX.2.1 hd hl hn ((st1_V i 2 z _ (pV_null hz) lv).trans (by rw [hl'])) (fun ls' hl2 => k.2 h1 h2 H locs ls' hP hS hl2)
    · rw [pV_ref (by omega)]
      exact lv_astore hX.1 hX.2.1 hd hl hn ((st1_V i 2 z _ (pV_ref (by omega)) lv).trans (by rw [hl'])) (fun ls' hl2 => k.2 h1 h2 H locs ls' hP hS hl2)⟩
theorem g_iinc (hX : Cx p R s m args meth c D dA b0 n0 m0 nL nE mE cc own fr lo) {i : Nat} {n z : Int} {lv' : List (Nat × Nat × Int)} (j : Nat) (hd : decode cc pc = .ok (.iinc i n, 3)) (hj : lv[j]? = some (i, 0, z)) (hn : i < nL) (hl' : st1 i 0 (z + n) lv = lv') (k : G p l e R s m args below meth c D dA b0 n0 m0 nL nE mE Q (pc + 3) lv' st σ) : G p l e R s m args below meth c D dA b0 n0 m0 nL nE mE Q pc lv st σ :=
  ⟨k.1, fun h1 h2 H locs ls hP hS hl => lv_iinc hX.1 hX.2.1 hd hl (k := j) (by rw [List.getElem?_map, hj]; rfl) (iI_add z n) hn ((st1_V i 0 (z + n) _ rfl lv).trans (by rw [hl'])) (fun ls' hl2 => k.2 h1 h2 H locs ls' hP hS hl2)⟩
/-- the locals list anew, in another order or with fewer -/
theorem g_lv {lv' : List (Nat × Nat × Int)} (h : ∀ q ∈ lv', q ∈ lv) (k : G p l e R s m args below meth c D dA b0 n0 m0 nL nE mE Q pc lv' st σ) : G p l e R s m args below meth c D dA b0 n0 m0 nL nE mE Q pc lv st σ :=
  ⟨k.1, fun h1 h2 H locs ls hP hS hl => k.2 h1 h2 H locs ls hP hS ⟨hl.1, hl.2.1, fun q hq => by
    obtain ⟨x, hx, rfl⟩ := List.mem_map.mp hq
    exact hl.2.2 _ (List.mem_map.mpr ⟨x, h x hx, rfl⟩)⟩⟩
/-- the same by places -/
theorem g_lvp {lv' : List (Nat × Nat × Int)} (ks : List Nat) (h : ks.map (fun k => lv[k]?) = lv'.map some) (k : G p l e R s m args below meth c D dA b0 n0 m0 nL nE mE Q pc lv' st σ) : G p l e R s m args below meth c D dA b0 n0 m0 nL nE mE Q pc lv st σ :=
  g_lv (fun q hq => by
    have h1 : some q ∈ ks.map (fun k => lv[k]?) := by rw [h]; exact List.mem_map.mpr ⟨q, hq, rfl⟩
    obtain ⟨k, -, hk⟩ := List.mem_map.mp h1
    exact List.mem_of_getElem? hk) k
end GG
section GN
variable {p : Program} {l : Launch} {e : Env} {R : Room} {s : State} {m : MethodId} {args : Array Value} {below : List Frame} {meth : Method} {c : Code} {D : va_G} {dA : Nat → ClassId} {b0 n0 m0 nL nE mE : Nat} {Q : State → Prop} {pc : Nat} {lv : List (Nat × Nat × Int)} {st : List (Nat × Int)} {σ : Hp}
theorem g_nm {γ : Type} {z : γ} {t : Nat} {a : Int} {f : Int → Option γ} (hF : nm a f = some z) (k : ∀ x, f x = some z → G p l e R s m args below meth c D dA b0 n0 m0 nL nE mE Q pc lv ((t, x) :: st) σ) : G p l e R s m args below meth c D dA b0 n0 m0 nL nE mE Q pc lv ((t, a) :: st) σ := k a hF
end GN
