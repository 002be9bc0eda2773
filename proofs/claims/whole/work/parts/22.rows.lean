section GA
variable {p : Program} {l : Launch} {e : Env} {R : Room} {s : State} {m : MethodId} {args : Array Value} {below : List Frame} {meth : Method} {c : Code} {D : va_G} {dA : Nat → ClassId} {b0 n0 m0 nL nE mE : Nat} {Q : State → Prop}
variable {cc : ByteArray} {own : String} {fr lo : Nat} {pc : Nat} {lv : List (Nat × Nat × Int)} {st : List (Nat × Int)} {σ : Hp}
theorem g_iadd (hX : Cx p R s m args meth c D dA b0 n0 m0 nL nE mE cc own fr lo) {a b : Int} (hd : decode cc pc = .ok (.iadd, 1)) (k : G p l e R s m args below meth c D dA b0 n0 m0 nL nE mE Q (pc + 1) lv ((0, a + b) :: st) σ) : G p l e R s m args below meth c D dA b0 n0 m0 nL nE mE Q pc lv ((0, b) :: (0, a) :: st) σ :=
  ⟨k.1, fun h1 h2 H locs ls hP hS hl => lv_iadd hX.1 hX.2.1 hd (by rw [iI_add]; exact k.2 h1 h2 H locs ls hP hS hl)⟩
theorem g_isub (hX : Cx p R s m args meth c D dA b0 n0 m0 nL nE mE cc own fr lo) {a b : Int} (hd : decode cc pc = .ok (.isub, 1)) (k : G p l e R s m args below meth c D dA b0 n0 m0 nL nE mE Q (pc + 1) lv ((0, a - b) :: st) σ) : G p l e R s m args below meth c D dA b0 n0 m0 nL nE mE Q pc lv ((0, b) :: (0, a) :: st) σ :=
  ⟨k.1, fun h1 h2 H locs ls hP hS hl => lv_isub hX.1 hX.2.1 hd (by rw [iI_sub]; exact k.2 h1 h2 H locs ls hP hS hl)⟩
theorem g_imul (hX : Cx p R s m args meth c D dA b0 n0 m0 nL nE mE cc own fr lo) {a b : Int} (hd : decode cc pc = .ok (.imul, 1)) (k : G p l e R s m args below meth c D dA b0 n0 m0 nL nE mE Q (pc + 1) lv ((0, a * b) :: st) σ) : G p l e R s m args below meth c D dA b0 n0 m0 nL nE mE Q pc lv ((0, b) :: (0, a) :: st) σ :=
  ⟨k.1, fun h1 h2 H locs ls hP hS hl => lv_imul hX.1 hX.2.1 hd (by rw [iI_mul]; exact k.2 h1 h2 H locs ls hP hS hl)⟩
theorem g_ladd (hX : Cx p R s m args meth c D dA b0 n0 m0 nL nE mE cc own fr lo) {a b : Int} (hd : decode cc pc = .ok (.ladd, 1)) (k : G p l e R s m args below meth c D dA b0 n0 m0 nL nE mE Q (pc + 1) lv ((1, a + b) :: st) σ) : G p l e R s m args below meth c D dA b0 n0 m0 nL nE mE Q pc lv ((1, b) :: (1, a) :: st) σ :=
  ⟨k.1, fun h1 h2 H locs ls hP hS hl => lv_ladd hX.1 hX.2.1 hd (by rw [lI_add]; exact k.2 h1 h2 H locs ls hP hS hl)⟩
theorem g_lsub (hX : Cx p R s m args meth c D dA b0 n0 m0 nL nE mE cc own fr lo) {a b : Int} (hd : decode cc pc = .ok (.lsub, 1)) (k : G p l e R s m args below meth c D dA b0 n0 m0 nL nE mE Q (pc + 1) lv ((1, a - b) :: st) σ) : G p l e R s m args below meth c D dA b0 n0 m0 nL nE mE Q pc lv ((1, b) :: (1, a) :: st) σ :=
  ⟨k.1, fun h1 h2 H locs ls hP hS hl => lv_lsub hX.1 hX.2.1 hd (by rw [lI_sub]; exact k.2 h1 h2 H locs ls hP hS hl)⟩
theorem g_lmul (hX : Cx p R s m args meth c D dA b0 n0 m0 nL nE mE cc own fr lo) {a b : Int} (hd : decode cc pc = .ok (.lmul, 1)) (k : G p l e R s m args below meth c D dA b0 n0 m0 nL nE mE Q (pc + 1) lv ((1, a * b) :: st) σ) : G p l e R s m args below meth c D dA b0 n0 m0 nL nE mE Q pc lv ((1, b) :: (1, a) :: st) σ :=
  ⟨k.1, fun h1 h2 H locs ls hP hS hl => lv_lmul hX.1 hX.2.1 hd (by rw [lI_mul]; exact k.2 h1 h2 H locs ls hP hS hl)⟩
theorem g_iand (hX : Cx p R s m args meth c D dA b0 n0 m0 nL nE mE cc own fr lo) {a b : Int} (hd : decode cc pc = .ok (.iand, 1)) (k : G p l e R s m args below meth c D dA b0 n0 m0 nL nE mE Q (pc + 1) lv ((0, andI a b) :: st) σ) : G p l e R s m args below meth c D dA b0 n0 m0 nL nE mE Q pc lv ((0, b) :: (0, a) :: st) σ :=
  ⟨k.1, fun h1 h2 H locs ls hP hS hl => lv_iand hX.1 hX.2.1 hd (by rw [← iI_back (iI a &&& iI b)]; exact k.2 h1 h2 H locs ls hP hS hl)⟩
theorem g_ior (hX : Cx p R s m args meth c D dA b0 n0 m0 nL nE mE cc own fr lo) {a b : Int} (hd : decode cc pc = .ok (.ior, 1)) (k : G p l e R s m args below meth c D dA b0 n0 m0 nL nE mE Q (pc + 1) lv ((0, orI a b) :: st) σ) : G p l e R s m args below meth c D dA b0 n0 m0 nL nE mE Q pc lv ((0, b) :: (0, a) :: st) σ :=
  ⟨k.1, fun h1 h2 H locs ls hP hS hl => lv_ior hX.1 hX.2.1 hd (by rw [← iI_back (iI a ||| iI b)]; exact k.2 h1 h2 H locs ls hP hS hl)⟩
theorem g_ishl (hX : Cx p R s m args meth c D dA b0 n0 m0 nL nE mE cc own fr lo) {a b : Int} (hd : decode cc pc = .ok (.ishl, 1)) (k : G p l e R s m args below meth c D dA b0 n0 m0 nL nE mE Q (pc + 1) lv ((0, shlI a b) :: st) σ) : G p l e R s m args below meth c D dA b0 n0 m0 nL nE mE Q pc lv ((0, b) :: (0, a) :: st) σ :=
  ⟨k.1, fun h1 h2 H locs ls hP hS hl => lv_ishl hX.1 hX.2.1 hd (by rw [← iI_back (iI a <<< (iI b &&& 31))]; exact k.2 h1 h2 H locs ls hP hS hl)⟩
theorem g_ishr (hX : Cx p R s m args meth c D dA b0 n0 m0 nL nE mE cc own fr lo) {a b : Int} (hd : decode cc pc = .ok (.ishr, 1)) (k : G p l e R s m args below meth c D dA b0 n0 m0 nL nE mE Q (pc + 1) lv ((0, shrI a b) :: st) σ) : G p l e R s m args below meth c D dA b0 n0 m0 nL nE mE Q pc lv ((0, b) :: (0, a) :: st) σ :=
  ⟨k.1, fun h1 h2 H locs ls hP hS hl => lv_ishr hX.1 hX.2.1 hd (by rw [← iI_back (iI a >>> (iI b &&& 31))]; exact k.2 h1 h2 H locs ls hP hS hl)⟩
theorem g_land (hX : Cx p R s m args meth c D dA b0 n0 m0 nL nE mE cc own fr lo) {a b : Int} (hd : decode cc pc = .ok (.land, 1)) (k : G p l e R s m args below meth c D dA b0 n0 m0 nL nE mE Q (pc + 1) lv ((1, andL a b) :: st) σ) : G p l e R s m args below meth c D dA b0 n0 m0 nL nE mE Q pc lv ((1, b) :: (1, a) :: st) σ :=
  ⟨k.1, fun h1 h2 H locs ls hP hS hl => lv_land hX.1 hX.2.1 hd (by rw [← lI_back (lI a &&& lI b)]; exact k.2 h1 h2 H locs ls hP hS hl)⟩
theorem g_lor (hX : Cx p R s m args meth c D dA b0 n0 m0 nL nE mE cc own fr lo) {a b : Int} (hd : decode cc pc = .ok (.lor, 1)) (k : G p l e R s m args below meth c D dA b0 n0 m0 nL nE mE Q (pc + 1) lv ((1, orL a b) :: st) σ) : G p l e R s m args below meth c D dA b0 n0 m0 nL nE mE Q pc lv ((1, b) :: (1, a) :: st) σ :=
  ⟨k.1, fun h1 h2 H locs ls hP hS hl => lv_lor hX.1 hX.2.1 hd (by rw [← lI_back (lI a ||| lI b)]; exact k.2 h1 h2 H locs ls hP hS hl)⟩
theorem g_lshl (hX : Cx p R s m args meth c D dA b0 n0 m0 nL nE mE cc own fr lo) {a b : Int} (hd : decode cc pc = .ok (.lshl, 1)) (k : G p l e R s m args below meth c D dA b0 n0 m0 nL nE mE Q (pc + 1) lv ((1, shlL a b) :: st) σ) : G p l e R s m args below meth c D dA b0 n0 m0 nL nE mE Q pc lv ((0, b) :: (1, a) :: st) σ :=
  ⟨k.1, fun h1 h2 H locs ls hP hS hl => lv_lshl hX.1 hX.2.1 hd (lI_back _).symm (k.2 h1 h2 H locs ls hP hS hl)⟩
section WithF
variable {γ : Type} {z : γ} {T E : Option γ} {a b : Int}
theorem g_idiv (hX : Cx p R s m args meth c D dA b0 n0 m0 nL nE mE cc own fr lo) (hd : decode cc pc = .ok (.idiv, 1)) (hF : gD a b T = some z) (k : T = some z → G p l e R s m args below meth c D dA b0 n0 m0 nL nE mE Q (pc + 1) lv ((0, a.tdiv b) :: st) σ) : G p l e R s m args below meth c D dA b0 n0 m0 nL nE mE Q pc lv ((0, b) :: (0, a) :: st) σ := by
  unfold gD at hF
  split at hF
  · rename_i h
    refine ⟨(k hF).1, fun h1 h2 H locs ls hP hS hl => lv_idiv hX.1 hX.2.1 hd (fun q => h.2.2 ?_) (by rw [iI_div h.1 h.2.1]; exact (k hF).2 h1 h2 H locs ls hP hS hl)⟩
    exact (iI_eq h.2.1 (by decide)).mp q
  · cases hF
theorem g_irem (hX : Cx p R s m args meth c D dA b0 n0 m0 nL nE mE cc own fr lo) (hd : decode cc pc = .ok (.irem, 1)) (hF : gD a b T = some z) (k : T = some z → G p l e R s m args below meth c D dA b0 n0 m0 nL nE mE Q (pc + 1) lv ((0, a.tmod b) :: st) σ) : G p l e R s m args below meth c D dA b0 n0 m0 nL nE mE Q pc lv ((0, b) :: (0, a) :: st) σ := by
  unfold gD at hF
  split at hF
  · rename_i h
    refine ⟨(k hF).1, fun h1 h2 H locs ls hP hS hl => lv_irem hX.1 hX.2.1 hd (fun q => h.2.2 ?_) (by
      have e1 : iI a - iI a / iI b * iI b = iI (a.tmod b) := by rw [iI_div h.1 h.2.1, iI_mul, iI_sub, Int.tmod_def, Int.mul_comm]
      have k2 : W p l e R s m args below meth c H locs (σ.1 - n0) (σ.2.1 - m0) Q (F0 m (pc + 1) ls (.int (iI (a.tmod b)) :: st.map pVs)) := (k hF).2 h1 h2 H locs ls hP hS hl
      rw [← e1] at k2
      exact k2)⟩
    exact (iI_eq h.2.1 (by decide)).mp q
  · cases hF
theorem g_i2l (hX : Cx p R s m args meth c D dA b0 n0 m0 nL nE mE cc own fr lo) (hd : decode cc pc = .ok (.i2l, 1)) (hF : g3 a T = some z) (k : T = some z → G p l e R s m args below meth c D dA b0 n0 m0 nL nE mE Q (pc + 1) lv ((1, a) :: st) σ) : G p l e R s m args below meth c D dA b0 n0 m0 nL nE mE Q pc lv ((0, a) :: st) σ := by
  unfold g3 at hF
  split at hF
  · rename_i h
    exact ⟨(k hF).1, fun h1 h2 H locs ls hP hS hl => lv_i2l hX.1 hX.2.1 hd (iI_long h) ((k hF).2 h1 h2 H locs ls hP hS hl)⟩
  · cases hF
theorem g_lcmp (hX : Cx p R s m args meth c D dA b0 n0 m0 nL nE mE cc own fr lo) (hd : decode cc pc = .ok (.lcmp, 1)) (hF : g66 a b T = some z) (k : T = some z → G p l e R s m args below meth c D dA b0 n0 m0 nL nE mE Q (pc + 1) lv ((0, cmpL a b) :: st) σ) : G p l e R s m args below meth c D dA b0 n0 m0 nL nE mE Q pc lv ((1, b) :: (1, a) :: st) σ := by
  unfold g66 at hF
  split at hF
  · rename_i h
    exact ⟨(k hF).1, fun h1 h2 H locs ls hP hS hl => W.lcmp hX.1 hX.2.1 hd (by rw [lI_cmp h.1 h.2]; exact (k hF).2 h1 h2 H locs ls hP hS hl)⟩
  · cases hF
theorem bLt_spec (hF : bLt a b T E = some z) : R3 a ∧ R3 b ∧ ((a < b ∧ T = some z) ∨ (¬ a < b ∧ E = some z)) := by
  unfold bLt at hF
  split at hF
  · rename_i h
    split at hF
    · exact ⟨h.1, h.2, Or.inl ⟨by assumption, hF⟩⟩
    · exact ⟨h.1, h.2, Or.inr ⟨by assumption, hF⟩⟩
  · cases hF
theorem bLe_spec (hF : bLe a b T E = some z) : R3 a ∧ R3 b ∧ ((a ≤ b ∧ T = some z) ∨ (¬ a ≤ b ∧ E = some z)) := by
  unfold bLe at hF
  split at hF
  · rename_i h
    split at hF
    · exact ⟨h.1, h.2, Or.inl ⟨by assumption, hF⟩⟩
    · exact ⟨h.1, h.2, Or.inr ⟨by assumption, hF⟩⟩
  · cases hF
theorem bEq_spec (hF : bEq a b T E = some z) : R3 a ∧ R3 b ∧ ((a = b ∧ T = some z) ∨ (¬ a = b ∧ E = some z)) := by
  unfold bEq at hF
  split at hF
  · rename_i h
    split at hF
    · exact ⟨h.1, h.2, Or.inl ⟨by assumption, hF⟩⟩
    · exact ⟨h.1, h.2, Or.inr ⟨by assumption, hF⟩⟩
  · cases hF
theorem g_dec_lt {a b : Int} (ra : R3 a) (rb : R3 b) (h : a < b) : iI a < iI b := (iI_lt ra rb).mpr h
theorem g_den_lt {a b : Int} (ra : R3 a) (rb : R3 b) (h : ¬ a < b) : ¬ iI a < iI b := fun q => h ((iI_lt ra rb).mp q)
theorem g_dec_le {a b : Int} (ra : R3 a) (rb : R3 b) (h : a ≤ b) : iI a ≤ iI b := (iI_le ra rb).mpr h
theorem g_den_le {a b : Int} (ra : R3 a) (rb : R3 b) (h : ¬ a ≤ b) : ¬ iI a ≤ iI b := fun q => h ((iI_le ra rb).mp q)
theorem g_dec_eq {a b : Int} (ra : R3 a) (rb : R3 b) (h : a = b) : iI a = iI b := by rw [h]
theorem g_den_eq {a b : Int} (ra : R3 a) (rb : R3 b) (h : ¬ a = b) : ¬ iI a = iI b := fun q => h ((iI_eq ra rb).mp q)
theorem g_dec_ne {a b : Int} (ra : R3 a) (rb : R3 b) (h : a = b) : ¬ ¬ iI a = iI b := fun q => q (by rw [h])
theorem g_den_ne {a b : Int} (ra : R3 a) (rb : R3 b) (h : ¬ a = b) : ¬ iI a = iI b := fun q => h ((iI_eq ra rb).mp q)
theorem g_dec_ge {a b : Int} (ra : R3 a) (rb : R3 b) (h : a < b) : ¬ iI a ≥ iI b := fun q => absurd ((iI_le rb ra).mp q) (by omega)
theorem g_den_ge {a b : Int} (ra : R3 a) (rb : R3 b) (h : ¬ a < b) : iI a ≥ iI b := (iI_le rb ra).mpr (by omega)
theorem g_dec_gt {a b : Int} (ra : R3 a) (rb : R3 b) (h : a ≤ b) : ¬ iI a > iI b := fun q => absurd ((iI_lt rb ra).mp q) (by omega)
theorem g_den_gt {a b : Int} (ra : R3 a) (rb : R3 b) (h : ¬ a ≤ b) : iI a > iI b := (iI_lt rb ra).mpr (by omega)
theorem g_icmp_lt (hX : Cx p R s m args meth c D dA b0 n0 m0 nL nE mE cc own fr lo) {off : Int} {tgt : Nat} (hd : decode cc pc = .ok (.if_icmp .lt off, 3)) (ht : (pc : Int) + off = (tgt : Int)) (hF : bLt a b T E = some z) (kT : a < b → T = some z → G p l e R s m args below meth c D dA b0 n0 m0 nL nE mE Q tgt lv st σ) (kE : ¬ a < b → E = some z → G p l e R s m args below meth c D dA b0 n0 m0 nL nE mE Q (pc + 3) lv st σ) : G p l e R s m args below meth c D dA b0 n0 m0 nL nE mE Q pc lv ((0, b) :: (0, a) :: st) σ := by
  obtain ⟨ra, rb, h⟩ := bLt_spec hF
  rcases h with ⟨h, hF⟩ | ⟨h, hF⟩
  · have k := kT h hF
    exact ⟨k.1, fun h1 h2 H locs ls hP hS hl => lv_icmp_lt hX.1 hX.2.1 hd ht (fun q => by first | exact k.2 h1 h2 H locs ls hP hS hl | exact absurd q (g_dec_lt ra rb h)) (fun q => by first | exact k.2 h1 h2 H locs ls hP hS hl | exact absurd (g_dec_lt ra rb h) q | exact absurd q (g_dec_lt ra rb h))⟩
  · have k := kE h hF
    exact ⟨k.1, fun h1 h2 H locs ls hP hS hl => lv_icmp_lt hX.1 hX.2.1 hd ht (fun q => by first | exact k.2 h1 h2 H locs ls hP hS hl | exact absurd q (g_den_lt ra rb h)) (fun q => by first | exact k.2 h1 h2 H locs ls hP hS hl | exact absurd (g_den_lt ra rb h) q | exact absurd q (g_den_lt ra rb h))⟩
theorem g_if_lt (hX : Cx p R s m args meth c D dA b0 n0 m0 nL nE mE cc own fr lo) {off : Int} {tgt : Nat} (hd : decode cc pc = .ok (.ifCond .lt off, 3)) (ht : (pc : Int) + off = (tgt : Int)) (hF : bLt a 0 T E = some z) (kT : a < 0 → T = some z → G p l e R s m args below meth c D dA b0 n0 m0 nL nE mE Q tgt lv st σ) (kE : ¬ a < 0 → E = some z → G p l e R s m args below meth c D dA b0 n0 m0 nL nE mE Q (pc + 3) lv st σ) : G p l e R s m args below meth c D dA b0 n0 m0 nL nE mE Q pc lv ((0, a) :: st) σ := by
  obtain ⟨ra, rb, h⟩ := bLt_spec hF
  rcases h with ⟨h, hF⟩ | ⟨h, hF⟩
  · have k := kT h hF
    exact ⟨k.1, fun h1 h2 H locs ls hP hS hl => lv_if_lt hX.1 hX.2.1 hd ht (fun q => by first | exact k.2 h1 h2 H locs ls hP hS hl | exact absurd q (g_dec_lt ra rb h)) (fun q => by first | exact k.2 h1 h2 H locs ls hP hS hl | exact absurd (g_dec_lt ra rb h) q | exact absurd q (g_dec_lt ra rb h))⟩
  · have k := kE h hF
    exact ⟨k.1, fun h1 h2 H locs ls hP hS hl => lv_if_lt hX.1 hX.2.1 hd ht (fun q => by first | exact k.2 h1 h2 H locs ls hP hS hl | exact absurd q (g_den_lt ra rb h)) (fun q => by first | exact k.2 h1 h2 H locs ls hP hS hl | exact absurd (g_den_lt ra rb h) q | exact absurd q (g_den_lt ra rb h))⟩
theorem g_icmp_ge (hX : Cx p R s m args meth c D dA b0 n0 m0 nL nE mE cc own fr lo) {off : Int} {tgt : Nat} (hd : decode cc pc = .ok (.if_icmp .ge off, 3)) (ht : (pc : Int) + off = (tgt : Int)) (hF : bLt a b T E = some z) (kT : a < b → T = some z → G p l e R s m args below meth c D dA b0 n0 m0 nL nE mE Q (pc + 3) lv st σ) (kE : ¬ a < b → E = some z → G p l e R s m args below meth c D dA b0 n0 m0 nL nE mE Q tgt lv st σ) : G p l e R s m args below meth c D dA b0 n0 m0 nL nE mE Q pc lv ((0, b) :: (0, a) :: st) σ := by
  obtain ⟨ra, rb, h⟩ := bLt_spec hF
  rcases h with ⟨h, hF⟩ | ⟨h, hF⟩
  · have k := kT h hF
    exact ⟨k.1, fun h1 h2 H locs ls hP hS hl => lv_icmp_ge hX.1 hX.2.1 hd ht (fun q => by first | exact k.2 h1 h2 H locs ls hP hS hl | exact absurd q (g_dec_ge ra rb h)) (fun q => by first | exact k.2 h1 h2 H locs ls hP hS hl | exact absurd (g_dec_ge ra rb h) q | exact absurd q (g_dec_ge ra rb h))⟩
  · have k := kE h hF
    exact ⟨k.1, fun h1 h2 H locs ls hP hS hl => lv_icmp_ge hX.1 hX.2.1 hd ht (fun q => by first | exact k.2 h1 h2 H locs ls hP hS hl | exact absurd q (g_den_ge ra rb h)) (fun q => by first | exact k.2 h1 h2 H locs ls hP hS hl | exact absurd (g_den_ge ra rb h) q | exact absurd q (g_den_ge ra rb h))⟩
theorem g_if_ge (hX : Cx p R s m args meth c D dA b0 n0 m0 nL nE mE cc own fr lo) {off : Int} {tgt : Nat} (hd : decode cc pc = .ok (.ifCond .ge off, 3)) (ht : (pc : Int) + off = (tgt : Int)) (hF : bLt a 0 T E = some z) (kT : a < 0 → T = some z → G p l e R s m args below meth c D dA b0 n0 m0 nL nE mE Q (pc + 3) lv st σ) (kE : ¬ a < 0 → E = some z → G p l e R s m args below meth c D dA b0 n0 m0 nL nE mE Q tgt lv st σ) : G p l e R s m args below meth c D dA b0 n0 m0 nL nE mE Q pc lv ((0, a) :: st) σ := by
  obtain ⟨ra, rb, h⟩ := bLt_spec hF
  rcases h with ⟨h, hF⟩ | ⟨h, hF⟩
  · have k := kT h hF
    exact ⟨k.1, fun h1 h2 H locs ls hP hS hl => lv_if_ge hX.1 hX.2.1 hd ht (fun q => by first | exact k.2 h1 h2 H locs ls hP hS hl | exact absurd q (g_dec_ge ra rb h)) (fun q => by first | exact k.2 h1 h2 H locs ls hP hS hl | exact absurd (g_dec_ge ra rb h) q | exact absurd q (g_dec_ge ra rb h))⟩
  · have k := kE h hF
    exact ⟨k.1, fun h1 h2 H locs ls hP hS hl => lv_if_ge hX.1 hX.2.1 hd ht (fun q => by first | exact k.2 h1 h2 H locs ls hP hS hl | exact absurd q (g_den_ge ra rb h)) (fun q => by first | exact k.2 h1 h2 H locs ls hP hS hl | exact absurd (g_den_ge ra rb h) q | exact absurd q (g_den_ge ra rb h))⟩
theorem g_icmp_le (hX : Cx p R s m args meth c D dA b0 n0 m0 nL nE mE cc own fr lo) {off : Int} {tgt : Nat} (hd : decode cc pc = .ok (.if_icmp .le off, 3)) (ht : (pc : Int) + off = (tgt : Int)) (hF : bLe a b T E = some z) (kT : a ≤ b → T = some z → G p l e R s m args below meth c D dA b0 n0 m0 nL nE mE Q tgt lv st σ) (kE : ¬ a ≤ b → E = some z → G p l e R s m args below meth c D dA b0 n0 m0 nL nE mE Q (pc + 3) lv st σ) : G p l e R s m args below meth c D dA b0 n0 m0 nL nE mE Q pc lv ((0, b) :: (0, a) :: st) σ := by
  obtain ⟨ra, rb, h⟩ := bLe_spec hF
  rcases h with ⟨h, hF⟩ | ⟨h, hF⟩
  · have k := kT h hF
    exact ⟨k.1, fun h1 h2 H locs ls hP hS hl => lv_icmp_le hX.1 hX.2.1 hd ht (fun q => by first | exact k.2 h1 h2 H locs ls hP hS hl | exact absurd q (g_dec_le ra rb h)) (fun q => by first | exact k.2 h1 h2 H locs ls hP hS hl | exact absurd (g_dec_le ra rb h) q | exact absurd q (g_dec_le ra rb h))⟩
  · have k := kE h hF
    exact ⟨k.1, fun h1 h2 H locs ls hP hS hl => lv_icmp_le hX.1 hX.2.1 hd ht (fun q => by first | exact k.2 h1 h2 H locs ls hP hS hl | exact absurd q (g_den_le ra rb h)) (fun q => by first | exact k.2 h1 h2 H locs ls hP hS hl | exact absurd (g_den_le ra rb h) q | exact absurd q (g_den_le ra rb h))⟩
theorem g_if_le (hX : Cx p R s m args meth c D dA b0 n0 m0 nL nE mE cc own fr lo) {off : Int} {tgt : Nat} (hd : decode cc pc = .ok (.ifCond .le off, 3)) (ht : (pc : Int) + off = (tgt : Int)) (hF : bLe a 0 T E = some z) (kT : a ≤ 0 → T = some z → G p l e R s m args below meth c D dA b0 n0 m0 nL nE mE Q tgt lv st σ) (kE : ¬ a ≤ 0 → E = some z → G p l e R s m args below meth c D dA b0 n0 m0 nL nE mE Q (pc + 3) lv st σ) : G p l e R s m args below meth c D dA b0 n0 m0 nL nE mE Q pc lv ((0, a) :: st) σ := by
  obtain ⟨ra, rb, h⟩ := bLe_spec hF
  rcases h with ⟨h, hF⟩ | ⟨h, hF⟩
  · have k := kT h hF
    exact ⟨k.1, fun h1 h2 H locs ls hP hS hl => lv_if_le hX.1 hX.2.1 hd ht (fun q => by first | exact k.2 h1 h2 H locs ls hP hS hl | exact absurd q (g_dec_le ra rb h)) (fun q => by first | exact k.2 h1 h2 H locs ls hP hS hl | exact absurd (g_dec_le ra rb h) q | exact absurd q (g_dec_le ra rb h))⟩
  · have k := kE h hF
    exact ⟨k.1, fun h1 h2 H locs ls hP hS hl => lv_if_le hX.1 hX.2.1 hd ht (fun q => by first | exact k.2 h1 h2 H locs ls hP hS hl | exact absurd q (g_den_le ra rb h)) (fun q => by first | exact k.2 h1 h2 H locs ls hP hS hl | exact absurd (g_den_le ra rb h) q | exact absurd q (g_den_le ra rb h))⟩
theorem g_icmp_gt (hX : Cx p R s m args meth c D dA b0 n0 m0 nL nE mE cc own fr lo) {off : Int} {tgt : Nat} (hd : decode cc pc = .ok (.if_icmp .gt off, 3)) (ht : (pc : Int) + off = (tgt : Int)) (hF : bLe a b T E = some z) (kT : a ≤ b → T = some z → G p l e R s m args below meth c D dA b0 n0 m0 nL nE mE Q (pc + 3) lv st σ) (kE : ¬ a ≤ b → E = some z → G p l e R s m args below meth c D dA b0 n0 m0 nL nE mE Q tgt lv st σ) : G p l e R s m args below meth c D dA b0 n0 m0 nL nE mE Q pc lv ((0, b) :: (0, a) :: st) σ := by
  obtain ⟨ra, rb, h⟩ := bLe_spec hF
  rcases h with ⟨h, hF⟩ | ⟨h, hF⟩
  · have k := kT h hF
    exact ⟨k.1, fun h1 h2 H locs ls hP hS hl => lv_icmp_gt hX.1 hX.2.1 hd ht (fun q => by first | exact k.2 h1 h2 H locs ls hP hS hl | exact absurd q (g_dec_gt ra rb h)) (fun q => by first | exact k.2 h1 h2 H locs ls hP hS hl | exact absurd (g_dec_gt ra rb h) q | exact absurd q (g_dec_gt ra rb h))⟩
  · have k := kE h hF
    exact ⟨k.1, fun h1 h2 H locs ls hP hS hl => lv_icmp_gt hX.1 hX.2.1 hd ht (fun q => by first | exact k.2 h1 h2 H locs ls hP hS hl | exact absurd q (g_den_gt ra rb h)) (fun q => by first | exact k.2 h1 h2 H locs ls hP hS hl | exact absurd (g_den_gt ra rb h) q | exact absurd q (g_den_gt ra rb h))⟩
theorem g_if_gt (hX : Cx p R s m args meth c D dA b0 n0 m0 nL nE mE cc own fr lo) {off : Int} {tgt : Nat} (hd : decode cc pc = .ok (.ifCond .gt off, 3)) (ht : (pc : Int) + off = (tgt : Int)) (hF : bLe a 0 T E = some z) (kT : a ≤ 0 → T = some z → G p l e R s m args below meth c D dA b0 n0 m0 nL nE mE Q (pc + 3) lv st σ) (kE : ¬ a ≤ 0 → E = some z → G p l e R s m args below meth c D dA b0 n0 m0 nL nE mE Q tgt lv st σ) : G p l e R s m args below meth c D dA b0 n0 m0 nL nE mE Q pc lv ((0, a) :: st) σ := by
  obtain ⟨ra, rb, h⟩ := bLe_spec hF
  rcases h with ⟨h, hF⟩ | ⟨h, hF⟩
  · have k := kT h hF
    exact ⟨k.1, fun h1 h2 H locs ls hP hS hl => lv_if_gt hX.1 hX.2.1 hd ht (fun q => by first | exact k.2 h1 h2 H locs ls hP hS hl | exact absurd q (g_dec_gt ra rb h)) (fun q => by first | exact k.2 h1 h2 H locs ls hP hS hl | exact absurd (g_dec_gt ra rb h) q | exact absurd q (g_dec_gt ra rb h))⟩
  · have k := kE h hF
    exact ⟨k.1, fun h1 h2 H locs ls hP hS hl => lv_if_gt hX.1 hX.2.1 hd ht (fun q => by first | exact k.2 h1 h2 H locs ls hP hS hl | exact absurd q (g_den_gt ra rb h)) (fun q => by first | exact k.2 h1 h2 H locs ls hP hS hl | exact absurd (g_den_gt ra rb h) q | exact absurd q (g_den_gt ra rb h))⟩
theorem g_icmp_eq (hX : Cx p R s m args meth c D dA b0 n0 m0 nL nE mE cc own fr lo) {off : Int} {tgt : Nat} (hd : decode cc pc = .ok (.if_icmp .eq off, 3)) (ht : (pc : Int) + off = (tgt : Int)) (hF : bEq a b T E = some z) (kT : a = b → T = some z → G p l e R s m args below meth c D dA b0 n0 m0 nL nE mE Q tgt lv st σ) (kE : ¬ a = b → E = some z → G p l e R s m args below meth c D dA b0 n0 m0 nL nE mE Q (pc + 3) lv st σ) : G p l e R s m args below meth c D dA b0 n0 m0 nL nE mE Q pc lv ((0, b) :: (0, a) :: st) σ := by
  obtain ⟨ra, rb, h⟩ := bEq_spec hF
  rcases h with ⟨h, hF⟩ | ⟨h, hF⟩
  · have k := kT h hF
    exact ⟨k.1, fun h1 h2 H locs ls hP hS hl => lv_icmp_eq hX.1 hX.2.1 hd ht (fun q => by first | exact k.2 h1 h2 H locs ls hP hS hl | exact absurd q (g_dec_eq ra rb h)) (fun q => by first | exact k.2 h1 h2 H locs ls hP hS hl | exact absurd (g_dec_eq ra rb h) q | exact absurd q (g_dec_eq ra rb h))⟩
  · have k := kE h hF
    exact ⟨k.1, fun h1 h2 H locs ls hP hS hl => lv_icmp_eq hX.1 hX.2.1 hd ht (fun q => by first | exact k.2 h1 h2 H locs ls hP hS hl | exact absurd q (g_den_eq ra rb h)) (fun q => by first | exact k.2 h1 h2 H locs ls hP hS hl | exact absurd (g_den_eq ra rb h) q | exact absurd q (g_den_eq ra rb h))⟩
theorem g_if_eq (hX : Cx p R s m args meth c D dA b0 n0 m0 nL nE mE cc own fr lo) {off : Int} {tgt : Nat} (hd : decode cc pc = .ok (.ifCond .eq off, 3)) (ht : (pc : Int) + off = (tgt : Int)) (hF : bEq a 0 T E = some z) (kT : a = 0 → T = some z → G p l e R s m args below meth c D dA b0 n0 m0 nL nE mE Q tgt lv st σ) (kE : ¬ a = 0 → E = some z → G p l e R s m args below meth c D dA b0 n0 m0 nL nE mE Q (pc + 3) lv st σ) : G p l e R s m args below meth c D dA b0 n0 m0 nL nE mE Q pc lv ((0, a) :: st) σ := by
  obtain ⟨ra, rb, h⟩ := bEq_spec hF
  rcases h with ⟨h, hF⟩ | ⟨h, hF⟩
  · have k := kT h hF
    exact ⟨k.1, fun h1 h2 H locs ls hP hS hl => lv_if_eq hX.1 hX.2.1 hd ht (fun q => by first | exact k.2 h1 h2 H locs ls hP hS hl | exact absurd q (g_dec_eq ra rb h)) (fun q => by first | exact k.2 h1 h2 H locs ls hP hS hl | exact absurd (g_dec_eq ra rb h) q | exact absurd q (g_dec_eq ra rb h))⟩
  · have k := kE h hF
    exact ⟨k.1, fun h1 h2 H locs ls hP hS hl => lv_if_eq hX.1 hX.2.1 hd ht (fun q => by first | exact k.2 h1 h2 H locs ls hP hS hl | exact absurd q (g_den_eq ra rb h)) (fun q => by first | exact k.2 h1 h2 H locs ls hP hS hl | exact absurd (g_den_eq ra rb h) q | exact absurd q (g_den_eq ra rb h))⟩
theorem g_icmp_ne (hX : Cx p R s m args meth c D dA b0 n0 m0 nL nE mE cc own fr lo) {off : Int} {tgt : Nat} (hd : decode cc pc = .ok (.if_icmp .ne off, 3)) (ht : (pc : Int) + off = (tgt : Int)) (hF : bEq a b T E = some z) (kT : a = b → T = some z → G p l e R s m args below meth c D dA b0 n0 m0 nL nE mE Q (pc + 3) lv st σ) (kE : ¬ a = b → E = some z → G p l e R s m args below meth c D dA b0 n0 m0 nL nE mE Q tgt lv st σ) : G p l e R s m args below meth c D dA b0 n0 m0 nL nE mE Q pc lv ((0, b) :: (0, a) :: st) σ := by
  obtain ⟨ra, rb, h⟩ := bEq_spec hF
  rcases h with ⟨h, hF⟩ | ⟨h, hF⟩
  · have k := kT h hF
    exact ⟨k.1, fun h1 h2 H locs ls hP hS hl => lv_icmp_ne hX.1 hX.2.1 hd ht (fun q => by first | exact k.2 h1 h2 H locs ls hP hS hl | exact absurd q (g_dec_ne ra rb h)) (fun q => by first | exact k.2 h1 h2 H locs ls hP hS hl | exact absurd (g_dec_ne ra rb h) q | exact absurd q (g_dec_ne ra rb h))⟩
  · have k := kE h hF
    exact ⟨k.1, fun h1 h2 H locs ls hP hS hl => lv_icmp_ne hX.1 hX.2.1 hd ht (fun q => by first | exact k.2 h1 h2 H locs ls hP hS hl | exact absurd q (g_den_ne ra rb h)) (fun q => by first | exact k.2 h1 h2 H locs ls hP hS hl | exact absurd (g_den_ne ra rb h) q | exact absurd q (g_den_ne ra rb h))⟩
theorem g_if_ne (hX : Cx p R s m args meth c D dA b0 n0 m0 nL nE mE cc own fr lo) {off : Int} {tgt : Nat} (hd : decode cc pc = .ok (.ifCond .ne off, 3)) (ht : (pc : Int) + off = (tgt : Int)) (hF : bEq a 0 T E = some z) (kT : a = 0 → T = some z → G p l e R s m args below meth c D dA b0 n0 m0 nL nE mE Q (pc + 3) lv st σ) (kE : ¬ a = 0 → E = some z → G p l e R s m args below meth c D dA b0 n0 m0 nL nE mE Q tgt lv st σ) : G p l e R s m args below meth c D dA b0 n0 m0 nL nE mE Q pc lv ((0, a) :: st) σ := by
  obtain ⟨ra, rb, h⟩ := bEq_spec hF
  rcases h with ⟨h, hF⟩ | ⟨h, hF⟩
  · have k := kT h hF
    exact ⟨k.1, fun h1 h2 H locs ls hP hS hl => lv_if_ne hX.1 hX.2.1 hd ht (fun q => by first | exact k.2 h1 h2 H locs ls hP hS hl | exact absurd q (g_dec_ne ra rb h)) (fun q => by first | exact k.2 h1 h2 H locs ls hP hS hl | exact absurd (g_dec_ne ra rb h) q | exact absurd q (g_dec_ne ra rb h))⟩
  · have k := kE h hF
    exact ⟨k.1, fun h1 h2 H locs ls hP hS hl => lv_if_ne hX.1 hX.2.1 hd ht (fun q => by first | exact k.2 h1 h2 H locs ls hP hS hl | exact absurd q (g_den_ne ra rb h)) (fun q => by first | exact k.2 h1 h2 H locs ls hP hS hl | exact absurd (g_den_ne ra rb h) q | exact absurd q (g_den_ne ra rb h))⟩
end WithF
end GA
