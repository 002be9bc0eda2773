section GD
variable {p : Program} {l : Launch} {e : Env} {R : Room} {s : State} {m : MethodId} {args : Array Value} {below : List Frame} {meth : Method} {c : Code} {D : va_G} {dA : Nat → ClassId} {b0 n0 m0 nL nE mE : Nat} {Q : State → Prop}
variable {cc : ByteArray} {own : String} {fr lo : Nat} {pc : Nat} {lv : List (Nat × Nat × Int)} {st : List (Nat × Int)} {σ : Hp}
variable {γ : Type} {z : γ} {T E : Option γ} {a b : Int}
theorem va_S.grew {A : Nat → Prop} {H0 H H1 : Heap} {locs : List Loc} (hS : va_S A H0 H locs) (hz : H1.size = H.size + 1) (ho : ∀ q, q < H.size → H1[q]? = H[q]?) : va_S A H0 H1 locs :=
  ⟨Nat.le_trans hS.1 (by omega), fun x h1 h2 => (ho x (Nat.lt_of_lt_of_le h1 hS.1)).trans (hS.2.1 x h1 h2), hS.2.2⟩
/-- an array of ints, longs, booleans is made -/
theorem g_newa (hX : Cx p R s m args meth c D dA b0 n0 m0 nL nE mE cc own fr lo) {n C : Int} {t0 : Nat} {ty : FieldType} {atype : ArrayType} {f : Hp → Option γ} (hty : newarray.typeOf atype = ty) (hC : (C = 11 ∧ ty = .int) ∨ (C = 12 ∧ ty = .long) ∨ (C = 13 ∧ ty = .boolean)) (hw : Cond.arrayClass ty ∈ tb) (hd : decode cc pc = .ok (.newarray atype, 2)) (hF : (na C σ n 0).bind f = some z)
    (kk : f (nw σ C n n.toNat (fun _ => 0)) = some z → G p l e R s m args below meth c D dA b0 n0 m0 nL nE mE Q (pc + 2) lv ((2, (σ.1 : Int)) :: st) (nw σ C n n.toNat (fun _ => 0))) : G p l e R s m args below meth c D dA b0 n0 m0 nL nE mE Q pc lv ((0, n) :: st) σ := by
  obtain ⟨σ1, h, hF⟩ := bo_spec hF
  unfold na at h
  split at h
  · rename_i q
    cases h
    have kk := kk hF
    obtain ⟨hx, hb, hml, hown, hts, ⟨hKK, hAO⟩, hbs, hroom, hfl⟩ := hX
    have hk1 : σ.1 + 1 ≤ nE := kk.1.1
    have hk2 : σ.2.1 + n.toNat ≤ mE := kk.1.2
    refine ⟨⟨by omega, by omega⟩, fun h1 h2 H locs ls hP hS hl => ?_⟩
    have r3 : R3 n := ⟨by omega, by omega⟩
    have hcl := iI_clamp r3
    have hnn : ¬ iI n < 0 := fun h => by have := (iI_lt (b := 0) r3 (by decide)).mp h; omega
    subst hty
    refine va_newaK hx hb (hts _ hw) rfl hd rfl hnn hcl ?_ (by omega) (by omega) (h := σ.1) hP.1 fun H1 cA e1 z1 o1 hAr hNm => ?_
    · have hcb : componentBytes (newarray.typeOf atype) ≤ 8 := by
        cases atype <;> decide
      calc n.toNat * componentBytes (newarray.typeOf atype) ≤ n.toNat * 8 := Nat.mul_le_mul_left _ hcb
        _ ≤ 536870912 := by omega
    · have kk2 := kk.2 (by show n0 ≤ σ.1 + 1; omega) (by show m0 ≤ σ.2.1 + n.toNat; omega) H1 locs ls
      have e3 : (nw σ C n n.toNat (fun _ => 0)).1 - n0 = σ.1 - n0 + 1 := by show σ.1 + 1 - n0 = _; omega
      have e4 : (nw σ C n n.toNat (fun _ => 0)).2.1 - m0 = σ.2.1 - m0 + n.toNat := by show σ.2.1 + n.toNat - m0 = _; omega
      rw [e3, e4] at kk2
      have hsz : H.size = σ.1 := hP.1
      have hcell : cellAt D dA σ.1 (C, n, fun _ => 0) H1 := by
        unfold cellAt
        show if 11 ≤ C then _ else _
        rw [if_pos (by omega), e1]
        rcases hC with ⟨rfl, h⟩ | ⟨rfl, h⟩ | ⟨rfl, h⟩
        · rw [h] at hNm ⊢
          have : cA = dA 0 := Option.some.inj (hNm.symm.trans (hKK.2 0 _ rfl).2)
          rw [this]; rfl
        · rw [h] at hNm ⊢
          have : cA = dA 1 := Option.some.inj (hNm.symm.trans (hKK.2 1 _ rfl).2)
          rw [this]; rfl
        · rw [h] at hNm ⊢
          have : cA = dA 2 := Option.some.inj (hNm.symm.trans (hKK.2 2 _ rfl).2)
          rw [this]; rfl
      have kk3 := kk2 (hP.made (by rw [z1, hsz]) (fun q hq => o1 q (by omega)) hcell) (hS.grew (by rw [z1, hsz]) (fun q hq => o1 q (by omega))) hl
      have e5 : pVs (2, (σ.1 : Int)) = .ref σ.1 := by
        show pV 2 (σ.1 : Int) = _
        rw [pV_ref (Int.natCast_nonneg _), Int.toNat_natCast]
      rw [List.map_cons, e5] at kk3
      exact kk3
  · cases h
/-- an array of references is made -/
theorem g_anew (hX : Cx p R s m args meth c D dA b0 n0 m0 nL nE mE cc own fr lo) {n C : Int} {idx t0 : Nat} {K : String} {f : Hp → Option γ} (hC : (C = 14 ∧ K = "LakeChain$Lake") ∨ (C = 15 ∧ K = "LakeChain$Node")) (hw : Cond.classLink own idx K ∈ tb) (hd : decode cc pc = .ok (.anewarray idx, 3)) (hF : (na C σ n (-1)).bind f = some z)
    (kk : f (nw σ C n n.toNat (fun _ => -1)) = some z → G p l e R s m args below meth c D dA b0 n0 m0 nL nE mE Q (pc + 3) lv ((2, (σ.1 : Int)) :: st) (nw σ C n n.toNat (fun _ => -1))) : G p l e R s m args below meth c D dA b0 n0 m0 nL nE mE Q pc lv ((0, n) :: st) σ := by
  obtain ⟨σ1, h, hF⟩ := bo_spec hF
  unfold na at h
  split at h
  · rename_i q
    cases h
    have kk := kk hF
    obtain ⟨hx, hb, hml, hown, hts, ⟨hKK, hAO⟩, hbs, hroom, hfl⟩ := hX
    have hk1 : σ.1 + 1 ≤ nE := kk.1.1
    have hk2 : σ.2.1 + n.toNat ≤ mE := kk.1.2
    refine ⟨⟨by omega, by omega⟩, fun h1 h2 H locs ls hP hS hl => ?_⟩
    have r3 : R3 n := ⟨by omega, by omega⟩
    have hcl := iI_clamp r3
    have hnn : ¬ iI n < 0 := fun h => by have := (iI_lt (b := 0) r3 (by decide)).mp h; omega
    refine W.anew hx hb hown (hts _ hw) (by rcases hC with ⟨-, rfl⟩ | ⟨-, rfl⟩ <;> first | exact va_AO.use hAO.1 | exact va_AO.use hAO.2) rfl hd rfl hnn (by rw [hcl]; omega) (by omega) (by rw [hcl]; omega) fun cA kA comp f1 f2 f3 f4 => ?_
    rw [hcl]
    generalize hH1 : H.push ({ cls := cA, slots := Array.replicate n.toNat .null, vm := .none } : Cell) = H1
    have z1 : H1.size = H.size + 1 := by rw [← hH1, Array.size_push]
    have e1 : H1[H.size]? = some (arrV cA n.toNat (fun _ => .null)) := by rw [← hH1, Array.getElem?_push_size, ← arrV_new]
    have o1 : ∀ q : Nat, q < H.size → H1[q]? = H[q]? := fun q hq => by rw [← hH1, Array.getElem?_push, if_neg (Nat.ne_of_lt hq)]
    have kk2 := kk.2 (by show n0 ≤ σ.1 + 1; omega) (by show m0 ≤ σ.2.1 + n.toNat; omega) H1 locs ls
    have e3 : (nw σ C n n.toNat (fun _ => -1)).1 - n0 = σ.1 - n0 + 1 := by show σ.1 + 1 - n0 = _; omega
    have e4 : (nw σ C n n.toNat (fun _ => -1)).2.1 - m0 = σ.2.1 - m0 + n.toNat := by show σ.2.1 + n.toNat - m0 = _; omega
    rw [e3, e4] at kk2
    have hsz : H.size = σ.1 := hP.1
    have hcell : cellAt D dA σ.1 (C, n, fun _ => -1) H1 := by
      unfold cellAt
      show if 11 ≤ C then _ else _
      rw [if_pos (by omega), ← hsz, e1]
      rcases hC with ⟨rfl, h⟩ | ⟨rfl, h⟩
      · rw [h] at f1
        obtain ⟨-, -, -, -, -, h4⟩ := (hKK.2 3 _ rfl).2
        have : cA = dA 3 := Option.some.inj (f1.symm.trans h4)
        rw [this]; rfl
      · rw [h] at f1
        obtain ⟨-, -, -, -, -, h4⟩ := (hKK.2 4 _ rfl).2
        have : cA = dA 4 := Option.some.inj (f1.symm.trans h4)
        rw [this]; rfl
    have kk3 := kk2 (hP.made z1 o1 hcell) (hS.grew z1 o1) hl
    have e5 : pVs (2, (σ.1 : Int)) = .ref H.size := by
      show pV 2 (σ.1 : Int) = _
      rw [pV_ref (Int.natCast_nonneg _), Int.toNat_natCast, hsz]
    rw [List.map_cons, e5] at kk3
    exact kk3
  · cases h
/-- an object is made -/
def Nw (own : String) (idx ci : Nat) : Prop := ∃ (C : String) (T : u_T) (N : Nat) (ty : Nat → FieldType), CFt ci C T N ty ∧ Cond.classLink own idx C ∈ tb ∧ Cond.instantiable C N ∈ tb ∧ Cond.initialized C ∈ tb ∧ ∀ k, k < N → defaultValue (ty k) = pV (tagOf (ty k)) (d0 ci k)
theorem g_new (hX : Cx p R s m args meth c D dA b0 n0 m0 nL nE mE cc own fr lo) {idx ci : Nat} {C : Int} {N : Nat} (hw : Nw own idx ci) (hC : C = ci + 1) (hN : nF ci = N) (hd : decode cc pc = .ok (.new idx, 3))
    (kk : G p l e R s m args below meth c D dA b0 n0 m0 nL nE mE Q (pc + 3) lv ((2, (σ.1 : Int)) :: st) (nw σ C 0 N (d0 ci))) : G p l e R s m args below meth c D dA b0 n0 m0 nL nE mE Q pc lv st σ := by
  obtain ⟨hx, hb, hml, hown, hts, ⟨hKK, hAO⟩, hbs, hroom, hfl⟩ := hX
  obtain ⟨Cn, Tn, N', ty, ⟨c1, c2, c3, c4, c5, c6, c7⟩, hcl, hinst, hini, hdef⟩ := hw
  have hNN : N' = N := by rw [← c6, hN]
  subst hNN
  have hk1 : σ.1 + 1 ≤ nE := kk.1.1
  have hk2 : σ.2.1 + N' ≤ mE := kk.1.2
  refine ⟨⟨by omega, by omega⟩, fun h1 h2 H locs ls hP hS hl => ?_⟩
  have hKn := hKK.1 ci _ c1
  have hsz : H.size = σ.1 := hP.1
  refine W.newcK hx hb hown (hts _ hcl) (hts _ hinst) (hts _ hini) rfl hd (by omega) (by omega) hKn.2.1 (h := σ.1) hsz fun H1 kC hkC e1 z1 o1 => ?_
  have kk2 := kk.2 (by show n0 ≤ σ.1 + 1; omega) (by show m0 ≤ σ.2.1 + N'; omega) H1 locs ls
  have e3 : (nw σ C 0 N' (d0 ci)).1 - n0 = σ.1 - n0 + 1 := by show σ.1 + 1 - n0 = _; omega
  have e4 : (nw σ C 0 N' (d0 ci)).2.1 - m0 = σ.2.1 - m0 + N' := by show σ.2.1 + N' - m0 = _; omega
  rw [e3, e4] at kk2
  have hcell : cellAt D dA σ.1 (C, 0, d0 ci) H1 := by
    unfold cellAt
    show if 11 ≤ C then _ else _
    rw [if_neg (by omega)]
    show t_OB σ.1 (D.1 (C.toNat - 1)) (nF (C.toNat - 1)) (D.2 (C.toNat - 1)) H1 (fun k => pV (tagOf (tyC (C.toNat - 1) k)) (d0 ci k))
    rw [show C.toNat - 1 = ci by omega, c6]
    refine (u_born ty hts c2 hKn hkC e1 c3).to (fun k hk => ?_)
    rw [c5]
    exact hdef k hk
  have kk3 := kk2 (hP.made (by rw [z1, hsz]) (fun q hq => o1 q (by omega)) hcell) (hS.grew (by rw [z1, hsz]) (fun q hq => o1 q (by omega))) hl
  have e5 : pVs (2, (σ.1 : Int)) = .ref σ.1 := by
    show pV 2 (σ.1 : Int) = _
    rw [pV_ref (Int.natCast_nonneg _), Int.toNat_natCast]
  rw [List.map_cons, e5] at kk3
  exact kk3
/-! contracts -/
def QcO (D : va_G) (dA : Nat → ClassId) (b0 : Nat) (ρ : Option Value) (σE : Hp) : Array Value → State → Outcome → State → Prop := fun _ stt oc t => (oc = .returned ρ ∧ Pw D dA b0 σE t.heap ∧ KK D dA t) ∧ va_F (fun q => b0 ≤ q) stt t
def Ct (l : Launch) (D : va_G) (dA : Nat → ClassId) (b0 : Nat) (y : MethodName) (bytes : ByteArray) (maxL : Nat) (ret : Option FieldType) (fr lo : Nat) (av : List (Nat × Int)) (σ : Hp) (ρ : Option Value) (σE : Hp) : Prop :=
  (σ.1 ≤ σE.1 ∧ σ.2.1 ≤ σE.2.1) ∧ Met l y (.code y bytes maxL ret :: tb) { frames := fr, cells := σE.1 - σ.1, slots := σE.2.1 - σ.2.1, locals := lo } (va_Pc (av.map pVs) (fun U => Pw D dA b0 σ U.heap ∧ KK D dA U)) (QcO D dA b0 ρ σE) (σE.1 - σ.1) (σE.2.1 - σ.2.1) (fun q => b0 ≤ q)
abbrev Qm (D : va_G) (dA : Nat → ClassId) (b0 n0 m0 : Nat) (below : List Frame) (args : Array Value) (s : State) (ρ : Option Value) (σE : Hp) : State → Prop := MQ below (QcO D dA b0 ρ σE) args s (σE.1 - n0) (σE.2.1 - m0) (fun q => b0 ≤ q)
theorem ret_ok {ρ : Option Value} {H : Heap} {locs : List Loc} (hK : KK D dA s) (hP : Pw D dA b0 σ H) (hS : va_S (fun q => b0 ≤ q) s.heap H locs) : ∀ t : State, t.heap = H → s.WarmedH t.vm → QcO D dA b0 ρ σ args s (.returned ρ) t :=
  fun t ht hW => ⟨⟨rfl, by rw [ht]; exact hP, KK.moved hW.alike hK⟩, hS.F ht⟩
/-- what a return needs: the method's return type, no lock -/
def Rx (meth : Method) (ret : Option FieldType) : Prop := meth.sig.returnType = ret ∧ meth.locks = false
theorem g_iret {r v : Int} {σE : Hp} (hX : Cx p R s m args meth c D dA b0 n0 m0 nL nE mE cc own fr lo) (hR : Rx meth (some .int)) (hQ : Q = Qm D dA b0 n0 m0 below args s (some (.int (iI r))) σE) (hE : nE = σE.1 ∧ mE = σE.2.1) (hd : decode cc pc = .ok (.ireturn, 1)) (hF : some (v, σ) = some (r, σE)) : G p l e R s m args below meth c D dA b0 n0 m0 nL nE mE Q pc lv [(0, v)] σ := by
  cases hF
  subst hQ
  exact ⟨⟨by rw [hE.1]; exact Nat.le_refl _, by rw [hE.2]; exact Nat.le_refl _⟩, fun h1 h2 H locs ls hP hS hl => W.iret hX.1 hX.2.1 hR.1 (ret_ok hX.2.2.2.2.2.1 hP hS) hS.2.2 hd hR.2⟩
theorem g_zret {r v : Int} {σE : Hp} (hX : Cx p R s m args meth c D dA b0 n0 m0 nL nE mE cc own fr lo) (hR : Rx meth (some .boolean)) (hQ : Q = Qm D dA b0 n0 m0 below args s (some (.int (iI r))) σE) (hE : nE = σE.1 ∧ mE = σE.2.1) (hd : decode cc pc = .ok (.ireturn, 1)) (hF : rz v σ = some (r, σE)) : G p l e R s m args below meth c D dA b0 n0 m0 nL nE mE Q pc lv [(0, v)] σ := by
  unfold rz at hF
  split at hF
  · rename_i h
    cases hF
    subst hQ
    exact ⟨⟨by rw [hE.1]; exact Nat.le_refl _, by rw [hE.2]; exact Nat.le_refl _⟩, fun h1 h2 H locs ls hP hS hl => W.zret hX.1 hX.2.1 hR.1 (pV_bool h).1 (ret_ok hX.2.2.2.2.2.1 hP hS) hS.2.2 hd hR.2⟩
  · cases hF
theorem g_lret {r v : Int} {σE : Hp} (hX : Cx p R s m args meth c D dA b0 n0 m0 nL nE mE cc own fr lo) (hR : Rx meth (some .long)) (hQ : Q = Qm D dA b0 n0 m0 below args s (some (.long (lI r))) σE) (hE : nE = σE.1 ∧ mE = σE.2.1) (hd : decode cc pc = .ok (.lreturn, 1)) (hF : some (v, σ) = some (r, σE)) : G p l e R s m args below meth c D dA b0 n0 m0 nL nE mE Q pc lv [(1, v)] σ := by
  cases hF
  subst hQ
  exact ⟨⟨by rw [hE.1]; exact Nat.le_refl _, by rw [hE.2]; exact Nat.le_refl _⟩, fun h1 h2 H locs ls hP hS hl => W.lret hX.1 hX.2.1 hR.1 (ret_ok hX.2.2.2.2.2.1 hP hS) hS.2.2 hd hR.2⟩
theorem g_vret {r : Int} {σE : Hp} (hX : Cx p R s m args meth c D dA b0 n0 m0 nL nE mE cc own fr lo) (hR : Rx meth none) (hQ : Q = Qm D dA b0 n0 m0 below args s none σE) (hE : nE = σE.1 ∧ mE = σE.2.1) (hd : decode cc pc = .ok (.return_, 1)) (hF : some ((0 : Int), σ) = some (r, σE)) : G p l e R s m args below meth c D dA b0 n0 m0 nL nE mE Q pc lv [] σ := by
  cases hF
  subst hQ
  exact ⟨⟨by rw [hE.1]; exact Nat.le_refl _, by rw [hE.2]; exact Nat.le_refl _⟩, fun h1 h2 H locs ls hP hS hl => W.vret hX.1 hX.2.1 hR.1 (ret_ok hX.2.2.2.2.2.1 hP hS) hS.2.2 hd hR.2⟩
theorem g_aret {r v : Int} {σE : Hp} {K : String} (hX : Cx p R s m args meth c D dA b0 n0 m0 nL nE mE cc own fr lo) (hR : Rx meth (some (.object K))) (hQ : Q = Qm D dA b0 n0 m0 below args s (some (pV 2 r)) σE) (hE : nE = σE.1 ∧ mE = σE.2.1) (hd : decode cc pc = .ok (.areturn, 1)) (hF : some (v, σ) = some (r, σE)) : G p l e R s m args below meth c D dA b0 n0 m0 nL nE mE Q pc lv [(2, v)] σ := by
  cases hF
  subst hQ
  refine ⟨⟨by rw [hE.1]; exact Nat.le_refl _, by rw [hE.2]; exact Nat.le_refl _⟩, fun h1 h2 H locs ls hP hS hl => W.aret hX.1 hX.2.1 hR.1 (Or.inl ⟨K, rfl⟩) ?_ (ret_ok hX.2.2.2.2.2.1 hP hS) hS.2.2 hd hR.2⟩
  by_cases h : r < 0
  · exact Or.inl (pV_null h)
  · exact Or.inr ⟨_, pV_ref (by omega)⟩
end GD
