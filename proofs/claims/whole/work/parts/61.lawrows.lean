def sx (xs : Nat → Int32) : Int → Int := fun j => (xs j.toNat).toInt
def sr (jxs : Int → Int) (jL i : Int) : Option Int := if 0 ≤ i ∧ i < jL then some (jxs i) else none
def LwC (R : Room) (s : State) (args : Array Value) (below : List Frame) (meth : Method) (b0 n0 m0 nE mE : Nat) (Q : State → Prop) (b L : Nat) (xs : Nat → Int32) (jxs : Int → Int) (jL : Int) (σE : Hp) : Prop :=
  va_X b L xs s s.heap ∧ b < s.heap.size ∧ b0 = s.heap.size ∧ jxs = sx xs ∧ jL = (L : Int) ∧ L ≤ 2560 ∧ Q = lw_Z below args s ∧ R = room_1 ∧ args = #[Value.ref b] ∧ (nE ≤ n0 + 600000 ∧ mE ≤ m0 + 7302250) ∧ (meth.sig.returnType = ret ∧ meth.locks = false) ∧ (σE.1 ≤ nE ∧ σE.2.1 ≤ mE)
section
variable {p : Program} {l : Launch} {e : Env} {R : Room} {s : State} {m : MethodId} {args : Array Value} {below : List Frame} {meth : Method} {c : Code} {D : va_G} {dA : Nat → ClassId} {b0 n0 m0 nL nE mE : Nat} {Q : State → Prop}
variable {cc : ByteArray} {own : String} {fr lo : Nat} {pc : Nat} {lv : List (Nat × Nat × Int)} {st : List (Nat × Int)} {σ σE : Hp} {b L : Nat} {xs : Nat → Int32} {jxs : Int → Int} {jL : Int} {γ : Type} {z : γ}
theorem pV_b (b : Nat) : pV 2 (b : Int) = .ref b := by rw [pV_ref (Int.natCast_nonneg _), Int.toNat_natCast]
theorem g_slen (hX : Cx p R s m args meth c D dA b0 n0 m0 nL nE mE cc own fr lo) (hL : LwC R s args below meth b0 n0 m0 nE mE Q b L xs jxs jL σE) (hd : decode cc pc = .ok (.arraylength, 1)) (k : G p l e R s m args below meth c D dA b0 n0 m0 nL nE mE Q (pc + 1) lv ((0, jL) :: st) σ) : G p l e R s m args below meth c D dA b0 n0 m0 nL nE mE Q pc lv ((2, (b : Int)) :: st) σ := by
  obtain ⟨hXs, hbl, hb0, hjx, hjL, hL2, hQ, hR, ha, hEb, hm, hEnd⟩ := hL
  refine ⟨k.1, fun h1 h2 H locs ls hP hS hl => ?_⟩
  show W p l e R s m args below meth c H locs (σ.1 - n0) (σ.2.1 - m0) Q (F0 m pc ls (pV 2 (b : Int) :: st.map pVs))
  rw [pV_b]
  refine va_slen hX.1 hX.2.1 hXs hbl (fun h => by omega) hS hd ?_
  have := k.2 h1 h2 H locs ls hP hS hl
  subst hjL
  have e1 : pVs (0, (L : Int)) = .int (Int32.ofNat L) := by
    show Value.int (Int32.ofInt (L : Int)) = _
    rw [Int32.ofInt_eq_ofNat]
  rw [List.map_cons, e1] at this
  exact this
theorem g_sld (hX : Cx p R s m args meth c D dA b0 n0 m0 nL nE mE cc own fr lo) (hL : LwC R s args below meth b0 n0 m0 nE mE Q b L xs jxs jL σE) {i : Int} {f : Int → Option γ} (hd : decode cc pc = .ok (.iaload, 1)) (hF : (sr jxs jL i).bind f = some z) (kk : ∀ v, f v = some z → G p l e R s m args below meth c D dA b0 n0 m0 nL nE mE Q (pc + 1) lv ((0, v) :: st) σ) : G p l e R s m args below meth c D dA b0 n0 m0 nL nE mE Q pc lv ((0, i) :: (2, (b : Int)) :: st) σ := by
  obtain ⟨hXs, hbl, hb0, hjx, hjL, hL2, hQ, hR, ha, hEb, hm, hEnd⟩ := hL
  obtain ⟨v, hv, hF⟩ := bo_spec hF
  have kk := kk v hF
  unfold sr at hv
  split at hv
  · rename_i h0
    cases hv
    subst hjx; subst hjL
    refine ⟨kk.1, fun h1 h2 H locs ls hP hS hl => ?_⟩
    show W p l e R s m args below meth c H locs (σ.1 - n0) (σ.2.1 - m0) Q (F0 m pc ls (.int (iI i) :: pV 2 (b : Int) :: st.map pVs))
    rw [pV_b]
    have r3 : R3 i := ⟨by omega, by omega⟩
    have hin : vp_in (iI i) L := by
      intro h
      rcases h with h | h
      · have := (iI_lt (b := 0) r3 (by decide)).mp h
        omega
      · rw [iI_clamp r3] at h
        omega
    refine va_sld hX.1 hX.2.1 hXs hbl (fun h => by omega) hS hin hd ?_
    have := kk.2 h1 h2 H locs ls hP hS hl
    have e1 : pVs (0, sx xs i) = .int (xs (iI i).toNatClampNeg) := by
      show Value.int (iI (sx xs i)) = _
      unfold sx
      rw [iI_back, iI_clamp r3]
    rw [List.map_cons, e1] at this
    exact this
  · cases hv
theorem g_lawret (hX : Cx p R s m args meth c D dA b0 n0 m0 nL nE mE code own fr lo) (hL : LwC R s args below meth b0 n0 m0 nE mE Q b L xs jxs jL σE) {r v : Int} (hr1 : r = 1) (hd : decode code pc = .ok (.ireturn, 1)) (hF : some (v, σ) = some (r, σE)) : G p l e R s m args below meth c D dA b0 n0 m0 nL nE mE Q pc lv [(0, v)] σ := by
  obtain ⟨hXs, hbl, hb0, hjx, hjL, hL2, hQ, hR, ha, hEb, hm, hEnd⟩ := hL
  cases hF
  subst hr1 hQ hR ha
  refine ⟨hEnd, fun h1 h2 H locs ls hP hS hl => ?_⟩
  refine va_forget (fun q hq => by have := hS.2.2 q hq; omega) ?_
  refine W.widen (k := 600000) (n := 7302250) (by omega) (by omega) ?_
  exact lw_ret hX.1 hX.2.1 hm.1 hm.2 hd
end
