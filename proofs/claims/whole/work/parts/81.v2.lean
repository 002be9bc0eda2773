/-! bits of lets -/
/-- the let of a lake in lets told as three digits of base 16 -/
def dg (L j : Int) : Int := if j = 0 then L / 256 else if j = 1 then L / 16 % 16 else L % 16
set_option maxRecDepth 100000 in
theorem dg_fin : ∀ L : Fin 4096, andI (shrI ((L.val : Nat) : Int) 8) 15 = ((L.val / 256 : Nat) : Int) ∧ andI (shrI ((L.val : Nat) : Int) 4) 15 = ((L.val / 16 % 16 : Nat) : Int) ∧ andI (shrI ((L.val : Nat) : Int) 0) 15 = ((L.val % 16 : Nat) : Int) := by decide +kernel
theorem dg_bits {L : Int} (h0 : 0 ≤ L) (h1 : L < 4096) : andI (shrI L 8) 15 = L / 256 ∧ andI (shrI L 4) 15 = L / 16 % 16 ∧ andI (shrI L 0) 15 = L % 16 := by
  have h := dg_fin ⟨L.toNat, by omega⟩
  simp only [Int.natCast_ediv, Int.natCast_emod, Int.toNat_of_nonneg h0] at h
  exact h
theorem dg_bd {L j : Int} (h0 : 0 ≤ L) (h1 : L < 4096) : 0 ≤ dg L j ∧ dg L j ≤ 15 := by
  unfold dg
  split
  · omega
  · split <;> omega
set_option maxRecDepth 100000 in
theorem sh4_fin : ∀ (a : Fin 256) (x : Fin 16), orI (shlI ((a.val : Nat) : Int) 4) ((x.val : Nat) : Int) = ((16 * a.val + x.val : Nat) : Int) := by decide +kernel
theorem sh4 {a x : Int} (h0 : 0 ≤ a) (h1 : a < 256) (x0 : 0 ≤ x) (x1 : x < 16) : orI (shlI a 4) x = 16 * a + x := by
  have h := sh4_fin ⟨a.toNat, by omega⟩ ⟨x.toNat, by omega⟩
  simp only [Int.natCast_add, Int.natCast_mul, Int.toNat_of_nonneg h0, Int.toNat_of_nonneg x0] at h
  exact h
set_option maxRecDepth 100000 in
theorem sh3_fin : ∀ (a b c : Fin 16), orI (orI (shlI ((a.val : Nat) : Int) 8) (shlI ((b.val : Nat) : Int) 4)) ((c.val : Nat) : Int) = ((256 * a.val + 16 * b.val + c.val : Nat) : Int) := by decide +kernel
theorem sh3 {a b c : Int} (a0 : 0 ≤ a) (a1 : a < 16) (b0 : 0 ≤ b) (b1 : b < 16) (c0 : 0 ≤ c) (c1 : c < 16) : orI (orI (shlI a 8) (shlI b 4)) c = 256 * a + 16 * b + c := by
  have h := sh3_fin ⟨a.toNat, by omega⟩ ⟨b.toNat, by omega⟩ ⟨c.toNat, by omega⟩
  simp only [Int.natCast_add, Int.natCast_mul, Int.toNat_of_nonneg a0, Int.toNat_of_nonneg b0, Int.toNat_of_nonneg c0] at h
  exact h
theorem dg_of {a b c : Int} (a0 : 0 ≤ a) (a1 : a < 16) (b0 : 0 ≤ b) (b1 : b < 16) (c0 : 0 ≤ c) (c1 : c < 16) : dg (256 * a + 16 * b + c) 0 = a ∧ dg (256 * a + 16 * b + c) 1 = b ∧ dg (256 * a + 16 * b + c) 2 = c := by
  unfold dg
  refine ⟨?_, ?_, ?_⟩ <;> simp <;> omega
section V2
variable {b0 : Int} {σ : Hp} {ξ ζ : Int → Int → Int} {i m s t L : Int}
theorem X4_letOf {σ : Hp} (h0 : 0 ≤ L) (h1 : L < 4096) (i0 : 0 ≤ i) (i3 : i < 3) : F_X4_letOf L i σ = some (dg L i, σ) := by
  unfold F_X4_letOf
  obtain ⟨p0, p1, p2⟩ := dg_bits h0 h1
  refine ev_bLt (by omega) (by omega) (by omega) (by omega) (fun hc => absurd hc (by omega)) (fun hc => ?_)
  refine ev_bLt (by omega) (by omega) (by omega) (by omega) (fun hc => ?_) (fun hc => absurd hc (by omega))
  refine ev_end ?_ rfl
  unfold dg
  rcases lake3 i0 i3 with rfl | rfl | rfl
  · exact p0
  · exact p1
  · exact p2
/-- the water of a week, told the inflows -/
def gx0 (ξ : Int → Int → Int) (i0 m0 t0 : Int) : Int := m0 - t0 + i0
def go0 (ξ : Int → Int → Int) (i0 m0 t0 : Int) : Int := ovf (gx0 ξ i0 m0 t0) (ξ 25 0)
def gx1 (ξ : Int → Int → Int) (i0 i1 m0 m1 t0 t1 : Int) : Int := m1 - t1 + t0 + i1 + go0 ξ i0 m0 t0
def go1 (ξ : Int → Int → Int) (i0 i1 m0 m1 t0 t1 : Int) : Int := ovf (gx1 ξ i0 i1 m0 m1 t0 t1) (ξ 25 1)
def gx2 (ξ : Int → Int → Int) (i0 i1 i2 m0 m1 m2 t0 t1 t2 : Int) : Int := m2 - t2 + t1 + i2 + go1 ξ i0 i1 m0 m1 t0 t1
def go2 (ξ : Int → Int → Int) (i0 i1 i2 m0 m1 m2 t0 t1 t2 : Int) : Int := ovf (gx2 ξ i0 i1 i2 m0 m1 m2 t0 t1 t2) (ξ 25 2)
def gfl (ξ : Int → Int → Int) (i0 i1 i2 m0 m1 m2 t0 t1 t2 : Int) : Int := enc ξ (gx0 ξ i0 m0 t0 - go0 ξ i0 m0 t0) (gx1 ξ i0 i1 m0 m1 t0 t1 - go1 ξ i0 i1 m0 m1 t0 t1) (gx2 ξ i0 i1 i2 m0 m1 m2 t0 t1 t2 - go2 ξ i0 i1 i2 m0 m1 m2 t0 t1 t2)
def gsp (ξ : Int → Int → Int) (i0 i1 i2 m0 m1 m2 t0 t1 t2 : Int) : Int := (if 0 < ξ 23 1 then go0 ξ i0 m0 t0 else 0) + (if 1 < ξ 23 1 then go1 ξ i0 i1 m0 m1 t0 t1 else 0) + (if 2 < ξ 23 1 then go2 ξ i0 i1 i2 m0 m1 m2 t0 t1 t2 else 0)
theorem flw_g {c m0 m1 m2 t0 t1 t2 : Int} : flw ξ c m0 m1 m2 t0 t1 t2 = gfl ξ (ξ 34 (3 * c)) (ξ 34 (3 * c + 1)) (ξ 34 (3 * c + 2)) m0 m1 m2 t0 t1 t2 := rfl
theorem spl_g {c m0 m1 m2 t0 t1 t2 : Int} : spl ξ c m0 m1 m2 t0 t1 t2 = gsp ξ (ξ 34 (3 * c)) (ξ 34 (3 * c + 1)) (ξ 34 (3 * c + 2)) m0 m1 m2 t0 t1 t2 := rfl
/-- an array of three inflows, apart from the window -/
def InA (b0 : Int) (σ : Hp) (a : Int) (f : Int → Int) : Prop := ∀ ζ : Int → Int → Int, al 11 (S b0 σ ζ) a = some 3 ∧ ∀ i, 0 ≤ i → i < 3 → ar 11 (S b0 σ ζ) a i = some (f i)
theorem CV.xu {v : Int} (hV : CV ξ) : CV (xu ξ 1 3 v) := by
  unfold CV ZZ sd hd at hV ⊢
  refine ⟨?_, ?_, fun i a b => ⟨?_, fun m c d => ?_⟩⟩
  · rw [xu_ni (by omega), xu_nd (by omega)]; exact hV.1
  · rw [xu_ni (by omega), xu_nd (by omega), xu_nd (by omega), xu_nd (by omega)]; exact hV.2.1
  · simp only [xu_nd (show (3 : Int) + 2 * i ≠ 1 by omega), xu_nd (show (24 : Int) ≠ 1 by omega), xu_nd (show (25 : Int) ≠ 1 by omega), xu_nd (show (26 : Int) ≠ 1 by omega), xu_nd (show (27 : Int) ≠ 1 by omega), xu_nd (show (29 : Int) ≠ 1 by omega), xu_nd (show (41 : Int) ≠ 1 by omega), xu_nd (show (42 : Int) ≠ 1 by omega), xu_nd (show (23 : Int) ≠ 1 by omega)]
    exact (hV.2.2 i a b).1
  · simp only [xu_nd (show (4 : Int) + 2 * i ≠ 1 by omega), xu_nd (show (25 : Int) ≠ 1 by omega), xu_nd (show (28 : Int) ≠ 1 by omega), xu_nd (show (23 : Int) ≠ 1 by omega)]
    exact (hV.2.2 i a b).2 m c d
theorem LB.xu1 {k v : Int} (hB : LB ξ) : LB (xu ξ 1 k v) := hB.congr ⟨xu_nd (by omega), fun d hd k => xu_nd (by omega)⟩
theorem ms_xu1 {k v s i : Int} : ms (xu ξ 1 k v) s i = ms ξ s i := by unfold ms; simp only [xu_nd (show (25 : Int) ≠ 1 by omega)]
theorem X4_flow_step {a l st ah ov v : Int} {f : Int → Int} {n : Nat} (hB : LB ξ) (hV : CV ξ) (hi : InA b0 σ a f) (L0 : 0 ≤ L) (L1 : L < 4096) (s0 : 0 ≤ s) (s1 : s < 2147483648) (l0 : 0 ≤ l) (l3 : l < 3) (f0 : 0 ≤ f l) (f1 : f l ≤ 9) (a0 : 0 ≤ ah) (a1 : ah ≤ 15) (o0 : 0 ≤ ov) (o1 : ov ≤ 1000) :
    F_X4_flow_L17 (b0 + 1) s L a (n + 1) st ah ov l (S b0 σ (xu ξ 1 3 v)) = F_X4_flow_L17 (b0 + 1) s L a n (st * (ξ 25 l + 1) + (ms ξ s l - dg L l + ah + ov + f l) - ovf (ms ξ s l - dg L l + ah + ov + f l) (ξ 25 l)) (dg L l) (ovf (ms ξ s l - dg L l + ah + ov + f l) (ξ 25 l)) (l + 1) (S b0 σ (xu ξ 1 3 (if l < ξ 23 1 then v + ovf (ms ξ s l - dg L l + ah + ov + f l) (ξ 25 l) else v))) := by
  have e := (hi (xu ξ 1 3 v)).2 l l0 l3
  have e3 := (hi (xu ξ 1 3 v)).1
  have hl := X4_letOf (σ := S b0 σ (xu ξ 1 3 v)) (i := l) L0 L1 l0 l3
  have hm := X4_measureOf (b0 := b0) (σ := σ) (ξ := xu ξ 1 3 v) (s := s) (i := l) hB.xu1 hV.xu l0 l3 s0 s1
  rw [ms_xu1] at hm
  have hmb := ms_bd (s := s) hB l0 l3
  have hg := hB.gr l0 l3
  have hd := dg_bd (j := l) L0 L1
  have hm1 : (xu ξ 1 3 v) 1 1 = ξ 23 1 := (xu_ni (by omega)).trans hV.1
  have n0 := hB.1
  have hVx := hV.xu (v := v)
  have hg2 : xu ξ 1 3 v 25 l = ξ 25 l := xu_nd (by omega)
  rw [F_X4_flow_L17]
  generalize ms ξ s l = M at *
  generalize dg L l = G at *
  refine ev rS_1_0 ?_
  refine ev lS_2 ?_
  refine ev_bLt (by omega) (by omega) (by omega) (by omega) (fun hc => ?_) (fun hc => absurd hc (by omega))
  refine evd hl ?_
  refine evd (iS_1.trans hm) ?_
  refine ev e3 ?_
  refine ev_bLt (by omega) (by omega) (by omega) (by omega) (fun hc => ?_) (fun hc => absurd hc (by omega))
  refine ev e ?_
  rw [F_X4_flow_B66]
  refine ev rS_1_0 ?_
  refine ev (aS_2 l0 l3) ?_
  refine ev (rL_2 hVx l0 l3) ?_
  rw [hg2]
  refine ev_g33 (by omega) (by omega) (by omega) (by omega) ?_
  refine evn ?_
  refine ev rS_1_1 ?_
  rw [hm1]
  by_cases h : l < ξ 23 1
  · rw [if_pos h]
    refine ev_bLt (by omega) (by omega) (by omega) (by omega) (fun hc => ?_) (fun hc => absurd h hc)
    refine ev rS_1_3 ?_
    refine ev pS_1_3 ?_
    rw [F_X4_flow_B108]
    refine ev rS_1_0 ?_
    refine ev (aS_2 l0 l3) ?_
    refine ev (rL_2 hVx.xu l0 l3) ?_
    refine evn ?_
    rw [xu_xu, xu_s, xu_nd (show (25 : Int) ≠ 1 by omega)]
    rfl
  · rw [if_neg h]
    refine ev_bLt (by omega) (by omega) (by omega) (by omega) (fun hc => absurd hc h) (fun hc => ?_)
    rw [F_X4_flow_B108]
    refine ev rS_1_0 ?_
    refine ev (aS_2 l0 l3) ?_
    refine ev (rL_2 hVx l0 l3) ?_
    refine evn ?_
    rw [hg2]
    rfl
end V2
