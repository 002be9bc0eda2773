section A1
variable {ξ ζ : Int → Int → Int} {i m s t L a b c : Int}
theorem dm {x z r : Int} (hz : 0 < z) (r0 : 0 ≤ r) (r1 : r < z) : (x * z + r) / z = x ∧ (x * z + r) % z = r := by
  constructor
  · rw [Int.add_comm, Int.add_mul_ediv_right _ _ (by omega), Int.ediv_eq_zero_of_lt r0 r1, Int.zero_add]
  · rw [Int.add_comm, Int.add_mul_emod_self_right, Int.emod_eq_of_lt r0 r1]
theorem ms_enc (hB : LB ξ) (a0 : 0 ≤ a) (a1 : a ≤ ξ 25 0) (b0 : 0 ≤ b) (b1 : b ≤ ξ 25 1) (c0 : 0 ≤ c) (c1 : c ≤ ξ 25 2) : ms ξ (enc ξ a b c) 0 = a ∧ ms ξ (enc ξ a b c) 1 = b ∧ ms ξ (enc ξ a b c) 2 = c := by
  obtain ⟨p1, p2⟩ := dm (x := a * (ξ 25 1 + 1) + b) (z := ξ 25 2 + 1) (r := c) (by omega) c0 (by omega)
  obtain ⟨q1, q2⟩ := dm (x := a) (z := ξ 25 1 + 1) (r := b) (by omega) b0 (by omega)
  unfold ms enc
  refine ⟨?_, ?_, ?_⟩
  · rw [if_pos rfl, p1, q1, Int.emod_eq_of_lt a0 (by omega)]
  · rw [if_neg (by omega), if_pos rfl, p1, q2]
  · rw [if_neg (by omega), if_neg (by omega), p2]
theorem enc_bd (hB : LB ξ) (a0 : 0 ≤ a) (a1 : a ≤ ξ 25 0) (b0 : 0 ≤ b) (b1 : b ≤ ξ 25 1) (c0 : 0 ≤ c) (c1 : c ≤ ξ 25 2) : 0 ≤ enc ξ a b c ∧ enc ξ a b c < ZZ ξ := by
  have g1 := hB.gr (l := 1) (by omega) (by omega)
  have g2 := hB.gr (l := 2) (by omega) (by omega)
  unfold enc ZZ
  have h1 : 0 ≤ a * (ξ 25 1 + 1) := Int.mul_nonneg a0 (by omega)
  have h2 : a * (ξ 25 1 + 1) ≤ ξ 25 0 * (ξ 25 1 + 1) := Int.mul_le_mul_of_nonneg_right a1 (by omega)
  have h3 : 0 ≤ (a * (ξ 25 1 + 1) + b) * (ξ 25 2 + 1) := Int.mul_nonneg (by omega) (by omega)
  have e1 : (ξ 25 0 + 1) * (ξ 25 1 + 1) = ξ 25 0 * (ξ 25 1 + 1) + (ξ 25 1 + 1) := by rw [Int.add_mul, Int.one_mul]
  have h4 : (a * (ξ 25 1 + 1) + b + 1) * (ξ 25 2 + 1) ≤ (ξ 25 0 + 1) * (ξ 25 1 + 1) * (ξ 25 2 + 1) := Int.mul_le_mul_of_nonneg_right (by omega) (by omega)
  have e2 : (a * (ξ 25 1 + 1) + b + 1) * (ξ 25 2 + 1) = (a * (ξ 25 1 + 1) + b) * (ξ 25 2 + 1) + (ξ 25 2 + 1) := by rw [Int.add_mul, Int.one_mul]
  omega
theorem enc_ms (hB : LB ξ) (s0 : 0 ≤ s) (s1 : s < ZZ ξ) : enc ξ (ms ξ s 0) (ms ξ s 1) (ms ξ s 2) = s := by
  have g0 := hB.gr (l := 0) (by omega) (by omega)
  have g1 := hB.gr (l := 1) (by omega) (by omega)
  have g2 := hB.gr (l := 2) (by omega) (by omega)
  unfold ms enc
  simp only [if_true]
  rw [if_neg (by omega : ¬ (1 : Int) = 0), if_neg (by omega : ¬ (2 : Int) = 0), if_neg (by omega : ¬ (2 : Int) = 1)]
  have hq : s / (ξ 25 2 + 1) / (ξ 25 1 + 1) < ξ 25 0 + 1 := by
    refine Int.ediv_lt_of_lt_mul (by omega) (Int.ediv_lt_of_lt_mul (by omega) ?_)
    unfold ZZ at s1
    exact s1
  rw [Int.emod_eq_of_lt (Int.ediv_nonneg (Int.ediv_nonneg s0 (by omega)) (by omega)) hq]
  have e1 := Int.mul_ediv_add_emod (s / (ξ 25 2 + 1)) (ξ 25 1 + 1)
  have e2 := Int.mul_ediv_add_emod s (ξ 25 2 + 1)
  rw [Int.mul_comm] at e1 e2
  rw [e1, e2]
/-- the water that comes is a state -/
theorem gfl_bd {i0 i1 i2 m0 m1 m2 t0 t1 t2 : Int} (hB : LB ξ) (p0 : 0 ≤ i0) (p1 : 0 ≤ i1) (p2 : 0 ≤ i2) (h0 : 0 ≤ t0 ∧ t0 ≤ m0) (h1 : 0 ≤ t1 ∧ t1 ≤ m1) (h2 : 0 ≤ t2 ∧ t2 ≤ m2) : 0 ≤ gfl ξ i0 i1 i2 m0 m1 m2 t0 t1 t2 ∧ gfl ξ i0 i1 i2 m0 m1 m2 t0 t1 t2 < ZZ ξ := by
  have g0 := hB.gr (l := 0) (by omega) (by omega)
  have g1 := hB.gr (l := 1) (by omega) (by omega)
  have g2 := hB.gr (l := 2) (by omega) (by omega)
  have q0 : 0 ≤ go0 ξ i0 m0 t0 := by unfold go0 ovf; omega
  have q1 : 0 ≤ go1 ξ i0 i1 m0 m1 t0 t1 := by unfold go1 ovf; omega
  unfold gfl
  refine enc_bd hB ?_ ?_ ?_ ?_ ?_ ?_
  · unfold go0 gx0 ovf; omega
  · unfold go0 gx0 ovf; omega
  · unfold go1 gx1 ovf; omega
  · unfold go1 gx1 ovf; omega
  · unfold go2 gx2 ovf; omega
  · unfold go2 gx2 ovf; omega
/-- what lets leave, before the rain, is a state too -/
def kept (ξ : Int → Int → Int) (m0 m1 m2 t0 t1 t2 : Int) : Int := gfl ξ 0 0 0 m0 m1 m2 t0 t1 t2
theorem kept_flow {i0 i1 i2 m0 m1 m2 t0 t1 t2 : Int} (hB : LB ξ) (p0 : 0 ≤ i0) (p1 : 0 ≤ i1) (p2 : 0 ≤ i2) (hm0 : m0 ≤ ξ 25 0) (h0 : 0 ≤ t0 ∧ t0 ≤ m0) (h1 : 0 ≤ t1 ∧ t1 ≤ m1) (h2 : 0 ≤ t2 ∧ t2 ≤ m2) : gfl ξ i0 i1 i2 (ms ξ (kept ξ m0 m1 m2 t0 t1 t2) 0) (ms ξ (kept ξ m0 m1 m2 t0 t1 t2) 1) (ms ξ (kept ξ m0 m1 m2 t0 t1 t2) 2) 0 0 0 = gfl ξ i0 i1 i2 m0 m1 m2 t0 t1 t2 := by
  have g0 := hB.gr (l := 0) (by omega) (by omega)
  have g1 := hB.gr (l := 1) (by omega) (by omega)
  have g2 := hB.gr (l := 2) (by omega) (by omega)
  have q0 : 0 ≤ go0 ξ 0 m0 t0 := by unfold go0 ovf; omega
  have q1 : 0 ≤ go1 ξ 0 0 m0 m1 t0 t1 := by unfold go1 ovf; omega
  have e := ms_enc (a := gx0 ξ 0 m0 t0 - go0 ξ 0 m0 t0) (b := gx1 ξ 0 0 m0 m1 t0 t1 - go1 ξ 0 0 m0 m1 t0 t1) (c := gx2 ξ 0 0 0 m0 m1 m2 t0 t1 t2 - go2 ξ 0 0 0 m0 m1 m2 t0 t1 t2) hB (by unfold go0 gx0 ovf; omega) (by unfold go0 gx0 ovf; omega) (by unfold go1 gx1 ovf; omega) (by unfold go1 gx1 ovf; omega) (by unfold go2 gx2 ovf; omega) (by unfold go2 gx2 ovf; omega)
  have e' : kept ξ m0 m1 m2 t0 t1 t2 = enc ξ (gx0 ξ 0 m0 t0 - go0 ξ 0 m0 t0) (gx1 ξ 0 0 m0 m1 t0 t1 - go1 ξ 0 0 m0 m1 t0 t1) (gx2 ξ 0 0 0 m0 m1 m2 t0 t1 t2 - go2 ξ 0 0 0 m0 m1 m2 t0 t1 t2) := rfl
  rw [e', e.1, e.2.1, e.2.2]
  unfold gfl
  have r0 : go0 ξ i0 (gx0 ξ 0 m0 t0 - go0 ξ 0 m0 t0) 0 = go0 ξ i0 m0 t0 := by unfold go0 gx0 ovf; omega
  have s0 : gx0 ξ i0 (gx0 ξ 0 m0 t0 - go0 ξ 0 m0 t0) 0 = gx0 ξ i0 m0 t0 := by unfold go0 gx0 ovf; omega
  have k0 : go0 ξ 0 m0 t0 = 0 := by unfold go0 gx0 ovf; omega
  have w0 : 0 ≤ go0 ξ i0 m0 t0 := by unfold go0 ovf; omega
  have r1 : go1 ξ i0 i1 (gx0 ξ 0 m0 t0 - go0 ξ 0 m0 t0) (gx1 ξ 0 0 m0 m1 t0 t1 - go1 ξ 0 0 m0 m1 t0 t1) 0 0 + go1 ξ 0 0 m0 m1 t0 t1 = go1 ξ i0 i1 m0 m1 t0 t1 := by
    unfold go1 gx1 ovf
    rw [r0, k0]
    omega
  have s1 : gx1 ξ i0 i1 (gx0 ξ 0 m0 t0 - go0 ξ 0 m0 t0) (gx1 ξ 0 0 m0 m1 t0 t1 - go1 ξ 0 0 m0 m1 t0 t1) 0 0 - go1 ξ i0 i1 (gx0 ξ 0 m0 t0 - go0 ξ 0 m0 t0) (gx1 ξ 0 0 m0 m1 t0 t1 - go1 ξ 0 0 m0 m1 t0 t1) 0 0 = gx1 ξ i0 i1 m0 m1 t0 t1 - go1 ξ i0 i1 m0 m1 t0 t1 := by
    have : gx1 ξ i0 i1 (gx0 ξ 0 m0 t0 - go0 ξ 0 m0 t0) (gx1 ξ 0 0 m0 m1 t0 t1 - go1 ξ 0 0 m0 m1 t0 t1) 0 0 = gx1 ξ i0 i1 m0 m1 t0 t1 - go1 ξ 0 0 m0 m1 t0 t1 := by
      unfold gx1
      rw [r0, k0]
      omega
    omega
  have w1 : 0 ≤ go1 ξ i0 i1 (gx0 ξ 0 m0 t0 - go0 ξ 0 m0 t0) (gx1 ξ 0 0 m0 m1 t0 t1 - go1 ξ 0 0 m0 m1 t0 t1) 0 0 := by unfold go1 ovf; omega
  generalize hG1 : go1 ξ i0 i1 (gx0 ξ 0 m0 t0 - go0 ξ 0 m0 t0) (gx1 ξ 0 0 m0 m1 t0 t1 - go1 ξ 0 0 m0 m1 t0 t1) 0 0 = G1 at *
  generalize hG : go1 ξ 0 0 m0 m1 t0 t1 = G at *
  have s2 : gx2 ξ i0 i1 i2 (gx0 ξ 0 m0 t0 - go0 ξ 0 m0 t0) (gx1 ξ 0 0 m0 m1 t0 t1 - G) (gx2 ξ 0 0 0 m0 m1 m2 t0 t1 t2 - go2 ξ 0 0 0 m0 m1 m2 t0 t1 t2) 0 0 0 - go2 ξ i0 i1 i2 (gx0 ξ 0 m0 t0 - go0 ξ 0 m0 t0) (gx1 ξ 0 0 m0 m1 t0 t1 - G) (gx2 ξ 0 0 0 m0 m1 m2 t0 t1 t2 - go2 ξ 0 0 0 m0 m1 m2 t0 t1 t2) 0 0 0 = gx2 ξ i0 i1 i2 m0 m1 m2 t0 t1 t2 - go2 ξ i0 i1 i2 m0 m1 m2 t0 t1 t2 := by
    unfold go2 gx2 ovf
    rw [hG1, hG, ← r1]
    omega
  rw [r0, s0, s1, s2]
end A1
