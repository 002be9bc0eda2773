theorem shr_bv (x : Int) (h0 : -2147483648 ≤ x) (h1 : x < 2147483648) (k : Nat) (b : Int32) (hb : (b.toBitVec.smod 32).toNat = k) : (iI x >>> b).toInt = x / 2 ^ k := by
  have e : (iI x).toBitVec.toInt = x := by
    show (iI x).toInt = x
    exact iI_toInt ⟨h0, h1⟩
  show ((iI x >>> b).toBitVec).toInt = _
  rw [Int32.toBitVec_shiftRight, BitVec.sshiftRight_eq', hb, BitVec.toInt_sshiftRight, e, Int.shiftRight_eq_div_pow]
  simp
theorem shr4 {x : Int} (h0 : -2147483648 ≤ x) (h1 : x < 2147483648) : shrI x 4 = x / 16 ∧ shrI x 8 = x / 256 ∧ shrI x 12 = x / 4096 ∧ shrI x 0 = x := by
  unfold shrI
  refine ⟨?_, ?_, ?_, ?_⟩
  · rw [shr_bv x h0 h1 4 _ (by decide)]; rfl
  · rw [shr_bv x h0 h1 8 _ (by decide)]; rfl
  · rw [shr_bv x h0 h1 12 _ (by decide)]; rfl
  · rw [shr_bv x h0 h1 0 _ (by decide)]; simp
set_option maxRecDepth 100000 in
theorem shl_fin : (∀ L : Fin 16, shlI ((L.val : Nat) : Int) 8 = ((256 * L.val : Nat) : Int)) ∧ (∀ L : Fin 256, shlI ((L.val : Nat) : Int) 4 = ((16 * L.val : Nat) : Int)) ∧ ∀ L : Fin 4096, shlI ((L.val : Nat) : Int) 0 = ((L.val : Nat) : Int) := by decide +kernel
theorem shl_one : shlI 1 4 = 16 ∧ shlI 1 8 = 256 ∧ shlI 1 12 = 4096 := by decide +kernel
/-- the lets as three digits -/
def aL (n x : Int) : Int := if n = 1 then 256 * x else if n = 2 then 16 * x else x
/-- one past the greatest -/
def pL (n : Int) : Int := if n = 1 then 16 else if n = 2 then 256 else 4096
theorem aL_eq {n x : Int} (n1 : 1 ≤ n) (n3 : n ≤ 3) (x0 : 0 ≤ x) (x1 : x < pL n) : shlI x (4 * (3 - n)) = aL n x := by
  rcases (by omega : n = 1 ∨ n = 2 ∨ n = 3) with rfl | rfl | rfl
  · have x1 : x < 16 := x1
    have q := shl_fin.1 ⟨x.toNat, by omega⟩
    simp only at q
    rw [show ((x.toNat : Nat) : Int) = x by omega] at q
    show shlI x 8 = 256 * x
    rw [q]; omega
  · have x1 : x < 256 := x1
    have q := shl_fin.2.1 ⟨x.toNat, by omega⟩
    simp only at q
    rw [show ((x.toNat : Nat) : Int) = x by omega] at q
    show shlI x 4 = 16 * x
    rw [q]; omega
  · have x1 : x < 4096 := x1
    have q := shl_fin.2.2 ⟨x.toNat, by omega⟩
    simp only at q
    rw [show ((x.toNat : Nat) : Int) = x by omega] at q
    exact q
theorem pL_eq {n : Int} (n1 : 1 ≤ n) (n3 : n ≤ 3) : shlI 1 (4 * n) - 1 = pL n - 1 ∧ (16 ≤ pL n ∧ pL n ≤ 4096) := by
  rcases (by omega : n = 1 ∨ n = 2 ∨ n = 3) with rfl | rfl | rfl
  · show shlI 1 4 - 1 = 16 - 1 ∧ _
    rw [shl_one.1]; exact ⟨rfl, by decide⟩
  · show shlI 1 8 - 1 = 256 - 1 ∧ _
    rw [shl_one.2.1]; exact ⟨rfl, by decide⟩
  · show shlI 1 12 - 1 = 4096 - 1 ∧ _
    rw [shl_one.2.2]; exact ⟨rfl, by decide⟩
theorem pL_shr {n x : Int} (n1 : 1 ≤ n) (n3 : n ≤ 3) (x0 : 0 ≤ x) (x1 : x < 2147483648) : (shrI x (4 * n) = 0 ↔ x < pL n) ∧ (0 ≤ shrI x (4 * n) ∧ shrI x (4 * n) < 2147483648) := by
  have q := shr4 (x := x) (by omega) x1
  rcases (by omega : n = 1 ∨ n = 2 ∨ n = 3) with rfl | rfl | rfl
  · show (shrI x 4 = 0 ↔ x < 16) ∧ (0 ≤ shrI x 4 ∧ shrI x 4 < 2147483648)
    rw [q.1]; omega
  · show (shrI x 8 = 0 ↔ x < 256) ∧ (0 ≤ shrI x 8 ∧ shrI x 8 < 2147483648)
    rw [q.2.1]; omega
  · show (shrI x 12 = 0 ↔ x < 4096) ∧ (0 ≤ shrI x 12 ∧ shrI x 12 < 2147483648)
    rw [q.2.2.1]; omega
theorem aL_dg {n x l : Int} (n1 : 1 ≤ n) (n3 : n ≤ 3) (x0 : 0 ≤ x) (x1 : x < pL n) (l0 : 0 ≤ l) (l1 : l < n) : andI (shrI x (4 * ((n - 1) - l))) 15 = dg (aL n x) l := by
  have d0 : ∀ L : Int, dg L 0 = L / 256 := fun L => if_pos rfl
  have d1 : ∀ L : Int, dg L 1 = L / 16 % 16 := fun L => rfl
  have d2 : ∀ L : Int, dg L 2 = L % 16 := fun L => rfl
  rcases (by omega : n = 1 ∨ n = 2 ∨ n = 3) with rfl | rfl | rfl
  · have x1 : x < 16 := x1
    have b := dg_bits (L := x) x0 (by omega)
    rw [show l = 0 by omega, d0]
    show andI (shrI x 0) 15 = 256 * x / 256
    rw [b.2.2]; omega
  · have x1 : x < 256 := x1
    have b := dg_bits (L := x) x0 (by omega)
    rcases (by omega : l = 0 ∨ l = 1) with rfl | rfl
    · rw [d0]
      show andI (shrI x 4) 15 = 16 * x / 256
      rw [b.2.1]; omega
    · rw [d1]
      show andI (shrI x 0) 15 = 16 * x / 16 % 16
      rw [b.2.2]; omega
  · have x1 : x < 4096 := x1
    have b := dg_bits (L := x) x0 (by omega)
    rcases (by omega : l = 0 ∨ l = 1 ∨ l = 2) with rfl | rfl | rfl
    · rw [d0]
      show andI (shrI x 8) 15 = x / 256
      exact b.1
    · rw [d1]
      show andI (shrI x 4) 15 = x / 16 % 16
      exact b.2.1
    · rw [d2]
      show andI (shrI x 0) 15 = x % 16
      exact b.2.2
theorem aL_bd {n x : Int} (n1 : 1 ≤ n) (n3 : n ≤ 3) (x0 : 0 ≤ x) (x1 : x < pL n) : (0 ≤ aL n x ∧ aL n x < 4096) ∧ ∀ l, n ≤ l → l < 3 → dg (aL n x) l = 0 := by
  have d1 : ∀ L : Int, dg L 1 = L / 16 % 16 := fun L => rfl
  have d2 : ∀ L : Int, dg L 2 = L % 16 := fun L => rfl
  rcases (by omega : n = 1 ∨ n = 2 ∨ n = 3) with rfl | rfl | rfl
  · have x1 : x < 16 := x1
    show (0 ≤ 256 * x ∧ 256 * x < 4096) ∧ ∀ l, 1 ≤ l → l < 3 → dg (256 * x) l = 0
    refine ⟨by omega, fun l a b => ?_⟩
    rcases (by omega : l = 1 ∨ l = 2) with rfl | rfl
    · rw [d1]; omega
    · rw [d2]; omega
  · have x1 : x < 256 := x1
    show (0 ≤ 16 * x ∧ 16 * x < 4096) ∧ ∀ l, 2 ≤ l → l < 3 → dg (16 * x) l = 0
    refine ⟨by omega, fun l a b => ?_⟩
    rw [show l = 2 by omega, d2]; omega
  · have x1 : x < 4096 := x1
    show (0 ≤ x ∧ x < 4096) ∧ ∀ l, 3 ≤ l → l < 3 → dg x l = 0
    exact ⟨⟨x0, x1⟩, fun l a b => by omega⟩
