theorem sx_R3 (xs : Nat → Int32) (j : Int) : R3 (sx xs j) := ⟨Int32.le_toInt _, Int32.toInt_lt _⟩
theorem pure_law (jxs : Int → Int) (L : Nat) (hL : L ≤ 2560) (b0 : Nat) (hx : ∀ j, R3 (jxs j)) : ∃ σE : Hp, F_L_law jxs (L : Int) (σ0 b0) = some (1, σE) ∧ σE.1 ≤ b0 + 600000 ∧ σE.2.1 ≤ 7302250 := by
  sorry
