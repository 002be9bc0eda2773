section R3
variable {b0 m z sz N ci : Nat} {ξ ζ : Int → Int → Int} {c l v i n e : Int} {k : Int} {γ : Type}
/-- the model as it is made -/
def MP (b0 : Nat) (ξ : Int → Int → Int) : Prop := ξ 23 2 = ((b0 : Int) + 24) ∧ ξ 23 3 = ((b0 : Int) + 25) ∧ ξ 23 4 = ((b0 : Int) + 26) ∧ ξ 23 5 = ((b0 : Int) + 27) ∧ ξ 23 6 = ((b0 : Int) + 28) ∧ ξ 23 7 = ((b0 : Int) + 29) ∧ ξ 23 10 = ((b0 : Int) + 30) ∧ ξ 23 12 = ((b0 : Int) + 31) ∧ ξ 23 13 = ((b0 : Int) + 32) ∧ ξ 23 14 = ((b0 : Int) + 33) ∧ ξ 23 15 = ((b0 : Int) + 34) ∧ ξ 23 16 = ((b0 : Int) + 35) ∧ ξ 23 17 = ((b0 : Int) + 36) ∧ ξ 23 20 = ((b0 : Int) + 37) ∧ ξ 23 21 = ((b0 : Int) + 38) ∧ ξ 23 22 = ((b0 : Int) + 39) ∧ ξ 23 23 = ((b0 : Int) + 40) ∧ ξ 23 24 = ((b0 : Int) + 41) ∧ ξ 23 25 = ((b0 : Int) + 42) ∧ ξ 23 26 = ((b0 : Int) + 43) ∧ ξ 23 27 = ((b0 : Int) + 44) ∧ ξ 23 28 = ((b0 : Int) + 45) ∧ ξ 23 29 = ((b0 : Int) + 46) ∧ ξ 23 30 = ((b0 : Int) + 47) ∧ ξ 23 31 = ((b0 : Int) + 48) ∧ ξ 23 34 = ((b0 : Int) + 49) ∧ ξ 23 35 = ((b0 : Int) + 50) ∧ ξ 23 36 = ((b0 : Int) + 51) ∧ ξ 23 37 = ((b0 : Int) + 52) ∧ ξ 23 38 = ((b0 : Int) + 53) ∧ ξ 23 39 = ((b0 : Int) + 54)
def MS (b0 : Nat) (ξ : Int → Int → Int) : Prop := MP b0 ξ ∧ (ξ 23 1 = 0 ∧ ξ 23 8 = 1 ∧ ξ 23 9 = 1 ∧ ξ 23 11 = 1 ∧ ξ 23 18 = 0 ∧ ξ 23 19 = 0 ∧ ξ 23 32 = 0 ∧ ξ 23 33 = 0) ∧ (∀ w, 0 ≤ w → w < 10 → ξ 30 w = 1) ∧ ξ 31 0 = -1 ∧ ξ 33 0 = -1 ∧ ∀ d k, 24 ≤ d → d ≤ 54 → d ≠ 30 → ¬ ((d = 31 ∨ d = 33) ∧ k = 0) → ξ d k = 0
set_option maxRecDepth 20000 in
set_option maxHeartbeats 4000000 in
theorem X8_mk (hD : Dd 24 ξ) (hr : ∀ k, ξ 23 k = d0 8 k) : ∃ ξ' z', F_X8_init ((b0 : Int) + 23) (I b0 24 z ξ) = some (0, I b0 55 z' ξ') ∧ z' ≤ z + 400000 ∧ (∀ d k, d < 23 → ξ' d k = ξ d k) ∧ MS b0 ξ' := by
  have dr := d0_rest
  have yd : ∀ d k, 24 ≤ d → d ≤ 54 → ξ d k = 0 := fun d k a b => by
    rw [hD d k (by omega)]
    unfold xD
    rw [if_neg (by omega), if_neg (by omega), if_neg (by omega), if_neg (by omega), if_neg (by omega), if_neg (by omega), if_neg (by omega), if_neg (by omega), if_neg (by omega), if_neg (by omega), if_neg (by omega), if_neg (by omega), if_neg (by omega), if_neg (by omega)]
  refine ⟨(xu (xu (xu (xu (xu (xu (xu (xu (xu (xu (xu (xu (xu (xu (xu (xu (xu (xu (xu (xu (xu (xu (xu (xu (xu (xu (xu (xu (xu (xu (xu (xu (xu (xu (xu (xu (xu (xu (xu (xu (xu (xu (xu (xu (xu (xu ξ 23 2 ((b0 : Int) + 24)) 23 3 ((b0 : Int) + 25)) 23 4 ((b0 : Int) + 26)) 23 5 ((b0 : Int) + 27)) 23 6 ((b0 : Int) + 28)) 23 7 ((b0 : Int) + 29)) 23 8 1) 23 9 1) 30 0 1) 30 1 1) 30 2 1) 30 3 1) 30 4 1) 30 5 1) 30 6 1) 30 7 1) 30 8 1) 30 9 1) 23 10 ((b0 : Int) + 30)) 23 11 1) 23 12 ((b0 : Int) + 31)) 23 13 ((b0 : Int) + 32)) 23 14 ((b0 : Int) + 33)) 23 15 ((b0 : Int) + 34)) 23 16 ((b0 : Int) + 35)) 23 17 ((b0 : Int) + 36)) 23 20 ((b0 : Int) + 37)) 23 21 ((b0 : Int) + 38)) 23 22 ((b0 : Int) + 39)) 23 23 ((b0 : Int) + 40)) 23 24 ((b0 : Int) + 41)) 23 25 ((b0 : Int) + 42)) 23 26 ((b0 : Int) + 43)) 23 27 ((b0 : Int) + 44)) 23 28 ((b0 : Int) + 45)) 23 29 ((b0 : Int) + 46)) 23 30 ((b0 : Int) + 47)) 23 31 ((b0 : Int) + 48)) 23 34 ((b0 : Int) + 49)) 23 35 ((b0 : Int) + 50)) 23 36 ((b0 : Int) + 51)) 23 37 ((b0 : Int) + 52)) 23 38 ((b0 : Int) + 53)) 23 39 ((b0 : Int) + 54)) 31 0 (-1)) 33 0 (-1)), z + (3 : Int).toNat + (3 : Int).toNat + (3 : Int).toNat + (3 : Int).toNat + (93 : Int).toNat + (3 : Int).toNat + (10 : Int).toNat + (81 : Int).toNat + (81 : Int).toNat + (81 : Int).toNat + (243 : Int).toNat + (3 : Int).toNat + (3 : Int).toNat + (81000 : Int).toNat + (81000 : Int).toNat + (81000 : Int).toNat + (81000 : Int).toNat + (3 : Int).toNat + (3 : Int).toNat + (81 : Int).toNat + (81 : Int).toNat + (81 : Int).toNat + (81 : Int).toNat + (81 : Int).toNat + (81 : Int).toNat + (11 : Int).toNat + (11 : Int).toNat + (11 : Int).toNat + (11 : Int).toNat + (11 : Int).toNat + (11 : Int).toNat, ?_, ?_, fun d k q => ?_, ?_⟩
  · rw [F_X8_init]
    refine (i_iv (by decide) (by decide) rfl).trans ?_
    refine i_nab 24 rfl hD rfl rfl (fun _ => rfl) (by decide) (fun hD => ?_)
    refine i_pw (by decide) (by decide) hD rfl (fun hD => ?_)
    refine i_nab 25 rfl hD rfl rfl (fun _ => rfl) (by decide) (fun hD => ?_)
    refine i_pw (by decide) (by decide) hD rfl (fun hD => ?_)
    refine i_nab 26 rfl hD rfl rfl (fun _ => rfl) (by decide) (fun hD => ?_)
    refine i_pw (by decide) (by decide) hD rfl (fun hD => ?_)
    refine i_nab 27 rfl hD rfl rfl (fun _ => rfl) (by decide) (fun hD => ?_)
    refine i_pw (by decide) (by decide) hD rfl (fun hD => ?_)
    refine i_nab 28 rfl hD rfl rfl (fun _ => rfl) (by decide) (fun hD => ?_)
    refine i_pw (by decide) (by decide) hD rfl (fun hD => ?_)
    refine i_nab 29 rfl hD rfl rfl (fun _ => rfl) (by decide) (fun hD => ?_)
    refine i_pw (by decide) (by decide) hD rfl (fun hD => ?_)
    refine i_pw (by decide) (by decide) hD rfl (fun hD => ?_)
    refine i_pw (by decide) (by decide) hD rfl (fun hD => ?_)
    refine i_nab 30 rfl hD rfl rfl (fun _ => rfl) (by decide) (fun hD => ?_)
    refine i_aw (by decide) (by decide) hD rfl rfl (by decide) (by decide) (by decide) (fun hD => ?_)
    refine i_aw (by decide) (by decide) hD rfl rfl (by decide) (by decide) (by decide) (fun hD => ?_)
    refine i_aw (by decide) (by decide) hD rfl rfl (by decide) (by decide) (by decide) (fun hD => ?_)
    refine i_aw (by decide) (by decide) hD rfl rfl (by decide) (by decide) (by decide) (fun hD => ?_)
    refine i_aw (by decide) (by decide) hD rfl rfl (by decide) (by decide) (by decide) (fun hD => ?_)
    refine i_aw (by decide) (by decide) hD rfl rfl (by decide) (by decide) (by decide) (fun hD => ?_)
    refine i_aw (by decide) (by decide) hD rfl rfl (by decide) (by decide) (by decide) (fun hD => ?_)
    refine i_aw (by decide) (by decide) hD rfl rfl (by decide) (by decide) (by decide) (fun hD => ?_)
    refine i_aw (by decide) (by decide) hD rfl rfl (by decide) (by decide) (by decide) (fun hD => ?_)
    refine i_aw (by decide) (by decide) hD rfl rfl (by decide) (by decide) (by decide) (fun hD => ?_)
    refine i_pw (by decide) (by decide) hD rfl (fun hD => ?_)
    refine i_pw (by decide) (by decide) hD rfl (fun hD => ?_)
    refine i_nab 31 rfl hD rfl rfl (fun _ => rfl) (by decide) (fun hD => ?_)
    refine i_pw (by decide) (by decide) hD rfl (fun hD => ?_)
    refine i_nab 32 rfl hD rfl rfl (fun _ => rfl) (by decide) (fun hD => ?_)
    refine i_pw (by decide) (by decide) hD rfl (fun hD => ?_)
    refine i_nab 33 rfl hD rfl rfl (fun _ => rfl) (by decide) (fun hD => ?_)
    refine i_pw (by decide) (by decide) hD rfl (fun hD => ?_)
    refine i_nab 34 rfl hD rfl rfl (fun _ => rfl) (by decide) (fun hD => ?_)
    refine i_pw (by decide) (by decide) hD rfl (fun hD => ?_)
    refine i_nab 35 rfl hD rfl rfl (fun _ => rfl) (by decide) (fun hD => ?_)
    refine i_pw (by decide) (by decide) hD rfl (fun hD => ?_)
    refine i_nab 36 rfl hD rfl rfl (fun _ => rfl) (by decide) (fun hD => ?_)
    refine i_pw (by decide) (by decide) hD rfl (fun hD => ?_)
    refine i_nab 37 rfl hD rfl rfl (fun _ => rfl) (by decide) (fun hD => ?_)
    refine i_pw (by decide) (by decide) hD rfl (fun hD => ?_)
    refine i_nab 38 rfl hD rfl rfl (fun _ => rfl) (by decide) (fun hD => ?_)
    refine i_pw (by decide) (by decide) hD rfl (fun hD => ?_)
    refine i_nab 39 rfl hD rfl rfl (fun _ => rfl) (by decide) (fun hD => ?_)
    refine i_pw (by decide) (by decide) hD rfl (fun hD => ?_)
    refine i_nab 40 rfl hD rfl rfl (fun _ => rfl) (by decide) (fun hD => ?_)
    refine i_pw (by decide) (by decide) hD rfl (fun hD => ?_)
    refine i_nab 41 rfl hD rfl rfl (fun _ => rfl) (by decide) (fun hD => ?_)
    refine i_pw (by decide) (by decide) hD rfl (fun hD => ?_)
    refine i_nab 42 rfl hD rfl rfl (fun _ => rfl) (by decide) (fun hD => ?_)
    refine i_pw (by decide) (by decide) hD rfl (fun hD => ?_)
    refine i_nab 43 rfl hD rfl rfl (fun _ => rfl) (by decide) (fun hD => ?_)
    refine i_pw (by decide) (by decide) hD rfl (fun hD => ?_)
    refine i_nab 44 rfl hD rfl rfl (fun _ => rfl) (by decide) (fun hD => ?_)
    refine i_pw (by decide) (by decide) hD rfl (fun hD => ?_)
    refine i_nab 45 rfl hD rfl rfl (fun _ => rfl) (by decide) (fun hD => ?_)
    refine i_pw (by decide) (by decide) hD rfl (fun hD => ?_)
    refine i_nab 46 rfl hD rfl rfl (fun _ => rfl) (by decide) (fun hD => ?_)
    refine i_pw (by decide) (by decide) hD rfl (fun hD => ?_)
    refine i_nab 47 rfl hD rfl rfl (fun _ => rfl) (by decide) (fun hD => ?_)
    refine i_pw (by decide) (by decide) hD rfl (fun hD => ?_)
    refine i_nab 48 rfl hD rfl rfl (fun _ => rfl) (by decide) (fun hD => ?_)
    refine i_pw (by decide) (by decide) hD rfl (fun hD => ?_)
    refine i_nab 49 rfl hD rfl rfl (fun _ => rfl) (by decide) (fun hD => ?_)
    refine i_pw (by decide) (by decide) hD rfl (fun hD => ?_)
    refine i_nab 50 rfl hD rfl rfl (fun _ => rfl) (by decide) (fun hD => ?_)
    refine i_pw (by decide) (by decide) hD rfl (fun hD => ?_)
    refine i_nab 51 rfl hD rfl rfl (fun _ => rfl) (by decide) (fun hD => ?_)
    refine i_pw (by decide) (by decide) hD rfl (fun hD => ?_)
    refine i_nab 52 rfl hD rfl rfl (fun _ => rfl) (by decide) (fun hD => ?_)
    refine i_pw (by decide) (by decide) hD rfl (fun hD => ?_)
    refine i_nab 53 rfl hD rfl rfl (fun _ => rfl) (by decide) (fun hD => ?_)
    refine i_pw (by decide) (by decide) hD rfl (fun hD => ?_)
    refine i_nab 54 rfl hD rfl rfl (fun _ => rfl) (by decide) (fun hD => ?_)
    refine i_pw (by decide) (by decide) hD rfl (fun hD => ?_)
    refine i_rdv ((b0 : Int) + 31) (by simp [xu]) (by decide) (by decide) rfl ?_
    refine i_aw (by decide) (by decide) hD rfl rfl (by decide) (by decide) (by decide) (fun hD => ?_)
    refine i_rdv ((b0 : Int) + 33) (by simp [xu]) (by decide) (by decide) rfl ?_
    refine i_aw (by decide) (by decide) hD rfl rfl (by decide) (by decide) (by decide) (fun hD => ?_)
    rfl
  · show z + (3 : Int).toNat + (3 : Int).toNat + (3 : Int).toNat + (3 : Int).toNat + (93 : Int).toNat + (3 : Int).toNat + (10 : Int).toNat + (81 : Int).toNat + (81 : Int).toNat + (81 : Int).toNat + (243 : Int).toNat + (3 : Int).toNat + (3 : Int).toNat + (81000 : Int).toNat + (81000 : Int).toNat + (81000 : Int).toNat + (81000 : Int).toNat + (3 : Int).toNat + (3 : Int).toNat + (81 : Int).toNat + (81 : Int).toNat + (81 : Int).toNat + (81 : Int).toNat + (81 : Int).toNat + (81 : Int).toNat + (11 : Int).toNat + (11 : Int).toNat + (11 : Int).toNat + (11 : Int).toNat + (11 : Int).toNat + (11 : Int).toNat ≤ z + 400000
    simp
  · simp only [xu]
    rw [if_neg (fun y => by have := y.1; omega), if_neg (fun y => by have := y.1; omega), if_neg (fun y => by have := y.1; omega), if_neg (fun y => by have := y.1; omega), if_neg (fun y => by have := y.1; omega), if_neg (fun y => by have := y.1; omega), if_neg (fun y => by have := y.1; omega), if_neg (fun y => by have := y.1; omega), if_neg (fun y => by have := y.1; omega), if_neg (fun y => by have := y.1; omega), if_neg (fun y => by have := y.1; omega), if_neg (fun y => by have := y.1; omega), if_neg (fun y => by have := y.1; omega), if_neg (fun y => by have := y.1; omega), if_neg (fun y => by have := y.1; omega), if_neg (fun y => by have := y.1; omega), if_neg (fun y => by have := y.1; omega), if_neg (fun y => by have := y.1; omega), if_neg (fun y => by have := y.1; omega), if_neg (fun y => by have := y.1; omega), if_neg (fun y => by have := y.1; omega), if_neg (fun y => by have := y.1; omega), if_neg (fun y => by have := y.1; omega), if_neg (fun y => by have := y.1; omega), if_neg (fun y => by have := y.1; omega), if_neg (fun y => by have := y.1; omega), if_neg (fun y => by have := y.1; omega), if_neg (fun y => by have := y.1; omega), if_neg (fun y => by have := y.1; omega), if_neg (fun y => by have := y.1; omega), if_neg (fun y => by have := y.1; omega), if_neg (fun y => by have := y.1; omega), if_neg (fun y => by have := y.1; omega), if_neg (fun y => by have := y.1; omega), if_neg (fun y => by have := y.1; omega), if_neg (fun y => by have := y.1; omega), if_neg (fun y => by have := y.1; omega), if_neg (fun y => by have := y.1; omega), if_neg (fun y => by have := y.1; omega), if_neg (fun y => by have := y.1; omega), if_neg (fun y => by have := y.1; omega), if_neg (fun y => by have := y.1; omega), if_neg (fun y => by have := y.1; omega), if_neg (fun y => by have := y.1; omega), if_neg (fun y => by have := y.1; omega), if_neg (fun y => by have := y.1; omega)]
  · refine ⟨?_, ⟨?_, ?_, ?_, ?_, ?_, ?_, ?_, ?_⟩, fun w w0 w1 => ?_, ?_, ?_, fun d k a b c e => ?_⟩
    · unfold MP
      simp [xu]
    · simp [xu, hr, dr.2.2.1]
    · simp [xu]
    · simp [xu]
    · simp [xu]
    · simp [xu, hr, dr.2.2.2.1]
    · simp [xu, hr, dr.2.2.2.2.1]
    · simp [xu, hr, dr.2.2.2.2.2.1]
    · simp [xu, hr, dr.2.2.2.2.2.2]
    · rcases (by omega : w = 0 ∨ w = 1 ∨ w = 2 ∨ w = 3 ∨ w = 4 ∨ w = 5 ∨ w = 6 ∨ w = 7 ∨ w = 8 ∨ w = 9) with rfl | rfl | rfl | rfl | rfl | rfl | rfl | rfl | rfl | rfl <;> simp [xu]
    · simp [xu]
    · simp [xu]
    · have h23 : d ≠ 23 := by omega
      have h31 : ¬ (d = 31 ∧ k = 0) := fun y => e ⟨Or.inl y.1, y.2⟩
      have h33 : ¬ (d = 33 ∧ k = 0) := fun y => e ⟨Or.inr y.1, y.2⟩
      simp only [xu]
      rw [if_neg h33, if_neg h31, if_neg (fun y => h23 y.1), if_neg (fun y => h23 y.1), if_neg (fun y => h23 y.1), if_neg (fun y => h23 y.1), if_neg (fun y => h23 y.1), if_neg (fun y => h23 y.1), if_neg (fun y => h23 y.1), if_neg (fun y => h23 y.1), if_neg (fun y => h23 y.1), if_neg (fun y => h23 y.1), if_neg (fun y => h23 y.1), if_neg (fun y => h23 y.1), if_neg (fun y => h23 y.1), if_neg (fun y => h23 y.1), if_neg (fun y => h23 y.1), if_neg (fun y => h23 y.1), if_neg (fun y => h23 y.1), if_neg (fun y => h23 y.1), if_neg (fun y => h23 y.1), if_neg (fun y => h23 y.1), if_neg (fun y => h23 y.1), if_neg (fun y => h23 y.1), if_neg (fun y => h23 y.1), if_neg (fun y => h23 y.1), if_neg (fun y => h23 y.1), if_neg (fun y => h23 y.1), if_neg (fun y => c y.1), if_neg (fun y => c y.1), if_neg (fun y => c y.1), if_neg (fun y => c y.1), if_neg (fun y => c y.1), if_neg (fun y => c y.1), if_neg (fun y => c y.1), if_neg (fun y => c y.1), if_neg (fun y => c y.1), if_neg (fun y => c y.1), if_neg (fun y => h23 y.1), if_neg (fun y => h23 y.1), if_neg (fun y => h23 y.1), if_neg (fun y => h23 y.1), if_neg (fun y => h23 y.1), if_neg (fun y => h23 y.1), if_neg (fun y => h23 y.1), if_neg (fun y => h23 y.1), yd d k a b]
end R3
