/-- a sum from a on, of n members -/
def sf (f : Int → Int) (a : Int) : Nat → Int
  | 0 => 0
  | n + 1 => f a + sf f (a + 1) n
theorem sf_bd {f : Int → Int} {M : Int} : ∀ (n : Nat) (a : Int), (∀ i, a ≤ i → i < a + n → 0 ≤ f i ∧ f i ≤ M) → 0 ≤ sf f a n ∧ sf f a n ≤ M * n
  | 0, a, h => by simp [sf]
  | n + 1, a, h => by
    have h1 := h a (by omega) (by omega)
    have h2 := sf_bd n (a + 1) (fun i p q => h i (by omega) (by omega))
    have e : M * ((n + 1 : Nat) : Int) = M + M * (n : Int) := by
      rw [Int.natCast_add, Int.mul_add]; simp; omega
    rw [e]
    show 0 ≤ f a + sf f (a + 1) n ∧ f a + sf f (a + 1) n ≤ _
    omega
section M5
variable {b0 : Int} {σ : Hp} {ξ ζ : Int → Int → Int}
/-- weeks and nodes -/
def TB (ξ : Int → Int → Int) : Prop := (1 ≤ ξ 23 8 ∧ ξ 23 8 ≤ 10) ∧ (1 ≤ ξ 23 9 ∧ ξ 23 9 ≤ 6) ∧ (1 ≤ ξ 23 11 ∧ ξ 23 11 ≤ 81) ∧ (∀ w, 0 ≤ w → w < 10 → 0 ≤ ξ 30 w ∧ ξ 30 w ≤ 20) ∧ (ξ 31 0 = -1 ∧ ξ 33 0 = -1) ∧ (∀ n, 1 ≤ n → n < ξ 23 11 → 0 ≤ ξ 31 n ∧ ξ 31 n < n ∧ ξ 33 n = ξ 33 (ξ 31 n) + 1 ∧ ξ 33 n ≤ ξ 23 8 - 1 ∧ 1 ≤ ξ 32 n ∧ ξ 32 n ≤ ξ 23 9) ∧ IFB ξ
theorem TB.wk (hT : TB ξ) : ∀ (k : Nat) (n : Int), n = k → n < ξ 23 11 → -1 ≤ ξ 33 n ∧ ξ 33 n ≤ ξ 23 8 - 1 := by
  intro k
  induction k using Nat.strongRecOn with
  | _ k ih =>
    intro n hn hl
    obtain ⟨h1, h2, h3, h4, h5, h6, h7⟩ := hT
    by_cases h0 : k = 0
    · subst h0; subst hn
      have := h5.2
      exact ⟨by show -1 ≤ ξ 33 0; omega, by show ξ 33 0 ≤ _; omega⟩
    · have q := h6 n (by omega) hl
      have r := ih (ξ 31 n).toNat (by omega) (ξ 31 n) (by omega) (by omega)
      omega
theorem TB.week (hT : TB ξ) {n : Int} (h0 : 0 ≤ n) (h1 : n < ξ 23 11) : -1 ≤ ξ 33 n ∧ ξ 33 n ≤ ξ 23 8 - 1 := hT.wk n.toNat n (by omega) h1
theorem X8_isNode {l : Int} (hT : TB ξ) (hr : R3 l) : F_X8_isNode (b0 + 23) l (S b0 σ ξ) = some (if 0 ≤ l ∧ l ≤ ξ 23 11 - 1 then 1 else 0, S b0 σ ξ) := by
  unfold F_X8_isNode
  have h := hT.2.2.1
  refine ev rS_23_11 ?_
  refine evd (X8_in _ hr (by omega) (by omega)) ?_
  split
  · exact rz_1
  · exact rz_0
/-- the weights of a node's children together -/
def wof (ξ : Int → Int → Int) (n k : Int) : Int := if ξ 31 k = n then ξ 32 k else 0
def wsm (ξ : Int → Int → Int) (n : Int) : Int := sf (wof ξ n) 1 (ξ 23 11 - 1).toNat
theorem X8_weightsOf_loop {m : Int} (hT : TB ξ) (hr : R3 m) : ∀ (n f : Nat) (a k : Int), n < f → 1 ≤ k → k + n = ξ 23 11 → F_X8_weightsOf_L4 (b0 + 23) m f a k (S b0 σ ξ) = some (a + sf (wof ξ m) k n, S b0 σ ξ) := by
  obtain ⟨h1, h2, h3, h4, h5, h6, h7⟩ := hT
  intro n
  induction n with
  | zero =>
    intro f a k hf hk he
    obtain ⟨f, rfl⟩ : ∃ g, f = g + 1 := ⟨f - 1, by omega⟩
    rw [F_X8_weightsOf_L4]
    refine ev rS_23_11 ?_
    refine ev_bLt (by omega) (by omega) (by omega) (by omega) (fun hc => absurd hc (by omega)) (fun hc => ?_)
    rw [sf, Int.add_zero]
  | succ n ih =>
    intro f a k hf hk he
    obtain ⟨f, rfl⟩ : ∃ g, f = g + 1 := ⟨f - 1, by omega⟩
    have q := h6 k (by omega) (by omega)
    rw [F_X8_weightsOf_L4, sf]
    by_cases hp : ξ 31 k = m
    · rw [show wof ξ m k = ξ 32 k from if_pos hp]
      refine ev rS_23_11 ?_
      refine ev_bLt (by omega) (by omega) (by omega) (by omega) (fun hc => ?_) (fun hc => ?_)
      · first
        | exact absurd hc (by omega)
        | (
            refine ev rS_23_12 ?_
            refine ev (aS_31 (by omega) (by omega)) ?_
            refine ev_bEq (by omega) (by omega) (by omega) (by omega) (fun hc => ?_) (fun hc => ?_)
            · first
              | exact absurd hc (by omega)
              | (
                  refine ev rS_23_13 ?_
                  refine ev (aS_32 (by omega) (by omega)) ?_
                  rw [F_X8_weightsOf_B33]
                  (rw [ih f _ _ (by omega) (by omega) (by omega)]; exact ev_end (by omega) rfl))
            · first
              | exact absurd hc (by omega)
              | (
                  rw [F_X8_weightsOf_B33]
                  (rw [ih f _ _ (by omega) (by omega) (by omega)]; exact ev_end (by omega) rfl)))
      · first
        | exact absurd hc (by omega)
        | (
            exact absurd hc (by omega))
    · rw [show wof ξ m k = 0 from if_neg hp]
      refine ev rS_23_11 ?_
      refine ev_bLt (by omega) (by omega) (by omega) (by omega) (fun hc => ?_) (fun hc => ?_)
      · first
        | exact absurd hc (by omega)
        | (
            refine ev rS_23_12 ?_
            refine ev (aS_31 (by omega) (by omega)) ?_
            refine ev_bEq (by omega) (by omega) (by omega) (by omega) (fun hc => ?_) (fun hc => ?_)
            · first
              | exact absurd hc (by omega)
              | (
                  refine ev rS_23_13 ?_
                  refine ev (aS_32 (by omega) (by omega)) ?_
                  rw [F_X8_weightsOf_B33]
                  (rw [ih f _ _ (by omega) (by omega) (by omega)]; exact ev_end (by omega) rfl))
            · first
              | exact absurd hc (by omega)
              | (
                  rw [F_X8_weightsOf_B33]
                  (rw [ih f _ _ (by omega) (by omega) (by omega)]; exact ev_end (by omega) rfl)))
      · first
        | exact absurd hc (by omega)
        | (
            exact absurd hc (by omega))
theorem fuN {n : Nat} (h : n < 100000) : n < fu := h
theorem X8_weightsOf {m : Int} (hT : TB ξ) (hr : R3 m) : F_X8_weightsOf (b0 + 23) m (S b0 σ ξ) = some (wsm ξ m, S b0 σ ξ) := by
  unfold F_X8_weightsOf wsm
  have h := hT.2.2.1
  rw [X8_weightsOf_loop hT hr (ξ 23 11 - 1).toNat fu 0 1 (fuN (by omega)) (by omega) (by omega), Int.zero_add]
theorem wsm_bd {m : Int} (hT : TB ξ) : 0 ≤ wsm ξ m ∧ wsm ξ m ≤ 500 := by
  obtain ⟨h1, h2, h3, h4, h5, h6, h7⟩ := hT
  have q := sf_bd (f := wof ξ m) (M := 6) (ξ 23 11 - 1).toNat 1 (fun i p q => by
    have r := h6 i (by omega) (by omega)
    unfold wof
    split <;> omega)
  unfold wsm
  omega
/-- the tree is whole -/
def WH (ξ : Int → Int → Int) : Prop := 0 < ξ 23 1 ∧ ∀ n, 0 ≤ n → n < ξ 23 11 → ξ 33 n < ξ 23 8 - 1 → wsm ξ n = ξ 23 9
theorem X8_isWhole_loop (hB : LB ξ) (hT : TB ξ) : ∀ (n f : Nat) (k : Int), n < f → 0 ≤ k → k + n = ξ 23 11 → ∃ v, F_X8_isWhole_L2 (b0 + 23) f k (S b0 σ ξ) = some (v, S b0 σ ξ) ∧ ((v = 1 ∧ 0 < ξ 23 1 ∧ ∀ m, k ≤ m → m < ξ 23 11 → ξ 33 m < ξ 23 8 - 1 → wsm ξ m = ξ 23 9) ∨ (v = 0 ∧ ¬ (0 < ξ 23 1 ∧ ∀ m, k ≤ m → m < ξ 23 11 → ξ 33 m < ξ 23 8 - 1 → wsm ξ m = ξ 23 9))) := by
  have hl := hB.1
  have h1 := hT.1
  have h2 := hT.2.1
  have h3 := hT.2.2.1
  intro n
  induction n with
  | zero =>
    intro f k hf hk he
    obtain ⟨f, rfl⟩ : ∃ g, f = g + 1 := ⟨f - 1, by omega⟩
    rw [F_X8_isWhole_L2]
    by_cases hz : ξ 23 1 ≤ 0
    · refine ⟨0, ?_, Or.inr ⟨rfl, fun q => by omega⟩⟩
      refine ev rS_23_11 ?_
      refine ev_bLt (by omega) (by omega) (by omega) (by omega) (fun hc => absurd hc (by omega)) (fun hc => ?_)
      refine ev rS_23_1 ?_
      exact ev_bLe (by omega) (by omega) (by omega) (by omega) (fun hc => rz_0) (fun hc => absurd hz hc)
    · refine ⟨1, ?_, Or.inl ⟨rfl, by omega, fun m a b => by omega⟩⟩
      refine ev rS_23_11 ?_
      refine ev_bLt (by omega) (by omega) (by omega) (by omega) (fun hc => absurd hc (by omega)) (fun hc => ?_)
      refine ev rS_23_1 ?_
      exact ev_bLe (by omega) (by omega) (by omega) (by omega) (fun hc => absurd hc hz) (fun hc => rz_1)
  | succ n ih =>
    intro f k hf hk he
    obtain ⟨f, rfl⟩ : ∃ g, f = g + 1 := ⟨f - 1, by omega⟩
    have hwk := hT.week hk (by omega)
    have hwb := wsm_bd (m := k) hT
    have hw := X8_weightsOf (b0 := b0) (σ := σ) (m := k) hT ⟨by omega, by omega⟩
    rw [F_X8_isWhole_L2]
    by_cases hbad : ξ 33 k < ξ 23 8 - 1 ∧ wsm ξ k ≠ ξ 23 9
    · refine ⟨0, ?_, Or.inr ⟨rfl, fun q => hbad.2 (q.2 k (by omega) (by omega) hbad.1)⟩⟩
      refine ev rS_23_11 ?_
      refine ev_bLt (by omega) (by omega) (by omega) (by omega) (fun hc => ?_) (fun hc => ?_)
      · first
        | exact absurd hc (by omega)
        | (
            refine ev rS_23_14 ?_
            refine ev (aS_33 (by omega) (by omega)) ?_
            refine ev rS_23_8 ?_
            refine ev_bLt (by omega) (by omega) (by omega) (by omega) (fun hc => ?_) (fun hc => ?_)
            · first
              | exact absurd hc (by omega)
              | (
                  refine evd (iS_23.trans (hw)) ?_
                  refine ev rS_23_9 ?_
                  refine ev_bEq (by omega) (by omega) (by omega) (by omega) (fun hc => ?_) (fun hc => ?_)
                  · first
                    | exact absurd hc (by omega)
                    | (
                        rw [F_X8_isWhole_B39]
                        exact absurd hc (by omega))
                  · first
                    | exact absurd hc (by omega)
                    | (
                        exact rz_0))
            · first
              | exact absurd hc (by omega)
              | (
                  rw [F_X8_isWhole_B39]
                  exact absurd hc (by omega)))
      · first
        | exact absurd hc (by omega)
        | (
            refine ev rS_23_1 ?_
            refine ev_bLe (by omega) (by omega) (by omega) (by omega) (fun hc => ?_) (fun hc => ?_)
            · first
              | exact absurd hc (by omega)
              | (
                  exact rz_0)
            · first
              | exact absurd hc (by omega)
              | (
                  exact rz_0))
    · obtain ⟨v, hv, hr⟩ := ih f (k + 1) (by omega) (by omega) (by omega)
      refine ⟨v, ?_, ?_⟩
      · refine ev rS_23_11 ?_
        refine ev_bLt (by omega) (by omega) (by omega) (by omega) (fun hc => ?_) (fun hc => ?_)
        · first
          | exact absurd hc (by omega)
          | (
              refine ev rS_23_14 ?_
              refine ev (aS_33 (by omega) (by omega)) ?_
              refine ev rS_23_8 ?_
              refine ev_bLt (by omega) (by omega) (by omega) (by omega) (fun hc => ?_) (fun hc => ?_)
              · first
                | exact absurd hc (by omega)
                | (
                    refine evd (iS_23.trans (hw)) ?_
                    refine ev rS_23_9 ?_
                    refine ev_bEq (by omega) (by omega) (by omega) (by omega) (fun hc => ?_) (fun hc => ?_)
                    · first
                      | exact absurd hc (by omega)
                      | (
                          rw [F_X8_isWhole_B39]
                          exact hv)
                    · first
                      | exact absurd hc (by omega)
                      | (
                          exact absurd hc (by omega)))
              · first
                | exact absurd hc (by omega)
                | (
                    rw [F_X8_isWhole_B39]
                    exact hv))
        · first
          | exact absurd hc (by omega)
          | (
              refine ev rS_23_1 ?_
              refine ev_bLe (by omega) (by omega) (by omega) (by omega) (fun hc => ?_) (fun hc => ?_)
              · first
                | exact absurd hc (by omega)
                | (
                    exact absurd hc (by omega))
              · first
                | exact absurd hc (by omega)
                | (
                    exact absurd hc (by omega)))
      · rcases hr with ⟨e, p, q⟩ | ⟨e, q⟩
        · refine Or.inl ⟨e, p, fun m a b c => ?_⟩
          by_cases hmk : m = k
          · subst hmk; omega
          · exact q m (by omega) b c
        · exact Or.inr ⟨e, fun r => q ⟨r.1, fun m a b c => r.2 m (by omega) b c⟩⟩
theorem X8_isWhole (hB : LB ξ) (hT : TB ξ) : ∃ v, F_X8_isWhole (b0 + 23) (S b0 σ ξ) = some (v, S b0 σ ξ) ∧ ((v = 1 ∧ WH ξ) ∨ (v = 0 ∧ ¬ WH ξ)) := by
  have h3 := hT.2.2.1
  exact X8_isWhole_loop hB hT (ξ 23 11).toNat fu 0 (fuN (by omega)) (by omega) (by omega)
end M5
