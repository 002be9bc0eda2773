section V1
variable {b0 : Int} {σ : Hp} {ξ ζ : Int → Int → Int} {i m s t : Int}
/-- how much one measure more of a lake is in a state's number -/
def sd (ξ : Int → Int → Int) (i : Int) : Int := if i = 0 then (ξ 25 1 + 1) * (ξ 25 2 + 1) else if i = 1 then ξ 25 2 + 1 else 1
/-- the heads of the class -/
def hd (ξ : Int → Int → Int) (i m : Int) : Int := if i < ξ 23 1 ∧ m ≤ ξ 25 i then ξ 28 (31 * i + m) else 1
/-- the valley of the class is the model's -/
def CV (ξ : Int → Int → Int) : Prop := ξ 1 1 = ξ 23 1 ∧ ξ 1 2 = ZZ ξ ∧ (∀ i, 0 ≤ i → i < 3 → (ξ (3 + 2 * i) 1 = ξ 24 i ∧ ξ (3 + 2 * i) 2 = ξ 25 i ∧ ξ (3 + 2 * i) 3 = ξ 26 i ∧ ξ (3 + 2 * i) 4 = ξ 27 i ∧ ξ (3 + 2 * i) 5 = ξ 29 i ∧ ξ (3 + 2 * i) 6 = ξ 41 i ∧ ξ (3 + 2 * i) 7 = (if i < ξ 23 1 then ξ 42 i else 30) ∧ ξ (3 + 2 * i) 8 = sd ξ i) ∧ ∀ m, 0 ≤ m → m < 31 → ξ (4 + 2 * i) m = hd ξ i m)
theorem lake3 (h0 : 0 ≤ i) (h3 : i < 3) : i = 0 ∨ i = 1 ∨ i = 2 := by omega
theorem iL {γ : Type} {X : Option γ} (h0 : 0 ≤ i) (h3 : i < 3) : iv 1 (S b0 σ ξ) (b0 + 3 + 2 * i) X = X := by
  rcases lake3 h0 h3 with rfl | rfl | rfl
  · rw [show b0 + 3 + 2 * 0 = b0 + 3 by omega]; exact iS_3
  · rw [show b0 + 3 + 2 * 1 = b0 + 5 by omega]; exact iS_5
  · rw [show b0 + 3 + 2 * 2 = b0 + 7 by omega]; exact iS_7
theorem rLk {k : Int} (h0 : 0 ≤ i) (h3 : i < 3) (hk : k ≠ 0) : rd 1 (S b0 σ ξ) (b0 + 3 + 2 * i) k = some (ξ (3 + 2 * i) k) := by
  have hc : ∀ d, d = 3 ∨ d = 5 ∨ d = 7 → cS b0 ξ d k = ξ d k := by
    intro d hd
    rcases hd with rfl | rfl | rfl <;> simp [cS, hk]
  rw [show b0 + 3 + 2 * i = b0 + (3 + 2 * i) by omega]
  rw [rd_S (by unfold inS; omega) (by rcases lake3 h0 h3 with rfl | rfl | rfl <;> rfl), hc _ (by omega)]
theorem rL_0 (hV : CV ξ) (h0 : 0 ≤ i) (h3 : i < 3) : rd 1 (S b0 σ ξ) (b0 + 3 + 2 * i) 0 = some (b0 + 4 + 2 * i) := by
  rcases lake3 h0 h3 with rfl | rfl | rfl
  · rw [show b0 + 3 + 2 * 0 = b0 + 3 by omega, show b0 + 4 + 2 * 0 = b0 + 4 by omega]; exact rS_3_0
  · rw [show b0 + 3 + 2 * 1 = b0 + 5 by omega, show b0 + 4 + 2 * 1 = b0 + 6 by omega]; exact rS_5_0
  · rw [show b0 + 3 + 2 * 2 = b0 + 7 by omega, show b0 + 4 + 2 * 2 = b0 + 8 by omega]; exact rS_7_0
theorem rL_1 (hV : CV ξ) (h0 : 0 ≤ i) (h3 : i < 3) : rd 1 (S b0 σ ξ) (b0 + 3 + 2 * i) 1 = some (ξ 24 i) := by rw [rLk h0 h3 (by omega), (hV.2.2 i h0 h3).1.1]
theorem rL_2 (hV : CV ξ) (h0 : 0 ≤ i) (h3 : i < 3) : rd 1 (S b0 σ ξ) (b0 + 3 + 2 * i) 2 = some (ξ 25 i) := by rw [rLk h0 h3 (by omega), (hV.2.2 i h0 h3).1.2.1]
theorem rL_3 (hV : CV ξ) (h0 : 0 ≤ i) (h3 : i < 3) : rd 1 (S b0 σ ξ) (b0 + 3 + 2 * i) 3 = some (ξ 26 i) := by rw [rLk h0 h3 (by omega), (hV.2.2 i h0 h3).1.2.2.1]
theorem rL_4 (hV : CV ξ) (h0 : 0 ≤ i) (h3 : i < 3) : rd 1 (S b0 σ ξ) (b0 + 3 + 2 * i) 4 = some (ξ 27 i) := by rw [rLk h0 h3 (by omega), (hV.2.2 i h0 h3).1.2.2.2.1]
theorem rL_5 (hV : CV ξ) (h0 : 0 ≤ i) (h3 : i < 3) : rd 1 (S b0 σ ξ) (b0 + 3 + 2 * i) 5 = some (ξ 29 i) := by rw [rLk h0 h3 (by omega), (hV.2.2 i h0 h3).1.2.2.2.2.1]
theorem rL_6 (hV : CV ξ) (h0 : 0 ≤ i) (h3 : i < 3) : rd 1 (S b0 σ ξ) (b0 + 3 + 2 * i) 6 = some (ξ 41 i) := by rw [rLk h0 h3 (by omega), (hV.2.2 i h0 h3).1.2.2.2.2.2.1]
theorem rL_7 (hV : CV ξ) (h0 : 0 ≤ i) (h3 : i < 3) : rd 1 (S b0 σ ξ) (b0 + 3 + 2 * i) 7 = some (if i < ξ 23 1 then ξ 42 i else 30) := by rw [rLk h0 h3 (by omega), (hV.2.2 i h0 h3).1.2.2.2.2.2.2.1]
theorem rL_8 (hV : CV ξ) (h0 : 0 ≤ i) (h3 : i < 3) : rd 1 (S b0 σ ξ) (b0 + 3 + 2 * i) 8 = some (sd ξ i) := by rw [rLk h0 h3 (by omega), (hV.2.2 i h0 h3).1.2.2.2.2.2.2.2]
theorem lH (h0 : 0 ≤ i) (h3 : i < 3) : al 11 (S b0 σ ξ) (b0 + 4 + 2 * i) = some 31 := by
  rcases lake3 h0 h3 with rfl | rfl | rfl
  · rw [show b0 + 4 + 2 * 0 = b0 + 4 by omega]; exact lS_4
  · rw [show b0 + 4 + 2 * 1 = b0 + 6 by omega]; exact lS_6
  · rw [show b0 + 4 + 2 * 2 = b0 + 8 by omega]; exact lS_8
theorem aH (hV : CV ξ) (h0 : 0 ≤ i) (h3 : i < 3) (m0 : 0 ≤ m) (m1 : m < 31) : ar 11 (S b0 σ ξ) (b0 + 4 + 2 * i) m = some (hd ξ i m) := by
  rw [← (hV.2.2 i h0 h3).2 m m0 m1]
  rcases lake3 h0 h3 with rfl | rfl | rfl
  · rw [show b0 + 4 + 2 * 0 = b0 + 4 by omega]; exact aS_4 m0 m1
  · rw [show b0 + 4 + 2 * 1 = b0 + 6 by omega]; exact aS_6 m0 m1
  · rw [show b0 + 4 + 2 * 2 = b0 + 8 by omega]; exact aS_8 m0 m1
theorem hd_bd (hB : LB ξ) (h0 : 0 ≤ i) (h3 : i < 3) (m0 : 0 ≤ m) (m1 : m < 31) : 0 ≤ hd ξ i m ∧ hd ξ i m ≤ 9 := by
  unfold hd
  split
  · exact hB.2.2.1 _ (by omega) (by omega)
  · omega
theorem X0_headAt (hV : CV ξ) (h0 : 0 ≤ i) (h3 : i < 3) (hr : R3 m) : F_X0_headAt (b0 + 3 + 2 * i) m (S b0 σ ξ) = some (if 0 ≤ m ∧ m < 31 then hd ξ i m else 0, S b0 σ ξ) := by
  unfold F_X0_headAt
  by_cases h : 0 ≤ m ∧ m < 31
  · rw [if_pos h]
    refine ev_bLt (by omega) (by omega) (by omega) (by omega) (fun hc => ?_) (fun hc => ?_)
    · first
      | exact absurd hc (by omega)
      | (
          rfl)
    · first
      | exact absurd hc (by omega)
      | (
          refine ev (rL_0 hV (by omega) (by omega)) ?_
          refine ev (lH (by omega) (by omega)) ?_
          refine ev_bLt (by omega) (by omega) (by omega) (by omega) (fun hc => ?_) (fun hc => ?_)
          · first
            | exact absurd hc (by omega)
            | (
                refine ev (rL_0 hV (by omega) (by omega)) ?_
                refine ev (aH hV (by omega) (by omega) (by omega) (by omega)) ?_
                rfl)
          · first
            | exact absurd hc (by omega)
            | (
                rfl))
  · rw [if_neg h]
    refine ev_bLt (by omega) (by omega) (by omega) (by omega) (fun hc => ?_) (fun hc => ?_)
    · first
      | exact absurd hc (by omega)
      | (
          rfl)
    · first
      | exact absurd hc (by omega)
      | (
          refine ev (rL_0 hV (by omega) (by omega)) ?_
          refine ev (lH (by omega) (by omega)) ?_
          refine ev_bLt (by omega) (by omega) (by omega) (by omega) (fun hc => ?_) (fun hc => ?_)
          · first
            | exact absurd hc (by omega)
            | (
                refine ev (rL_0 hV (by omega) (by omega)) ?_
                refine ev (aH hV (by omega) (by omega) (by omega) (by omega)) ?_
                rfl)
          · first
            | exact absurd hc (by omega)
            | (
                rfl))
theorem X0_leastLet (hB : LB ξ) (hV : CV ξ) (h0 : 0 ≤ i) (h3 : i < 3) (hr : R3 m) : F_X0_leastLet (b0 + 3 + 2 * i) m (S b0 σ ξ) = some (min (ξ 27 i) m, S b0 σ ξ) := by
  unfold F_X0_leastLet
  have a := (hB.2.1 i h0 h3).1
  refine ev (rL_4 hV (by omega) (by omega)) ?_
  refine ev_g33 (by omega) (by omega) (by omega) (by omega) ?_
  rfl
theorem X0_mostLet (hB : LB ξ) (hV : CV ξ) (h0 : 0 ≤ i) (h3 : i < 3) (m0 : 0 ≤ m) (m1 : m ≤ 1000) : F_X0_mostLet (b0 + 3 + 2 * i) m (S b0 σ ξ) = some (max (min (ξ 27 i) m) (min (ξ 26 i) (m - ξ 24 i)), S b0 σ ξ) := by
  unfold F_X0_mostLet
  have a := (hB.2.1 i h0 h3).1
  have hl := X0_leastLet (b0 := b0) (σ := σ) (m := m) hB hV h0 h3 ⟨by omega, by omega⟩
  refine evd ((iL (by omega) (by omega)).trans (hl)) ?_
  refine ev (rL_3 hV (by omega) (by omega)) ?_
  refine ev (rL_1 hV (by omega) (by omega)) ?_
  refine ev_g33 (by omega) (by omega) (by omega) (by omega) ?_
  refine ev_g33 (by omega) (by omega) (by omega) (by omega) ?_
  rfl
theorem X0_ruleLet (hB : LB ξ) (hV : CV ξ) (h0 : 0 ≤ i) (h3 : i < 3) (m0 : 0 ≤ m) (m1 : m ≤ 1000) : F_X0_ruleLet (b0 + 3 + 2 * i) m (S b0 σ ξ) = some (max (min (ξ 27 i) m) (min (max (min (ξ 27 i) m) (min (ξ 26 i) (m - ξ 24 i))) (min (max (m - ξ 41 i) 0) (if i < ξ 23 1 then ξ 42 i else 30))), S b0 σ ξ) := by
  unfold F_X0_ruleLet
  have a := (hB.2.1 i h0 h3).1
  have hl := X0_leastLet (b0 := b0) (σ := σ) (m := m) hB hV h0 h3 ⟨by omega, by omega⟩
  have hm := X0_mostLet (b0 := b0) (σ := σ) (m := m) hB hV h0 h3 m0 m1
  have hq : 0 ≤ (if i < ξ 23 1 then ξ 42 i else 30) ∧ (if i < ξ 23 1 then ξ 42 i else 30) ≤ 30 := by split <;> omega
  refine ev (rL_6 hV (by omega) (by omega)) ?_
  refine ev_g33 (by omega) (by omega) (by omega) (by omega) ?_
  refine ev (rL_7 hV (by omega) (by omega)) ?_
  refine ev_g33 (by omega) (by omega) (by omega) (by omega) ?_
  refine evn ?_
  refine evd ((iL (by omega) (by omega)).trans (hl)) ?_
  refine evd ((iL (by omega) (by omega)).trans (hm)) ?_
  refine ev_g33 (by omega) (by omega) (by omega) (by omega) ?_
  refine ev_g33 (by omega) (by omega) (by omega) (by omega) ?_
  rfl
/-! the valley -/
theorem X4_hasState (hB : LB ξ) (hV : CV ξ) (hr : R3 s) : F_X4_hasState (b0 + 1) s (S b0 σ ξ) = some (if 0 ≤ s ∧ s < ZZ ξ then 1 else 0, S b0 σ ξ) := by
  unfold F_X4_hasState
  have hz : ZZ ξ ≤ 1000 := hB.2.2.2
  have hz0 : 0 ≤ ZZ ξ := by
    have a0 := hB.gr (l := 0) (by omega) (by omega)
    have a1 := hB.gr (l := 1) (by omega) (by omega)
    have a2 := hB.gr (l := 2) (by omega) (by omega)
    exact Int.mul_nonneg (Int.mul_nonneg (by omega) (by omega)) (by omega)
  have e : ξ 1 2 = ZZ ξ := hV.2.1
  by_cases h : 0 ≤ s ∧ s < ZZ ξ
  · rw [if_pos h]
    refine ev_bLt (by omega) (by omega) (by omega) (by omega) (fun hc => ?_) (fun hc => ?_)
    · first
      | exact absurd hc (by omega)
      | (
          exact rz_1)
    · first
      | exact absurd hc (by omega)
      | (
          refine ev rS_1_2 ?_
          refine ev_bLt (by omega) (by omega) (by omega) (by omega) (fun hc => ?_) (fun hc => ?_)
          · first
            | exact absurd hc (by omega)
            | (
                exact rz_1)
          · first
            | exact absurd hc (by omega)
            | (
                exact rz_1))
  · rw [if_neg h]
    refine ev_bLt (by omega) (by omega) (by omega) (by omega) (fun hc => ?_) (fun hc => ?_)
    · first
      | exact absurd hc (by omega)
      | (
          exact rz_0)
    · first
      | exact absurd hc (by omega)
      | (
          refine ev rS_1_2 ?_
          refine ev_bLt (by omega) (by omega) (by omega) (by omega) (fun hc => ?_) (fun hc => ?_)
          · first
            | exact absurd hc (by omega)
            | (
                exact rz_0)
          · first
            | exact absurd hc (by omega)
            | (
                exact rz_0))
theorem X4_lakeAt (hB : LB ξ) (hV : CV ξ) (hr : R3 i) : F_X4_lakeAt (b0 + 1) i (S b0 σ ξ) = some (if 0 ≤ i ∧ i < ξ 23 1 then b0 + 3 + 2 * i else -1, S b0 σ ξ) := by
  unfold F_X4_lakeAt
  have e : ξ 1 1 = ξ 23 1 := hV.1
  have n0 := hB.1
  by_cases h : 0 ≤ i ∧ i < ξ 23 1
  · rw [if_pos h]
    refine ev_bLt (by omega) (by omega) (by omega) (by omega) (fun hc => ?_) (fun hc => ?_)
    · first
      | exact absurd hc (by omega)
      | (
          rfl)
    · first
      | exact absurd hc (by omega)
      | (
          refine ev rS_1_1 ?_
          refine ev_bLt (by omega) (by omega) (by omega) (by omega) (fun hc => ?_) (fun hc => ?_)
          · first
            | exact absurd hc (by omega)
            | (
                refine ev rS_1_0 ?_
                refine ev lS_2 ?_
                refine ev_bLt (by omega) (by omega) (by omega) (by omega) (fun hc => ?_) (fun hc => ?_)
                · first
                  | exact absurd hc (by omega)
                  | (
                      refine ev rS_1_0 ?_
                      refine ev (aS_2 (by omega) (by omega)) ?_
                      rfl)
                · first
                  | exact absurd hc (by omega)
                  | (
                      rfl))
          · first
            | exact absurd hc (by omega)
            | (
                rfl))
  · rw [if_neg h]
    refine ev_bLt (by omega) (by omega) (by omega) (by omega) (fun hc => ?_) (fun hc => ?_)
    · first
      | exact absurd hc (by omega)
      | (
          rfl)
    · first
      | exact absurd hc (by omega)
      | (
          refine ev rS_1_1 ?_
          refine ev_bLt (by omega) (by omega) (by omega) (by omega) (fun hc => ?_) (fun hc => ?_)
          · first
            | exact absurd hc (by omega)
            | (
                refine ev rS_1_0 ?_
                refine ev lS_2 ?_
                refine ev_bLt (by omega) (by omega) (by omega) (by omega) (fun hc => ?_) (fun hc => ?_)
                · first
                  | exact absurd hc (by omega)
                  | (
                      refine ev rS_1_0 ?_
                      refine ev (aS_2 (by omega) (by omega)) ?_
                      rfl)
                · first
                  | exact absurd hc (by omega)
                  | (
                      rfl))
          · first
            | exact absurd hc (by omega)
            | (
                rfl))
theorem sd_bd (hB : LB ξ) (h0 : 0 ≤ i) (h3 : i < 3) : 1 ≤ sd ξ i ∧ sd ξ i ≤ 961 := by
  have a1 := hB.gr (l := 1) (by omega) (by omega)
  have a2 := hB.gr (l := 2) (by omega) (by omega)
  have h1 : 1 ≤ (ξ 25 1 + 1) * (ξ 25 2 + 1) := Int.mul_pos (show 0 < ξ 25 1 + 1 by omega) (show 0 < ξ 25 2 + 1 by omega)
  have h2 : (ξ 25 1 + 1) * (ξ 25 2 + 1) ≤ 31 * 31 := Int.mul_le_mul (by omega) (by omega) (by omega) (by omega)
  unfold sd
  split
  · omega
  · split <;> omega
theorem ms_sd (hB : LB ξ) (h0 : 0 ≤ i) (h3 : i < 3) : s / sd ξ i % (ξ 25 i + 1) = ms ξ s i := by
  have a1 := hB.gr (l := 1) (by omega) (by omega)
  have a2 := hB.gr (l := 2) (by omega) (by omega)
  unfold sd ms
  rcases lake3 h0 h3 with rfl | rfl | rfl
  · simp only [if_true]
    rw [Int.ediv_ediv, if_neg (fun h => absurd h.1 (by omega)), Int.sub_zero, Int.mul_comm]
  · simp
  · simp
theorem X4_measureOf (hB : LB ξ) (hV : CV ξ) (h0 : 0 ≤ i) (h3 : i < 3) (s0 : 0 ≤ s) (s1 : s < 2147483648) : F_X4_measureOf (b0 + 1) s i (S b0 σ ξ) = some (ms ξ s i, S b0 σ ξ) := by
  unfold F_X4_measureOf
  have g := hB.gr h0 h3
  have hs := sd_bd hB h0 h3
  obtain ⟨p1, p2, p3, p4, p5, p6⟩ := tq (s := s) (z := sd ξ i) s0 (by omega)
  obtain ⟨q1, q2, q3, q4, q5, q6⟩ := tq (s := s / sd ξ i) (z := ξ 25 i + 1) p3 (by omega)
  rw [← ms_sd hB h0 h3]
  refine ev_bLt (by omega) (by omega) (by omega) (by omega) (fun hc => ?_) (fun hc => ?_)
  · first
    | exact absurd hc (by omega)
    | (
        exact ev_end (by rw [p1, q2]) rfl)
  · first
    | exact absurd hc (by omega)
    | (
        refine ev rS_1_0 ?_
        refine ev lS_2 ?_
        refine ev_bLt (by omega) (by omega) (by omega) (by omega) (fun hc => ?_) (fun hc => ?_)
        · first
          | exact absurd hc (by omega)
          | (
              refine ev rS_1_0 ?_
              refine ev (aS_2 (by omega) (by omega)) ?_
              refine ev (rL_8 hV (by omega) (by omega)) ?_
              refine ev rS_1_0 ?_
              refine ev (aS_2 (by omega) (by omega)) ?_
              refine ev (rL_2 hV (by omega) (by omega)) ?_
              refine ev_bLt (by omega) (by omega) (by omega) (by omega) (fun hc => ?_) (fun hc => ?_)
              · first
                | exact absurd hc (by omega)
                | (
                    exact ev_end (by rw [p1, q2]) rfl)
              · first
                | exact absurd hc (by omega)
                | (
                    refine ev_bLt (by omega) (by omega) (by omega) (by omega) (fun hc => ?_) (fun hc => ?_)
                    · first
                      | exact absurd hc (by omega)
                      | (
                          exact ev_end (by rw [p1, q2]) rfl)
                    · first
                      | exact absurd hc (by omega)
                      | (
                          refine ev_gD (by omega) (by omega) (by omega) (by omega) (by omega) ?_
                          refine ev_gD (by omega) (by omega) (by omega) (by omega) (by omega) ?_
                          exact ev_end (by rw [p1, q2]) rfl)))
        · first
          | exact absurd hc (by omega)
          | (
              exact ev_end (by rw [p1, q2]) rfl))
theorem ms_bd (hB : LB ξ) (h0 : 0 ≤ i) (h3 : i < 3) : 0 ≤ ms ξ s i ∧ ms ξ s i ≤ ξ 25 i := by
  have g := hB.gr h0 h3
  rw [← ms_sd hB h0 h3]
  have a := Int.emod_nonneg (s / sd ξ i) (show ξ 25 i + 1 ≠ 0 by omega)
  have b := Int.emod_lt_of_pos (s / sd ξ i) (show 0 < ξ 25 i + 1 by omega)
  omega
theorem ms_no (hB : LB ξ) (h0 : 0 ≤ i) (h3 : i < 3) (h : ξ 23 1 ≤ i) : ms ξ s i = 0 := by
  have a := ms_bd (s := s) hB h0 h3
  rw [hB.no h0 h3 h] at a
  omega
end V1
