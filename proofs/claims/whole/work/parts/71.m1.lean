section EvL
variable {α β γ : Type} {σ : Hp} {a b : Int} {T E z : Option γ}
theorem ev {x : Option α} {f : α → Option γ} {v : α} (h : x = some v) (k : f v = z) : x.bind f = z := by rw [h]; exact k
theorem evd {x : Option (α × β)} {f : α → β → Option γ} {v : α} {w : β} (h : x = some (v, w)) (k : f v w = z) : bd x f = z := by rw [h]; exact k
theorem evn {f : Int → Option γ} (k : f a = z) : nm a f = z := k
theorem ev_bLt (h1 : -2147483648 ≤ a) (h2 : a < 2147483648) (h3 : -2147483648 ≤ b) (h4 : b < 2147483648) (kT : a < b → T = z) (kE : ¬ a < b → E = z) : bLt a b T E = z := by
  rw [bLt_go h1 h2 h3 h4]
  split
  · exact kT (by assumption)
  · exact kE (by assumption)
theorem ev_bLe (h1 : -2147483648 ≤ a) (h2 : a < 2147483648) (h3 : -2147483648 ≤ b) (h4 : b < 2147483648) (kT : a ≤ b → T = z) (kE : ¬ a ≤ b → E = z) : bLe a b T E = z := by
  rw [bLe_go h1 h2 h3 h4]
  split
  · exact kT (by assumption)
  · exact kE (by assumption)
theorem ev_bEq (h1 : -2147483648 ≤ a) (h2 : a < 2147483648) (h3 : -2147483648 ≤ b) (h4 : b < 2147483648) (kT : a = b → T = z) (kE : ¬ a = b → E = z) : bEq a b T E = z := by
  rw [bEq_go h1 h2 h3 h4]
  split
  · exact kT (by assumption)
  · exact kE (by assumption)
theorem ev_gD (h1 : -2147483648 ≤ a) (h2 : a < 2147483648) (h3 : -2147483648 ≤ b) (h4 : b < 2147483648) (h5 : b ≠ 0) (k : T = z) : gD a b T = z := by rw [gD_go h1 h2 h3 h4 h5]; exact k
theorem ev_g33 (h1 : -2147483648 ≤ a) (h2 : a < 2147483648) (h3 : -2147483648 ≤ b) (h4 : b < 2147483648) (k : T = z) : g33 a b T = z := by rw [g33_go h1 h2 h3 h4]; exact k
theorem ev_g3 (h1 : -2147483648 ≤ a) (h2 : a < 2147483648) (k : T = z) : g3 a T = z := by rw [g3_go h1 h2]; exact k
theorem ev_g66 (h1 : -9223372036854775808 ≤ a) (h2 : a < 9223372036854775808) (h3 : -9223372036854775808 ≤ b) (h4 : b < 9223372036854775808) (k : T = z) : g66 a b T = z := by rw [g66_go h1 h2 h3 h4]; exact k
theorem ev_end {u v : Int} {σ τ : Hp} (h : u = v) (h2 : σ = τ) : some (u, σ) = some (v, τ) := by rw [h, h2]
end EvL
/-- the model's lakes -/
def LB (ξ : Int → Int → Int) : Prop := (0 ≤ ξ 23 1 ∧ ξ 23 1 ≤ 3) ∧ (∀ l, 0 ≤ l → l < 3 → (0 ≤ ξ 24 l ∧ ξ 24 l ≤ ξ 25 l ∧ ξ 25 l ≤ 30 ∧ 0 ≤ ξ 26 l ∧ ξ 26 l ≤ 10 ∧ 0 ≤ ξ 27 l ∧ ξ 27 l ≤ 5 ∧ 0 ≤ ξ 29 l ∧ ξ 29 l ≤ 99 ∧ 0 ≤ ξ 41 l ∧ ξ 41 l ≤ 30 ∧ 0 ≤ ξ 42 l ∧ ξ 42 l ≤ 30) ∧ (ξ 23 1 ≤ l → ξ 24 l = 0 ∧ ξ 25 l = 0 ∧ ξ 26 l = 0 ∧ ξ 27 l = 0 ∧ ξ 29 l = 0)) ∧ (∀ i, 0 ≤ i → i < 93 → 0 ≤ ξ 28 i ∧ ξ 28 i ≤ 9) ∧ (ξ 25 0 + 1) * (ξ 25 1 + 1) * (ξ 25 2 + 1) ≤ 1000
/-- how many states -/
def ZZ (ξ : Int → Int → Int) : Int := (ξ 25 0 + 1) * (ξ 25 1 + 1) * (ξ 25 2 + 1)
theorem fu4 : ∃ k, fu = k + 1 + 1 + 1 + 1 := ⟨99996, rfl⟩
theorem X8_in (σ : Hp) {a b c : Int} (h1 : R3 a) (h2 : R3 b) (h3 : R3 c) : F_X8_in a b c σ = some (if b ≤ a ∧ a ≤ c then 1 else 0, σ) := by
  unfold F_X8_in
  refine ev_bLt (by omega) (by omega) (by omega) (by omega) (fun hc => ?_) (fun hc => ?_)
  · rw [if_neg (by omega), rz_0]
  · refine ev_bLe (by omega) (by omega) (by omega) (by omega) (fun hc => ?_) (fun hc => ?_)
    · rw [if_pos (by omega), rz_1]
    · rw [if_neg (by omega), rz_0]
section M1
variable {b0 : Int} {σ : Hp} {ξ : Int → Int → Int}
theorem LB.gr (hB : LB ξ) {l : Int} (h0 : 0 ≤ l) (h3 : l < 3) : 0 ≤ ξ 25 l ∧ ξ 25 l ≤ 30 := by
  have h := (hB.2.1 l h0 h3).1
  exact ⟨by omega, by omega⟩
theorem LB.no (hB : LB ξ) {l : Int} (h0 : 0 ≤ l) (h3 : l < 3) (h : ξ 23 1 ≤ l) : ξ 25 l = 0 := ((hB.2.1 l h0 h3).2 h).2.1
theorem X8_states (hB : LB ξ) : F_X8_states (b0 + 23) (S b0 σ ξ) = some (ZZ ξ, S b0 σ ξ) := by
  unfold F_X8_states ZZ
  have n0 := hB.1
  obtain ⟨k, hk⟩ := fu4
  have a0 := hB.gr (l := 0) (by omega) (by omega)
  have a1 := hB.gr (l := 1) (by omega) (by omega)
  have a2 := hB.gr (l := 2) (by omega) (by omega)
  rw [hk]
  rcases (show ξ 23 1 = 0 ∨ ξ 23 1 = 1 ∨ ξ 23 1 = 2 ∨ ξ 23 1 = 3 by omega) with h | h | h | h
  all_goals
    have e2 : ξ 23 1 ≤ 2 → ξ 25 2 = 0 := hB.no (by omega) (by omega)
    have e1 : ξ 23 1 ≤ 1 → ξ 25 1 = 0 := hB.no (by omega) (by omega)
    have e0 : ξ 23 1 ≤ 0 → ξ 25 0 = 0 := hB.no (by omega) (by omega)
    rw [h] at e0 e1 e2
    simp only [Int.reduceLE, forall_const, false_implies] at e0 e1 e2
    rw [F_X8_states_L4]
    try simp only [Int.zero_add, Int.reduceAdd, Int.reduceSub, Int.reduceNeg]
    refine ev rS_23_1 ?_
    refine ev_bLt (by omega) (by omega) (by omega) (by omega) (fun hc => ?_) (fun hc => ?_)
    · first
      | exact absurd hc (by omega)
      | (
          refine ev rS_23_3 ?_
          refine ev (aS_25 (by omega) (by omega)) ?_
          refine evn ?_
          rw [F_X8_states_L4]
          try simp only [Int.zero_add, Int.reduceAdd, Int.reduceSub, Int.reduceNeg]
          refine ev rS_23_1 ?_
          refine ev_bLt (by omega) (by omega) (by omega) (by omega) (fun hc => ?_) (fun hc => ?_)
          · first
            | exact absurd hc (by omega)
            | (
                refine ev rS_23_3 ?_
                refine ev (aS_25 (by omega) (by omega)) ?_
                refine evn ?_
                rw [F_X8_states_L4]
                try simp only [Int.zero_add, Int.reduceAdd, Int.reduceSub, Int.reduceNeg]
                refine ev rS_23_1 ?_
                refine ev_bLt (by omega) (by omega) (by omega) (by omega) (fun hc => ?_) (fun hc => ?_)
                · first
                  | exact absurd hc (by omega)
                  | (
                      refine ev rS_23_3 ?_
                      refine ev (aS_25 (by omega) (by omega)) ?_
                      refine evn ?_
                      rw [F_X8_states_L4]
                      try simp only [Int.zero_add, Int.reduceAdd, Int.reduceSub, Int.reduceNeg]
                      refine ev rS_23_1 ?_
                      refine ev_bLt (by omega) (by omega) (by omega) (by omega) (fun hc => ?_) (fun hc => ?_)
                      · first
                        | exact absurd hc (by omega)
                        | (
                            refine ev rS_23_3 ?_
                            refine ev (aS_25 (by omega) (by omega)) ?_
                            refine evn ?_
                            exact absurd hc (by omega))
                      · first
                        | exact absurd hc (by omega)
                        | (
                            (refine ev_end ?_ rfl; simp only [e0, e1, e2, Int.one_mul, Int.zero_add, Int.mul_one])))
                · first
                  | exact absurd hc (by omega)
                  | (
                      (refine ev_end ?_ rfl; simp only [e0, e1, e2, Int.one_mul, Int.zero_add, Int.mul_one])))
          · first
            | exact absurd hc (by omega)
            | (
                (refine ev_end ?_ rfl; simp only [e0, e1, e2, Int.one_mul, Int.zero_add, Int.mul_one])))
    · first
      | exact absurd hc (by omega)
      | (
          (refine ev_end ?_ rfl; simp only [e0, e1, e2, Int.one_mul, Int.zero_add, Int.mul_one]))
theorem X8_lowest {l : Int} (hB : LB ξ) (h0 : 0 ≤ l) (h3 : l < 3) (hm : 0 ≤ ξ 35 l ∧ ξ 35 l ≤ 30) : F_X8_lowest (b0 + 23) l (S b0 σ ξ) = some (min (ξ 27 l) (ξ 35 l), S b0 σ ξ) := by
  unfold F_X8_lowest
  have a := (hB.2.1 l h0 h3).1
  refine ev rS_23_5 ?_
  refine ev (aS_27 (by omega) (by omega)) ?_
  refine ev rS_23_16 ?_
  refine ev (aS_35 (by omega) (by omega)) ?_
  refine ev_bLt (by omega) (by omega) (by omega) (by omega) (fun hc => ?_) (fun hc => ?_)
  · first
    | exact absurd hc (by omega)
    | (
        refine ev rS_23_5 ?_
        refine ev (aS_27 (by omega) (by omega)) ?_
        first | exact ev_end (by omega) rfl | skip)
  · first
    | exact absurd hc (by omega)
    | (
        refine ev rS_23_16 ?_
        refine ev (aS_35 (by omega) (by omega)) ?_
        first | exact ev_end (by omega) rfl | skip)
theorem X8_highest {l : Int} (hB : LB ξ) (h0 : 0 ≤ l) (h3 : l < 3) (hm : 0 ≤ ξ 35 l ∧ ξ 35 l ≤ 30) : F_X8_highest (b0 + 23) l (S b0 σ ξ) = some (max (min (ξ 27 l) (ξ 35 l)) (min (ξ 26 l) (ξ 35 l - ξ 24 l)), S b0 σ ξ) := by
  unfold F_X8_highest
  have hlow := X8_lowest (b0 := b0) (σ := σ) hB h0 h3 hm
  have a := (hB.2.1 l h0 h3).1
  refine ev rS_23_16 ?_
  refine ev (aS_35 (by omega) (by omega)) ?_
  refine ev rS_23_2 ?_
  refine ev (aS_24 (by omega) (by omega)) ?_
  refine ev_bLt (by omega) (by omega) (by omega) (by omega) (fun hc => ?_) (fun hc => ?_)
  · first
    | exact absurd hc (by omega)
    | (
        rw [F_X8_highest_B42]
        refine evd (iS_23.trans (hlow)) ?_
        refine ev_bLt (by omega) (by omega) (by omega) (by omega) (fun hc => ?_) (fun hc => ?_)
        · first
          | exact absurd hc (by omega)
          | (
              refine evd (iS_23.trans (hlow)) ?_
              first | exact ev_end (by omega) rfl | skip)
        · first
          | exact absurd hc (by omega)
          | (
              first | exact ev_end (by omega) rfl | skip))
  · first
    | exact absurd hc (by omega)
    | (
        refine ev rS_23_4 ?_
        refine ev (aS_26 (by omega) (by omega)) ?_
        refine ev_bLt (by omega) (by omega) (by omega) (by omega) (fun hc => ?_) (fun hc => ?_)
        · first
          | exact absurd hc (by omega)
          | (
              rw [F_X8_highest_B42]
              refine evd (iS_23.trans (hlow)) ?_
              refine ev_bLt (by omega) (by omega) (by omega) (by omega) (fun hc => ?_) (fun hc => ?_)
              · first
                | exact absurd hc (by omega)
                | (
                    refine evd (iS_23.trans (hlow)) ?_
                    first | exact ev_end (by omega) rfl | skip)
              · first
                | exact absurd hc (by omega)
                | (
                    first | exact ev_end (by omega) rfl | skip))
        · first
          | exact absurd hc (by omega)
          | (
              refine ev rS_23_4 ?_
              refine ev (aS_26 (by omega) (by omega)) ?_
              rw [F_X8_highest_B42]
              refine evd (iS_23.trans (hlow)) ?_
              refine ev_bLt (by omega) (by omega) (by omega) (by omega) (fun hc => ?_) (fun hc => ?_)
              · first
                | exact absurd hc (by omega)
                | (
                    refine evd (iS_23.trans (hlow)) ?_
                    first | exact ev_end (by omega) rfl | skip)
              · first
                | exact absurd hc (by omega)
                | (
                    first | exact ev_end (by omega) rfl | skip)))
theorem X8_isLake {l : Int} (hB : LB ξ) (hr : R3 l) : F_X8_isLake (b0 + 23) l (S b0 σ ξ) = some (if 0 ≤ l ∧ l ≤ ξ 23 1 - 1 then 1 else 0, S b0 σ ξ) := by
  unfold F_X8_isLake
  have h := hB.1
  refine ev rS_23_1 ?_
  refine evd (X8_in _ hr (by omega) (by omega)) ?_
  split
  · exact rz_1
  · exact rz_0
theorem X8_isState {l : Int} (hB : LB ξ) (hr : R3 l) : F_X8_isState (b0 + 23) l (S b0 σ ξ) = some (if 0 ≤ l ∧ l ≤ ZZ ξ - 1 then 1 else 0, S b0 σ ξ) := by
  unfold F_X8_isState
  have h : 0 ≤ ZZ ξ ∧ ZZ ξ ≤ 1000 := by
    refine ⟨?_, hB.2.2.2⟩
    have a0 := hB.2.1 0 (by omega) (by omega)
    have a1 := hB.2.1 1 (by omega) (by omega)
    have a2 := hB.2.1 2 (by omega) (by omega)
    exact Int.mul_nonneg (Int.mul_nonneg (by omega) (by omega)) (by omega)
  refine evd (iS_23.trans (X8_states hB)) ?_
  refine evd (X8_in _ hr (by omega) (by omega)) ?_
  split
  · exact rz_1
  · exact rz_0
theorem X8_forget : F_X8_forget (b0 + 23) (S b0 σ ξ) = some (0, S b0 σ (xu ξ 23 19 0)) := by
  unfold F_X8_forget
  exact ev (pS_23_19 (by decide)) rfl
/-- what a week earns, of the prices' row w, the measures and the lets -/
def ern (ξ : Int → Int → Int) (w m0 m1 m2 t0 t1 t2 : Int) : Int := ξ 30 w * ξ 28 (31 * 0 + m0) * t0 + ξ 30 w * ξ 28 (31 * 1 + m1) * t1 + ξ 30 w * ξ 28 (31 * 2 + m2) * t2
/-- measures and lets of lakes that are not: none -/
def SC (ξ : Int → Int → Int) : Prop := ∀ l, 0 ≤ l → l < 3 → (0 ≤ ξ 35 l ∧ ξ 35 l ≤ ξ 25 l ∧ 0 ≤ ξ 36 l ∧ ξ 36 l ≤ 15) ∧ (ξ 23 1 ≤ l → ξ 35 l = 0 ∧ ξ 36 l = 0)
theorem X8_earns {w : Int} (hB : LB ξ) (hS : SC ξ) (h0 : 0 ≤ w) (h9 : w < 10) : F_X8_earns (b0 + 23) w (S b0 σ ξ) = some (ern ξ w (ξ 35 0) (ξ 35 1) (ξ 35 2) (ξ 36 0) (ξ 36 1) (ξ 36 2), S b0 σ ξ) := by
  unfold F_X8_earns ern
  have n0 := hB.1
  have g0 := hB.gr (l := 0) (by omega) (by omega)
  have g1 := hB.gr (l := 1) (by omega) (by omega)
  have g2 := hB.gr (l := 2) (by omega) (by omega)
  have s0 := (hS 0 (by omega) (by omega)).1
  have s1 := (hS 1 (by omega) (by omega)).1
  have s2 := (hS 2 (by omega) (by omega)).1
  have z0 := (hS 0 (by omega) (by omega)).2
  have z1 := (hS 1 (by omega) (by omega)).2
  have z2 := (hS 2 (by omega) (by omega)).2
  obtain ⟨k, hk⟩ := fu4
  rw [hk]
  rcases (show ξ 23 1 = 0 ∨ ξ 23 1 = 1 ∨ ξ 23 1 = 2 ∨ ξ 23 1 = 3 by omega) with h | h | h | h
  all_goals
    rw [h] at z0 z1 z2
    simp only [Int.reduceLE, forall_const, false_implies] at z0 z1 z2
    rw [F_X8_earns_L4]
    try simp only [Int.zero_add, Int.reduceAdd, Int.reduceSub, Int.reduceNeg]
    refine ev rS_23_1 ?_
    refine ev_bLt (by omega) (by omega) (by omega) (by omega) (fun hc => ?_) (fun hc => ?_)
    · first
      | exact absurd hc (by omega)
      | (
          refine ev rS_23_10 ?_
          refine ev (aS_30 (by omega) (by omega)) ?_
          refine ev rS_23_6 ?_
          refine ev rS_23_16 ?_
          refine ev (aS_35 (by omega) (by omega)) ?_
          refine ev (aS_28 (by omega) (by omega)) ?_
          refine ev rS_23_17 ?_
          refine ev (aS_36 (by omega) (by omega)) ?_
          refine evn ?_
          rw [F_X8_earns_L4]
          try simp only [Int.zero_add, Int.reduceAdd, Int.reduceSub, Int.reduceNeg]
          refine ev rS_23_1 ?_
          refine ev_bLt (by omega) (by omega) (by omega) (by omega) (fun hc => ?_) (fun hc => ?_)
          · first
            | exact absurd hc (by omega)
            | (
                refine ev rS_23_10 ?_
                refine ev (aS_30 (by omega) (by omega)) ?_
                refine ev rS_23_6 ?_
                refine ev rS_23_16 ?_
                refine ev (aS_35 (by omega) (by omega)) ?_
                refine ev (aS_28 (by omega) (by omega)) ?_
                refine ev rS_23_17 ?_
                refine ev (aS_36 (by omega) (by omega)) ?_
                refine evn ?_
                rw [F_X8_earns_L4]
                try simp only [Int.zero_add, Int.reduceAdd, Int.reduceSub, Int.reduceNeg]
                refine ev rS_23_1 ?_
                refine ev_bLt (by omega) (by omega) (by omega) (by omega) (fun hc => ?_) (fun hc => ?_)
                · first
                  | exact absurd hc (by omega)
                  | (
                      refine ev rS_23_10 ?_
                      refine ev (aS_30 (by omega) (by omega)) ?_
                      refine ev rS_23_6 ?_
                      refine ev rS_23_16 ?_
                      refine ev (aS_35 (by omega) (by omega)) ?_
                      refine ev (aS_28 (by omega) (by omega)) ?_
                      refine ev rS_23_17 ?_
                      refine ev (aS_36 (by omega) (by omega)) ?_
                      refine evn ?_
                      rw [F_X8_earns_L4]
                      try simp only [Int.zero_add, Int.reduceAdd, Int.reduceSub, Int.reduceNeg]
                      refine ev rS_23_1 ?_
                      refine ev_bLt (by omega) (by omega) (by omega) (by omega) (fun hc => ?_) (fun hc => ?_)
                      · first
                        | exact absurd hc (by omega)
                        | (
                            refine ev rS_23_10 ?_
                            refine ev (aS_30 (by omega) (by omega)) ?_
                            refine ev rS_23_6 ?_
                            refine ev rS_23_16 ?_
                            refine ev (aS_35 (by omega) (by omega)) ?_
                            refine ev (aS_28 (by omega) (by omega)) ?_
                            refine ev rS_23_17 ?_
                            refine ev (aS_36 (by omega) (by omega)) ?_
                            refine evn ?_
                            exact absurd hc (by omega))
                      · first
                        | exact absurd hc (by omega)
                        | (
                            (refine ev_end ?_ rfl; simp only [z0, z1, z2, Int.zero_add, Int.reduceMul, Int.mul_zero, Int.add_zero])))
                · first
                  | exact absurd hc (by omega)
                  | (
                      (refine ev_end ?_ rfl; simp only [z0, z1, z2, Int.zero_add, Int.reduceMul, Int.mul_zero, Int.add_zero])))
          · first
            | exact absurd hc (by omega)
            | (
                (refine ev_end ?_ rfl; simp only [z0, z1, z2, Int.zero_add, Int.reduceMul, Int.mul_zero, Int.add_zero])))
    · first
      | exact absurd hc (by omega)
      | (
          (refine ev_end ?_ rfl; simp only [z0, z1, z2, Int.zero_add, Int.reduceMul, Int.mul_zero, Int.add_zero]))
end M1
