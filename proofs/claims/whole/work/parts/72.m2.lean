section M2
variable {b0 : Int} {σ : Hp} {ξ : Int → Int → Int}
theorem xu_nd {d k v d' k' : Int} (h : d' ≠ d) : xu ξ d k v d' k' = ξ d' k' := if_neg (fun q => h q.1)
theorem xu_ni {d k v d' k' : Int} (h : k' ≠ k) : xu ξ d k v d' k' = ξ d' k' := if_neg (fun q => h q.2)
theorem xu_s {d k v : Int} : xu ξ d k v d k = v := if_pos ⟨rfl, rfl⟩
/-- the measure of a lake in a state -/
def ms (ξ : Int → Int → Int) (s l : Int) : Int := if l = 0 then s / (ξ 25 2 + 1) / (ξ 25 1 + 1) % (ξ 25 0 + 1) else if l = 1 then s / (ξ 25 2 + 1) % (ξ 25 1 + 1) else s % (ξ 25 2 + 1)
/-- the measures' row of the model set to a state's -/
def unf (ξ : Int → Int → Int) (s : Int) : Int → Int → Int := fun d k => if d = 35 ∧ 0 ≤ k ∧ k < ξ 23 1 then ms ξ s k else ξ d k
theorem S_congr {ζ : Int → Int → Int} (h : ∀ d k, ξ d k = ζ d k) : S b0 σ ξ = S b0 σ ζ := congrArg (S b0 σ) (funext fun d => funext fun k => h d k)
theorem unf_of {ζ : Int → Int → Int} {s : Int} (h35 : ∀ k, 0 ≤ k → k < ξ 23 1 → ζ 35 k = ms ξ s k) (h36 : ∀ k, ¬ (0 ≤ k ∧ k < ξ 23 1) → ζ 35 k = ξ 35 k) (ho : ∀ d k, d ≠ 35 → ζ d k = ξ d k) : S b0 σ ζ = S b0 σ (unf ξ s) := by
  refine S_congr (fun d k => ?_)
  unfold unf
  by_cases e : d = 35
  · subst e
    by_cases hk : 0 ≤ k ∧ k < ξ 23 1
    · rw [if_pos ⟨rfl, hk⟩]; exact h35 k hk.1 hk.2
    · rw [if_neg (fun q => hk q.2)]; exact h36 k hk
  · rw [if_neg (fun q => e q.1)]; exact ho d k e
theorem tq {s z : Int} (h : 0 ≤ s) (hz : 0 < z) : Int.tdiv s z = s / z ∧ Int.tmod s z = s % z ∧ 0 ≤ s / z ∧ s / z ≤ s ∧ 0 ≤ s % z ∧ s % z < z := by
  refine ⟨Int.tdiv_eq_ediv_of_nonneg h, Int.tmod_eq_emod_of_nonneg h, Int.ediv_nonneg h (by omega), Int.ediv_le_self _ h, Int.emod_nonneg _ (by omega), Int.emod_lt_of_pos _ hz⟩
theorem X8_unfold {s : Int} (hB : LB ξ) (h0 : 0 ≤ s) (h1 : s < 2147483648) : F_X8_unfold (b0 + 23) s (S b0 σ ξ) = some (0, S b0 σ (unf ξ s)) := by
  unfold F_X8_unfold
  have n0 := hB.1
  obtain ⟨k, hk⟩ := fu4
  have a0 := hB.gr (l := 0) (by omega) (by omega)
  have a1 := hB.gr (l := 1) (by omega) (by omega)
  have a2 := hB.gr (l := 2) (by omega) (by omega)
  rw [hk]
  obtain ⟨p1, p2, p3, p4, p5, p6⟩ := tq (z := ξ 25 2 + 1) h0 (by omega)
  obtain ⟨q1, q2, q3, q4, q5, q6⟩ := tq (z := ξ 25 1 + 1) p3 (by omega)
  obtain ⟨r1, r2, r3, r4, r5, r6⟩ := tq (z := ξ 25 0 + 1) q3 (by omega)
  rcases (show ξ 23 1 = 0 ∨ ξ 23 1 = 1 ∨ ξ 23 1 = 2 ∨ ξ 23 1 = 3 by omega) with h | h | h | h
  all_goals
    have e2 : ξ 23 1 ≤ 2 → ξ 25 2 = 0 := hB.no (by omega) (by omega)
    have e1 : ξ 23 1 ≤ 1 → ξ 25 1 = 0 := hB.no (by omega) (by omega)
    rw [h] at e1 e2
    simp only [Int.reduceLE, forall_const, false_implies] at e1 e2
    try simp only [e1, e2, Int.zero_add, Int.ediv_one] at p1 p2 p3 p4 q1 q2 q3 q4 r1 r2 r3 r4
    refine ev rS_23_1 ?_
    rw [h]
    try simp only [Int.reduceSub]
    rw [F_X8_unfold_L9]
    refine ev_bLt (by omega) (by omega) (by omega) (by omega) (fun hc => ?_) (fun hc => ?_)
    · first
      | exact absurd hc (by omega)
      | (
          exact ev_end rfl (unf_of (fun k ha hb => by rcases (show k = 0 ∨ k = 1 ∨ k = 2 by omega) with rfl | rfl | rfl <;> first | (exfalso; omega) | (simp [xu, ms, e1, e2])) (fun k ha => by simp only [xu]; repeat' (first | rw [if_neg (by omega)] | rfl)) (fun d k hd => by simp only [xu]; repeat' (first | rw [if_neg (fun q => hd q.1)] | rfl))))
    · first
      | exact absurd hc (by omega)
      | (
          refine ev rS_23_16 ?_
          refine ev rS_23_3 ?_
          refine ev (aS_25 (by omega) (by omega)) ?_
          refine ev_gD (by omega) (by omega) (by omega) (by omega) (by omega) ?_
          refine ev (wS_35 (by omega) (by omega)) ?_
          refine ev rS_23_3 ?_
          refine ev (aS_25 (by omega) (by omega)) ?_
          try simp only [xu_nd, ne_eq, Int.reduceEq, not_false_eq_true, p1, p2, q1, q2, r1, r2]
          refine ev_gD (by omega) (by omega) (by omega) (by omega) (by omega) ?_
          refine evn ?_
          rw [F_X8_unfold_L9]
          try simp only [Int.zero_add, Int.reduceAdd, Int.reduceSub, Int.reduceNeg]
          refine ev_bLt (by omega) (by omega) (by omega) (by omega) (fun hc => ?_) (fun hc => ?_)
          · first
            | exact absurd hc (by omega)
            | (
                exact ev_end rfl (unf_of (fun k ha hb => by rcases (show k = 0 ∨ k = 1 ∨ k = 2 by omega) with rfl | rfl | rfl <;> first | (exfalso; omega) | (simp [xu, ms, e1, e2])) (fun k ha => by simp only [xu]; repeat' (first | rw [if_neg (by omega)] | rfl)) (fun d k hd => by simp only [xu]; repeat' (first | rw [if_neg (fun q => hd q.1)] | rfl))))
          · first
            | exact absurd hc (by omega)
            | (
                refine ev rS_23_16 ?_
                refine ev rS_23_3 ?_
                refine ev (aS_25 (by omega) (by omega)) ?_
                try simp only [xu_nd, ne_eq, Int.reduceEq, not_false_eq_true, p1, p2, q1, q2, r1, r2]
                refine ev_gD (by omega) (by omega) (by omega) (by omega) (by omega) ?_
                refine ev (wS_35 (by omega) (by omega)) ?_
                refine ev rS_23_3 ?_
                refine ev (aS_25 (by omega) (by omega)) ?_
                try simp only [xu_nd, ne_eq, Int.reduceEq, not_false_eq_true, p1, p2, q1, q2, r1, r2]
                refine ev_gD (by omega) (by omega) (by omega) (by omega) (by omega) ?_
                refine evn ?_
                rw [F_X8_unfold_L9]
                try simp only [Int.zero_add, Int.reduceAdd, Int.reduceSub, Int.reduceNeg]
                refine ev_bLt (by omega) (by omega) (by omega) (by omega) (fun hc => ?_) (fun hc => ?_)
                · first
                  | exact absurd hc (by omega)
                  | (
                      exact ev_end rfl (unf_of (fun k ha hb => by rcases (show k = 0 ∨ k = 1 ∨ k = 2 by omega) with rfl | rfl | rfl <;> first | (exfalso; omega) | (simp [xu, ms, e1, e2])) (fun k ha => by simp only [xu]; repeat' (first | rw [if_neg (by omega)] | rfl)) (fun d k hd => by simp only [xu]; repeat' (first | rw [if_neg (fun q => hd q.1)] | rfl))))
                · first
                  | exact absurd hc (by omega)
                  | (
                      refine ev rS_23_16 ?_
                      refine ev rS_23_3 ?_
                      refine ev (aS_25 (by omega) (by omega)) ?_
                      try simp only [xu_nd, ne_eq, Int.reduceEq, not_false_eq_true, p1, p2, q1, q2, r1, r2]
                      refine ev_gD (by omega) (by omega) (by omega) (by omega) (by omega) ?_
                      refine ev (wS_35 (by omega) (by omega)) ?_
                      refine ev rS_23_3 ?_
                      refine ev (aS_25 (by omega) (by omega)) ?_
                      try simp only [xu_nd, ne_eq, Int.reduceEq, not_false_eq_true, p1, p2, q1, q2, r1, r2]
                      refine ev_gD (by omega) (by omega) (by omega) (by omega) (by omega) ?_
                      refine evn ?_
                      rw [F_X8_unfold_L9]
                      try simp only [Int.zero_add, Int.reduceAdd, Int.reduceSub, Int.reduceNeg]
                      refine ev_bLt (by omega) (by omega) (by omega) (by omega) (fun hc => ?_) (fun hc => ?_)
                      · first
                        | exact absurd hc (by omega)
                        | (
                            exact ev_end rfl (unf_of (fun k ha hb => by rcases (show k = 0 ∨ k = 1 ∨ k = 2 by omega) with rfl | rfl | rfl <;> first | (exfalso; omega) | (simp [xu, ms, e1, e2])) (fun k ha => by simp only [xu]; repeat' (first | rw [if_neg (by omega)] | rfl)) (fun d k hd => by simp only [xu]; repeat' (first | rw [if_neg (fun q => hd q.1)] | rfl))))
                      · first
                        | exact absurd hc (by omega)
                        | (
                            refine ev rS_23_16 ?_
                            refine ev rS_23_3 ?_
                            refine ev (aS_25 (by omega) (by omega)) ?_
                            try simp only [xu_nd, ne_eq, Int.reduceEq, not_false_eq_true, p1, p2, q1, q2, r1, r2]
                            refine ev_gD (by omega) (by omega) (by omega) (by omega) (by omega) ?_
                            refine ev (wS_35 (by omega) (by omega)) ?_
                            refine ev rS_23_3 ?_
                            refine ev (aS_25 (by omega) (by omega)) ?_
                            try simp only [xu_nd, ne_eq, Int.reduceEq, not_false_eq_true, p1, p2, q1, q2, r1, r2]
                            refine ev_gD (by omega) (by omega) (by omega) (by omega) (by omega) ?_
                            refine evn ?_
                            exact absurd hc (by omega)))))
end M2
