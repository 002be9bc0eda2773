section M6
variable {b0 : Int} {σ : Hp} {ξ ζ : Int → Int → Int} {i m s t L : Int}
theorem unf_d {d k : Int} (h : d ≠ 35) : unf ξ s d k = ξ d k := if_neg (fun q => h q.1)
theorem unf_m (hB : LB ξ) (hm : MB ξ) (h0 : 0 ≤ i) (h3 : i < 3) : unf ξ s 35 i = ms ξ s i := by
  unfold unf
  by_cases h : i < ξ 23 1
  · rw [if_pos ⟨rfl, h0, h⟩]
  · rw [if_neg (fun q => h q.2.2), (hm i h0 h3).2 (by omega), ms_no hB h0 h3 (by omega)]
theorem MB.unf (hB : LB ξ) (hm : MB ξ) : MB (unf ξ s) := by
  intro l h0 h3
  rw [unf_m hB hm h0 h3, unf_d (by omega), unf_d (by omega)]
  exact ⟨ms_bd hB h0 h3, fun h => ms_no hB h0 h3 h⟩
theorem X8_endOf (hB : LB ξ) (hm : MB ξ) (s0 : 0 ≤ s) (s1 : s < 2147483648) : F_X8_endOf (b0 + 23) s (S b0 σ ξ) = some (endv ξ s, S b0 σ (unf ξ s)) := by
  unfold F_X8_endOf endv
  refine evd (iS_23.trans (X8_unfold hB s0 s1)) ?_
  have n0 := hB.1
  have u0 := unf_m (s := s) (i := 0) hB hm (by omega) (by omega)
  have u1 := unf_m (s := s) (i := 1) hB hm (by omega) (by omega)
  have u2 := unf_m (s := s) (i := 2) hB hm (by omega) (by omega)
  have w1 : unf ξ s 23 1 = ξ 23 1 := unf_d (by omega)
  have w7 : ∀ k, unf ξ s 29 k = ξ 29 k := fun k => unf_d (by omega)
  obtain ⟨k, hk⟩ := fu4
  rw [hk]
  rcases (show ξ 23 1 = 0 ∨ ξ 23 1 = 1 ∨ ξ 23 1 = 2 ∨ ξ 23 1 = 3 by omega) with h | h | h | h
  all_goals
    have z0 : ξ 23 1 ≤ 0 → ms ξ s 0 = 0 := ms_no hB (by omega) (by omega)
    have z1 : ξ 23 1 ≤ 1 → ms ξ s 1 = 0 := ms_no hB (by omega) (by omega)
    have z2 : ξ 23 1 ≤ 2 → ms ξ s 2 = 0 := ms_no hB (by omega) (by omega)
    rw [h] at z0 z1 z2
    simp only [Int.reduceLE, forall_const, false_implies] at z0 z1 z2
    rw [F_X8_endOf_L9]
    refine ev rS_23_1 ?_
    refine ev_bLt (by omega) (by omega) (by omega) (by omega) (fun hc => ?_) (fun hc => ?_)
    · first
      | exact absurd hc (by omega)
      | (
          refine ev rS_23_7 ?_
          refine ev (aS_29 (by omega) (by omega)) ?_
          refine ev rS_23_16 ?_
          refine ev (aS_35 (by omega) (by omega)) ?_
          refine evn ?_
          rw [F_X8_endOf_L9]
          try simp only [Int.zero_add, Int.reduceAdd, Int.reduceSub, Int.reduceNeg]
          refine ev rS_23_1 ?_
          refine ev_bLt (by omega) (by omega) (by omega) (by omega) (fun hc => ?_) (fun hc => ?_)
          · first
            | exact absurd hc (by omega)
            | (
                refine ev rS_23_7 ?_
                refine ev (aS_29 (by omega) (by omega)) ?_
                refine ev rS_23_16 ?_
                refine ev (aS_35 (by omega) (by omega)) ?_
                refine evn ?_
                rw [F_X8_endOf_L9]
                try simp only [Int.zero_add, Int.reduceAdd, Int.reduceSub, Int.reduceNeg]
                refine ev rS_23_1 ?_
                refine ev_bLt (by omega) (by omega) (by omega) (by omega) (fun hc => ?_) (fun hc => ?_)
                · first
                  | exact absurd hc (by omega)
                  | (
                      refine ev rS_23_7 ?_
                      refine ev (aS_29 (by omega) (by omega)) ?_
                      refine ev rS_23_16 ?_
                      refine ev (aS_35 (by omega) (by omega)) ?_
                      refine evn ?_
                      rw [F_X8_endOf_L9]
                      try simp only [Int.zero_add, Int.reduceAdd, Int.reduceSub, Int.reduceNeg]
                      refine ev rS_23_1 ?_
                      refine ev_bLt (by omega) (by omega) (by omega) (by omega) (fun hc => ?_) (fun hc => ?_)
                      · first
                        | exact absurd hc (by omega)
                        | (
                            refine ev rS_23_7 ?_
                            refine ev (aS_29 (by omega) (by omega)) ?_
                            refine ev rS_23_16 ?_
                            refine ev (aS_35 (by omega) (by omega)) ?_
                            refine evn ?_
                            exact absurd hc (by omega))
                      · first
                        | exact absurd hc (by omega)
                        | (
                            (refine ev_end ?_ rfl; simp only [w7, u0, u1, u2, z0, z1, z2, Int.zero_add, Int.mul_zero, Int.add_zero])))
                · first
                  | exact absurd hc (by omega)
                  | (
                      (refine ev_end ?_ rfl; simp only [w7, u0, u1, u2, z0, z1, z2, Int.zero_add, Int.mul_zero, Int.add_zero])))
          · first
            | exact absurd hc (by omega)
            | (
                (refine ev_end ?_ rfl; simp only [w7, u0, u1, u2, z0, z1, z2, Int.zero_add, Int.mul_zero, Int.add_zero])))
    · first
      | exact absurd hc (by omega)
      | (
          (refine ev_end ?_ rfl; simp only [w7, u0, u1, u2, z0, z1, z2, Int.zero_add, Int.mul_zero, Int.add_zero]))
theorem X8_scale_loop (hT : TB ξ) : ∀ (n f : Nat) (a w : Int), n < f → -1 ≤ w → w + n = ξ 23 8 - 1 → F_X8_scale_L10 (b0 + 23) f a w (S b0 σ ξ) = some (a * ξ 23 9 ^ n, S b0 σ ξ) := by
  have h1 := hT.1
  have h2 := hT.2.1
  intro n
  induction n with
  | zero =>
    intro f a w hf hw he
    obtain ⟨f, rfl⟩ : ∃ g, f = g + 1 := ⟨f - 1, by omega⟩
    rw [F_X8_scale_L10]
    refine ev rS_23_8 ?_
    refine ev_bLt (by omega) (by omega) (by omega) (by omega) (fun hc => absurd hc (by omega)) (fun hc => ?_)
    rw [Int.pow_zero, Int.mul_one]
  | succ n ih =>
    intro f a w hf hw he
    obtain ⟨f, rfl⟩ : ∃ g, f = g + 1 := ⟨f - 1, by omega⟩
    rw [F_X8_scale_L10]
    refine ev rS_23_8 ?_
    refine ev_bLt (by omega) (by omega) (by omega) (by omega) (fun hc => ?_) (fun hc => absurd hc (by omega))
    refine ev rS_23_9 ?_
    refine ev_g3 (by omega) (by omega) ?_
    refine evn ?_
    rw [ih f _ _ (by omega) (by omega) (by omega), Int.pow_succ, Int.mul_assoc, Int.mul_comm (ξ 23 9) (ξ 23 9 ^ n)]
/-- how many weeks are left at a node -/
def lft (ξ : Int → Int → Int) (n : Int) : Nat := (ξ 23 8 - 1 - ξ 33 n).toNat
theorem X8_scale {n : Int} (hT : TB ξ) (h0 : 0 ≤ n) (h1 : n < ξ 23 11) : F_X8_scale (b0 + 23) n (S b0 σ ξ) = some (ξ 23 9 ^ lft ξ n, S b0 σ ξ) := by
  unfold F_X8_scale lft
  have h := hT.week h0 h1
  have h3 := hT.2.2.1
  have h8 := hT.1
  refine ev rS_23_14 ?_
  refine ev (aS_33 (by omega) (by omega)) ?_
  rw [X8_scale_loop hT (ξ 23 8 - 1 - ξ 33 n).toNat fu 1 (ξ 33 n) (fuN (by omega)) (by omega) (by omega), Int.one_mul]
theorem X8_ruledLet_step {l : Int} {n : Nat} (hB : LB ξ) (hm : MB ξ) (l0 : 0 ≤ l) (l1 : l < ξ 23 1) : F_X8_ruledLet_L2 (b0 + 23) (n + 1) l (S b0 σ ξ) = F_X8_ruledLet_L2 (b0 + 23) n (l + 1) (S b0 σ (xu ξ 36 l (rlv ξ l (ξ 35 l)))) := by
  have n0 := hB.1
  have hb := lw_b hB hm l0 (by omega)
  have hx := (hB.2.1 l l0 (by omega)).1
  have hmm := hm.le hB l0 (by omega)
  have hlow := X8_lowest (b0 := b0) (σ := σ) hB l0 (by omega) (hm.le hB l0 (by omega))
  have hhigh := X8_highest (b0 := b0) (σ := σ) hB l0 (by omega) (hm.le hB l0 (by omega))
  have e1 : max (min (ξ 27 l) (ξ 35 l)) (min (ξ 26 l) (ξ 35 l - ξ 24 l)) = hg ξ l := rfl
  have e2 : min (ξ 27 l) (ξ 35 l) = lw ξ l := rfl
  have hr : rlv ξ l (ξ 35 l) = max (lw ξ l) (min (hg ξ l) (min (max (ξ 35 l - ξ 41 l) 0) (ξ 42 l))) := by
    unfold rlv
    rw [if_pos l1]
    rfl
  rw [e1] at hhigh
  rw [e2] at hlow
  rw [hr]
  clear e1 e2 hr hx
  have a1 := (hB.2.1 l l0 (by omega)).1.2.2.2.2.2.2.2.2.2
  rw [F_X8_ruledLet_L2]
  by_cases c1 : ξ 35 l - ξ 41 l < 0
  · by_cases c3 : (0 : Int) < lw ξ l
    · rw [show max (lw ξ l) (min (hg ξ l) (min (max (ξ 35 l - ξ 41 l) 0) (ξ 42 l))) = lw ξ l by omega]
      refine ev rS_23_1 ?_
      refine ev_bLt (by omega) (by omega) (by omega) (by omega) (fun hc => ?_) (fun hc => ?_)
      · first
        | exact absurd hc (by omega)
        | (
            refine ev rS_23_16 ?_
            refine ev (aS_35 (by omega) (by omega)) ?_
            refine ev rS_23_24 ?_
            refine ev (aS_41 (by omega) (by omega)) ?_
            refine ev_bLt (by omega) (by omega) (by omega) (by omega) (fun hc => ?_) (fun hc => ?_)
            · first
              | exact absurd hc (by omega)
              | (
                  rw [F_X8_ruledLet_B52]
                  refine ev rS_23_17 ?_
                  refine evd (iS_23.trans (hlow)) ?_
                  refine ev_bLt (by omega) (by omega) (by omega) (by omega) (fun hc => ?_) (fun hc => ?_)
                  · first
                    | exact absurd hc (by omega)
                    | (
                        refine evd (iS_23.trans (hlow)) ?_
                        rw [F_X8_ruledLet_B93]
                        refine ev (wS_36 (by omega) (by omega)) ?_
                        rfl)
                  · first
                    | exact absurd hc (by omega)
                    | (
                        refine evd (iS_23.trans (hhigh)) ?_
                        refine ev_bLe (by omega) (by omega) (by omega) (by omega) (fun hc => ?_) (fun hc => ?_)
                        · first
                          | exact absurd hc (by omega)
                          | (
                              rw [F_X8_ruledLet_B93]
                              refine ev (wS_36 (by omega) (by omega)) ?_
                              rfl)
                        · first
                          | exact absurd hc (by omega)
                          | (
                              refine evd (iS_23.trans (hhigh)) ?_
                              rw [F_X8_ruledLet_B93]
                              refine ev (wS_36 (by omega) (by omega)) ?_
                              rfl)))
            · first
              | exact absurd hc (by omega)
              | (
                  refine ev rS_23_25 ?_
                  refine ev (aS_42 (by omega) (by omega)) ?_
                  refine ev_bLe (by omega) (by omega) (by omega) (by omega) (fun hc => ?_) (fun hc => ?_)
                  · first
                    | exact absurd hc (by omega)
                    | (
                        rw [F_X8_ruledLet_B52]
                        refine ev rS_23_17 ?_
                        refine evd (iS_23.trans (hlow)) ?_
                        refine ev_bLt (by omega) (by omega) (by omega) (by omega) (fun hc => ?_) (fun hc => ?_)
                        · first
                          | exact absurd hc (by omega)
                          | (
                              refine evd (iS_23.trans (hlow)) ?_
                              rw [F_X8_ruledLet_B93]
                              refine ev (wS_36 (by omega) (by omega)) ?_
                              rfl)
                        · first
                          | exact absurd hc (by omega)
                          | (
                              refine evd (iS_23.trans (hhigh)) ?_
                              refine ev_bLe (by omega) (by omega) (by omega) (by omega) (fun hc => ?_) (fun hc => ?_)
                              · first
                                | exact absurd hc (by omega)
                                | (
                                    rw [F_X8_ruledLet_B93]
                                    refine ev (wS_36 (by omega) (by omega)) ?_
                                    rfl)
                              · first
                                | exact absurd hc (by omega)
                                | (
                                    refine evd (iS_23.trans (hhigh)) ?_
                                    rw [F_X8_ruledLet_B93]
                                    refine ev (wS_36 (by omega) (by omega)) ?_
                                    rfl)))
                  · first
                    | exact absurd hc (by omega)
                    | (
                        refine ev rS_23_25 ?_
                        refine ev (aS_42 (by omega) (by omega)) ?_
                        rw [F_X8_ruledLet_B52]
                        refine ev rS_23_17 ?_
                        refine evd (iS_23.trans (hlow)) ?_
                        refine ev_bLt (by omega) (by omega) (by omega) (by omega) (fun hc => ?_) (fun hc => ?_)
                        · first
                          | exact absurd hc (by omega)
                          | (
                              refine evd (iS_23.trans (hlow)) ?_
                              rw [F_X8_ruledLet_B93]
                              refine ev (wS_36 (by omega) (by omega)) ?_
                              rfl)
                        · first
                          | exact absurd hc (by omega)
                          | (
                              refine evd (iS_23.trans (hhigh)) ?_
                              refine ev_bLe (by omega) (by omega) (by omega) (by omega) (fun hc => ?_) (fun hc => ?_)
                              · first
                                | exact absurd hc (by omega)
                                | (
                                    rw [F_X8_ruledLet_B93]
                                    refine ev (wS_36 (by omega) (by omega)) ?_
                                    rfl)
                              · first
                                | exact absurd hc (by omega)
                                | (
                                    refine evd (iS_23.trans (hhigh)) ?_
                                    rw [F_X8_ruledLet_B93]
                                    refine ev (wS_36 (by omega) (by omega)) ?_
                                    rfl)))))
      · first
        | exact absurd hc (by omega)
        | (
            rfl)
    · rw [show max (lw ξ l) (min (hg ξ l) (min (max (ξ 35 l - ξ 41 l) 0) (ξ 42 l))) = 0 by omega]
      refine ev rS_23_1 ?_
      refine ev_bLt (by omega) (by omega) (by omega) (by omega) (fun hc => ?_) (fun hc => ?_)
      · first
        | exact absurd hc (by omega)
        | (
            refine ev rS_23_16 ?_
            refine ev (aS_35 (by omega) (by omega)) ?_
            refine ev rS_23_24 ?_
            refine ev (aS_41 (by omega) (by omega)) ?_
            refine ev_bLt (by omega) (by omega) (by omega) (by omega) (fun hc => ?_) (fun hc => ?_)
            · first
              | exact absurd hc (by omega)
              | (
                  rw [F_X8_ruledLet_B52]
                  refine ev rS_23_17 ?_
                  refine evd (iS_23.trans (hlow)) ?_
                  refine ev_bLt (by omega) (by omega) (by omega) (by omega) (fun hc => ?_) (fun hc => ?_)
                  · first
                    | exact absurd hc (by omega)
                    | (
                        refine evd (iS_23.trans (hlow)) ?_
                        rw [F_X8_ruledLet_B93]
                        refine ev (wS_36 (by omega) (by omega)) ?_
                        rfl)
                  · first
                    | exact absurd hc (by omega)
                    | (
                        refine evd (iS_23.trans (hhigh)) ?_
                        refine ev_bLe (by omega) (by omega) (by omega) (by omega) (fun hc => ?_) (fun hc => ?_)
                        · first
                          | exact absurd hc (by omega)
                          | (
                              rw [F_X8_ruledLet_B93]
                              refine ev (wS_36 (by omega) (by omega)) ?_
                              rfl)
                        · first
                          | exact absurd hc (by omega)
                          | (
                              refine evd (iS_23.trans (hhigh)) ?_
                              rw [F_X8_ruledLet_B93]
                              refine ev (wS_36 (by omega) (by omega)) ?_
                              rfl)))
            · first
              | exact absurd hc (by omega)
              | (
                  refine ev rS_23_25 ?_
                  refine ev (aS_42 (by omega) (by omega)) ?_
                  refine ev_bLe (by omega) (by omega) (by omega) (by omega) (fun hc => ?_) (fun hc => ?_)
                  · first
                    | exact absurd hc (by omega)
                    | (
                        rw [F_X8_ruledLet_B52]
                        refine ev rS_23_17 ?_
                        refine evd (iS_23.trans (hlow)) ?_
                        refine ev_bLt (by omega) (by omega) (by omega) (by omega) (fun hc => ?_) (fun hc => ?_)
                        · first
                          | exact absurd hc (by omega)
                          | (
                              refine evd (iS_23.trans (hlow)) ?_
                              rw [F_X8_ruledLet_B93]
                              refine ev (wS_36 (by omega) (by omega)) ?_
                              rfl)
                        · first
                          | exact absurd hc (by omega)
                          | (
                              refine evd (iS_23.trans (hhigh)) ?_
                              refine ev_bLe (by omega) (by omega) (by omega) (by omega) (fun hc => ?_) (fun hc => ?_)
                              · first
                                | exact absurd hc (by omega)
                                | (
                                    rw [F_X8_ruledLet_B93]
                                    refine ev (wS_36 (by omega) (by omega)) ?_
                                    rfl)
                              · first
                                | exact absurd hc (by omega)
                                | (
                                    refine evd (iS_23.trans (hhigh)) ?_
                                    rw [F_X8_ruledLet_B93]
                                    refine ev (wS_36 (by omega) (by omega)) ?_
                                    rfl)))
                  · first
                    | exact absurd hc (by omega)
                    | (
                        refine ev rS_23_25 ?_
                        refine ev (aS_42 (by omega) (by omega)) ?_
                        rw [F_X8_ruledLet_B52]
                        refine ev rS_23_17 ?_
                        refine evd (iS_23.trans (hlow)) ?_
                        refine ev_bLt (by omega) (by omega) (by omega) (by omega) (fun hc => ?_) (fun hc => ?_)
                        · first
                          | exact absurd hc (by omega)
                          | (
                              refine evd (iS_23.trans (hlow)) ?_
                              rw [F_X8_ruledLet_B93]
                              refine ev (wS_36 (by omega) (by omega)) ?_
                              rfl)
                        · first
                          | exact absurd hc (by omega)
                          | (
                              refine evd (iS_23.trans (hhigh)) ?_
                              refine ev_bLe (by omega) (by omega) (by omega) (by omega) (fun hc => ?_) (fun hc => ?_)
                              · first
                                | exact absurd hc (by omega)
                                | (
                                    rw [F_X8_ruledLet_B93]
                                    refine ev (wS_36 (by omega) (by omega)) ?_
                                    rfl)
                              · first
                                | exact absurd hc (by omega)
                                | (
                                    refine evd (iS_23.trans (hhigh)) ?_
                                    rw [F_X8_ruledLet_B93]
                                    refine ev (wS_36 (by omega) (by omega)) ?_
                                    rfl)))))
      · first
        | exact absurd hc (by omega)
        | (
            rfl)
  · by_cases c2 : ξ 35 l - ξ 41 l ≤ ξ 42 l
    · by_cases c3 : ξ 35 l - ξ 41 l < lw ξ l
      · rw [show max (lw ξ l) (min (hg ξ l) (min (max (ξ 35 l - ξ 41 l) 0) (ξ 42 l))) = lw ξ l by omega]
        refine ev rS_23_1 ?_
        refine ev_bLt (by omega) (by omega) (by omega) (by omega) (fun hc => ?_) (fun hc => ?_)
        · first
          | exact absurd hc (by omega)
          | (
              refine ev rS_23_16 ?_
              refine ev (aS_35 (by omega) (by omega)) ?_
              refine ev rS_23_24 ?_
              refine ev (aS_41 (by omega) (by omega)) ?_
              refine ev_bLt (by omega) (by omega) (by omega) (by omega) (fun hc => ?_) (fun hc => ?_)
              · first
                | exact absurd hc (by omega)
                | (
                    rw [F_X8_ruledLet_B52]
                    refine ev rS_23_17 ?_
                    refine evd (iS_23.trans (hlow)) ?_
                    refine ev_bLt (by omega) (by omega) (by omega) (by omega) (fun hc => ?_) (fun hc => ?_)
                    · first
                      | exact absurd hc (by omega)
                      | (
                          refine evd (iS_23.trans (hlow)) ?_
                          rw [F_X8_ruledLet_B93]
                          refine ev (wS_36 (by omega) (by omega)) ?_
                          rfl)
                    · first
                      | exact absurd hc (by omega)
                      | (
                          refine evd (iS_23.trans (hhigh)) ?_
                          refine ev_bLe (by omega) (by omega) (by omega) (by omega) (fun hc => ?_) (fun hc => ?_)
                          · first
                            | exact absurd hc (by omega)
                            | (
                                rw [F_X8_ruledLet_B93]
                                refine ev (wS_36 (by omega) (by omega)) ?_
                                rfl)
                          · first
                            | exact absurd hc (by omega)
                            | (
                                refine evd (iS_23.trans (hhigh)) ?_
                                rw [F_X8_ruledLet_B93]
                                refine ev (wS_36 (by omega) (by omega)) ?_
                                rfl)))
              · first
                | exact absurd hc (by omega)
                | (
                    refine ev rS_23_25 ?_
                    refine ev (aS_42 (by omega) (by omega)) ?_
                    refine ev_bLe (by omega) (by omega) (by omega) (by omega) (fun hc => ?_) (fun hc => ?_)
                    · first
                      | exact absurd hc (by omega)
                      | (
                          rw [F_X8_ruledLet_B52]
                          refine ev rS_23_17 ?_
                          refine evd (iS_23.trans (hlow)) ?_
                          refine ev_bLt (by omega) (by omega) (by omega) (by omega) (fun hc => ?_) (fun hc => ?_)
                          · first
                            | exact absurd hc (by omega)
                            | (
                                refine evd (iS_23.trans (hlow)) ?_
                                rw [F_X8_ruledLet_B93]
                                refine ev (wS_36 (by omega) (by omega)) ?_
                                rfl)
                          · first
                            | exact absurd hc (by omega)
                            | (
                                refine evd (iS_23.trans (hhigh)) ?_
                                refine ev_bLe (by omega) (by omega) (by omega) (by omega) (fun hc => ?_) (fun hc => ?_)
                                · first
                                  | exact absurd hc (by omega)
                                  | (
                                      rw [F_X8_ruledLet_B93]
                                      refine ev (wS_36 (by omega) (by omega)) ?_
                                      rfl)
                                · first
                                  | exact absurd hc (by omega)
                                  | (
                                      refine evd (iS_23.trans (hhigh)) ?_
                                      rw [F_X8_ruledLet_B93]
                                      refine ev (wS_36 (by omega) (by omega)) ?_
                                      rfl)))
                    · first
                      | exact absurd hc (by omega)
                      | (
                          refine ev rS_23_25 ?_
                          refine ev (aS_42 (by omega) (by omega)) ?_
                          rw [F_X8_ruledLet_B52]
                          refine ev rS_23_17 ?_
                          refine evd (iS_23.trans (hlow)) ?_
                          refine ev_bLt (by omega) (by omega) (by omega) (by omega) (fun hc => ?_) (fun hc => ?_)
                          · first
                            | exact absurd hc (by omega)
                            | (
                                refine evd (iS_23.trans (hlow)) ?_
                                rw [F_X8_ruledLet_B93]
                                refine ev (wS_36 (by omega) (by omega)) ?_
                                rfl)
                          · first
                            | exact absurd hc (by omega)
                            | (
                                refine evd (iS_23.trans (hhigh)) ?_
                                refine ev_bLe (by omega) (by omega) (by omega) (by omega) (fun hc => ?_) (fun hc => ?_)
                                · first
                                  | exact absurd hc (by omega)
                                  | (
                                      rw [F_X8_ruledLet_B93]
                                      refine ev (wS_36 (by omega) (by omega)) ?_
                                      rfl)
                                · first
                                  | exact absurd hc (by omega)
                                  | (
                                      refine evd (iS_23.trans (hhigh)) ?_
                                      rw [F_X8_ruledLet_B93]
                                      refine ev (wS_36 (by omega) (by omega)) ?_
                                      rfl)))))
        · first
          | exact absurd hc (by omega)
          | (
              rfl)
      · by_cases c4 : ξ 35 l - ξ 41 l ≤ hg ξ l
        · rw [show max (lw ξ l) (min (hg ξ l) (min (max (ξ 35 l - ξ 41 l) 0) (ξ 42 l))) = ξ 35 l - ξ 41 l by omega]
          refine ev rS_23_1 ?_
          refine ev_bLt (by omega) (by omega) (by omega) (by omega) (fun hc => ?_) (fun hc => ?_)
          · first
            | exact absurd hc (by omega)
            | (
                refine ev rS_23_16 ?_
                refine ev (aS_35 (by omega) (by omega)) ?_
                refine ev rS_23_24 ?_
                refine ev (aS_41 (by omega) (by omega)) ?_
                refine ev_bLt (by omega) (by omega) (by omega) (by omega) (fun hc => ?_) (fun hc => ?_)
                · first
                  | exact absurd hc (by omega)
                  | (
                      rw [F_X8_ruledLet_B52]
                      refine ev rS_23_17 ?_
                      refine evd (iS_23.trans (hlow)) ?_
                      refine ev_bLt (by omega) (by omega) (by omega) (by omega) (fun hc => ?_) (fun hc => ?_)
                      · first
                        | exact absurd hc (by omega)
                        | (
                            refine evd (iS_23.trans (hlow)) ?_
                            rw [F_X8_ruledLet_B93]
                            refine ev (wS_36 (by omega) (by omega)) ?_
                            rfl)
                      · first
                        | exact absurd hc (by omega)
                        | (
                            refine evd (iS_23.trans (hhigh)) ?_
                            refine ev_bLe (by omega) (by omega) (by omega) (by omega) (fun hc => ?_) (fun hc => ?_)
                            · first
                              | exact absurd hc (by omega)
                              | (
                                  rw [F_X8_ruledLet_B93]
                                  refine ev (wS_36 (by omega) (by omega)) ?_
                                  rfl)
                            · first
                              | exact absurd hc (by omega)
                              | (
                                  refine evd (iS_23.trans (hhigh)) ?_
                                  rw [F_X8_ruledLet_B93]
                                  refine ev (wS_36 (by omega) (by omega)) ?_
                                  rfl)))
                · first
                  | exact absurd hc (by omega)
                  | (
                      refine ev rS_23_25 ?_
                      refine ev (aS_42 (by omega) (by omega)) ?_
                      refine ev_bLe (by omega) (by omega) (by omega) (by omega) (fun hc => ?_) (fun hc => ?_)
                      · first
                        | exact absurd hc (by omega)
                        | (
                            rw [F_X8_ruledLet_B52]
                            refine ev rS_23_17 ?_
                            refine evd (iS_23.trans (hlow)) ?_
                            refine ev_bLt (by omega) (by omega) (by omega) (by omega) (fun hc => ?_) (fun hc => ?_)
                            · first
                              | exact absurd hc (by omega)
                              | (
                                  refine evd (iS_23.trans (hlow)) ?_
                                  rw [F_X8_ruledLet_B93]
                                  refine ev (wS_36 (by omega) (by omega)) ?_
                                  rfl)
                            · first
                              | exact absurd hc (by omega)
                              | (
                                  refine evd (iS_23.trans (hhigh)) ?_
                                  refine ev_bLe (by omega) (by omega) (by omega) (by omega) (fun hc => ?_) (fun hc => ?_)
                                  · first
                                    | exact absurd hc (by omega)
                                    | (
                                        rw [F_X8_ruledLet_B93]
                                        refine ev (wS_36 (by omega) (by omega)) ?_
                                        rfl)
                                  · first
                                    | exact absurd hc (by omega)
                                    | (
                                        refine evd (iS_23.trans (hhigh)) ?_
                                        rw [F_X8_ruledLet_B93]
                                        refine ev (wS_36 (by omega) (by omega)) ?_
                                        rfl)))
                      · first
                        | exact absurd hc (by omega)
                        | (
                            refine ev rS_23_25 ?_
                            refine ev (aS_42 (by omega) (by omega)) ?_
                            rw [F_X8_ruledLet_B52]
                            refine ev rS_23_17 ?_
                            refine evd (iS_23.trans (hlow)) ?_
                            refine ev_bLt (by omega) (by omega) (by omega) (by omega) (fun hc => ?_) (fun hc => ?_)
                            · first
                              | exact absurd hc (by omega)
                              | (
                                  refine evd (iS_23.trans (hlow)) ?_
                                  rw [F_X8_ruledLet_B93]
                                  refine ev (wS_36 (by omega) (by omega)) ?_
                                  rfl)
                            · first
                              | exact absurd hc (by omega)
                              | (
                                  refine evd (iS_23.trans (hhigh)) ?_
                                  refine ev_bLe (by omega) (by omega) (by omega) (by omega) (fun hc => ?_) (fun hc => ?_)
                                  · first
                                    | exact absurd hc (by omega)
                                    | (
                                        rw [F_X8_ruledLet_B93]
                                        refine ev (wS_36 (by omega) (by omega)) ?_
                                        rfl)
                                  · first
                                    | exact absurd hc (by omega)
                                    | (
                                        refine evd (iS_23.trans (hhigh)) ?_
                                        rw [F_X8_ruledLet_B93]
                                        refine ev (wS_36 (by omega) (by omega)) ?_
                                        rfl)))))
          · first
            | exact absurd hc (by omega)
            | (
                rfl)
        · rw [show max (lw ξ l) (min (hg ξ l) (min (max (ξ 35 l - ξ 41 l) 0) (ξ 42 l))) = hg ξ l by omega]
          refine ev rS_23_1 ?_
          refine ev_bLt (by omega) (by omega) (by omega) (by omega) (fun hc => ?_) (fun hc => ?_)
          · first
            | exact absurd hc (by omega)
            | (
                refine ev rS_23_16 ?_
                refine ev (aS_35 (by omega) (by omega)) ?_
                refine ev rS_23_24 ?_
                refine ev (aS_41 (by omega) (by omega)) ?_
                refine ev_bLt (by omega) (by omega) (by omega) (by omega) (fun hc => ?_) (fun hc => ?_)
                · first
                  | exact absurd hc (by omega)
                  | (
                      rw [F_X8_ruledLet_B52]
                      refine ev rS_23_17 ?_
                      refine evd (iS_23.trans (hlow)) ?_
                      refine ev_bLt (by omega) (by omega) (by omega) (by omega) (fun hc => ?_) (fun hc => ?_)
                      · first
                        | exact absurd hc (by omega)
                        | (
                            refine evd (iS_23.trans (hlow)) ?_
                            rw [F_X8_ruledLet_B93]
                            refine ev (wS_36 (by omega) (by omega)) ?_
                            rfl)
                      · first
                        | exact absurd hc (by omega)
                        | (
                            refine evd (iS_23.trans (hhigh)) ?_
                            refine ev_bLe (by omega) (by omega) (by omega) (by omega) (fun hc => ?_) (fun hc => ?_)
                            · first
                              | exact absurd hc (by omega)
                              | (
                                  rw [F_X8_ruledLet_B93]
                                  refine ev (wS_36 (by omega) (by omega)) ?_
                                  rfl)
                            · first
                              | exact absurd hc (by omega)
                              | (
                                  refine evd (iS_23.trans (hhigh)) ?_
                                  rw [F_X8_ruledLet_B93]
                                  refine ev (wS_36 (by omega) (by omega)) ?_
                                  rfl)))
                · first
                  | exact absurd hc (by omega)
                  | (
                      refine ev rS_23_25 ?_
                      refine ev (aS_42 (by omega) (by omega)) ?_
                      refine ev_bLe (by omega) (by omega) (by omega) (by omega) (fun hc => ?_) (fun hc => ?_)
                      · first
                        | exact absurd hc (by omega)
                        | (
                            rw [F_X8_ruledLet_B52]
                            refine ev rS_23_17 ?_
                            refine evd (iS_23.trans (hlow)) ?_
                            refine ev_bLt (by omega) (by omega) (by omega) (by omega) (fun hc => ?_) (fun hc => ?_)
                            · first
                              | exact absurd hc (by omega)
                              | (
                                  refine evd (iS_23.trans (hlow)) ?_
                                  rw [F_X8_ruledLet_B93]
                                  refine ev (wS_36 (by omega) (by omega)) ?_
                                  rfl)
                            · first
                              | exact absurd hc (by omega)
                              | (
                                  refine evd (iS_23.trans (hhigh)) ?_
                                  refine ev_bLe (by omega) (by omega) (by omega) (by omega) (fun hc => ?_) (fun hc => ?_)
                                  · first
                                    | exact absurd hc (by omega)
                                    | (
                                        rw [F_X8_ruledLet_B93]
                                        refine ev (wS_36 (by omega) (by omega)) ?_
                                        rfl)
                                  · first
                                    | exact absurd hc (by omega)
                                    | (
                                        refine evd (iS_23.trans (hhigh)) ?_
                                        rw [F_X8_ruledLet_B93]
                                        refine ev (wS_36 (by omega) (by omega)) ?_
                                        rfl)))
                      · first
                        | exact absurd hc (by omega)
                        | (
                            refine ev rS_23_25 ?_
                            refine ev (aS_42 (by omega) (by omega)) ?_
                            rw [F_X8_ruledLet_B52]
                            refine ev rS_23_17 ?_
                            refine evd (iS_23.trans (hlow)) ?_
                            refine ev_bLt (by omega) (by omega) (by omega) (by omega) (fun hc => ?_) (fun hc => ?_)
                            · first
                              | exact absurd hc (by omega)
                              | (
                                  refine evd (iS_23.trans (hlow)) ?_
                                  rw [F_X8_ruledLet_B93]
                                  refine ev (wS_36 (by omega) (by omega)) ?_
                                  rfl)
                            · first
                              | exact absurd hc (by omega)
                              | (
                                  refine evd (iS_23.trans (hhigh)) ?_
                                  refine ev_bLe (by omega) (by omega) (by omega) (by omega) (fun hc => ?_) (fun hc => ?_)
                                  · first
                                    | exact absurd hc (by omega)
                                    | (
                                        rw [F_X8_ruledLet_B93]
                                        refine ev (wS_36 (by omega) (by omega)) ?_
                                        rfl)
                                  · first
                                    | exact absurd hc (by omega)
                                    | (
                                        refine evd (iS_23.trans (hhigh)) ?_
                                        rw [F_X8_ruledLet_B93]
                                        refine ev (wS_36 (by omega) (by omega)) ?_
                                        rfl)))))
          · first
            | exact absurd hc (by omega)
            | (
                rfl)
    · by_cases c3 : ξ 42 l < lw ξ l
      · rw [show max (lw ξ l) (min (hg ξ l) (min (max (ξ 35 l - ξ 41 l) 0) (ξ 42 l))) = lw ξ l by omega]
        refine ev rS_23_1 ?_
        refine ev_bLt (by omega) (by omega) (by omega) (by omega) (fun hc => ?_) (fun hc => ?_)
        · first
          | exact absurd hc (by omega)
          | (
              refine ev rS_23_16 ?_
              refine ev (aS_35 (by omega) (by omega)) ?_
              refine ev rS_23_24 ?_
              refine ev (aS_41 (by omega) (by omega)) ?_
              refine ev_bLt (by omega) (by omega) (by omega) (by omega) (fun hc => ?_) (fun hc => ?_)
              · first
                | exact absurd hc (by omega)
                | (
                    rw [F_X8_ruledLet_B52]
                    refine ev rS_23_17 ?_
                    refine evd (iS_23.trans (hlow)) ?_
                    refine ev_bLt (by omega) (by omega) (by omega) (by omega) (fun hc => ?_) (fun hc => ?_)
                    · first
                      | exact absurd hc (by omega)
                      | (
                          refine evd (iS_23.trans (hlow)) ?_
                          rw [F_X8_ruledLet_B93]
                          refine ev (wS_36 (by omega) (by omega)) ?_
                          rfl)
                    · first
                      | exact absurd hc (by omega)
                      | (
                          refine evd (iS_23.trans (hhigh)) ?_
                          refine ev_bLe (by omega) (by omega) (by omega) (by omega) (fun hc => ?_) (fun hc => ?_)
                          · first
                            | exact absurd hc (by omega)
                            | (
                                rw [F_X8_ruledLet_B93]
                                refine ev (wS_36 (by omega) (by omega)) ?_
                                rfl)
                          · first
                            | exact absurd hc (by omega)
                            | (
                                refine evd (iS_23.trans (hhigh)) ?_
                                rw [F_X8_ruledLet_B93]
                                refine ev (wS_36 (by omega) (by omega)) ?_
                                rfl)))
              · first
                | exact absurd hc (by omega)
                | (
                    refine ev rS_23_25 ?_
                    refine ev (aS_42 (by omega) (by omega)) ?_
                    refine ev_bLe (by omega) (by omega) (by omega) (by omega) (fun hc => ?_) (fun hc => ?_)
                    · first
                      | exact absurd hc (by omega)
                      | (
                          rw [F_X8_ruledLet_B52]
                          refine ev rS_23_17 ?_
                          refine evd (iS_23.trans (hlow)) ?_
                          refine ev_bLt (by omega) (by omega) (by omega) (by omega) (fun hc => ?_) (fun hc => ?_)
                          · first
                            | exact absurd hc (by omega)
                            | (
                                refine evd (iS_23.trans (hlow)) ?_
                                rw [F_X8_ruledLet_B93]
                                refine ev (wS_36 (by omega) (by omega)) ?_
                                rfl)
                          · first
                            | exact absurd hc (by omega)
                            | (
                                refine evd (iS_23.trans (hhigh)) ?_
                                refine ev_bLe (by omega) (by omega) (by omega) (by omega) (fun hc => ?_) (fun hc => ?_)
                                · first
                                  | exact absurd hc (by omega)
                                  | (
                                      rw [F_X8_ruledLet_B93]
                                      refine ev (wS_36 (by omega) (by omega)) ?_
                                      rfl)
                                · first
                                  | exact absurd hc (by omega)
                                  | (
                                      refine evd (iS_23.trans (hhigh)) ?_
                                      rw [F_X8_ruledLet_B93]
                                      refine ev (wS_36 (by omega) (by omega)) ?_
                                      rfl)))
                    · first
                      | exact absurd hc (by omega)
                      | (
                          refine ev rS_23_25 ?_
                          refine ev (aS_42 (by omega) (by omega)) ?_
                          rw [F_X8_ruledLet_B52]
                          refine ev rS_23_17 ?_
                          refine evd (iS_23.trans (hlow)) ?_
                          refine ev_bLt (by omega) (by omega) (by omega) (by omega) (fun hc => ?_) (fun hc => ?_)
                          · first
                            | exact absurd hc (by omega)
                            | (
                                refine evd (iS_23.trans (hlow)) ?_
                                rw [F_X8_ruledLet_B93]
                                refine ev (wS_36 (by omega) (by omega)) ?_
                                rfl)
                          · first
                            | exact absurd hc (by omega)
                            | (
                                refine evd (iS_23.trans (hhigh)) ?_
                                refine ev_bLe (by omega) (by omega) (by omega) (by omega) (fun hc => ?_) (fun hc => ?_)
                                · first
                                  | exact absurd hc (by omega)
                                  | (
                                      rw [F_X8_ruledLet_B93]
                                      refine ev (wS_36 (by omega) (by omega)) ?_
                                      rfl)
                                · first
                                  | exact absurd hc (by omega)
                                  | (
                                      refine evd (iS_23.trans (hhigh)) ?_
                                      rw [F_X8_ruledLet_B93]
                                      refine ev (wS_36 (by omega) (by omega)) ?_
                                      rfl)))))
        · first
          | exact absurd hc (by omega)
          | (
              rfl)
      · by_cases c4 : ξ 42 l ≤ hg ξ l
        · rw [show max (lw ξ l) (min (hg ξ l) (min (max (ξ 35 l - ξ 41 l) 0) (ξ 42 l))) = ξ 42 l by omega]
          refine ev rS_23_1 ?_
          refine ev_bLt (by omega) (by omega) (by omega) (by omega) (fun hc => ?_) (fun hc => ?_)
          · first
            | exact absurd hc (by omega)
            | (
                refine ev rS_23_16 ?_
                refine ev (aS_35 (by omega) (by omega)) ?_
                refine ev rS_23_24 ?_
                refine ev (aS_41 (by omega) (by omega)) ?_
                refine ev_bLt (by omega) (by omega) (by omega) (by omega) (fun hc => ?_) (fun hc => ?_)
                · first
                  | exact absurd hc (by omega)
                  | (
                      rw [F_X8_ruledLet_B52]
                      refine ev rS_23_17 ?_
                      refine evd (iS_23.trans (hlow)) ?_
                      refine ev_bLt (by omega) (by omega) (by omega) (by omega) (fun hc => ?_) (fun hc => ?_)
                      · first
                        | exact absurd hc (by omega)
                        | (
                            refine evd (iS_23.trans (hlow)) ?_
                            rw [F_X8_ruledLet_B93]
                            refine ev (wS_36 (by omega) (by omega)) ?_
                            rfl)
                      · first
                        | exact absurd hc (by omega)
                        | (
                            refine evd (iS_23.trans (hhigh)) ?_
                            refine ev_bLe (by omega) (by omega) (by omega) (by omega) (fun hc => ?_) (fun hc => ?_)
                            · first
                              | exact absurd hc (by omega)
                              | (
                                  rw [F_X8_ruledLet_B93]
                                  refine ev (wS_36 (by omega) (by omega)) ?_
                                  rfl)
                            · first
                              | exact absurd hc (by omega)
                              | (
                                  refine evd (iS_23.trans (hhigh)) ?_
                                  rw [F_X8_ruledLet_B93]
                                  refine ev (wS_36 (by omega) (by omega)) ?_
                                  rfl)))
                · first
                  | exact absurd hc (by omega)
                  | (
                      refine ev rS_23_25 ?_
                      refine ev (aS_42 (by omega) (by omega)) ?_
                      refine ev_bLe (by omega) (by omega) (by omega) (by omega) (fun hc => ?_) (fun hc => ?_)
                      · first
                        | exact absurd hc (by omega)
                        | (
                            rw [F_X8_ruledLet_B52]
                            refine ev rS_23_17 ?_
                            refine evd (iS_23.trans (hlow)) ?_
                            refine ev_bLt (by omega) (by omega) (by omega) (by omega) (fun hc => ?_) (fun hc => ?_)
                            · first
                              | exact absurd hc (by omega)
                              | (
                                  refine evd (iS_23.trans (hlow)) ?_
                                  rw [F_X8_ruledLet_B93]
                                  refine ev (wS_36 (by omega) (by omega)) ?_
                                  rfl)
                            · first
                              | exact absurd hc (by omega)
                              | (
                                  refine evd (iS_23.trans (hhigh)) ?_
                                  refine ev_bLe (by omega) (by omega) (by omega) (by omega) (fun hc => ?_) (fun hc => ?_)
                                  · first
                                    | exact absurd hc (by omega)
                                    | (
                                        rw [F_X8_ruledLet_B93]
                                        refine ev (wS_36 (by omega) (by omega)) ?_
                                        rfl)
                                  · first
                                    | exact absurd hc (by omega)
                                    | (
                                        refine evd (iS_23.trans (hhigh)) ?_
                                        rw [F_X8_ruledLet_B93]
                                        refine ev (wS_36 (by omega) (by omega)) ?_
                                        rfl)))
                      · first
                        | exact absurd hc (by omega)
                        | (
                            refine ev rS_23_25 ?_
                            refine ev (aS_42 (by omega) (by omega)) ?_
                            rw [F_X8_ruledLet_B52]
                            refine ev rS_23_17 ?_
                            refine evd (iS_23.trans (hlow)) ?_
                            refine ev_bLt (by omega) (by omega) (by omega) (by omega) (fun hc => ?_) (fun hc => ?_)
                            · first
                              | exact absurd hc (by omega)
                              | (
                                  refine evd (iS_23.trans (hlow)) ?_
                                  rw [F_X8_ruledLet_B93]
                                  refine ev (wS_36 (by omega) (by omega)) ?_
                                  rfl)
                            · first
                              | exact absurd hc (by omega)
                              | (
                                  refine evd (iS_23.trans (hhigh)) ?_
                                  refine ev_bLe (by omega) (by omega) (by omega) (by omega) (fun hc => ?_) (fun hc => ?_)
                                  · first
                                    | exact absurd hc (by omega)
                                    | (
                                        rw [F_X8_ruledLet_B93]
                                        refine ev (wS_36 (by omega) (by omega)) ?_
                                        rfl)
                                  · first
                                    | exact absurd hc (by omega)
                                    | (
                                        refine evd (iS_23.trans (hhigh)) ?_
                                        rw [F_X8_ruledLet_B93]
                                        refine ev (wS_36 (by omega) (by omega)) ?_
                                        rfl)))))
          · first
            | exact absurd hc (by omega)
            | (
                rfl)
        · rw [show max (lw ξ l) (min (hg ξ l) (min (max (ξ 35 l - ξ 41 l) 0) (ξ 42 l))) = hg ξ l by omega]
          refine ev rS_23_1 ?_
          refine ev_bLt (by omega) (by omega) (by omega) (by omega) (fun hc => ?_) (fun hc => ?_)
          · first
            | exact absurd hc (by omega)
            | (
                refine ev rS_23_16 ?_
                refine ev (aS_35 (by omega) (by omega)) ?_
                refine ev rS_23_24 ?_
                refine ev (aS_41 (by omega) (by omega)) ?_
                refine ev_bLt (by omega) (by omega) (by omega) (by omega) (fun hc => ?_) (fun hc => ?_)
                · first
                  | exact absurd hc (by omega)
                  | (
                      rw [F_X8_ruledLet_B52]
                      refine ev rS_23_17 ?_
                      refine evd (iS_23.trans (hlow)) ?_
                      refine ev_bLt (by omega) (by omega) (by omega) (by omega) (fun hc => ?_) (fun hc => ?_)
                      · first
                        | exact absurd hc (by omega)
                        | (
                            refine evd (iS_23.trans (hlow)) ?_
                            rw [F_X8_ruledLet_B93]
                            refine ev (wS_36 (by omega) (by omega)) ?_
                            rfl)
                      · first
                        | exact absurd hc (by omega)
                        | (
                            refine evd (iS_23.trans (hhigh)) ?_
                            refine ev_bLe (by omega) (by omega) (by omega) (by omega) (fun hc => ?_) (fun hc => ?_)
                            · first
                              | exact absurd hc (by omega)
                              | (
                                  rw [F_X8_ruledLet_B93]
                                  refine ev (wS_36 (by omega) (by omega)) ?_
                                  rfl)
                            · first
                              | exact absurd hc (by omega)
                              | (
                                  refine evd (iS_23.trans (hhigh)) ?_
                                  rw [F_X8_ruledLet_B93]
                                  refine ev (wS_36 (by omega) (by omega)) ?_
                                  rfl)))
                · first
                  | exact absurd hc (by omega)
                  | (
                      refine ev rS_23_25 ?_
                      refine ev (aS_42 (by omega) (by omega)) ?_
                      refine ev_bLe (by omega) (by omega) (by omega) (by omega) (fun hc => ?_) (fun hc => ?_)
                      · first
                        | exact absurd hc (by omega)
                        | (
                            rw [F_X8_ruledLet_B52]
                            refine ev rS_23_17 ?_
                            refine evd (iS_23.trans (hlow)) ?_
                            refine ev_bLt (by omega) (by omega) (by omega) (by omega) (fun hc => ?_) (fun hc => ?_)
                            · first
                              | exact absurd hc (by omega)
                              | (
                                  refine evd (iS_23.trans (hlow)) ?_
                                  rw [F_X8_ruledLet_B93]
                                  refine ev (wS_36 (by omega) (by omega)) ?_
                                  rfl)
                            · first
                              | exact absurd hc (by omega)
                              | (
                                  refine evd (iS_23.trans (hhigh)) ?_
                                  refine ev_bLe (by omega) (by omega) (by omega) (by omega) (fun hc => ?_) (fun hc => ?_)
                                  · first
                                    | exact absurd hc (by omega)
                                    | (
                                        rw [F_X8_ruledLet_B93]
                                        refine ev (wS_36 (by omega) (by omega)) ?_
                                        rfl)
                                  · first
                                    | exact absurd hc (by omega)
                                    | (
                                        refine evd (iS_23.trans (hhigh)) ?_
                                        rw [F_X8_ruledLet_B93]
                                        refine ev (wS_36 (by omega) (by omega)) ?_
                                        rfl)))
                      · first
                        | exact absurd hc (by omega)
                        | (
                            refine ev rS_23_25 ?_
                            refine ev (aS_42 (by omega) (by omega)) ?_
                            rw [F_X8_ruledLet_B52]
                            refine ev rS_23_17 ?_
                            refine evd (iS_23.trans (hlow)) ?_
                            refine ev_bLt (by omega) (by omega) (by omega) (by omega) (fun hc => ?_) (fun hc => ?_)
                            · first
                              | exact absurd hc (by omega)
                              | (
                                  refine evd (iS_23.trans (hlow)) ?_
                                  rw [F_X8_ruledLet_B93]
                                  refine ev (wS_36 (by omega) (by omega)) ?_
                                  rfl)
                            · first
                              | exact absurd hc (by omega)
                              | (
                                  refine evd (iS_23.trans (hhigh)) ?_
                                  refine ev_bLe (by omega) (by omega) (by omega) (by omega) (fun hc => ?_) (fun hc => ?_)
                                  · first
                                    | exact absurd hc (by omega)
                                    | (
                                        rw [F_X8_ruledLet_B93]
                                        refine ev (wS_36 (by omega) (by omega)) ?_
                                        rfl)
                                  · first
                                    | exact absurd hc (by omega)
                                    | (
                                        refine evd (iS_23.trans (hhigh)) ?_
                                        rw [F_X8_ruledLet_B93]
                                        refine ev (wS_36 (by omega) (by omega)) ?_
                                        rfl)))))
          · first
            | exact absurd hc (by omega)
            | (
                rfl)
end M6
