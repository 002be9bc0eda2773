section V3
variable {b0 : Int} {σ : Hp} {ξ ζ : Int → Int → Int} {i m s t L : Int}
theorem X4_flow {a : Int} {f : Int → Int} (hB : LB ξ) (hV : CV ξ) (hi : InA b0 σ a f) (hf : ∀ i, 0 ≤ i → i < 3 → 0 ≤ f i ∧ f i ≤ 9) (L0 : 0 ≤ L) (L1 : L < 4096) (s0 : 0 ≤ s) (s1 : s < 2147483648) : F_X4_flow (b0 + 1) s L a (S b0 σ ξ) = some (gfl ξ (f 0) (f 1) (f 2) (ms ξ s 0) (ms ξ s 1) (ms ξ s 2) (dg L 0) (dg L 1) (dg L 2), S b0 σ (xu ξ 1 3 (gsp ξ (f 0) (f 1) (f 2) (ms ξ s 0) (ms ξ s 1) (ms ξ s 2) (dg L 0) (dg L 1) (dg L 2)))) := by
  unfold F_X4_flow
  refine ev pS_1_3 ?_
  obtain ⟨k, hk⟩ := fu4
  rw [hk]
  have d0 := dg_bd (j := 0) L0 L1
  have d1 := dg_bd (j := 1) L0 L1
  have d2 := dg_bd (j := 2) L0 L1
  have b0' := ms_bd (s := s) (i := 0) hB (by omega) (by omega)
  have b1' := ms_bd (s := s) (i := 1) hB (by omega) (by omega)
  have b2' := ms_bd (s := s) (i := 2) hB (by omega) (by omega)
  have g0 := hB.gr (l := 0) (by omega) (by omega)
  have g1 := hB.gr (l := 1) (by omega) (by omega)
  have g2 := hB.gr (l := 2) (by omega) (by omega)
  have f0 := hf 0 (by omega) (by omega)
  have f1 := hf 1 (by omega) (by omega)
  have f2 := hf 2 (by omega) (by omega)
  have q0 := X4_flow_step (n := k + 1 + 1 + 1) (l := 0) (st := 0) (ah := 0) (ov := 0) (v := 0) hB hV hi L0 L1 s0 s1 (by omega) (by omega) f0.1 f0.2 (by omega) (by omega) (by omega) (by omega)
  have e0 : ovf (ms ξ s 0 - dg L 0 + 0 + 0 + f 0) (ξ 25 0) = go0 ξ (f 0) (ms ξ s 0) (dg L 0) := by unfold go0 gx0 ovf; omega
  rw [e0] at q0
  have u0 : 0 ≤ go0 ξ (f 0) (ms ξ s 0) (dg L 0) ∧ go0 ξ (f 0) (ms ξ s 0) (dg L 0) ≤ 100 := by unfold go0 gx0 ovf; omega
  have q1 := fun st v => X4_flow_step (n := k + 1 + 1) (l := 1) (st := st) (ah := dg L 0) (ov := go0 ξ (f 0) (ms ξ s 0) (dg L 0)) (v := v) hB hV hi L0 L1 s0 s1 (by omega) (by omega) f1.1 f1.2 (by omega) (by omega) u0.1 (by omega)
  have e1 : ovf (ms ξ s 1 - dg L 1 + dg L 0 + go0 ξ (f 0) (ms ξ s 0) (dg L 0) + f 1) (ξ 25 1) = go1 ξ (f 0) (f 1) (ms ξ s 0) (ms ξ s 1) (dg L 0) (dg L 1) := by unfold go1 gx1 ovf; omega
  rw [e1] at q1
  have u1 : 0 ≤ go1 ξ (f 0) (f 1) (ms ξ s 0) (ms ξ s 1) (dg L 0) (dg L 1) ∧ go1 ξ (f 0) (f 1) (ms ξ s 0) (ms ξ s 1) (dg L 0) (dg L 1) ≤ 200 := by unfold go1 gx1 ovf; omega
  have q2 := fun st v => X4_flow_step (n := k + 1) (l := 2) (st := st) (ah := dg L 1) (ov := go1 ξ (f 0) (f 1) (ms ξ s 0) (ms ξ s 1) (dg L 0) (dg L 1)) (v := v) hB hV hi L0 L1 s0 s1 (by omega) (by omega) f2.1 f2.2 (by omega) (by omega) u1.1 (by omega)
  have e2 : ovf (ms ξ s 2 - dg L 2 + dg L 1 + go1 ξ (f 0) (f 1) (ms ξ s 0) (ms ξ s 1) (dg L 0) (dg L 1) + f 2) (ξ 25 2) = go2 ξ (f 0) (f 1) (f 2) (ms ξ s 0) (ms ξ s 1) (ms ξ s 2) (dg L 0) (dg L 1) (dg L 2) := by unfold go2 gx2 ovf; omega
  rw [e2] at q2
  simp only [Int.zero_add, Int.reduceAdd] at q0 q1 q2
  rw [q0, q1, q2, F_X4_flow_L17]
  refine ev rS_1_0 ?_
  refine ev lS_2 ?_
  refine ev_bLt (by omega) (by omega) (by omega) (by omega) (fun hc => absurd hc (by omega)) (fun hc => ?_)
  refine ev_end ?_ (congrArg (S b0 σ) ?_)
  · unfold gfl enc
    have z0 : 0 * (ξ 25 0 + 1) + (ms ξ s 0 - dg L 0 + 0 + 0 + f 0) - go0 ξ (f 0) (ms ξ s 0) (dg L 0) = gx0 ξ (f 0) (ms ξ s 0) (dg L 0) - go0 ξ (f 0) (ms ξ s 0) (dg L 0) := by unfold gx0; omega
    have z1 : ms ξ s 1 - dg L 1 + dg L 0 + go0 ξ (f 0) (ms ξ s 0) (dg L 0) + f 1 = gx1 ξ (f 0) (f 1) (ms ξ s 0) (ms ξ s 1) (dg L 0) (dg L 1) := by unfold gx1; omega
    have z2 : ms ξ s 2 - dg L 2 + dg L 1 + go1 ξ (f 0) (f 1) (ms ξ s 0) (ms ξ s 1) (dg L 0) (dg L 1) + f 2 = gx2 ξ (f 0) (f 1) (f 2) (ms ξ s 0) (ms ξ s 1) (ms ξ s 2) (dg L 0) (dg L 1) (dg L 2) := by unfold gx2; omega
    rw [z0, z1, z2]
    simp only [Int.add_sub_assoc]
  · unfold gsp
    congr 1
    have n0 := hB.1
    (repeat' split) <;> omega
/-- what of a state's measures stands at the end -/
def endv (ξ : Int → Int → Int) (s : Int) : Int := ξ 29 0 * ms ξ s 0 + ξ 29 1 * ms ξ s 1 + ξ 29 2 * ms ξ s 2
theorem X4_endWorth (hB : LB ξ) (hV : CV ξ) (s0 : 0 ≤ s) (s1 : s < 2147483648) : F_X4_endWorth (b0 + 1) s (S b0 σ ξ) = some (endv ξ s, S b0 σ ξ) := by
  unfold F_X4_endWorth endv
  have n0 := hB.1
  have e11 : ξ 1 1 = ξ 23 1 := hV.1
  have hm := fun i a b => X4_measureOf (b0 := b0) (σ := σ) (s := s) (i := i) hB hV a b s0 s1
  have m0 := ms_bd (s := s) (i := 0) hB (by omega) (by omega)
  have m1 := ms_bd (s := s) (i := 1) hB (by omega) (by omega)
  have m2 := ms_bd (s := s) (i := 2) hB (by omega) (by omega)
  have g0 := hB.gr (l := 0) (by omega) (by omega)
  have g1 := hB.gr (l := 1) (by omega) (by omega)
  have g2 := hB.gr (l := 2) (by omega) (by omega)
  have x0 := (hB.2.1 0 (by omega) (by omega)).1.2.2.2.2.2.2.2
  have x1 := (hB.2.1 1 (by omega) (by omega)).1.2.2.2.2.2.2.2
  have x2 := (hB.2.1 2 (by omega) (by omega)).1.2.2.2.2.2.2.2
  obtain ⟨k, hk⟩ := fu4
  rw [hk]
  rcases (show ξ 23 1 = 0 ∨ ξ 23 1 = 1 ∨ ξ 23 1 = 2 ∨ ξ 23 1 = 3 by omega) with h | h | h | h
  all_goals
    have z0 : ξ 23 1 ≤ 0 → ms ξ s 0 = 0 := ms_no hB (by omega) (by omega)
    have z1 : ξ 23 1 ≤ 1 → ms ξ s 1 = 0 := ms_no hB (by omega) (by omega)
    have z2 : ξ 23 1 ≤ 2 → ms ξ s 2 = 0 := ms_no hB (by omega) (by omega)
    rw [h] at z0 z1 z2
    simp only [Int.reduceLE, forall_const, false_implies] at z0 z1 z2
    rw [F_X4_endWorth_L5]
    try simp only [Int.zero_add, Int.reduceAdd, Int.reduceSub, Int.reduceNeg]
    refine ev rS_1_1 ?_
    refine ev_bLt (by omega) (by omega) (by omega) (by omega) (fun hc => ?_) (fun hc => ?_)
    · first
      | exact absurd hc (by omega)
      | (
          refine ev rS_1_0 ?_
          refine ev (aS_2 (by omega) (by omega)) ?_
          refine ev (rL_5 hV (by omega) (by omega)) ?_
          refine ev_g3 (by omega) (by omega) ?_
          refine evd (iS_1.trans (hm _ (by omega) (by omega))) ?_
          refine ev_g3 (by omega) (by omega) ?_
          refine evn ?_
          rw [F_X4_endWorth_L5]
          try simp only [Int.zero_add, Int.reduceAdd, Int.reduceSub, Int.reduceNeg]
          refine ev rS_1_1 ?_
          refine ev_bLt (by omega) (by omega) (by omega) (by omega) (fun hc => ?_) (fun hc => ?_)
          · first
            | exact absurd hc (by omega)
            | (
                refine ev rS_1_0 ?_
                refine ev (aS_2 (by omega) (by omega)) ?_
                refine ev (rL_5 hV (by omega) (by omega)) ?_
                refine ev_g3 (by omega) (by omega) ?_
                refine evd (iS_1.trans (hm _ (by omega) (by omega))) ?_
                refine ev_g3 (by omega) (by omega) ?_
                refine evn ?_
                rw [F_X4_endWorth_L5]
                try simp only [Int.zero_add, Int.reduceAdd, Int.reduceSub, Int.reduceNeg]
                refine ev rS_1_1 ?_
                refine ev_bLt (by omega) (by omega) (by omega) (by omega) (fun hc => ?_) (fun hc => ?_)
                · first
                  | exact absurd hc (by omega)
                  | (
                      refine ev rS_1_0 ?_
                      refine ev (aS_2 (by omega) (by omega)) ?_
                      refine ev (rL_5 hV (by omega) (by omega)) ?_
                      refine ev_g3 (by omega) (by omega) ?_
                      refine evd (iS_1.trans (hm _ (by omega) (by omega))) ?_
                      refine ev_g3 (by omega) (by omega) ?_
                      refine evn ?_
                      rw [F_X4_endWorth_L5]
                      try simp only [Int.zero_add, Int.reduceAdd, Int.reduceSub, Int.reduceNeg]
                      refine ev rS_1_1 ?_
                      refine ev_bLt (by omega) (by omega) (by omega) (by omega) (fun hc => ?_) (fun hc => ?_)
                      · first
                        | exact absurd hc (by omega)
                        | (
                            refine ev rS_1_0 ?_
                            refine ev (aS_2 (by omega) (by omega)) ?_
                            refine ev (rL_5 hV (by omega) (by omega)) ?_
                            refine ev_g3 (by omega) (by omega) ?_
                            refine evd (iS_1.trans (hm _ (by omega) (by omega))) ?_
                            refine ev_g3 (by omega) (by omega) ?_
                            refine evn ?_
                            exact absurd hc (by omega))
                      · first
                        | exact absurd hc (by omega)
                        | (
                            (refine ev_end ?_ rfl; simp only [z0, z1, z2, Int.zero_add, Int.mul_zero, Int.add_zero])))
                · first
                  | exact absurd hc (by omega)
                  | (
                      (refine ev_end ?_ rfl; simp only [z0, z1, z2, Int.zero_add, Int.mul_zero, Int.add_zero])))
          · first
            | exact absurd hc (by omega)
            | (
                (refine ev_end ?_ rfl; simp only [z0, z1, z2, Int.zero_add, Int.mul_zero, Int.add_zero])))
    · first
      | exact absurd hc (by omega)
      | (
          (refine ev_end ?_ rfl; simp only [z0, z1, z2, Int.zero_add, Int.mul_zero, Int.add_zero]))
theorem X4_sumOf (hB : LB ξ) (hV : CV ξ) (s0 : 0 ≤ s) (s1 : s < 2147483648) : F_X4_sumOf (b0 + 1) s (S b0 σ ξ) = some (ms ξ s 0 + ms ξ s 1 + ms ξ s 2, S b0 σ ξ) := by
  unfold F_X4_sumOf
  have n0 := hB.1
  have e11 : ξ 1 1 = ξ 23 1 := hV.1
  have hm := fun i a b => X4_measureOf (b0 := b0) (σ := σ) (s := s) (i := i) hB hV a b s0 s1
  obtain ⟨k, hk⟩ := fu4
  rw [hk]
  rcases (show ξ 23 1 = 0 ∨ ξ 23 1 = 1 ∨ ξ 23 1 = 2 ∨ ξ 23 1 = 3 by omega) with h | h | h | h
  all_goals
    have z0 : ξ 23 1 ≤ 0 → ms ξ s 0 = 0 := ms_no hB (by omega) (by omega)
    have z1 : ξ 23 1 ≤ 1 → ms ξ s 1 = 0 := ms_no hB (by omega) (by omega)
    have z2 : ξ 23 1 ≤ 2 → ms ξ s 2 = 0 := ms_no hB (by omega) (by omega)
    rw [h] at z0 z1 z2
    simp only [Int.reduceLE, forall_const, false_implies] at z0 z1 z2
    rw [F_X4_sumOf_L4]
    try simp only [Int.zero_add, Int.reduceAdd, Int.reduceSub, Int.reduceNeg]
    refine ev rS_1_1 ?_
    refine ev_bLt (by omega) (by omega) (by omega) (by omega) (fun hc => ?_) (fun hc => ?_)
    · first
      | exact absurd hc (by omega)
      | (
          refine evd (iS_1.trans (hm _ (by omega) (by omega))) ?_
          rw [F_X4_sumOf_L4]
          try simp only [Int.zero_add, Int.reduceAdd, Int.reduceSub, Int.reduceNeg]
          refine ev rS_1_1 ?_
          refine ev_bLt (by omega) (by omega) (by omega) (by omega) (fun hc => ?_) (fun hc => ?_)
          · first
            | exact absurd hc (by omega)
            | (
                refine evd (iS_1.trans (hm _ (by omega) (by omega))) ?_
                rw [F_X4_sumOf_L4]
                try simp only [Int.zero_add, Int.reduceAdd, Int.reduceSub, Int.reduceNeg]
                refine ev rS_1_1 ?_
                refine ev_bLt (by omega) (by omega) (by omega) (by omega) (fun hc => ?_) (fun hc => ?_)
                · first
                  | exact absurd hc (by omega)
                  | (
                      refine evd (iS_1.trans (hm _ (by omega) (by omega))) ?_
                      rw [F_X4_sumOf_L4]
                      try simp only [Int.zero_add, Int.reduceAdd, Int.reduceSub, Int.reduceNeg]
                      refine ev rS_1_1 ?_
                      refine ev_bLt (by omega) (by omega) (by omega) (by omega) (fun hc => ?_) (fun hc => ?_)
                      · first
                        | exact absurd hc (by omega)
                        | (
                            refine evd (iS_1.trans (hm _ (by omega) (by omega))) ?_
                            exact absurd hc (by omega))
                      · first
                        | exact absurd hc (by omega)
                        | (
                            (refine ev_end ?_ rfl; simp only [z0, z1, z2, Int.zero_add, Int.add_zero])))
                · first
                  | exact absurd hc (by omega)
                  | (
                      (refine ev_end ?_ rfl; simp only [z0, z1, z2, Int.zero_add, Int.add_zero])))
          · first
            | exact absurd hc (by omega)
            | (
                (refine ev_end ?_ rfl; simp only [z0, z1, z2, Int.zero_add, Int.add_zero])))
    · first
      | exact absurd hc (by omega)
      | (
          (refine ev_end ?_ rfl; simp only [z0, z1, z2, Int.zero_add, Int.add_zero]))
/-- some lake is below its least -/
def bel (ξ : Int → Int → Int) (s : Int) : Int := if ms ξ s 0 < ξ 24 0 ∨ ms ξ s 1 < ξ 24 1 ∨ ms ξ s 2 < ξ 24 2 then 1 else 0
theorem X4_isBelowLeast (hB : LB ξ) (hV : CV ξ) (s0 : 0 ≤ s) (s1 : s < 2147483648) : F_X4_isBelowLeast (b0 + 1) s (S b0 σ ξ) = some (bel ξ s, S b0 σ ξ) := by
  unfold F_X4_isBelowLeast
  have n0 := hB.1
  have e11 : ξ 1 1 = ξ 23 1 := hV.1
  have hm := fun i a b => X4_measureOf (b0 := b0) (σ := σ) (s := s) (i := i) hB hV a b s0 s1
  have m0 := ms_bd (s := s) (i := 0) hB (by omega) (by omega)
  have m1 := ms_bd (s := s) (i := 1) hB (by omega) (by omega)
  have m2 := ms_bd (s := s) (i := 2) hB (by omega) (by omega)
  have x0 := (hB.2.1 0 (by omega) (by omega)).1
  have x1 := (hB.2.1 1 (by omega) (by omega)).1
  have x2 := (hB.2.1 2 (by omega) (by omega)).1
  obtain ⟨k, hk⟩ := fu4
  rw [hk]
  have hbel : ∀ v : Int, (v = 1 ∧ (ms ξ s 0 < ξ 24 0 ∨ ms ξ s 1 < ξ 24 1 ∨ ms ξ s 2 < ξ 24 2)) ∨ (v = 0 ∧ ¬ (ms ξ s 0 < ξ 24 0 ∨ ms ξ s 1 < ξ 24 1 ∨ ms ξ s 2 < ξ 24 2)) → some (v, S b0 σ ξ) = some (bel ξ s, S b0 σ ξ) := by
    intro v hv
    unfold bel
    rcases hv with ⟨rfl, h⟩ | ⟨rfl, h⟩
    · rw [if_pos h]
    · rw [if_neg h]
  rcases (show ξ 23 1 = 0 ∨ ξ 23 1 = 1 ∨ ξ 23 1 = 2 ∨ ξ 23 1 = 3 by omega) with h | h | h | h
  all_goals
    have z0 : ξ 23 1 ≤ 0 → ξ 24 0 = 0 := fun q => ((hB.2.1 0 (by omega) (by omega)).2 q).1
    have z1 : ξ 23 1 ≤ 1 → ξ 24 1 = 0 := fun q => ((hB.2.1 1 (by omega) (by omega)).2 q).1
    have z2 : ξ 23 1 ≤ 2 → ξ 24 2 = 0 := fun q => ((hB.2.1 2 (by omega) (by omega)).2 q).1
    rw [h] at z0 z1 z2
    simp only [Int.reduceLE, forall_const, false_implies] at z0 z1 z2
    rw [F_X4_isBelowLeast_L2]
    try simp only [Int.zero_add, Int.reduceAdd, Int.reduceSub, Int.reduceNeg]
    refine ev rS_1_1 ?_
    refine ev_bLt (by omega) (by omega) (by omega) (by omega) (fun hc => ?_) (fun hc => ?_)
    · first
      | exact absurd hc (by omega)
      | (
          refine evd (iS_1.trans (hm _ (by omega) (by omega))) ?_
          refine ev rS_1_0 ?_
          refine ev (aS_2 (by omega) (by omega)) ?_
          refine ev (rL_1 hV (by omega) (by omega)) ?_
          refine ev_bLt (by omega) (by omega) (by omega) (by omega) (fun hc => ?_) (fun hc => ?_)
          · first
            | exact absurd hc (by omega)
            | (
                first | (rw [rz_0]; exact hbel _ (by omega)) | (rw [rz_1]; exact hbel _ (by omega)))
          · first
            | exact absurd hc (by omega)
            | (
                rw [F_X4_isBelowLeast_L2]
                try simp only [Int.zero_add, Int.reduceAdd, Int.reduceSub, Int.reduceNeg]
                refine ev rS_1_1 ?_
                refine ev_bLt (by omega) (by omega) (by omega) (by omega) (fun hc => ?_) (fun hc => ?_)
                · first
                  | exact absurd hc (by omega)
                  | (
                      refine evd (iS_1.trans (hm _ (by omega) (by omega))) ?_
                      refine ev rS_1_0 ?_
                      refine ev (aS_2 (by omega) (by omega)) ?_
                      refine ev (rL_1 hV (by omega) (by omega)) ?_
                      refine ev_bLt (by omega) (by omega) (by omega) (by omega) (fun hc => ?_) (fun hc => ?_)
                      · first
                        | exact absurd hc (by omega)
                        | (
                            first | (rw [rz_0]; exact hbel _ (by omega)) | (rw [rz_1]; exact hbel _ (by omega)))
                      · first
                        | exact absurd hc (by omega)
                        | (
                            rw [F_X4_isBelowLeast_L2]
                            try simp only [Int.zero_add, Int.reduceAdd, Int.reduceSub, Int.reduceNeg]
                            refine ev rS_1_1 ?_
                            refine ev_bLt (by omega) (by omega) (by omega) (by omega) (fun hc => ?_) (fun hc => ?_)
                            · first
                              | exact absurd hc (by omega)
                              | (
                                  refine evd (iS_1.trans (hm _ (by omega) (by omega))) ?_
                                  refine ev rS_1_0 ?_
                                  refine ev (aS_2 (by omega) (by omega)) ?_
                                  refine ev (rL_1 hV (by omega) (by omega)) ?_
                                  refine ev_bLt (by omega) (by omega) (by omega) (by omega) (fun hc => ?_) (fun hc => ?_)
                                  · first
                                    | exact absurd hc (by omega)
                                    | (
                                        first | (rw [rz_0]; exact hbel _ (by omega)) | (rw [rz_1]; exact hbel _ (by omega)))
                                  · first
                                    | exact absurd hc (by omega)
                                    | (
                                        rw [F_X4_isBelowLeast_L2]
                                        try simp only [Int.zero_add, Int.reduceAdd, Int.reduceSub, Int.reduceNeg]
                                        refine ev rS_1_1 ?_
                                        refine ev_bLt (by omega) (by omega) (by omega) (by omega) (fun hc => ?_) (fun hc => ?_)
                                        · first
                                          | exact absurd hc (by omega)
                                          | (
                                              refine evd (iS_1.trans (hm _ (by omega) (by omega))) ?_
                                              refine ev rS_1_0 ?_
                                              refine ev (aS_2 (by omega) (by omega)) ?_
                                              refine ev (rL_1 hV (by omega) (by omega)) ?_
                                              refine ev_bLt (by omega) (by omega) (by omega) (by omega) (fun hc => ?_) (fun hc => ?_)
                                              · first
                                                | exact absurd hc (by omega)
                                                | (
                                                    first | (rw [rz_0]; exact hbel _ (by omega)) | (rw [rz_1]; exact hbel _ (by omega)))
                                              · first
                                                | exact absurd hc (by omega)
                                                | (
                                                    exact absurd hc (by omega)))
                                        · first
                                          | exact absurd hc (by omega)
                                          | (
                                              first | (rw [rz_0]; exact hbel _ (by omega)) | (rw [rz_1]; exact hbel _ (by omega)))))
                            · first
                              | exact absurd hc (by omega)
                              | (
                                  first | (rw [rz_0]; exact hbel _ (by omega)) | (rw [rz_1]; exact hbel _ (by omega)))))
                · first
                  | exact absurd hc (by omega)
                  | (
                      first | (rw [rz_0]; exact hbel _ (by omega)) | (rw [rz_1]; exact hbel _ (by omega)))))
    · first
      | exact absurd hc (by omega)
      | (
          first | (rw [rz_0]; exact hbel _ (by omega)) | (rw [rz_1]; exact hbel _ (by omega)))
end V3
