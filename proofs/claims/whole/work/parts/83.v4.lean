section V4
variable {b0 : Int} {σ : Hp} {ξ ζ : Int → Int → Int} {i m s t L : Int}
/-- heads times lets -/
def hts (ξ : Int → Int → Int) (s L : Int) : Int := hd ξ 0 (ms ξ s 0) * dg L 0 + hd ξ 1 (ms ξ s 1) * dg L 1 + hd ξ 2 (ms ξ s 2) * dg L 2
/-- lakes that are not let nothing -/
def LZ (ξ : Int → Int → Int) (L : Int) : Prop := (0 ≤ L ∧ L < 4096) ∧ ∀ i, 0 ≤ i → i < 3 → ξ 23 1 ≤ i → dg L i = 0
theorem X4_headsTimesLets (hB : LB ξ) (hV : CV ξ) (s0 : 0 ≤ s) (s1 : s < 2147483648) (hL : LZ ξ L) : F_X4_headsTimesLets (b0 + 1) s L (S b0 σ ξ) = some (hts ξ s L, S b0 σ ξ) := by
  unfold F_X4_headsTimesLets hts
  have n0 := hB.1
  have e11 : ξ 1 1 = ξ 23 1 := hV.1
  have hm := fun i a b => X4_measureOf (b0 := b0) (σ := σ) (s := s) (i := i) hB hV a b s0 s1
  have hl := fun i a b => X4_letOf (σ := S b0 σ ξ) (L := L) (i := i) hL.1.1 hL.1.2 a b
  have hh : ∀ i, 0 ≤ i → i < 3 → F_X0_headAt (b0 + 3 + 2 * i) (ms ξ s i) (S b0 σ ξ) = some (hd ξ i (ms ξ s i), S b0 σ ξ) := by
    intro i a b
    have q := ms_bd (s := s) hB a b
    have g := hB.gr a b
    rw [X0_headAt hV a b ⟨by omega, by omega⟩, if_pos (by omega)]
  obtain ⟨k, hk⟩ := fu4
  rw [hk]
  rcases (show ξ 23 1 = 0 ∨ ξ 23 1 = 1 ∨ ξ 23 1 = 2 ∨ ξ 23 1 = 3 by omega) with h | h | h | h
  all_goals
    have z0 : ξ 23 1 ≤ 0 → dg L 0 = 0 := hL.2 0 (by omega) (by omega)
    have z1 : ξ 23 1 ≤ 1 → dg L 1 = 0 := hL.2 1 (by omega) (by omega)
    have z2 : ξ 23 1 ≤ 2 → dg L 2 = 0 := hL.2 2 (by omega) (by omega)
    rw [h] at z0 z1 z2
    simp only [Int.reduceLE, forall_const, false_implies] at z0 z1 z2
    rw [F_X4_headsTimesLets_L5]
    try simp only [Int.zero_add, Int.reduceAdd, Int.reduceSub, Int.reduceNeg]
    refine ev rS_1_1 ?_
    refine ev_bLt (by omega) (by omega) (by omega) (by omega) (fun hc => ?_) (fun hc => ?_)
    · first
      | exact absurd hc (by omega)
      | (
          refine ev rS_1_0 ?_
          refine ev (aS_2 (by omega) (by omega)) ?_
          refine evd (iS_1.trans (hm _ (by omega) (by omega))) ?_
          refine evd ((iL (by omega) (by omega)).trans (hh _ (by omega) (by omega))) ?_
          refine evd (hl _ (by omega) (by omega)) ?_
          refine evn ?_
          rw [F_X4_headsTimesLets_L5]
          try simp only [Int.zero_add, Int.reduceAdd, Int.reduceSub, Int.reduceNeg]
          refine ev rS_1_1 ?_
          refine ev_bLt (by omega) (by omega) (by omega) (by omega) (fun hc => ?_) (fun hc => ?_)
          · first
            | exact absurd hc (by omega)
            | (
                refine ev rS_1_0 ?_
                refine ev (aS_2 (by omega) (by omega)) ?_
                refine evd (iS_1.trans (hm _ (by omega) (by omega))) ?_
                refine evd ((iL (by omega) (by omega)).trans (hh _ (by omega) (by omega))) ?_
                refine evd (hl _ (by omega) (by omega)) ?_
                refine evn ?_
                rw [F_X4_headsTimesLets_L5]
                try simp only [Int.zero_add, Int.reduceAdd, Int.reduceSub, Int.reduceNeg]
                refine ev rS_1_1 ?_
                refine ev_bLt (by omega) (by omega) (by omega) (by omega) (fun hc => ?_) (fun hc => ?_)
                · first
                  | exact absurd hc (by omega)
                  | (
                      refine ev rS_1_0 ?_
                      refine ev (aS_2 (by omega) (by omega)) ?_
                      refine evd (iS_1.trans (hm _ (by omega) (by omega))) ?_
                      refine evd ((iL (by omega) (by omega)).trans (hh _ (by omega) (by omega))) ?_
                      refine evd (hl _ (by omega) (by omega)) ?_
                      refine evn ?_
                      rw [F_X4_headsTimesLets_L5]
                      try simp only [Int.zero_add, Int.reduceAdd, Int.reduceSub, Int.reduceNeg]
                      refine ev rS_1_1 ?_
                      refine ev_bLt (by omega) (by omega) (by omega) (by omega) (fun hc => ?_) (fun hc => ?_)
                      · first
                        | exact absurd hc (by omega)
                        | (
                            refine ev rS_1_0 ?_
                            refine ev (aS_2 (by omega) (by omega)) ?_
                            refine evd (iS_1.trans (hm _ (by omega) (by omega))) ?_
                            refine evd ((iL (by omega) (by omega)).trans (hh _ (by omega) (by omega))) ?_
                            refine evd (hl _ (by omega) (by omega)) ?_
                            refine evn ?_
                            exact absurd hc (by omega))
                      · first
                        | exact absurd hc (by omega)
                        | (
                            (refine ev_end ?_ rfl; simp only [z0, z1, z2, Int.zero_add, Int.mul_zero, Int.add_zero])))
                · first
                  | exact absurd hc (by omega)
                  | (
                      (refine ev_end ?_ rfl; simp only [z0, z1, z2, Int.zero_add, Int.mul_zero, Int.add_zero])))
          · first
            | exact absurd hc (by omega)
            | (
                (refine ev_end ?_ rfl; simp only [z0, z1, z2, Int.zero_add, Int.mul_zero, Int.add_zero])))
    · first
      | exact absurd hc (by omega)
      | (
          (refine ev_end ?_ rfl; simp only [z0, z1, z2, Int.zero_add, Int.mul_zero, Int.add_zero]))
/-- the rule's let -/
def rlv (ξ : Int → Int → Int) (i m : Int) : Int := max (min (ξ 27 i) m) (min (max (min (ξ 27 i) m) (min (ξ 26 i) (m - ξ 24 i))) (min (max (m - ξ 41 i) 0) (if i < ξ 23 1 then ξ 42 i else 30)))
theorem rlv_bd (hB : LB ξ) (h0 : 0 ≤ i) (h3 : i < 3) (m0 : 0 ≤ m) : 0 ≤ rlv ξ i m ∧ rlv ξ i m ≤ 10 ∧ rlv ξ i m ≤ m ∧ (ξ 23 1 ≤ i → rlv ξ i m = 0) := by
  have a := (hB.2.1 i h0 h3).1
  have b := (hB.2.1 i h0 h3).2
  have hq : 0 ≤ (if i < ξ 23 1 then ξ 42 i else 30) := by split <;> omega
  unfold rlv
  generalize (if i < ξ 23 1 then ξ 42 i else 30) = q at *
  refine ⟨by omega, by omega, by omega, fun h => ?_⟩
  have := b h
  omega
/-- the rule's lets of a state -/
def rls (ξ : Int → Int → Int) (s : Int) : Int := 256 * rlv ξ 0 (ms ξ s 0) + 16 * rlv ξ 1 (ms ξ s 1) + rlv ξ 2 (ms ξ s 2)
theorem rls_dg (hB : LB ξ) : (0 ≤ rls ξ s ∧ rls ξ s < 4096) ∧ dg (rls ξ s) 0 = rlv ξ 0 (ms ξ s 0) ∧ dg (rls ξ s) 1 = rlv ξ 1 (ms ξ s 1) ∧ dg (rls ξ s) 2 = rlv ξ 2 (ms ξ s 2) := by
  have r0 := rlv_bd (m := ms ξ s 0) (i := 0) hB (by omega) (by omega) (ms_bd hB (by omega) (by omega)).1
  have r1 := rlv_bd (m := ms ξ s 1) (i := 1) hB (by omega) (by omega) (ms_bd hB (by omega) (by omega)).1
  have r2 := rlv_bd (m := ms ξ s 2) (i := 2) hB (by omega) (by omega) (ms_bd hB (by omega) (by omega)).1
  refine ⟨by unfold rls; omega, ?_⟩
  unfold rls
  exact dg_of (by omega) (by omega) (by omega) (by omega) (by omega) (by omega)
theorem rls_LZ (hB : LB ξ) : LZ ξ (rls ξ s) := by
  obtain ⟨h, h0, h1, h2⟩ := rls_dg (s := s) hB
  refine ⟨h, fun i a b c => ?_⟩
  have r := rlv_bd (m := ms ξ s i) hB a b (ms_bd hB a b).1
  rcases lake3 a b with rfl | rfl | rfl
  · rw [h0]; exact r.2.2.2 c
  · rw [h1]; exact r.2.2.2 c
  · rw [h2]; exact r.2.2.2 c
theorem X4_ruleLets (hB : LB ξ) (hV : CV ξ) (s0 : 0 ≤ s) (s1 : s < 2147483648) : F_X4_ruleLets (b0 + 1) s (S b0 σ ξ) = some (rls ξ s, S b0 σ ξ) := by
  unfold F_X4_ruleLets
  have hm := fun i a b => X4_measureOf (b0 := b0) (σ := σ) (s := s) (i := i) hB hV a b s0 s1
  have r0 := rlv_bd (m := ms ξ s 0) (i := 0) hB (by omega) (by omega) (ms_bd hB (by omega) (by omega)).1
  have r1 := rlv_bd (m := ms ξ s 1) (i := 1) hB (by omega) (by omega) (ms_bd hB (by omega) (by omega)).1
  have r2 := rlv_bd (m := ms ξ s 2) (i := 2) hB (by omega) (by omega) (ms_bd hB (by omega) (by omega)).1
  have hr : ∀ i, 0 ≤ i → i < 3 → F_X0_ruleLet (b0 + 3 + 2 * i) (ms ξ s i) (S b0 σ ξ) = some (rlv ξ i (ms ξ s i), S b0 σ ξ) := by
    intro i a b
    have q := ms_bd (s := s) hB a b
    have g := hB.gr a b
    exact X0_ruleLet hB hV a b (by omega) (by omega)
  have y0 : orI (shlI 0 4) (rlv ξ 0 (ms ξ s 0)) = rlv ξ 0 (ms ξ s 0) := by rw [sh4 (by omega) (by omega) (by omega) (by omega)]; omega
  have y1 : orI (shlI (rlv ξ 0 (ms ξ s 0)) 4) (rlv ξ 1 (ms ξ s 1)) = 16 * rlv ξ 0 (ms ξ s 0) + rlv ξ 1 (ms ξ s 1) := sh4 (by omega) (by omega) (by omega) (by omega)
  have y2 : orI (shlI (16 * rlv ξ 0 (ms ξ s 0) + rlv ξ 1 (ms ξ s 1)) 4) (rlv ξ 2 (ms ξ s 2)) = 16 * (16 * rlv ξ 0 (ms ξ s 0) + rlv ξ 1 (ms ξ s 1)) + rlv ξ 2 (ms ξ s 2) := sh4 (by omega) (by omega) (by omega) (by omega)
  obtain ⟨k, hk⟩ := fu4
  rw [hk]
  rw [F_X4_ruleLets_L4]
  try simp only [Int.zero_add, Int.reduceAdd, Int.reduceSub, Int.reduceNeg]
  refine ev rS_1_0 ?_
  refine ev lS_2 ?_
  refine ev_bLt (by omega) (by omega) (by omega) (by omega) (fun hc => ?_) (fun hc => ?_)
  · first
    | exact absurd hc (by omega)
    | (
        refine ev rS_1_0 ?_
        refine ev (aS_2 (by omega) (by omega)) ?_
        refine evd (iS_1.trans (hm _ (by omega) (by omega))) ?_
        refine evd ((iL (by omega) (by omega)).trans (hr _ (by omega) (by omega))) ?_
        refine evn ?_
        rw [F_X4_ruleLets_L4]
        try simp only [Int.zero_add, Int.reduceAdd, Int.reduceSub, Int.reduceNeg]
        refine ev rS_1_0 ?_
        refine ev lS_2 ?_
        refine ev_bLt (by omega) (by omega) (by omega) (by omega) (fun hc => ?_) (fun hc => ?_)
        · first
          | exact absurd hc (by omega)
          | (
              refine ev rS_1_0 ?_
              refine ev (aS_2 (by omega) (by omega)) ?_
              refine evd (iS_1.trans (hm _ (by omega) (by omega))) ?_
              refine evd ((iL (by omega) (by omega)).trans (hr _ (by omega) (by omega))) ?_
              refine evn ?_
              rw [F_X4_ruleLets_L4]
              try simp only [Int.zero_add, Int.reduceAdd, Int.reduceSub, Int.reduceNeg]
              refine ev rS_1_0 ?_
              refine ev lS_2 ?_
              refine ev_bLt (by omega) (by omega) (by omega) (by omega) (fun hc => ?_) (fun hc => ?_)
              · first
                | exact absurd hc (by omega)
                | (
                    refine ev rS_1_0 ?_
                    refine ev (aS_2 (by omega) (by omega)) ?_
                    refine evd (iS_1.trans (hm _ (by omega) (by omega))) ?_
                    refine evd ((iL (by omega) (by omega)).trans (hr _ (by omega) (by omega))) ?_
                    refine evn ?_
                    rw [F_X4_ruleLets_L4]
                    try simp only [Int.zero_add, Int.reduceAdd, Int.reduceSub, Int.reduceNeg]
                    refine ev rS_1_0 ?_
                    refine ev lS_2 ?_
                    refine ev_bLt (by omega) (by omega) (by omega) (by omega) (fun hc => ?_) (fun hc => ?_)
                    · first
                      | exact absurd hc (by omega)
                      | (
                          refine ev rS_1_0 ?_
                          refine ev (aS_2 (by omega) (by omega)) ?_
                          refine evd (iS_1.trans (hm _ (by omega) (by omega))) ?_
                          refine evd ((iL (by omega) (by omega)).trans (hr _ (by omega) (by omega))) ?_
                          refine evn ?_
                          exact absurd hc (by omega))
                    · first
                      | exact absurd hc (by omega)
                      | (
                          (refine ev_end ?_ rfl; rw [y0, y1, y2]; unfold rls; omega)))
              · first
                | exact absurd hc (by omega)
                | (
                    (refine ev_end ?_ rfl; rw [y0, y1, y2]; unfold rls; omega)))
        · first
          | exact absurd hc (by omega)
          | (
              (refine ev_end ?_ rfl; rw [y0, y1, y2]; unfold rls; omega)))
  · first
    | exact absurd hc (by omega)
    | (
        (refine ev_end ?_ rfl; rw [y0, y1, y2]; unfold rls; omega))
/-- lets that may be -/
def mayL (ξ : Int → Int → Int) (s L : Int) : Prop := ∀ i, 0 ≤ i → i < ξ 23 1 → min (ξ 27 i) (ms ξ s i) ≤ dg L i ∧ dg L i ≤ max (min (ξ 27 i) (ms ξ s i)) (min (ξ 26 i) (ms ξ s i - ξ 24 i))
theorem X4_mayLet (hB : LB ξ) (hV : CV ξ) (s0 : 0 ≤ s) (s1 : s < 2147483648) (L0 : 0 ≤ L) (L1 : L < 4096) : ∃ v, F_X4_mayLet (b0 + 1) s L (S b0 σ ξ) = some (v, S b0 σ ξ) ∧ ((v = 1 ∧ mayL ξ s L) ∨ (v = 0 ∧ ¬ mayL ξ s L)) := by
  unfold F_X4_mayLet
  have n0 := hB.1
  have e11 : ξ 1 1 = ξ 23 1 := hV.1
  have hm := fun i a b => X4_measureOf (b0 := b0) (σ := σ) (s := s) (i := i) hB hV a b s0 s1
  have hl := fun i a b => X4_letOf (σ := S b0 σ ξ) (L := L) (i := i) L0 L1 a b
  have hmb := fun i a b => ms_bd (s := s) (i := i) hB a b
  have hgb := fun i a b => hB.gr (l := i) a b
  have key : ∀ (j n : Nat) (f : Nat) (i : Int), n < f → 0 ≤ i → i + n = ξ 23 1 → (∀ q, 0 ≤ q → q < i → min (ξ 27 q) (ms ξ s q) ≤ dg L q ∧ dg L q ≤ max (min (ξ 27 q) (ms ξ s q)) (min (ξ 26 q) (ms ξ s q - ξ 24 q))) → ∃ v, F_X4_mayLet_L2 (b0 + 1) s L f i (S b0 σ ξ) = some (v, S b0 σ ξ) ∧ ((v = 1 ∧ mayL ξ s L) ∨ (v = 0 ∧ ¬ mayL ξ s L)) := by
    intro j n
    induction n with
    | zero =>
      intro f i hf hi he hq
      obtain ⟨f, rfl⟩ : ∃ g, f = g + 1 := ⟨f - 1, by omega⟩
      refine ⟨1, ?_, Or.inl ⟨rfl, fun q a b => hq q a (by omega)⟩⟩
      rw [F_X4_mayLet_L2]
      refine ev rS_1_1 ?_
      exact ev_bLt (by omega) (by omega) (by omega) (by omega) (fun hc => absurd hc (by omega)) (fun hc => rz_1)
    | succ n ih =>
      intro f i hf hi he hq
      obtain ⟨f, rfl⟩ : ∃ g, f = g + 1 := ⟨f - 1, by omega⟩
      have a := hmb i hi (by omega)
      have g := hgb i hi (by omega)
      have d := dg_bd (j := i) L0 L1
      have x := (hB.2.1 i hi (by omega)).1
      have hmi := hm i hi (by omega)
      have hli := hl i hi (by omega)
      have hle := X0_leastLet (b0 := b0) (σ := σ) (m := ms ξ s i) hB hV hi (by omega) ⟨by omega, by omega⟩
      have hmo := X0_mostLet (b0 := b0) (σ := σ) (m := ms ξ s i) hB hV hi (by omega) (by omega) (by omega)
      rw [F_X4_mayLet_L2]
      by_cases hbad : min (ξ 27 i) (ms ξ s i) ≤ dg L i ∧ dg L i ≤ max (min (ξ 27 i) (ms ξ s i)) (min (ξ 26 i) (ms ξ s i - ξ 24 i))
      · obtain ⟨v, hv, hr⟩ := ih f (i + 1) (by omega) (by omega) (by omega) (fun q p r => by
          by_cases hqi : q = i
          · rw [hqi]; exact hbad
          · exact hq q p (by omega))
        refine ⟨v, ?_, hr⟩
        clear hq ih hmb hgb hm hl
        refine ev rS_1_1 ?_
        refine ev_bLt (by omega) (by omega) (by omega) (by omega) (fun hc => ?_) (fun hc => ?_)
        · first
          | exact absurd hc (by omega)
          | (
              refine evd (iS_1.trans (hmi)) ?_
              refine evd (hli) ?_
              refine ev rS_1_0 ?_
              refine ev (aS_2 (by omega) (by omega)) ?_
              refine evd ((iL (by omega) (by omega)).trans (hle)) ?_
              refine ev_bLt (by omega) (by omega) (by omega) (by omega) (fun hc => ?_) (fun hc => ?_)
              · first
                | exact absurd hc (by omega)
                | (
                    exact absurd hc (by omega))
              · first
                | exact absurd hc (by omega)
                | (
                    refine ev rS_1_0 ?_
                    refine ev (aS_2 (by omega) (by omega)) ?_
                    refine evd ((iL (by omega) (by omega)).trans (hmo)) ?_
                    refine ev_bLe (by omega) (by omega) (by omega) (by omega) (fun hc => ?_) (fun hc => ?_)
                    · first
                      | exact absurd hc (by omega)
                      | (
                          exact hv)
                    · first
                      | exact absurd hc (by omega)
                      | (
                          exact absurd hc (by omega))))
        · first
          | exact absurd hc (by omega)
          | (
              exact absurd hc (by omega))
      · refine ⟨0, ?_, Or.inr ⟨rfl, fun q => hbad (q i hi (by omega))⟩⟩
        clear hq ih hmb hgb hm hl
        refine ev rS_1_1 ?_
        refine ev_bLt (by omega) (by omega) (by omega) (by omega) (fun hc => ?_) (fun hc => ?_)
        · first
          | exact absurd hc (by omega)
          | (
              refine evd (iS_1.trans (hmi)) ?_
              refine evd (hli) ?_
              refine ev rS_1_0 ?_
              refine ev (aS_2 (by omega) (by omega)) ?_
              refine evd ((iL (by omega) (by omega)).trans (hle)) ?_
              refine ev_bLt (by omega) (by omega) (by omega) (by omega) (fun hc => ?_) (fun hc => ?_)
              · first
                | exact absurd hc (by omega)
                | (
                    exact rz_0)
              · first
                | exact absurd hc (by omega)
                | (
                    refine ev rS_1_0 ?_
                    refine ev (aS_2 (by omega) (by omega)) ?_
                    refine evd ((iL (by omega) (by omega)).trans (hmo)) ?_
                    refine ev_bLe (by omega) (by omega) (by omega) (by omega) (fun hc => ?_) (fun hc => ?_)
                    · first
                      | exact absurd hc (by omega)
                      | (
                          exact absurd hc (by omega))
                    · first
                      | exact absurd hc (by omega)
                      | (
                          exact rz_0)))
        · first
          | exact absurd hc (by omega)
          | (
              exact rz_0)
  exact key 0 (ξ 23 1).toNat fu 0 (fuN (by omega)) (by omega) (by omega) (fun q a b => by omega)
end V4
