theorem IB_ex {f : Int → Int} {B : Int → Prop} (hB0 : ∀ L, B L → 0 ≤ L) : ∀ N : Nat, (∃ L, B L ∧ L < N) → ∃ v L, IB f (fun L => B L ∧ L < N) v L
  | 0, ⟨L, h, h2⟩ => by have := hB0 L h; omega
  | N + 1, ⟨L, h, h2⟩ => by
    by_cases q : ∃ L, B L ∧ L < (N : Int)
    · obtain ⟨v, L1, h1⟩ := IB_ex (f := f) hB0 N q
      by_cases c : B N ∧ v < f N
      · refine ⟨f N, N, ⟨c.1, by omega⟩, rfl, fun L' hL => ?_⟩
        by_cases e : L' = N
        · subst e; exact ⟨Int.le_refl _, fun q => absurd q (by omega)⟩
        · have a := h1.2.2 L' ⟨hL.1, by omega⟩
          exact ⟨by omega, fun _ => by omega⟩
      · refine ⟨v, L1, ⟨h1.1.1, by have := h1.1.2; omega⟩, h1.2.1, fun L' hL => ?_⟩
        by_cases e : L' = N
        · subst e
          have a := h1.1.2
          have b : ¬ v < f N := fun q => c ⟨hL.1, q⟩
          exact ⟨by omega, fun q => absurd q (by omega)⟩
        · exact h1.2.2 L' ⟨hL.1, by omega⟩
    · have e : L = N := by
        by_cases e : L = N
        · exact e
        · exact absurd ⟨L, h, by omega⟩ q
      subst e
      refine ⟨f N, N, ⟨h, by omega⟩, rfl, fun L' hL => ?_⟩
      have e : L' = N := by
        by_cases e : L' = N
        · exact e
        · exact absurd ⟨L', hL.1, by omega⟩ q
      subst e
      exact ⟨Int.le_refl _, fun q => absurd q (by omega)⟩
section W3
variable {b0 : Int} {σ : Hp} {ξ ζ : Int → Int → Int} {i m s t L n : Int}
theorem bx_ex (hB : LB ξ) (f : Int → Int) : ∃ v L, IB f (bx ξ s) v L := by
  obtain ⟨v, L, h1, h2, h3⟩ := IB_ex (f := f) (B := bx ξ s) (fun L h => h.1.1) 4096 ⟨fsL ξ s, (fsL_bx hB).1, (fsL_bx hB).1.1.2⟩
  exact ⟨v, L, h1.1, h2, fun L' h => h3 L' ⟨h, h.1.2⟩⟩
theorem VV_spec (hB : LB ξ) {k : Nat} : ∃ L, IB (vL ξ (VV ξ k) k n s) (bx ξ s) (VV ξ (k + 1) n s) L := by
  obtain ⟨v, L, h⟩ := bx_ex (s := s) hB (vL ξ (VV ξ k) k n s)
  exact ⟨L, by rw [VV_of h]; exact h⟩
/-- the worths' bound -/
def BD (k : Nat) : Int := 6 ^ k * (8100 * k + 8910)
theorem endv_bd (hB : LB ξ) : 0 ≤ endv ξ s ∧ endv ξ s ≤ 8910 := by
  have key : ∀ i, 0 ≤ i → i < 3 → 0 ≤ ξ 29 i * ms ξ s i ∧ ξ 29 i * ms ξ s i ≤ 2970 := by
    intro i h0 h3
    have a := (hB.2.1 i h0 h3).1
    have b := ms_bd (s := s) hB h0 h3
    have c : ξ 29 i * ms ξ s i ≤ 99 * 30 := Int.mul_le_mul (by omega) (by omega) b.1 (by omega)
    exact ⟨Int.mul_nonneg (by omega) b.1, by omega⟩
  have k0 := key 0 (by omega) (by omega)
  have k1 := key 1 (by omega) (by omega)
  have k2 := key 2 (by omega) (by omega)
  unfold endv
  omega
theorem bx_t (hB : LB ξ) (hb : bx ξ s L) (h0 : 0 ≤ i) (h3 : i < 3) : 0 ≤ dg L i ∧ dg L i ≤ ms ξ s i ∧ dg L i ≤ 10 ∧ (ξ 23 1 ≤ i → dg L i = 0) := by
  have r := lohi (s := s) hB h0 h3
  have g := hb.2
  rcases lake3 h0 h3 with rfl | rfl | rfl
  · exact ⟨by omega, by omega, by omega, fun h => by have := r.2.2.2.2 h; omega⟩
  · exact ⟨by omega, by omega, by omega, fun h => by have := r.2.2.2.2 h; omega⟩
  · exact ⟨by omega, by omega, by omega, fun h => by have := r.2.2.2.2 h; omega⟩
theorem ernS_bd {w : Int} (hB : LB ξ) (hT : TB ξ) (w0 : 0 ≤ w) (w1 : w < 10) (hb : bx ξ s L) : 0 ≤ ernS ξ w s L ∧ ernS ξ w s L ≤ 8100 := by
  have m0 := ms_bd (s := s) (i := 0) hB (by omega) (by omega)
  have m1 := ms_bd (s := s) (i := 1) hB (by omega) (by omega)
  have m2 := ms_bd (s := s) (i := 2) hB (by omega) (by omega)
  have g0 := hB.gr (l := 0) (by omega) (by omega)
  have g1 := hB.gr (l := 1) (by omega) (by omega)
  have g2 := hB.gr (l := 2) (by omega) (by omega)
  have t0 := bx_t (i := 0) hB hb (by omega) (by omega)
  have t1 := bx_t (i := 1) hB hb (by omega) (by omega)
  have t2 := bx_t (i := 2) hB hb (by omega) (by omega)
  unfold ernS
  exact ern_bd hB hT w0 w1 (by omega) (by omega) (by omega) (by omega) (by omega) (by omega)
theorem flS_bd {c : Int} (hB : LB ξ) (hT : TB ξ) (c0 : 0 ≤ c) (c1 : c < 81) (hb : bx ξ s L) : 0 ≤ flS ξ c s L ∧ flS ξ c s L < ZZ ξ := by
  have t0 := bx_t (i := 0) hB hb (by omega) (by omega)
  have t1 := bx_t (i := 1) hB hb (by omega) (by omega)
  have t2 := bx_t (i := 2) hB hb (by omega) (by omega)
  have hI := hT.2.2.2.2.2.2
  unfold flS
  rw [flw_g]
  exact gfl_bd hB (hI _ (by omega) (by omega)).1 (hI _ (by omega) (by omega)).1 (hI _ (by omega) (by omega)).1 ⟨t0.1, t0.2.1⟩ ⟨t1.1, t1.2.1⟩ ⟨t2.1, t2.2.1⟩
theorem BD_nn (k : Nat) : 0 ≤ BD k := Int.mul_nonneg (Int.pow_nonneg (by omega)) (by omega)
theorem BD_s (k : Nat) : BD (k + 1) = 6 ^ (k + 1) * 8100 + 6 * BD k := by
  unfold BD
  rw [Int.pow_succ, show (8100 * ((k + 1 : Nat) : Int) + 8910) = 8100 + (8100 * (k : Int) + 8910) by omega, Int.mul_add, Int.mul_comm (6 ^ k) 6, Int.mul_assoc, Int.mul_assoc]
theorem ZZ_le (hB : LB ξ) : 1 ≤ ZZ ξ ∧ ZZ ξ ≤ 1000 := by
  have := enc_bd (a := 0) (b := 0) (c := 0) hB (by omega) (hB.gr (by omega) (by omega)).1 (by omega) (hB.gr (by omega) (by omega)).1 (by omega) (hB.gr (by omega) (by omega)).1
  have q := hB.2.2.2
  unfold ZZ at this ⊢
  omega
theorem lft_child {c : Int} (hT : TB ξ) (h1 : 1 ≤ c) (h2 : c < ξ 23 11) (hp : ξ 31 c = n) : lft ξ n = lft ξ c + 1 := by
  have a := hT.2.2.2.2.2.1 c h1 h2
  have w := hT.week (n := c) (by omega) h2
  rw [hp] at a
  unfold lft
  omega
theorem vL_bd {k : Nat} {V : Int → Int → Int} (hB : LB ξ) (hT : TB ξ) (hW : WH ξ) (n0 : 0 ≤ n) (n1 : n < ξ 23 11) (hk : lft ξ n = k + 1) (hb : bx ξ s L) (hV : ∀ c, n < c → c < ξ 23 11 → ξ 31 c = n → 0 ≤ V c (flS ξ c s L) ∧ V c (flS ξ c s L) ≤ BD k) : 0 ≤ vL ξ V k n s L ∧ vL ξ V k n s L ≤ BD (k + 1) := by
  have w := hT.week n0 n1
  have w10 := hT.1
  have wn : ξ 33 n < ξ 23 8 - 1 := by unfold lft at hk; omega
  have e := ernS_bd (w := ξ 33 n + 1) hB hT (by omega) (by omega) hb
  have c := csm_bd (g := fun c => V c (flS ξ c s L)) hT n0 n1 (BD_nn k) hV
  have hw := hW.2 n n0 n1 wn
  have d := hT.2.1
  have p0 : 0 ≤ ξ 23 9 ^ (k + 1) := Int.pow_nonneg (by omega)
  have p1 : ξ 23 9 ^ (k + 1) ≤ 6 ^ (k + 1) := by
    have q : ∀ j : Nat, ξ 23 9 ^ j ≤ 6 ^ j := by
      intro j
      induction j with
      | zero => simp
      | succ j ih => rw [Int.pow_succ, Int.pow_succ]; exact Int.mul_le_mul ih d.2 (by omega) (Int.pow_nonneg (by omega))
    exact q _
  have q0 := Int.mul_nonneg p0 e.1
  have q1 : ξ 23 9 ^ (k + 1) * ernS ξ (ξ 33 n + 1) s L ≤ 6 ^ (k + 1) * 8100 := Int.mul_le_mul p1 e.2 e.1 (Int.pow_nonneg (by omega))
  have q2 : wsm ξ n * BD k ≤ 6 * BD k := by rw [hw]; exact Int.mul_le_mul_of_nonneg_right d.2 (BD_nn k)
  rw [BD_s]
  unfold vL
  omega
theorem VV_bd (hB : LB ξ) (hT : TB ξ) (hW : WH ξ) : ∀ (k : Nat) (n s : Int), 0 ≤ n → n < ξ 23 11 → lft ξ n = k → 0 ≤ VV ξ k n s ∧ VV ξ k n s ≤ BD k := by
  intro k
  induction k with
  | zero => intro n s _ _ _; exact endv_bd hB
  | succ k ih =>
    intro n s n0 n1 hk
    obtain ⟨L, h⟩ := VV_spec (n := n) (s := s) (k := k) hB
    rw [← h.2.1]
    refine vL_bd hB hT hW n0 n1 hk h.1 (fun c c0 c1 hp => ih c _ (by omega) c1 ?_)
    have := lft_child hT (by omega) c1 hp
    omega
theorem BD_mono {j k : Nat} (h : j ≤ k) : BD j ≤ BD k := by
  induction h with
  | refl => exact Int.le_refl _
  | step h ih =>
    rename_i m
    have := BD_s m
    have := BD_nn m
    have : (0 : Int) ≤ 6 ^ (m + 1) := Int.pow_nonneg (by omega)
    show _ ≤ BD (m + 1)
    omega
theorem lft_le (hT : TB ξ) (n0 : 0 ≤ n) (n1 : n < ξ 23 11) : lft ξ n ≤ 10 := by
  have := hT.week n0 n1
  have := hT.1
  unfold lft
  omega
theorem BD_10 : BD 10 < 9000000000000000 := by decide
end W3
