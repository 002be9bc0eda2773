section O0
variable {b0 : Int} {σ τ σ' : Hp} {ξ ζ η : Int → Int → Int} {a b c i l m n v j w s L p q le : Int}
theorem CV_sd (h : KB b0 ξ σ) (hc : Ch scrC ξ ζ) (l0 : 0 ≤ l) (l3 : l < 3) : rd 1 (S b0 σ ζ) (b0 + 3 + 2 * l) 8 = some (sd ξ l) := by
  rw [rL_8 (CV_ch hc h.2.2.1) l0 l3, sd_cf (Cf_scrC hc)]
theorem sb_mid {rec : Int → Int → Int → Int → Hp → Option (Int × Hp)} {k187 : Int → Int → Int → Hp → Option (Int × Hp)} {k : Nat} {t0 : Int} (hB : LB ξ) (hT : TB ξ) (hW : WH ξ) (n0 : 0 ≤ n) (n1 : n < ξ 23 11) (hk : lft ξ n = k + 1) (hle : le = k + 1) (hr : RC b0 ξ rec n k) (hv : ∀ L, bx ξ s L → 0 ≤ vL ξ (VV ξ k) k n s L ∧ vL ξ (VV ξ k) k n s L < 9000000000000000) (h0 : lo ξ s 0 ≤ t0 ∧ t0 ≤ hi ξ s 0) : ∀ (m f : Nat) (v Lb t1 : Int) (σ : Hp) (ζ : Int → Int → Int), KI b0 ξ σ → Ch scrC ξ ζ → gf σ (ξ 10 n) 10 = ξ 15 2 → m < f → lo ξ s 1 ≤ t1 → t1 + m = hi ξ s 1 + 1 → PB (vL ξ (VV ξ k) k n s) (bx ξ s) (256 * t0 + 16 * t1 + lo ξ s 2) v Lb → ∃ σ' ζ' v' L', F_X6_searchBest_L198 rec k187 (b0 + 15) (ξ 10 n) le (b0 + 3 + 2 * 0) (b0 + 3 + 2 * 1) (b0 + 3 + 2 * 2) (ms ξ s 0) (ms ξ s 1) (ms ξ s 2) (GG ξ k n s 0) (GG ξ k n s 1) (GG ξ k n s 2) (hi ξ s 0) (hi ξ s 1) (hi ξ s 2) (lo ξ s 1) (lo ξ s 2) t0 f v Lb t1 (S b0 σ ζ) = k187 v' L' (t0 + 1) (S b0 σ' ζ') ∧ KI b0 ξ σ' ∧ Ch scrC ξ ζ' ∧ Fp (n + 1) ξ σ σ' ∧ PB (vL ξ (VV ξ k) k n s) (bx ξ s) (256 * t0 + 16 * (hi ξ s 1 + 1) + lo ξ s 2) v' L' := by
  have l0 := lohi (s := s) (i := 0) hB (by omega) (by omega)
  have l1 := lohi (s := s) (i := 1) hB (by omega) (by omega)
  have l2 := lohi (s := s) (i := 2) hB (by omega) (by omega)
  have m1 := ms_bd (s := s) hB (i := 1) (by omega) (by omega)
  have g1 := hB.gr (l := 1) (by omega) (by omega)
  intro m
  induction m with
  | zero =>
    intro f v Lb t1 σ ζ K hc hf hm q1 q2 hP
    obtain ⟨f, rfl⟩ : ∃ g, f = g + 1 := ⟨f - 1, by omega⟩
    refine ⟨σ, ζ, v, Lb, ?_, K, hc, Fp.rf, ?_⟩
    · rw [F_X6_searchBest_L198]
      exact ev_bLe (by omega) (by omega) (by omega) (by omega) (fun q => by omega) (fun q => rfl)
    · rw [show hi ξ s 1 + 1 = t1 by omega]
      exact hP
  | succ m ih =>
    intro f v Lb t1 σ ζ K hc hf hm q1 q2 hP
    obtain ⟨f, rfl⟩ : ∃ g, f = g + 1 := ⟨f - 1, by omega⟩
    have h1 : lo ξ s 1 ≤ t1 ∧ t1 ≤ hi ξ s 1 := by omega
    obtain ⟨σ1, ζ1, v1, L1, r1, r2, r3, r4, r5⟩ := sb_in (k187 := k187) (k198 := F_X6_searchBest_L198 rec k187 (b0 + 15) (ξ 10 n) le (b0 + 3 + 2 * 0) (b0 + 3 + 2 * 1) (b0 + 3 + 2 * 2) (ms ξ s 0) (ms ξ s 1) (ms ξ s 2) (GG ξ k n s 0) (GG ξ k n s 1) (GG ξ k n s 2) (hi ξ s 0) (hi ξ s 1) (hi ξ s 2) (lo ξ s 1) (lo ξ s 2) t0 f) hB hT hW n0 n1 hk hle hr hv h0 h1 (hi ξ s 2 + 1 - lo ξ s 2).toNat fu v Lb (lo ξ s 2) σ ζ K hc hf (fuN (by omega)) (Int.le_refl _) (by omega) hP
    have f1 : gf σ1 (ξ 10 n) 10 = ξ 15 2 := (r4 n 10 (K.1.lv n0 n1) (by omega) (by omega) (by omega)).trans hf
    obtain ⟨σ', ζ', v', L', u1, u2, u3, u4, u5⟩ := ih f v1 L1 (t1 + 1) σ1 ζ1 r2 r3 f1 (by omega) (by omega) (by omega) (r5.skip (by omega) (fun L' hb x => by
      have y := bx_rec hb
      omega))
    refine ⟨σ', ζ', v', L', ?_, u2, u3, r4.trans u4, u5⟩
    rw [F_X6_searchBest_L198]
    refine ev_bLe (by omega) (by omega) (by omega) (by omega) (fun _ => ?_) (fun q => by omega)
    refine ev (CV_gr K.1 hc (by omega) (by omega)) ?_
    refine ev_g33 (by omega) (by omega) (by omega) (by omega) ?_
    refine evn ?_
    refine evn ?_
    refine ev (CV_sd K.1 hc (by omega) (by omega)) ?_
    refine ev (CV_sd K.1 hc (by omega) (by omega)) ?_
    refine evn ?_
    refine ev_g3 (by omega) (by omega) ?_
    refine ev_g3 (by omega) (by omega) ?_
    refine evn ?_
    exact r1.trans u1
theorem sb_out {rec : Int → Int → Int → Int → Hp → Option (Int × Hp)} {k : Nat} (hB : LB ξ) (hT : TB ξ) (hW : WH ξ) (n0 : 0 ≤ n) (n1 : n < ξ 23 11) (hk : lft ξ n = k + 1) (hle : le = k + 1) (hr : RC b0 ξ rec n k) (hv : ∀ L, bx ξ s L → 0 ≤ vL ξ (VV ξ k) k n s L ∧ vL ξ (VV ξ k) k n s L < 9000000000000000) : ∀ (m f : Nat) (v Lb t0 : Int) (σ : Hp) (ζ : Int → Int → Int), KI b0 ξ σ → Ch scrC ξ ζ → gf σ (ξ 10 n) 10 = ξ 15 2 → m < f → lo ξ s 0 ≤ t0 → t0 + m = hi ξ s 0 + 1 → PB (vL ξ (VV ξ k) k n s) (bx ξ s) (256 * t0 + 16 * lo ξ s 1 + lo ξ s 2) v Lb → ∃ σ' ζ' v' L', F_X6_searchBest_L187 rec (b0 + 15) (ξ 10 n) le (b0 + 3 + 2 * 0) (b0 + 3 + 2 * 1) (b0 + 3 + 2 * 2) (ms ξ s 0) (ms ξ s 1) (ms ξ s 2) (GG ξ k n s 0) (GG ξ k n s 1) (GG ξ k n s 2) (hi ξ s 0) (hi ξ s 1) (hi ξ s 2) (lo ξ s 1) (lo ξ s 2) f v Lb t0 (S b0 σ ζ) = some (v', S b0 σ' (xu ζ' 15 3 L')) ∧ KI b0 ξ σ' ∧ Ch scrC ξ ζ' ∧ Fp (n + 1) ξ σ σ' ∧ PB (vL ξ (VV ξ k) k n s) (bx ξ s) (256 * (hi ξ s 0 + 1) + 16 * lo ξ s 1 + lo ξ s 2) v' L' := by
  have l0 := lohi (s := s) (i := 0) hB (by omega) (by omega)
  have l1 := lohi (s := s) (i := 1) hB (by omega) (by omega)
  have l2 := lohi (s := s) (i := 2) hB (by omega) (by omega)
  intro m
  induction m with
  | zero =>
    intro f v Lb t0 σ ζ K hc hf hm q1 q2 hP
    obtain ⟨f, rfl⟩ : ∃ g, f = g + 1 := ⟨f - 1, by omega⟩
    refine ⟨σ, ζ, v, Lb, ?_, K, hc, Fp.rf, ?_⟩
    · rw [F_X6_searchBest_L187]
      refine ev_bLe (by omega) (by omega) (by omega) (by omega) (fun q => by omega) (fun q => ?_)
      exact ev pS_15_3 rfl
    · rw [show hi ξ s 0 + 1 = t0 by omega]
      exact hP
  | succ m ih =>
    intro f v Lb t0 σ ζ K hc hf hm q1 q2 hP
    obtain ⟨f, rfl⟩ : ∃ g, f = g + 1 := ⟨f - 1, by omega⟩
    have h0 : lo ξ s 0 ≤ t0 ∧ t0 ≤ hi ξ s 0 := by omega
    obtain ⟨σ1, ζ1, v1, L1, r1, r2, r3, r4, r5⟩ := sb_mid (k187 := F_X6_searchBest_L187 rec (b0 + 15) (ξ 10 n) le (b0 + 3 + 2 * 0) (b0 + 3 + 2 * 1) (b0 + 3 + 2 * 2) (ms ξ s 0) (ms ξ s 1) (ms ξ s 2) (GG ξ k n s 0) (GG ξ k n s 1) (GG ξ k n s 2) (hi ξ s 0) (hi ξ s 1) (hi ξ s 2) (lo ξ s 1) (lo ξ s 2) f) hB hT hW n0 n1 hk hle hr hv h0 (hi ξ s 1 + 1 - lo ξ s 1).toNat fu v Lb (lo ξ s 1) σ ζ K hc hf (fuN (by omega)) (Int.le_refl _) (by omega) hP
    have f1 : gf σ1 (ξ 10 n) 10 = ξ 15 2 := (r4 n 10 (K.1.lv n0 n1) (by omega) (by omega) (by omega)).trans hf
    obtain ⟨σ', ζ', v', L', u1, u2, u3, u4, u5⟩ := ih f v1 L1 (t0 + 1) σ1 ζ1 r2 r3 f1 (by omega) (by omega) (by omega) (r5.skip (by omega) (fun L' hb x => by
      have y := bx_rec hb
      omega))
    refine ⟨σ', ζ', v', L', ?_, u2, u3, r4.trans u4, u5⟩
    rw [F_X6_searchBest_L187]
    refine ev_bLe (by omega) (by omega) (by omega) (by omega) (fun _ => ?_) (fun q => by omega)
    exact r1.trans u1
theorem X6_search {rec : Int → Int → Int → Int → Hp → Option (Int × Hp)} {k : Nat} (h : KI b0 ξ σ) (hc : Ch scrC ξ ζ) (hW : WH ξ) (n0 : 0 ≤ n) (n1 : n < ξ 23 11) (hf : gf σ (ξ 10 n) 10 = ξ 15 2) (hk : lft ξ n = k + 1) (hle : le = ((k + 1 : Nat) : Int)) (s0 : 0 ≤ s) (s1 : s < ZZ ξ) (hr : RC b0 ξ rec n k) : ∃ σ' ζ' L, F_X6_searchBest rec (b0 + 15) (ξ 10 n) s le (S b0 σ ζ) = some (VV ξ (k + 1) n s, S b0 σ' ζ') ∧ IB (vL ξ (VV ξ k) k n s) (bx ξ s) (VV ξ (k + 1) n s) L ∧ ζ' 15 3 = L ∧ KI b0 ξ σ' ∧ Ch scrC ξ ζ' ∧ Fp (n + 1) ξ σ σ' := by
  obtain ⟨hK, hC, hM⟩ := id h
  have hB := hK.1
  have hT := hK.2.1
  have cf := Cf_scrC hc
  have hBz := hB.cf cf
  have hV := CV_ch hc hK.2.2.1
  have hz := ZZ_le hB
  have w10 := hT.1
  have wk := hT.week n0 n1
  have l10 := lft_le hT n0 n1
  have wl : ξ 33 n < ξ 23 8 - 1 := by unfold lft at hk; omega
  have l0 := lohi (s := s) (i := 0) hB (by omega) (by omega)
  have l1 := lohi (s := s) (i := 1) hB (by omega) (by omega)
  have l2 := lohi (s := s) (i := 2) hB (by omega) (by omega)
  have m0 := ms_bd (s := s) hB (i := 0) (by omega) (by omega)
  have m1 := ms_bd (s := s) hB (i := 1) (by omega) (by omega)
  have m2 := ms_bd (s := s) hB (i := 2) (by omega) (by omega)
  have g0 := hB.gr (l := 0) (by omega) (by omega)
  have g1 := hB.gr (l := 1) (by omega) (by omega)
  have g2 := hB.gr (l := 2) (by omega) (by omega)
  have hv : ∀ L, bx ξ s L → 0 ≤ vL ξ (VV ξ k) k n s L ∧ vL ξ (VV ξ k) k n s L < 9000000000000000 := by
    intro L hb
    have m1 := BD_mono (show k + 1 ≤ 10 by omega)
    have b10 := BD_10
    have := vL_bd (V := VV ξ k) hB hT hW n0 n1 hk hb (fun c x y z => VV_bd hB hT hW k c _ (by omega) y (by have := lft_child hT (c := c) (by omega) y z; omega))
    omega
  obtain ⟨σ', ζ', v', L', u1, u2, u3, u4, u5⟩ := sb_out (le := le) hB hT hW n0 n1 hk (by omega) hr hv (hi ξ s 0 + 1 - lo ξ s 0).toNat fu (-1) 0 (lo ξ s 0) σ ζ h hc hf (fuN (by omega)) (Int.le_refl _) (by omega) (Or.inl ⟨rfl, fun L' hb => by have y := bx_rec hb; omega⟩)
  have ex : ∃ L', bx ξ s L' := by
    obtain ⟨v, L, x⟩ := bx_ex (s := s) hB (fun _ => 0)
    exact ⟨L, x.1⟩
  have ib := u5.fin ex (fun L' hb => by have y := bx_rec hb; omega)
  have ev' : VV ξ (k + 1) n s = v' := VV_of ib
  refine ⟨σ', xu ζ' 15 3 L', L', ?_, by rw [ev']; exact ib, xu_s, u2, Ch_xu (Or.inr ⟨rfl, rfl⟩) u3, u4⟩
  rw [ev']
  have me : ∀ i, 0 ≤ i → i < 3 → F_X4_measureOf (b0 + 1) s i (S b0 σ ζ) = some (ms ξ s i, S b0 σ ζ) := by
    intro i i0 i3
    rw [X4_measureOf hBz hV i0 i3 s0 (by omega), ms_cf cf]
  have he : ∀ i, 0 ≤ i → i < 3 → ms ξ s i ≤ 30 ∧ 0 ≤ ms ξ s i → F_X0_headAt (b0 + 3 + 2 * i) (ms ξ s i) (S b0 σ ζ) = some (hd ξ i (ms ξ s i), S b0 σ ζ) := by
    intro i i0 i3 mb
    rw [X0_headAt hV i0 i3 ⟨by omega, by omega⟩, if_pos (by omega), hd_cf cf]
  have hdb : ∀ i, 0 ≤ i → i < 3 → ms ξ s i ≤ 30 ∧ 0 ≤ ms ξ s i → 0 ≤ hd ξ i (ms ξ s i) ∧ hd ξ i (ms ξ s i) ≤ 9 := fun i i0 i3 mb => hd_bd hB i0 i3 mb.2 (by omega)
  have mo : ∀ i, 0 ≤ i → i < 3 → ms ξ s i ≤ 30 ∧ 0 ≤ ms ξ s i → F_X0_mostLet (b0 + 3 + 2 * i) (ms ξ s i) (S b0 σ ζ) = some (hi ξ s i, S b0 σ ζ) := by
    intro i i0 i3 mb
    rw [X0_mostLet hBz hV i0 i3 mb.2 (by omega), cf.1 24 (by omega), cf.1 26 (by omega), cf.1 27 (by omega)]
    rfl
  have lea : ∀ i, 0 ≤ i → i < 3 → ms ξ s i ≤ 30 ∧ 0 ≤ ms ξ s i → F_X0_leastLet (b0 + 3 + 2 * i) (ms ξ s i) (S b0 σ ζ) = some (lo ξ s i, S b0 σ ζ) := by
    intro i i0 i3 mb
    rw [X0_leastLet hBz hV i0 i3 ⟨by omega, by omega⟩, cf.1 27 (by omega)]
    rfl
  have b0' : ms ξ s 0 ≤ 30 ∧ 0 ≤ ms ξ s 0 := by omega
  have b1' : ms ξ s 1 ≤ 30 ∧ 0 ≤ ms ξ s 1 := by omega
  have b2' : ms ξ s 2 ≤ 30 ∧ 0 ≤ ms ξ s 2 := by omega
  have h0 := hdb 0 (by omega) (by omega) b0'
  have h1 := hdb 1 (by omega) (by omega) b1'
  have h2 := hdb 2 (by omega) (by omega) b2'
  have pr := hT.2.2.2.1 (ξ 33 n + 1) (by omega) (by omega)
  have sc := X3_scaleOf (b0 := b0) (σ := σ) (ζ := ζ) hK hc (k + 1) (by omega)
  rw [← hle] at sc
  rw [F_X6_searchBest]
  refine ev rS_15_0 ?_
  refine ev rS_1_0 ?_
  refine ev (aS_2 (by omega) (by omega)) ?_
  refine ev rS_15_0 ?_
  refine ev rS_1_0 ?_
  refine ev (aS_2 (by omega) (by omega)) ?_
  refine ev rS_15_0 ?_
  refine ev rS_1_0 ?_
  refine ev (aS_2 (by omega) (by omega)) ?_
  refine ev rS_15_0 ?_
  refine evd (iS_1.trans (me 0 (by omega) (by omega))) ?_
  refine ev rS_15_0 ?_
  refine evd (iS_1.trans (me 1 (by omega) (by omega))) ?_
  refine ev rS_15_0 ?_
  refine evd (iS_1.trans (me 2 (by omega) (by omega))) ?_
  refine ev rS_15_1 ?_
  refine evd (iS_9.trans sc) ?_
  refine ev rS_15_1 ?_
  refine evd (iS_9.trans (X3_priceFrom hK hc n0 n1 wl)) ?_
  refine ev_g3 (by omega) (by omega) ?_
  refine evn ?_
  refine evd ((iL (by omega) (by omega)).trans (he 0 (by omega) (by omega) b0')) ?_
  refine ev_g3 (by omega) (by omega) ?_
  refine evn ?_
  refine evd ((iL (by omega) (by omega)).trans (he 1 (by omega) (by omega) b1')) ?_
  refine ev_g3 (by omega) (by omega) ?_
  refine evn ?_
  refine evd ((iL (by omega) (by omega)).trans (he 2 (by omega) (by omega) b2')) ?_
  refine ev_g3 (by omega) (by omega) ?_
  refine evn ?_
  refine evd ((iL (by omega) (by omega)).trans (mo 0 (by omega) (by omega) b0')) ?_
  refine evd ((iL (by omega) (by omega)).trans (mo 1 (by omega) (by omega) b1')) ?_
  refine evd ((iL (by omega) (by omega)).trans (mo 2 (by omega) (by omega) b2')) ?_
  refine evd ((iL (by omega) (by omega)).trans (lea 1 (by omega) (by omega) b1')) ?_
  refine evd ((iL (by omega) (by omega)).trans (lea 2 (by omega) (by omega) b2')) ?_
  refine evd ((iL (by omega) (by omega)).trans (lea 0 (by omega) (by omega) b0')) ?_
  exact u1
end O0
