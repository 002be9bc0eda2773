section N9
variable {b0 : Int} {σ τ σ' : Hp} {ξ ζ η : Int → Int → Int} {a b c i l m n v j w s L p q le : Int}
/-- the best of the lets ahead of one -/
def PB (f : Int → Int) (B : Int → Prop) (cur v L : Int) : Prop := (v = -1 ∧ ∀ L', B L' → cur ≤ L') ∨ (B L ∧ L < cur ∧ f L = v ∧ ∀ L', B L' → L' < cur → f L' ≤ v ∧ (L' < L → f L' < v))
theorem PB.skip {f : Int → Int} {B : Int → Prop} {cur cur' : Int} (h : PB f B cur v L) (hl : cur ≤ cur') (hs : ∀ L', B L' → cur ≤ L' → cur' ≤ L') : PB f B cur' v L := by
  rcases h with ⟨x, y⟩ | ⟨x, y, z, w⟩
  · exact Or.inl ⟨x, fun L' hL => hs L' hL (y L' hL)⟩
  · refine Or.inr ⟨x, by omega, z, fun L' hL hlt => w L' hL ?_⟩
    by_cases e : L' < cur
    · exact e
    · have := hs L' hL (by omega)
      omega
theorem PB.take {f : Int → Int} {B : Int → Prop} {cur : Int} (h : PB f B cur v L) (hb : B cur) (h0 : 0 ≤ f cur) : (f cur ≤ v → PB f B (cur + 1) v L) ∧ (¬ f cur ≤ v → PB f B (cur + 1) (f cur) cur) := by
  rcases h with ⟨x, y⟩ | ⟨x, y, z, w⟩
  · refine ⟨fun e => by omega, fun _ => Or.inr ⟨hb, by omega, rfl, fun L' hL hlt => ?_⟩⟩
    have := y L' hL
    have e : L' = cur := by omega
    subst e
    exact ⟨Int.le_refl _, fun q => by omega⟩
  · refine ⟨fun e => Or.inr ⟨x, by omega, z, fun L' hL hlt => ?_⟩, fun e => Or.inr ⟨hb, by omega, rfl, fun L' hL hlt => ?_⟩⟩
    · by_cases q : L' = cur
      · subst q
        exact ⟨e, fun q => by omega⟩
      · exact w L' hL (by omega)
    · by_cases q : L' = cur
      · subst q
        exact ⟨Int.le_refl _, fun q => by omega⟩
      · have := w L' hL (by omega)
        exact ⟨by omega, fun _ => by omega⟩
theorem PB.fin {f : Int → Int} {B : Int → Prop} {cur : Int} (h : PB f B cur v L) (he : ∃ L', B L') (hl : ∀ L', B L' → L' < cur) : IB f B v L := by
  rcases h with ⟨x, y⟩ | ⟨x, y, z, w⟩
  · obtain ⟨L', hL⟩ := he
    have := y L' hL
    have := hl L' hL
    omega
  · exact ⟨x, z, fun L' hL => w L' hL (hl L' hL)⟩
theorem PB.bd {f : Int → Int} {B : Int → Prop} {cur : Int} (h : PB f B cur v L) (hv : ∀ L, B L → 0 ≤ f L ∧ f L < 9000000000000000) : -1 ≤ v ∧ v < 9000000000000000 := by
  rcases h with ⟨x, y⟩ | ⟨x, y, z, w⟩
  · omega
  · have := hv L x
    omega
theorem dg_rec (h0 : 0 ≤ L) (h1 : L < 4096) : L = 256 * dg L 0 + 16 * dg L 1 + dg L 2 ∧ (0 ≤ dg L 0 ∧ dg L 0 < 16) ∧ (0 ≤ dg L 1 ∧ dg L 1 < 16) ∧ (0 ≤ dg L 2 ∧ dg L 2 < 16) := by
  have e0 : dg L 0 = L / 256 := if_pos rfl
  have e1 : dg L 1 = L / 16 % 16 := rfl
  have e2 : dg L 2 = L % 16 := rfl
  rw [e0, e1, e2]
  omega
theorem bx_rec (hb : bx ξ s L) : L = 256 * dg L 0 + 16 * dg L 1 + dg L 2 ∧ (lo ξ s 0 ≤ dg L 0 ∧ dg L 0 ≤ hi ξ s 0) ∧ (lo ξ s 1 ≤ dg L 1 ∧ dg L 1 ≤ hi ξ s 1) ∧ (lo ξ s 2 ≤ dg L 2 ∧ dg L 2 ≤ hi ξ s 2) := ⟨(dg_rec hb.1.1 hb.1.2).1, hb.2⟩
theorem bxOf {t0 t1 t2 : Int} (hB : LB ξ) (h0 : lo ξ s 0 ≤ t0 ∧ t0 ≤ hi ξ s 0) (h1 : lo ξ s 1 ≤ t1 ∧ t1 ≤ hi ξ s 1) (h2 : lo ξ s 2 ≤ t2 ∧ t2 ≤ hi ξ s 2) : bx ξ s (256 * t0 + 16 * t1 + t2) ∧ dg (256 * t0 + 16 * t1 + t2) 0 = t0 ∧ dg (256 * t0 + 16 * t1 + t2) 1 = t1 ∧ dg (256 * t0 + 16 * t1 + t2) 2 = t2 := by
  have l0 := lohi (s := s) (i := 0) hB (by omega) (by omega)
  have l1 := lohi (s := s) (i := 1) hB (by omega) (by omega)
  have l2 := lohi (s := s) (i := 2) hB (by omega) (by omega)
  have d := dg_of (a := t0) (b := t1) (c := t2) (by omega) (by omega) (by omega) (by omega) (by omega) (by omega)
  refine ⟨⟨⟨by omega, by omega⟩, ?_, ?_, ?_⟩, d⟩
  · rw [d.1]; exact h0
  · rw [d.2.1]; exact h1
  · rw [d.2.2]; exact h2
def GG (ξ : Int → Int → Int) (k : Nat) (n s i : Int) : Int := ξ 23 9 ^ (k + 1) * ξ 30 (ξ 33 n + 1) * hd ξ i (ms ξ s i)
def kp1 (ξ : Int → Int → Int) (s t0 t1 : Int) : Int := min (ms ξ s 1 - t1 + t0) (ξ 25 1)
def kp2 (ξ : Int → Int → Int) (s t0 t1 t2 : Int) : Int := min (ms ξ s 2 - t2 + t1 + (ms ξ s 1 - t1 + t0 - kp1 ξ s t0 t1)) (ξ 25 2)
def kp (ξ : Int → Int → Int) (s t0 t1 t2 : Int) : Int := (ms ξ s 0 - t0) * sd ξ 0 + kp1 ξ s t0 t1 * sd ξ 1 + kp2 ξ s t0 t1 t2
theorem kp_eq {t0 t1 t2 : Int} (hB : LB ξ) (h0 : 0 ≤ t0) : kp ξ s t0 t1 t2 = kept ξ (ms ξ s 0) (ms ξ s 1) (ms ξ s 2) t0 t1 t2 := by
  have m0 := ms_bd (s := s) hB (i := 0) (by omega) (by omega)
  have e0 : go0 ξ 0 (ms ξ s 0) t0 = 0 := by
    unfold go0 gx0 ovf
    omega
  have e1 : gx1 ξ 0 0 (ms ξ s 0) (ms ξ s 1) t0 t1 - go1 ξ 0 0 (ms ξ s 0) (ms ξ s 1) t0 t1 = kp1 ξ s t0 t1 := by
    unfold go1 ovf kp1
    have : gx1 ξ 0 0 (ms ξ s 0) (ms ξ s 1) t0 t1 = ms ξ s 1 - t1 + t0 := by unfold gx1; rw [e0]; omega
    rw [this]
    omega
  have e1' : go1 ξ 0 0 (ms ξ s 0) (ms ξ s 1) t0 t1 = ms ξ s 1 - t1 + t0 - kp1 ξ s t0 t1 := by
    have : gx1 ξ 0 0 (ms ξ s 0) (ms ξ s 1) t0 t1 = ms ξ s 1 - t1 + t0 := by unfold gx1; rw [e0]; omega
    omega
  have e2 : gx2 ξ 0 0 0 (ms ξ s 0) (ms ξ s 1) (ms ξ s 2) t0 t1 t2 - go2 ξ 0 0 0 (ms ξ s 0) (ms ξ s 1) (ms ξ s 2) t0 t1 t2 = kp2 ξ s t0 t1 t2 := by
    unfold go2 ovf kp2
    have : gx2 ξ 0 0 0 (ms ξ s 0) (ms ξ s 1) (ms ξ s 2) t0 t1 t2 = ms ξ s 2 - t2 + t1 + (ms ξ s 1 - t1 + t0 - kp1 ξ s t0 t1) := by unfold gx2; rw [e1']; omega
    rw [this]
    omega
  unfold kept gfl
  rw [e1, e2, e0, show gx0 ξ 0 (ms ξ s 0) t0 - 0 = ms ξ s 0 - t0 by unfold gx0; omega]
  unfold kp enc
  rw [show sd ξ 0 = (ξ 25 1 + 1) * (ξ 25 2 + 1) from if_pos rfl, show sd ξ 1 = ξ 25 2 + 1 from rfl, Int.add_mul ((ms ξ s 0 - t0) * (ξ 25 1 + 1)), Int.mul_assoc]
theorem csm_congr {g g' : Int → Int} (e : ∀ c, n < c → c < ξ 23 11 → g c = g' c) : csm ξ n g = csm ξ n g' := by
  unfold csm
  refine sf_congr _ _ (fun i a b => ?_)
  unfold cof
  rw [e i (by omega) (by omega)]
theorem val_eq {k : Nat} {t0 t1 t2 : Int} (hB : LB ξ) (hT : TB ξ) (n0 : 0 ≤ n) (n1 : n < ξ 23 11) (hk : lft ξ n = k + 1) (h0 : lo ξ s 0 ≤ t0 ∧ t0 ≤ hi ξ s 0) (h1 : lo ξ s 1 ≤ t1 ∧ t1 ≤ hi ξ s 1) (h2 : lo ξ s 2 ≤ t2 ∧ t2 ≤ hi ξ s 2) : GG ξ k n s 0 * t0 + GG ξ k n s 1 * t1 + GG ξ k n s 2 * t2 + MV ξ n (kp ξ s t0 t1 t2) = vL ξ (VV ξ k) k n s (256 * t0 + 16 * t1 + t2) := by
  obtain ⟨hb, d0, d1, d2⟩ := bxOf hB h0 h1 h2
  have n81 := hT.2.2.1
  have hI := hT.2.2.2.2.2.2
  have l0 := lohi (s := s) (i := 0) hB (by omega) (by omega)
  have l1 := lohi (s := s) (i := 1) hB (by omega) (by omega)
  have l2 := lohi (s := s) (i := 2) hB (by omega) (by omega)
  have m0 := ms_bd (s := s) hB (i := 0) (by omega) (by omega)
  have eM : MV ξ n (kp ξ s t0 t1 t2) = csm ξ n (fun c => VV ξ k c (flS ξ c s (256 * t0 + 16 * t1 + t2))) := by
    unfold MV
    rw [hk, show k + 1 - 1 = k by omega]
    refine csm_congr (fun c c0 c1 => ?_)
    have ef : flS ξ c (kp ξ s t0 t1 t2) 0 = flS ξ c s (256 * t0 + 16 * t1 + t2) := by
      unfold flS
      rw [flw_g, flw_g, dg_0.1, dg_0.2.1, dg_0.2.2, d0, d1, d2, kp_eq hB (by omega)]
      exact kept_flow hB (hI _ (by omega) (by omega)).1 (hI _ (by omega) (by omega)).1 (hI _ (by omega) (by omega)).1 m0.2 (by omega) (by omega) (by omega)
    show VV ξ k c (flS ξ c (kp ξ s t0 t1 t2) 0) = VV ξ k c (flS ξ c s (256 * t0 + 16 * t1 + t2))
    rw [ef]
  unfold vL
  rw [eM, ← hts_ern hB hb]
  unfold hts GG
  rw [d0, d1, d2]
  simp only [Int.mul_add, Int.mul_assoc]
theorem kp_bd {t0 t1 t2 : Int} (hB : LB ξ) (h0 : lo ξ s 0 ≤ t0 ∧ t0 ≤ hi ξ s 0) (h1 : lo ξ s 1 ≤ t1 ∧ t1 ≤ hi ξ s 1) (h2 : lo ξ s 2 ≤ t2 ∧ t2 ≤ hi ξ s 2) : 0 ≤ kp ξ s t0 t1 t2 ∧ kp ξ s t0 t1 t2 < ZZ ξ := by
  have l0 := lohi (s := s) (i := 0) hB (by omega) (by omega)
  have l1 := lohi (s := s) (i := 1) hB (by omega) (by omega)
  have l2 := lohi (s := s) (i := 2) hB (by omega) (by omega)
  rw [kp_eq hB (by omega)]
  exact gfl_bd hB (by omega) (by omega) (by omega) (by omega) (by omega) (by omega)
theorem sb_in {rec : Int → Int → Int → Int → Hp → Option (Int × Hp)} {k187 k198 : Int → Int → Int → Hp → Option (Int × Hp)} {k : Nat} {t0 t1 : Int} (hB : LB ξ) (hT : TB ξ) (hW : WH ξ) (n0 : 0 ≤ n) (n1 : n < ξ 23 11) (hk : lft ξ n = k + 1) (hle : le = k + 1) (hr : RC b0 ξ rec n k) (hv : ∀ L, bx ξ s L → 0 ≤ vL ξ (VV ξ k) k n s L ∧ vL ξ (VV ξ k) k n s L < 9000000000000000) (h0 : lo ξ s 0 ≤ t0 ∧ t0 ≤ hi ξ s 0) (h1 : lo ξ s 1 ≤ t1 ∧ t1 ≤ hi ξ s 1) : ∀ (m f : Nat) (v Lb t2 : Int) (σ : Hp) (ζ : Int → Int → Int), KI b0 ξ σ → Ch scrC ξ ζ → gf σ (ξ 10 n) 10 = ξ 15 2 → m < f → lo ξ s 2 ≤ t2 → t2 + m = hi ξ s 2 + 1 → PB (vL ξ (VV ξ k) k n s) (bx ξ s) (256 * t0 + 16 * t1 + t2) v Lb → ∃ σ' ζ' v' L', F_X6_searchBest_L277 rec k187 k198 (b0 + 15) (ξ 10 n) le (b0 + 3 + 2 * 0) (b0 + 3 + 2 * 1) (b0 + 3 + 2 * 2) (ms ξ s 0) (ms ξ s 1) (ms ξ s 2) (GG ξ k n s 0) (GG ξ k n s 1) (GG ξ k n s 2) (hi ξ s 0) (hi ξ s 1) (hi ξ s 2) (lo ξ s 1) (lo ξ s 2) t0 t1 (ms ξ s 1 - t1 + t0 - kp1 ξ s t0 t1) ((ms ξ s 0 - t0) * sd ξ 0 + kp1 ξ s t0 t1 * sd ξ 1) (GG ξ k n s 0 * t0 + GG ξ k n s 1 * t1) f v Lb t2 (S b0 σ ζ) = k198 v' L' (t1 + 1) (S b0 σ' ζ') ∧ KI b0 ξ σ' ∧ Ch scrC ξ ζ' ∧ Fp (n + 1) ξ σ σ' ∧ PB (vL ξ (VV ξ k) k n s) (bx ξ s) (256 * t0 + 16 * t1 + hi ξ s 2 + 1) v' L' := by
  have l0 := lohi (s := s) (i := 0) hB (by omega) (by omega)
  have l1 := lohi (s := s) (i := 1) hB (by omega) (by omega)
  have l2 := lohi (s := s) (i := 2) hB (by omega) (by omega)
  have m1 := ms_bd (s := s) hB (i := 1) (by omega) (by omega)
  have m2 := ms_bd (s := s) hB (i := 2) (by omega) (by omega)
  have g1 := hB.gr (l := 1) (by omega) (by omega)
  have g2 := hB.gr (l := 2) (by omega) (by omega)
  have k1b : -100 ≤ kp1 ξ s t0 t1 ∧ kp1 ξ s t0 t1 ≤ 100 := by unfold kp1; omega
  intro m
  induction m with
  | zero =>
    intro f v Lb t2 σ ζ K hc hf hm q1 q2 hP
    obtain ⟨f, rfl⟩ : ∃ g, f = g + 1 := ⟨f - 1, by omega⟩
    refine ⟨σ, ζ, v, Lb, ?_, K, hc, Fp.rf, ?_⟩
    · rw [F_X6_searchBest_L277]
      exact ev_bLe (by omega) (by omega) (by omega) (by omega) (fun q => by omega) (fun q => rfl)
    · rw [show 256 * t0 + 16 * t1 + hi ξ s 2 + 1 = 256 * t0 + 16 * t1 + t2 by omega]
      exact hP
  | succ m ih =>
    intro f v Lb t2 σ ζ K hc hf hm q1 q2 hP
    obtain ⟨f, rfl⟩ : ∃ g, f = g + 1 := ⟨f - 1, by omega⟩
    have h2 : lo ξ s 2 ≤ t2 ∧ t2 ≤ hi ξ s 2 := by omega
    have hb := bxOf hB h0 h1 h2
    have kb := kp_bd hB h0 h1 h2
    have ve := val_eq (k := k) hB hT n0 n1 hk h0 h1 h2
    have vb := hv _ hb.1
    have pb := hP.bd hv
    obtain ⟨σ1, ζ1, r1, r2, r3, r4⟩ := X6_meanFrom (s := kp ξ s t0 t1 t2) K hc hW n0 n1 hf hk hle kb.1 kb.2 hr
    have f1 : gf σ1 (ξ 10 n) 10 = ξ 15 2 := (r4 n 10 (K.1.lv n0 n1) (by omega) (by omega) (by omega)).trans hf
    have tk := hP.take hb.1 vb.1
    rw [show 256 * t0 + 16 * t1 + t2 + 1 = 256 * t0 + 16 * t1 + (t2 + 1) by omega] at tk
    have top : ∀ z, (vL ξ (VV ξ k) k n s (256 * t0 + 16 * t1 + t2) ≤ v → F_X6_searchBest_L277 rec k187 k198 (b0 + 15) (ξ 10 n) le (b0 + 3 + 2 * 0) (b0 + 3 + 2 * 1) (b0 + 3 + 2 * 2) (ms ξ s 0) (ms ξ s 1) (ms ξ s 2) (GG ξ k n s 0) (GG ξ k n s 1) (GG ξ k n s 2) (hi ξ s 0) (hi ξ s 1) (hi ξ s 2) (lo ξ s 1) (lo ξ s 2) t0 t1 (ms ξ s 1 - t1 + t0 - kp1 ξ s t0 t1) ((ms ξ s 0 - t0) * sd ξ 0 + kp1 ξ s t0 t1 * sd ξ 1) (GG ξ k n s 0 * t0 + GG ξ k n s 1 * t1) f v Lb (t2 + 1) (S b0 σ1 ζ1) = z) → (¬ vL ξ (VV ξ k) k n s (256 * t0 + 16 * t1 + t2) ≤ v → F_X6_searchBest_L277 rec k187 k198 (b0 + 15) (ξ 10 n) le (b0 + 3 + 2 * 0) (b0 + 3 + 2 * 1) (b0 + 3 + 2 * 2) (ms ξ s 0) (ms ξ s 1) (ms ξ s 2) (GG ξ k n s 0) (GG ξ k n s 1) (GG ξ k n s 2) (hi ξ s 0) (hi ξ s 1) (hi ξ s 2) (lo ξ s 1) (lo ξ s 2) t0 t1 (ms ξ s 1 - t1 + t0 - kp1 ξ s t0 t1) ((ms ξ s 0 - t0) * sd ξ 0 + kp1 ξ s t0 t1 * sd ξ 1) (GG ξ k n s 0 * t0 + GG ξ k n s 1 * t1) f (vL ξ (VV ξ k) k n s (256 * t0 + 16 * t1 + t2)) (256 * t0 + 16 * t1 + t2) (t2 + 1) (S b0 σ1 ζ1) = z) → F_X6_searchBest_L277 rec k187 k198 (b0 + 15) (ξ 10 n) le (b0 + 3 + 2 * 0) (b0 + 3 + 2 * 1) (b0 + 3 + 2 * 2) (ms ξ s 0) (ms ξ s 1) (ms ξ s 2) (GG ξ k n s 0) (GG ξ k n s 1) (GG ξ k n s 2) (hi ξ s 0) (hi ξ s 1) (hi ξ s 2) (lo ξ s 1) (lo ξ s 2) t0 t1 (ms ξ s 1 - t1 + t0 - kp1 ξ s t0 t1) ((ms ξ s 0 - t0) * sd ξ 0 + kp1 ξ s t0 t1 * sd ξ 1) (GG ξ k n s 0 * t0 + GG ξ k n s 1 * t1) (f + 1) v Lb t2 (S b0 σ ζ) = z := by
      intro z z1 z2
      rw [F_X6_searchBest_L277]
      refine ev_bLe (by omega) (by omega) (by omega) (by omega) (fun _ => ?_) (fun q => by omega)
      refine ev (CV_gr K.1 hc (by omega) (by omega)) ?_
      refine ev_g33 (by omega) (by omega) (by omega) (by omega) ?_
      refine evn ?_
      refine ev_g3 (by omega) (by omega) ?_
      refine evd (iS_15.trans r1) ?_
      refine evn ?_
      rw [ve]
      refine ev_g66 (by omega) (by omega) (by omega) (by omega) ?_
      refine cmpL_le (fun q => z1 q) (fun q => ?_)
      rw [sh3 (by omega) (by omega) (by omega) (by omega) (by omega) (by omega)]
      exact evn (z2 q)
    by_cases e : vL ξ (VV ξ k) k n s (256 * t0 + 16 * t1 + t2) ≤ v
    · obtain ⟨σ', ζ', v', L', u1, u2, u3, u4, u5⟩ := ih f v Lb (t2 + 1) σ1 ζ1 r2 r3 f1 (by omega) (by omega) (by omega) (tk.1 e)
      exact ⟨σ', ζ', v', L', top _ (fun _ => u1) (fun x => absurd e x), u2, u3, r4.trans u4, u5⟩
    · obtain ⟨σ', ζ', v', L', u1, u2, u3, u4, u5⟩ := ih f _ _ (t2 + 1) σ1 ζ1 r2 r3 f1 (by omega) (by omega) (by omega) (tk.2 e)
      exact ⟨σ', ζ', v', L', top _ (fun x => absurd x e) (fun _ => u1), u2, u3, r4.trans u4, u5⟩
end N9
