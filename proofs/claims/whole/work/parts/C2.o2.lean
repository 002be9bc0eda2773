section O2
variable {b0 : Int} {σ τ σ' : Hp} {ξ ζ η : Int → Int → Int} {a b c i l m n v j w s L p q le r x : Int}
theorem Z7_water (h : KI b0 ξ σ) (hc : Ch scrC ξ ζ) (hn : R3 n) (hs : R3 s) (hl : R3 l) (hA : A_water ξ n s l r) : ∃ σ' ζ', F_X7_water b0 n s l (S b0 σ ζ) = some (r, S b0 σ' ζ') ∧ KI b0 ξ σ' ∧ Ch scrC ξ ζ' := by
  have hB := h.1.1
  have hT := h.1.2.1
  have nl := hB.1
  have hz := ZZ_le hB
  have cf := Cf_scrC hc
  have b00 := h.1.2.2.2.2.1.2.2.2.2
  have eS := X4_hasState (b0 := b0) (σ := σ) (hB.cf cf) (CV_ch hc h.1.2.2.1) hs
  rw [ZZ_cf cf] at eS
  have eL := X4_lakeAt (b0 := b0) (σ := σ) (hB.cf cf) (CV_ch hc h.1.2.2.1) hl
  rw [cf.2 1 (by omega)] at eL
  have top : ∀ z, (¬ okW ξ n s l → some (-9000000000000000000, S b0 σ ζ) = z) → (okW ξ n s l → (bd (iv 7 (S b0 σ ζ) (b0 + 15) (F_X6_worthAt (b0 + 15) (ξ 10 n) (s + sd ξ l) (S b0 σ ζ))) fun jv18 σ19 => (rd 8 σ19 b0 2).bind fun jv20 => bd (iv 7 σ19 jv20 (F_X6_worthAt jv20 (ξ 10 n) s σ19)) fun jv21 σ22 => some ((jv18 - jv21), σ22)) = z) → F_X7_water b0 n s l (S b0 σ ζ) = z := by
    intro z z1 z2
    rw [F_X7_water]
    refine ev rS_0_1 ?_
    refine evd (iS_9.trans (X3_nodeAt h.1 hc hn)) ?_
    refine ev rS_0_0 ?_
    refine evd (iS_1.trans eL) ?_
    by_cases q1 : 0 ≤ n ∧ n ≤ ξ 23 11 - 1
    · rw [if_pos q1]
      have lp := (h.1.lv (n := n) q1.1 (by omega)).2
      refine ev_bN (fun q => by omega) (fun _ => ?_)
      by_cases q2 : 0 ≤ l ∧ l < ξ 23 1
      · rw [if_pos q2]
        refine ev_bN (fun q => by omega) (fun _ => ?_)
        refine ev rS_0_0 ?_
        refine evd (iS_1.trans eS) ?_
        refine ev_if (fun q3 => z1 (fun y => by have := y.1.2; omega)) (fun q3 => ?_)
        refine pre_W h.1 hc (fun y => z1 (fun y2 => y y2.2.2.2)) (fun q4 => ?_)
        have mb := ms_bd (s := s) (i := l) hB q2.1 (by omega)
        have gb := hB.gr (l := l) q2.1 (by omega)
        have me := X4_measureOf (b0 := b0) (σ := σ) (s := s) (hB.cf cf) (CV_ch hc h.1.2.2.1) q2.1 (by omega) q3.1 (by omega)
        rw [ms_cf cf] at me
        refine ev rS_0_0 ?_
        refine evd (iS_1.trans me) ?_
        refine ev (CV_gr h.1 hc q2.1 (by omega)) ?_
        refine ev_bLt (by omega) (by omega) (by omega) (by omega) (fun q5 => ?_) (fun q5 => z1 (fun y => by have := y.2.2.1; omega))
        refine ev rS_0_2 ?_
        refine ev (CV_sd h.1 hc q2.1 (by omega)) ?_
        exact z2 ⟨⟨q1, by omega⟩, by omega, by omega, q4⟩
      · rw [if_neg q2]
        exact ev_bN (fun _ => z1 (fun y => by have := y.2.1; omega)) (fun q => by omega)
    · rw [if_neg q1]
      exact ev_bN (fun _ => z1 (fun y => q1 y.1.1)) (fun q => by omega)
  by_cases ok : okW ξ n s l
  · obtain ⟨⟨⟨a1, a2⟩, a3, a4⟩, a5, a6, a7⟩ := id ok
    have mb := ms_bd (s := s) (i := l) hB a5.1 (by omega)
    have ss := sd_st (l := l) hB a3 (by omega) a5.1 (by omega) (by omega)
    obtain ⟨σ1, ζ1, r1, r2, r3⟩ := X6_worthAt (s := s + sd ξ l) h hc a7 a1 (by omega) ss.1 ss.2
    obtain ⟨σ2, ζ2, t1, t2, t3⟩ := X6_worthAt (s := s) r2 r3 a7 a1 (by omega) a3 (by omega)
    refine ⟨σ2, ζ2, top _ (fun y => absurd ok y) (fun _ => ?_), t2, t3⟩
    refine evd (iS_15.trans r1) ?_
    refine ev rS_0_2 ?_
    refine evd (iS_15.trans t1) ?_
    rw [hA.1 ok]
  · exact ⟨σ, ζ, top _ (fun _ => by rw [hA.2 ok]) (fun y => absurd y ok), h, hc⟩
theorem cneeds_loop (hB : LB ξ) (hT : TB ξ) (hW : WH ξ) (n0 : 0 ≤ n) (n1 : n < ξ 23 11) (hv : R6 v) : ∀ (m f : Nat) (be fe s : Int) (σ : Hp) (ζ : Int → Int → Int), m < f → 0 ≤ s → s + m = ZZ ξ → KI b0 ξ σ → Ch scrC ξ ζ → NP ξ n v s be → (0 ≤ fe ∧ fe ≤ 91) → (0 ≤ be → fe = sm ξ be) → (be < 0 → fe = 91) → ∃ r σ' ζ', F_X7_needs_L38 b0 v (ξ 10 n) f be fe s (S b0 σ ζ) = some (r, S b0 σ' ζ') ∧ NP ξ n v (ZZ ξ) r ∧ KI b0 ξ σ' ∧ Ch scrC ξ ζ' := by
  have hz := ZZ_le hB
  have l10 := lft_le hT n0 n1
  intro m
  induction m with
  | zero =>
    intro f be fe s σ ζ hf s0 he K hc hP h1 h2 h3
    obtain ⟨f, rfl⟩ : ∃ g, f = g + 1 := ⟨f - 1, by omega⟩
    have e : s = ZZ ξ := by omega
    have e12 : ζ 1 2 = ZZ ξ := by rw [hc 1 2 (by unfold scrC; omega)]; exact K.1.2.2.1.2.1
    subst e
    refine ⟨be, σ, ζ, ?_, hP, K, hc⟩
    rw [F_X7_needs_L38]
    refine ev rS_0_0 ?_
    refine ev rS_1_2 ?_
    rw [e12]
    exact ev_bLt (by omega) (by omega) (by omega) (by omega) (fun q => by omega) (fun _ => rfl)
  | succ m ih =>
    intro f be fe s σ ζ hf s0 he K hc hP h1 h2 h3
    obtain ⟨f, rfl⟩ : ∃ g, f = g + 1 := ⟨f - 1, by omega⟩
    have cf := Cf_scrC hc
    have e12 : ζ 1 2 = ZZ ξ := by rw [hc 1 2 (by unfold scrC; omega)]; exact K.1.2.2.1.2.1
    have su := X4_sumOf (b0 := b0) (σ := σ) (s := s) (hB.cf cf) (CV_ch hc K.1.2.2.1) s0 (by omega)
    rw [ms_cf cf, show ms ξ s 0 + ms ξ s 1 + ms ξ s 2 = sm ξ s from rfl] at su
    have sb : 0 ≤ sm ξ s ∧ sm ξ s ≤ 90 := by
      have m0 := ms_bd (s := s) (i := 0) hB (by omega) (by omega)
      have m1 := ms_bd (s := s) (i := 1) hB (by omega) (by omega)
      have m2 := ms_bd (s := s) (i := 2) hB (by omega) (by omega)
      have g0 := hB.gr (l := 0) (by omega) (by omega)
      have g1 := hB.gr (l := 1) (by omega) (by omega)
      have g2 := hB.gr (l := 2) (by omega) (by omega)
      unfold sm
      omega
    have st := hP.step (few := fe) h2 s0
    have top : ∀ z, (¬ sm ξ s < fe → F_X7_needs_L38 b0 v (ξ 10 n) f be fe (s + 1) (S b0 σ ζ) = z) → (sm ξ s < fe → (bd (iv 7 (S b0 σ ζ) (b0 + 15) (F_X6_worthAt (b0 + 15) (ξ 10 n) s (S b0 σ ζ))) fun jv12 σ13 => g66 jv12 v (bLt (cmpL jv12 v) 0 (F_X7_needs_L38 b0 v (ξ 10 n) f be fe (s + 1) σ13) (F_X7_needs_L38 b0 v (ξ 10 n) f s (sm ξ s) (s + 1) σ13))) = z) → F_X7_needs_L38 b0 v (ξ 10 n) (f + 1) be fe s (S b0 σ ζ) = z := by
      intro z z1 z2
      rw [F_X7_needs_L38]
      refine ev rS_0_0 ?_
      refine ev rS_1_2 ?_
      rw [e12]
      refine ev_bLt (by omega) (by omega) (by omega) (by omega) (fun _ => ?_) (fun q => by omega)
      refine ev rS_0_0 ?_
      refine evd (iS_1.trans su) ?_
      refine ev_bLt (by omega) (by omega) (by omega) (by omega) (fun q => ?_) (fun q => z1 q)
      exact ev rS_0_2 (z2 q)
    by_cases q : sm ξ s < fe
    · obtain ⟨σ1, ζ1, r1, r2, r3⟩ := X6_worthAt (s := s) K hc hW n0 n1 s0 (by omega)
      have vb := VV_bd hB hT hW (lft ξ n) n s n0 n1 rfl
      have m1 := BD_mono l10
      have b10 := BD_10
      by_cases q2 : VV ξ (lft ξ n) n s < v
      · obtain ⟨r, σ', ζ', u1, u2⟩ := ih f be fe (s + 1) σ1 ζ1 (by omega) (by omega) (by omega) r2 r3 (st.1 q2) h1 h2 h3
        refine ⟨r, σ', ζ', top _ (fun x => absurd q x) (fun _ => ?_), u2⟩
        refine evd (iS_15.trans r1) ?_
        refine ev_g66 (by omega) (by omega) hv.1 hv.2 ?_
        exact cmpL_lt (fun _ => u1) (fun x => absurd q2 x)
      · obtain ⟨r, σ', ζ', u1, u2⟩ := ih f s (sm ξ s) (s + 1) σ1 ζ1 (by omega) (by omega) (by omega) r2 r3 ((st.2 q2).1 (Or.inr q)) (by omega) (fun _ => rfl) (fun x => by omega)
        refine ⟨r, σ', ζ', top _ (fun x => absurd q x) (fun _ => ?_), u2⟩
        refine evd (iS_15.trans r1) ?_
        refine ev_g66 (by omega) (by omega) hv.1 hv.2 ?_
        exact cmpL_lt (fun x => absurd x q2) (fun _ => u1)
    · have be0 : ¬ be < 0 := fun x => by have := h3 x; omega
      have nx : NP ξ n v (s + 1) be := by
        by_cases q2 : VV ξ (lft ξ n) n s < v
        · exact st.1 q2
        · exact (st.2 q2).2 (fun x => by
            rcases x with x | x
            · exact be0 x
            · exact q x)
      obtain ⟨r, σ', ζ', u1, u2⟩ := ih f be fe (s + 1) σ ζ (by omega) (by omega) (by omega) K hc nx h1 h2 h3
      exact ⟨r, σ', ζ', top _ (fun _ => u1) (fun x => absurd x q), u2⟩
theorem Z7_needs (h : KI b0 ξ σ) (hc : Ch scrC ξ ζ) (hn : R3 n) (hv : R6 v) (hA : A_needs ξ n v r) : ∃ σ' ζ', F_X7_needs b0 n v (S b0 σ ζ) = some (r, S b0 σ' ζ') ∧ KI b0 ξ σ' ∧ Ch scrC ξ ζ' := by
  have hz := ZZ_le h.1.1
  by_cases q : 0 ≤ n ∧ n ≤ ξ 23 11 - 1
  · by_cases qw : WH ξ
    · obtain ⟨r', σ', ζ', u1, u2, u3, u4⟩ := cneeds_loop h.1.1 h.1.2.1 qw q.1 (by omega) hv (ZZ ξ).toNat fu (-6) 91 0 σ ζ (fuN (by omega)) (Int.le_refl _) (by omega) h hc (Or.inl ⟨rfl, fun s' a b => by omega⟩) (by omega) (fun x => by omega) (fun _ => rfl)
      refine ⟨σ', ζ', ?_, u3, u4⟩
      rw [F_X7_needs, ← u2.uniq ((hA.1 q).1 qw)]
      refine pre_N h.1 hc hn (fun y => absurd q y) (fun _ => ?_)
      exact pre_W h.1 hc (fun y => absurd qw y) (fun _ => u1)
    · refine ⟨σ, ζ, ?_, h, hc⟩
      rw [F_X7_needs, (hA.1 q).2 qw]
      refine pre_N h.1 hc hn (fun y => absurd q y) (fun y => ?_)
      exact pre_W h.1 hc (fun _ => rfl) (fun y2 => absurd y2 qw)
  · refine ⟨σ, ζ, ?_, h, hc⟩
    rw [F_X7_needs, hA.2 q]
    exact pre_N h.1 hc hn (fun _ => rfl) (fun y => absurd y q)
end O2
