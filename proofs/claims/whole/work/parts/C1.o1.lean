section O1
variable {b0 : Int} {σ τ σ' : Hp} {ξ ζ η : Int → Int → Int} {a b c i l m n v j w s L p q le r x : Int}
theorem lft_0 (hT : TB ξ) (n0 : 0 ≤ n) (n1 : n < ξ 23 11) : lft ξ n = 0 ↔ ξ 33 n = ξ 23 8 - 1 := by
  have wk := hT.week n0 n1
  unfold lft
  omega
theorem X6_worthN (hW : WH ξ) : ∀ (d : Nat) (n s : Int) (σ : Hp) (ζ : Int → Int → Int), 0 ≤ n → n < ξ 23 11 → lft ξ n < d → 0 ≤ s → s < ZZ ξ → KI b0 ξ σ → Ch scrC ξ ζ → ∃ σ' ζ', F_X6_wN d (b0 + 15) (ξ 10 n) s (lft ξ n : Int) (S b0 σ ζ) = some (VV ξ (lft ξ n) n s, S b0 σ' ζ') ∧ KI b0 ξ σ' ∧ Ch scrC ξ ζ' ∧ Fp n ξ σ σ' := by
  intro d
  induction d with
  | zero => intro n s σ ζ n0 n1 hl; omega
  | succ d ih =>
    intro n s σ ζ n0 n1 hl s0 s1 h hc
    have hT := h.1.2.1
    have hB := h.1.1
    have hz := ZZ_le hB
    have l10 := lft_le hT n0 n1
    have cf := Cf_scrC hc
    rw [F_X6_wN, F_X6_worthOf]
    by_cases e : lft ξ n = 0
    · refine ⟨σ, ζ, ?_, h, hc, Fp.rf⟩
      refine ev_bLe (by omega) (by omega) (by omega) (by omega) (fun _ => ?_) (fun q => by omega)
      refine ev rS_15_0 ?_
      have q := X4_endWorth (b0 := b0) (σ := σ) (s := s) (hB.cf cf) (CV_ch hc h.1.2.2.1) s0 (by omega)
      rw [endv_cf cf] at q
      refine evd (iS_1.trans q) ?_
      rw [e]
      rfl
    · obtain ⟨k, hk⟩ : ∃ k, lft ξ n = k + 1 := ⟨lft ξ n - 1, by omega⟩
      have hr : RC b0 ξ (F_X6_wN d) n k := by
        intro c t σ ζ c0 c1 c2 t0 t1 K C
        have lc := lft_child hT (c := c) (by omega) c1 c2
        have lk : lft ξ c = k := by omega
        have := ih c t σ ζ (by omega) c1 (by omega) t0 t1 K C
        rw [lk] at this
        exact this
      obtain ⟨σ1, r1, r2, r3, r4⟩ := X6_refresh h hc hW.1 n0 n1
      have ln' := h.1.lv n0 n1
      have on := r2.1.nd n0 n1
      have rw8 := r2.rows n0 n1 r4
      have ent := (((r2.2.1.2 n ln').2 n1 r4).2.2 s s0 s1).1
      have m1 := BD_mono (show k + 1 ≤ 10 by omega)
      have b10 := BD_10
      have vb := VV_bd hB hT hW (lft ξ n) n s n0 n1 rfl
      rw [hk] at vb
      have eb : -1 ≤ gf σ1 (gf σ1 (ξ 10 n) 8) s ∧ gf σ1 (gf σ1 (ξ 10 n) 8) s < 9000000000000000 := by
        rw [hk] at ent
        rcases ent with x | x <;> omega
      have top : ∀ z, (gf σ1 (gf σ1 (ξ 10 n) 8) s = -1 → (bd (iv 7 (S b0 σ1 ζ) (b0 + 15) (F_X6_searchBest (F_X6_wN d) (b0 + 15) (ξ 10 n) s (lft ξ n : Int) (S b0 σ1 ζ))) fun jv9 σ10 => (aw 12 σ10 (gf σ1 (ξ 10 n) 8) s jv9).bind fun σ11 => F_X6_worthOf_B64 (F_X6_wN d) s (gf σ1 (ξ 10 n) 8) σ11) = z) → (¬ gf σ1 (gf σ1 (ξ 10 n) 8) s = -1 → F_X6_worthOf_B64 (F_X6_wN d) s (gf σ1 (ξ 10 n) 8) (S b0 σ1 ζ) = z) → (bLe (lft ξ n : Int) 0 ((rd 7 (S b0 σ ζ) (b0 + 15) 0).bind fun jv1 => bd (iv 5 (S b0 σ ζ) jv1 (F_X4_endWorth jv1 s (S b0 σ ζ))) fun jv2 σ3 => some (jv2, σ3)) (bd (iv 7 (S b0 σ ζ) (b0 + 15) (F_X6_refresh (b0 + 15) (ξ 10 n) (S b0 σ ζ))) fun jv4 σ5 => (rd 2 σ5 (ξ 10 n) 8).bind fun jv6 => bN jv6 (some (0, σ5)) (bLt s 0 (some (0, σ5)) ((al 12 σ5 jv6).bind fun jv7 => bLt s jv7 ((ar 12 σ5 jv6 s).bind fun jv8 => g66 jv8 (-1) (bEq (cmpL jv8 (-1)) 0 (bd (iv 7 σ5 (b0 + 15) (F_X6_searchBest (F_X6_wN d) (b0 + 15) (ξ 10 n) s (lft ξ n : Int) σ5)) fun jv9 σ10 => (aw 12 σ10 jv6 s jv9).bind fun σ11 => F_X6_worthOf_B64 (F_X6_wN d) s jv6 σ11) (F_X6_worthOf_B64 (F_X6_wN d) s jv6 σ5))) (some (0, σ5)))))) = z := by
        intro z z1 z2
        refine ev_bLe (by omega) (by omega) (by omega) (by omega) (fun q => by omega) (fun _ => ?_)
        refine evd (iS_15.trans r1) ?_
        refine ev (rd_o on) ?_
        refine ev_bN (fun y => by have := rw8.1.1; omega) (fun y => ?_)
        refine ev_bLt (by omega) (by omega) (by omega) (by omega) (fun q => by omega) (fun _ => ?_)
        refine ev (al_o rw8.1.2 (by omega)) ?_
        refine ev_bLt (by omega) (by omega) (by omega) (by omega) (fun _ => ?_) (fun q => by omega)
        refine ev (ar_o rw8.1.2 s0 s1 (by omega)) ?_
        refine ev_g66 (by omega) (by omega) (by omega) (by omega) ?_
        exact cmpL_eq (fun q => z1 q) (fun q => z2 q)
      by_cases eu : gf σ1 (gf σ1 (ξ 10 n) 8) s = -1
      · obtain ⟨σ2, ζ2, L2, t1, t2, t3, t4, t5, t6⟩ := X6_search r2 hc hW n0 n1 r4 hk (by omega : (lft ξ n : Int) = ((k + 1 : Nat) : Int)) s0 s1 hr
        have f2 : gf σ2 (ξ 10 n) 10 = ξ 15 2 := (t6 n 10 ln' (by omega) (by omega) (by omega)).trans r4
        have p2 : gf σ2 (ξ 10 n) 8 = gf σ1 (ξ 10 n) 8 := t6 n 8 ln' (by omega) (by omega) (by omega)
        have q2 := t4.rows n0 n1 f2
        have on2 := t4.1.nd n0 n1
        have k2 := KI_row (k := 8) (s := s) t4 n0 n1 f2 (Or.inl ⟨rfl, rfl⟩)
        have fp := Fp_row (k := 8) (s := s) (v := VV ξ (lft ξ n) n s) (m := n + 1) t4 n0 n1 f2 (by omega)
        have on3 := k2.1.nd n0 n1
        have g3 : gf (wr σ2 (gf σ2 (ξ 10 n) 8) s (VV ξ (lft ξ n) n s)) (ξ 10 n) 8 = gf σ1 (ξ 10 n) 8 := (fp n 8 ln' (by omega) (by omega) (by omega)).trans p2
        rw [p2] at q2 k2 fp on3 g3
        refine ⟨wr σ2 (gf σ1 (ξ 10 n) 8) s (VV ξ (lft ξ n) n s), ζ2, top _ (fun _ => ?_) (fun x => absurd eu x), k2, t5, (r3.trans ((t6.trans fp).mono (by omega)))⟩
        refine evd (iS_15.trans t1) ?_
        rw [← hk]
        refine ev (aw_o q2.1.2 s0 s1 (by omega)) ?_
        rw [F_X6_worthOf_B64]
        refine ev (ar_o (ob_wr q2.1.2) s0 s1 (by omega)) ?_
        rw [gf_wr_s]
      · refine ⟨σ1, ζ, top _ (fun x => absurd x eu) (fun _ => ?_), r2, hc, r3⟩
        rw [F_X6_worthOf_B64]
        refine ev (ar_o rw8.1.2 s0 s1 (by omega)) ?_
        rcases ent with x | x
        · exact absurd x eu
        · rw [x]
theorem RC_12 {k : Nat} (hT : TB ξ) (hW : WH ξ) (n0 : 0 ≤ n) (n1 : n < ξ 23 11) (hk : lft ξ n = k + 1) : RC b0 ξ (F_X6_wN 12) n k := by
  have l10 := lft_le hT n0 n1
  intro c t σ ζ c0 c1 c2 t0 t1 K C
  have lc := lft_child hT (c := c) (by omega) c1 c2
  have lk : lft ξ c = k := by omega
  have := X6_worthN hW 12 c t σ ζ (by omega) c1 (by omega) t0 t1 K C
  rw [lk] at this
  exact this
theorem X6_worthAt (h : KI b0 ξ σ) (hc : Ch scrC ξ ζ) (hW : WH ξ) (n0 : 0 ≤ n) (n1 : n < ξ 23 11) (s0 : 0 ≤ s) (s1 : s < ZZ ξ) : ∃ σ' ζ', F_X6_worthAt (b0 + 15) (ξ 10 n) s (S b0 σ ζ) = some (VV ξ (lft ξ n) n s, S b0 σ' ζ') ∧ KI b0 ξ σ' ∧ Ch scrC ξ ζ' := by
  have l10 := lft_le h.1.2.1 n0 n1
  obtain ⟨σ', ζ', r1, r2, r3, r4⟩ := X6_worthN hW 12 n s σ ζ n0 n1 (by omega) s0 s1 h hc
  refine ⟨σ', ζ', ?_, r2, r3⟩
  rw [F_X6_worthAt]
  refine ev rS_15_1 ?_
  refine evd (iS_9.trans (X3_weeksLeft h.1 hc n0 n1)) ?_
  exact evd (iS_15.trans r1) rfl
theorem X6_bestLets {k : Nat} (h : KI b0 ξ σ) (hc : Ch scrC ξ ζ) (hW : WH ξ) (n0 : 0 ≤ n) (n1 : n < ξ 23 11) (hk : lft ξ n = k + 1) (s0 : 0 ≤ s) (s1 : s < ZZ ξ) : ∃ σ' ζ' L, F_X6_bestLets (b0 + 15) (ξ 10 n) s (S b0 σ ζ) = some (L, S b0 σ' ζ') ∧ IB (vL ξ (VV ξ k) k n s) (bx ξ s) (VV ξ (k + 1) n s) L ∧ KI b0 ξ σ' ∧ Ch scrC ξ ζ' := by
  obtain ⟨σ1, r1, r2, r3, r4⟩ := X6_refresh h hc hW.1 n0 n1
  obtain ⟨σ2, ζ2, L2, t1, t2, t3, t4, t5, t6⟩ := X6_search r2 hc hW n0 n1 r4 hk (by omega : (lft ξ n : Int) = ((k + 1 : Nat) : Int)) s0 s1 (RC_12 h.1.2.1 hW n0 n1 hk)
  refine ⟨σ2, ζ2, L2, ?_, t2, t4, t5⟩
  rw [F_X6_bestLets]
  refine evd (iS_15.trans r1) ?_
  refine ev rS_15_1 ?_
  refine evd (iS_9.trans (X3_weeksLeft r2.1 hc n0 n1)) ?_
  refine evd (iS_15.trans t1) ?_
  refine ev rS_15_3 ?_
  rw [t3]
theorem Z7_worth (h : KI b0 ξ σ) (hc : Ch scrC ξ ζ) (hn : R3 n) (hs : R3 s) (hA : A_worth ξ n s r) : ∃ σ' ζ', F_X7_worth b0 n s (S b0 σ ζ) = some (r, S b0 σ' ζ') ∧ KI b0 ξ σ' ∧ Ch scrC ξ ζ' := by
  by_cases q : okNS ξ n s ∧ WH ξ
  · obtain ⟨σ', ζ', r1, r2, r3⟩ := X6_worthAt (s := s) h hc q.2 q.1.1.1 (by have := q.1.1.2; omega) q.1.2.1 (by have := q.1.2.2; omega)
    refine ⟨σ', ζ', ?_, r2, r3⟩
    rw [F_X7_worth]
    refine pre_NS h.1 hc hn hs (fun y => absurd q.1 y) (fun _ => ?_)
    refine pre_W h.1 hc (fun y => absurd q.2 y) (fun _ => ?_)
    refine ev rS_0_2 ?_
    refine evd (iS_15.trans r1) ?_
    rw [hA.1 q]
  · refine ⟨σ, ζ, ?_, h, hc⟩
    rw [F_X7_worth, hA.2 q]
    refine pre_NS h.1 hc hn hs (fun _ => rfl) (fun y => ?_)
    exact pre_W h.1 hc (fun _ => rfl) (fun y2 => absurd ⟨y, y2⟩ q)
theorem Z7_policy (h : KI b0 ξ σ) (hc : Ch scrC ξ ζ) (hn : R3 n) (hs : R3 s) (hl : R3 l) (hA : A_policy ξ n s l r) : ∃ σ' ζ', F_X7_policy b0 n s l (S b0 σ ζ) = some (r, S b0 σ' ζ') ∧ KI b0 ξ σ' ∧ Ch scrC ξ ζ' := by
  have hB := h.1.1
  have hT := h.1.2.1
  have nl := hB.1
  have top : ∀ z, (¬ (okNS ξ n s ∧ (0 ≤ l ∧ l ≤ ξ 23 1 - 1)) → some (-1, S b0 σ ζ) = z) → (okNS ξ n s ∧ (0 ≤ l ∧ l ≤ ξ 23 1 - 1) → ¬ WH ξ → some (-3, S b0 σ ζ) = z) → (okNS ξ n s ∧ (0 ≤ l ∧ l ≤ ξ 23 1 - 1) → WH ξ → ξ 33 n = ξ 23 8 - 1 → some (-4, S b0 σ ζ) = z) → (okNS ξ n s ∧ (0 ≤ l ∧ l ≤ ξ 23 1 - 1) → WH ξ → ¬ ξ 33 n = ξ 23 8 - 1 → (bd (iv 7 (S b0 σ ζ) (b0 + 15) (F_X6_bestLets (b0 + 15) (ξ 10 n) s (S b0 σ ζ))) fun jv16 σ17 => bd (F_X4_letOf jv16 l σ17) fun jv18 σ19 => some (jv18, σ19)) = z) → F_X7_policy b0 n s l (S b0 σ ζ) = z := by
    intro z z1 z2 z3 z4
    rw [F_X7_policy]
    refine pre_NS h.1 hc hn hs (fun y => z1 (fun x => y x.1)) (fun q1 => ?_)
    refine pre_L h.1 hc hl (fun y => z1 (fun x => y x.2)) (fun q2 => ?_)
    refine pre_W h.1 hc (fun y => z2 ⟨q1, q2⟩ y) (fun q3 => ?_)
    refine ev rS_0_1 ?_
    refine evd (iS_9.trans (X3_isLast h.1 hc q1.1.1 (by have := q1.1.2; omega))) ?_
    unfold lst
    refine ev_if (fun q4 => ?_) (fun q4 => z3 ⟨q1, q2⟩ q3 q4)
    refine ev rS_0_2 ?_
    exact z4 ⟨q1, q2⟩ q3 q4
  by_cases q : okNS ξ n s ∧ (0 ≤ l ∧ l ≤ ξ 23 1 - 1)
  · by_cases qw : WH ξ
    · have n0 := q.1.1.1
      have n1 : n < ξ 23 11 := by have := q.1.1.2; omega
      by_cases ql : ξ 33 n = ξ 23 8 - 1
      · exact ⟨σ, ζ, top _ (fun y => absurd q y) (fun _ y => absurd qw y) (fun _ _ _ => by rw [((hA.1 q).1 qw).1 ql]) (fun _ _ y => absurd ql y), h, hc⟩
      · obtain ⟨k, hk⟩ : ∃ k, lft ξ n = k + 1 := ⟨lft ξ n - 1, by have := (lft_0 hT n0 n1).mp; omega⟩
        obtain ⟨σ', ζ', L, r1, r2, r3, r4⟩ := X6_bestLets (s := s) h hc qw n0 n1 hk q.1.2.1 (by have := q.1.2.2; omega)
        obtain ⟨L', a1, a2⟩ := ((hA.1 q).1 qw).2 k hk
        have el := (r2.uniq a1).2
        refine ⟨σ', ζ', top _ (fun y => absurd q y) (fun _ y => absurd qw y) (fun _ _ y => absurd y ql) (fun _ _ _ => ?_), r3, r4⟩
        refine evd (iS_15.trans r1) ?_
        refine evd (X4_letOf r2.1.1.1 r2.1.1.2 q.2.1 (by omega)) ?_
        rw [a2, el]
    · exact ⟨σ, ζ, top _ (fun y => absurd q y) (fun _ _ => by rw [(hA.1 q).2 qw]) (fun _ y => absurd y qw) (fun _ y => absurd y qw), h, hc⟩
  · exact ⟨σ, ζ, top _ (fun _ => by rw [hA.2 q]) (fun y => absurd y q) (fun y => absurd y q) (fun y => absurd y q), h, hc⟩
end O1
