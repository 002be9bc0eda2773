section O4
variable {b0 : Int} {σ τ σ' : Hp} {ξ ζ η : Int → Int → Int} {a b c i l m n v j w s L p q le r x t t' mm fr st : Int}
theorem WT_ex (h : KI b0 ξ σ) (f0 : 0 ≤ fr) (f1 : fr < ξ 23 11) (s0 : 0 ≤ st) (s1 : st < ZZ ξ) : ∃ T, WT ξ fr st T (ξ 23 11) := by
  obtain ⟨σ', ζ', r1, r2, r3, r4, r5⟩ := X5_go (st := st) h Ch.rf f0 f1 s0 s1
  exact ⟨_, r4⟩
theorem lfs_bd {T : Int → Int → Int} {g : Int → Int} (hT : TB ξ) (hg : ∀ n, 0 ≤ n → n < ξ 23 11 → T 43 n = 1 → 0 ≤ g n ∧ g n ≤ 1) : R3 (lfs ξ T g) := by
  have n81 := hT.2.2.1
  have := sf_bd (f := lfp ξ T g) (M := 1) (ξ 23 11).toNat 0 (fun i a b => by
    unfold lfp
    by_cases e : T 43 i = 1 ∧ ξ 33 i = ξ 23 8 - 1
    · rw [if_pos e]; exact hg i a (by omega) e.1
    · rw [if_neg e]; omega)
  rw [lfs_def]
  exact ⟨by omega, by omega⟩
theorem scrPZ (d k : Int) (h : scrP d k) : scrZ d k := by unfold scrP scr at h; unfold scrZ; omega
theorem scrVZ (d k : Int) (h : scrV d k) : scrZ d k := by unfold scrV scr at h; unfold scrZ; omega
theorem VV_R (h : KI b0 ξ σ) (hW : WH ξ) (n0 : 0 ≤ n) (n1 : n < ξ 23 11) : 0 ≤ VV ξ (lft ξ n) n s ∧ VV ξ (lft ξ n) n s < 9000000000000000 := by
  have vb := VV_bd h.1.1 h.1.2.1 hW (lft ξ n) n s n0 n1 rfl
  have m1 := BD_mono (lft_le h.1.2.1 n0 n1)
  have b10 := BD_10
  omega
theorem T_worth (h : INV b0 ξ σ t) (ht : t ≤ t') (hn : R3 n) (hs : R3 s) : Step b0 σ ξ t' (F_X7_worth b0 n s) (F_X8_worth (b0 + 23) n s) R6 :=
  Step_q h ht scrPZ (fun r hA => Z7_worth h.1 Ch.rf hn hs hA) (fun σ ζ hM => Y8_worth h.1.1.1 h.1.1.2.1 hM hn hs) (fun r hA => by
    by_cases q : okNS ξ n s ∧ WH ξ
    · have := VV_R (s := s) h.1 q.2 q.1.1.1 (by have := q.1.1.2; omega)
      rw [hA.1 q]
      exact ⟨by omega, by omega⟩
    · rw [hA.2 q]
      exact ⟨by decide, by decide⟩)
theorem T_policy (h : INV b0 ξ σ t) (ht : t ≤ t') (hn : R3 n) (hs : R3 s) (hl : R3 l) : Step b0 σ ξ t' (F_X7_policy b0 n s l) (F_X8_policy (b0 + 23) n s l) R3 :=
  Step_q h ht scrPZ (fun r hA => Z7_policy h.1 Ch.rf hn hs hl hA) (fun σ ζ hM => Y8_policy h.1.1.1 h.1.1.2.1 hM hn hs hl) (fun r hA => by
    by_cases q : okNS ξ n s ∧ (0 ≤ l ∧ l ≤ ξ 23 1 - 1)
    · by_cases qw : WH ξ
      · by_cases e : lft ξ n = 0
        · rw [((hA.1 q).1 qw).1 ((lft_0 h.1.1.2.1 q.1.1.1 (by have := q.1.1.2; omega)).mp e)]
          exact ⟨by decide, by decide⟩
        · obtain ⟨k, hk⟩ : ∃ k, lft ξ n = k + 1 := ⟨lft ξ n - 1, by omega⟩
          obtain ⟨L, a1, a2⟩ := ((hA.1 q).1 qw).2 k hk
          have := dg_bd (j := l) a1.1.1.1 a1.1.1.2
          rw [a2]
          exact ⟨by omega, by omega⟩
      · rw [(hA.1 q).2 qw]
        exact ⟨by decide, by decide⟩
    · rw [hA.2 q]
      exact ⟨by decide, by decide⟩)
theorem T_water (h : INV b0 ξ σ t) (ht : t ≤ t') (hn : R3 n) (hs : R3 s) (hl : R3 l) : Step b0 σ ξ t' (F_X7_water b0 n s l) (F_X8_water (b0 + 23) n s l) R6 :=
  Step_q h ht scrPZ (fun r hA => Z7_water h.1 Ch.rf hn hs hl hA) (fun σ ζ hM => Y8_water h.1.1.1 h.1.1.2.1 hM hn hs hl) (fun r hA => by
    by_cases q : okW ξ n s l
    · have a := VV_R (s := s) h.1 q.2.2.2 q.1.1.1 (by have := q.1.1.2; omega)
      have b := VV_R (s := s + sd ξ l) h.1 q.2.2.2 q.1.1.1 (by have := q.1.1.2; omega)
      rw [hA.1 q]
      exact ⟨by omega, by omega⟩
    · rw [hA.2 q]
      exact ⟨by decide, by decide⟩)
theorem T_needs (h : INV b0 ξ σ t) (ht : t ≤ t') (hn : R3 n) (hv : R6 v) : Step b0 σ ξ t' (F_X7_needs b0 n v) (F_X8_needs (b0 + 23) n v) R3 :=
  Step_q h ht scrPZ (fun r hA => Z7_needs h.1 Ch.rf hn hv hA) (fun σ ζ hM => Y8_needs h.1.1.1 h.1.1.2.1 hM hn hv) (fun r hA => by
    have hz := ZZ_le h.1.1.1
    by_cases q : 0 ≤ n ∧ n ≤ ξ 23 11 - 1
    · by_cases qw : WH ξ
      · rcases (hA.1 q).1 qw with ⟨x, _⟩ | ⟨x, _⟩
        · exact ⟨by omega, by omega⟩
        · exact ⟨by omega, by omega⟩
      · rw [(hA.1 q).2 qw]
        exact ⟨by decide, by decide⟩
    · rw [hA.2 q]
      exact ⟨by decide, by decide⟩)
theorem T_mean (h : INV b0 ξ σ t) (ht : t ≤ t') (hn : R3 n) (hs : R3 s) : Step b0 σ ξ t' (F_X7_mean b0 n s) (F_X8_mean (b0 + 23) n s) R6 :=
  Step_q (A := fun r => A_mean ξ n s r ∧ R6 r) h ht scrVZ (fun r hA => Z7_mean h.1 Ch.rf hn hs hA.1) (fun σ ζ hM => by
    obtain ⟨r, ζ', a, b, c, d, e⟩ := Y8_mean (b0 := b0) (σ := σ) h.1.1.1 h.1.1.2.1 hM hn hs
    exact ⟨r, ζ', a, ⟨b, e⟩, c, d⟩) (fun r hA => hA.2)
theorem T_worst (h : INV b0 ξ σ t) (ht : t ≤ t') (hn : R3 n) (hs : R3 s) : Step b0 σ ξ t' (F_X7_worst b0 n s) (F_X8_worst (b0 + 23) n s) R6 :=
  Step_q h ht scrVZ (fun r hA => Z7_worst h.1 Ch.rf hn hs hA) (fun σ ζ hM => Y8_worst h.1.1.1 h.1.1.2.1 hM hn hs) (fun r hA => by
    by_cases q : okNS ξ n s ∧ WH ξ
    · have n1 : n < ξ 23 11 := by have := q.1.1.2; omega
      have s1 : s < ZZ ξ := by have := q.1.2.2; omega
      obtain ⟨T, hw⟩ := WT_ex (st := s) h.1 q.1.1.1 n1 q.1.2.1 s1
      obtain ⟨⟨m, x1, x2, x3⟩, _⟩ := hA.1 q T hw
      have n0 := q.1.1.1
      obtain ⟨c0, ⟨c1, c2⟩, ⟨c3, c4⟩, c5⟩ := hw.bd h.1.1.1 h.1.1.2.1 (Int.le_refl _) q.1.2.1 s1 n0 m.toNat m (by omega) x1.2 x2.1
      have eb := endv_bd (s := T 44 m) h.1.1.1
      have w10 := h.1.1.2.1.1
      have wf := h.1.1.2.1.week n0 n1
      rw [x3]
      unfold tot
      exact ⟨by omega, by omega⟩
    · rw [hA.2 q]
      exact ⟨by decide, by decide⟩)
theorem T_lack (h : INV b0 ξ σ t) (ht : t ≤ t') (hn : R3 n) (hs : R3 s) : Step b0 σ ξ t' (F_X7_lack b0 n s) (F_X8_lack (b0 + 23) n s) R3 :=
  Step_q h ht scrVZ (fun r hA => Z7_lack h.1 Ch.rf hn hs hA) (fun σ ζ hM => Y8_lack h.1.1.1 h.1.1.2.1 hM hn hs) (fun r hA => by
    by_cases q : okNS ξ n s
    · by_cases qw : WH ξ
      · have n1 : n < ξ 23 11 := by have := q.1.2; omega
        have s1 : s < ZZ ξ := by have := q.2.2; omega
        obtain ⟨T, hw⟩ := WT_ex (st := s) h.1 q.1.1 n1 q.2.1 s1
        rw [(hA.1 q).1 qw T hw]
        refine lfs_bd h.1.1.2.1 (fun m m0 m1 mr => ?_)
        obtain ⟨c0, ⟨c1, c2⟩, ⟨c3, c4⟩, c5⟩ := hw.bd h.1.1.1 h.1.1.2.1 (Int.le_refl _) q.2.1 s1 q.1.1 m.toNat m (by omega) m1 mr
        omega
      · rw [(hA.1 q).2 qw]
        exact ⟨by decide, by decide⟩
    · rw [hA.2 q]
      exact ⟨by decide, by decide⟩)
theorem T_cases (h : INV b0 ξ σ t) (ht : t ≤ t') (hn : R3 n) : Step b0 σ ξ t' (F_X7_cases b0 n) (F_X8_cases (b0 + 23) n) R3 :=
  Step_q h ht scrVZ (fun r hA => Z7_cases h.1 Ch.rf hn hA) (fun σ ζ hM => Y8_cases h.1.1.1 h.1.1.2.1 hM hn) (fun r hA => by
    have hz := ZZ_le h.1.1.1
    by_cases q : okN ξ n
    · by_cases qw : WH ξ
      · have n1 : n < ξ 23 11 := by have := q.2; omega
        obtain ⟨T, hw⟩ := WT_ex (st := 0) h.1 q.1 n1 (by omega) (by omega)
        rw [(hA.1 q).1 qw T hw]
        exact lfs_bd h.1.1.2.1 (fun m m0 m1 mr => by omega)
      · rw [(hA.1 q).2 qw]
        exact ⟨by decide, by decide⟩
    · rw [hA.2 q]
      exact ⟨by decide, by decide⟩)
theorem T_flood (h : INV b0 ξ σ t) (ht : t ≤ t') (hs : R3 s) (hl : R3 l) (hm : R3 mm) (hw : R3 w) : Step b0 σ ξ t' (F_X7_flood b0 s l mm w) (F_X8_flood (b0 + 23) s l mm w) R3 :=
  Step_q h ht scrVZ (fun r hA => Z7_flood h.1 Ch.rf hs hl hm hw hA) (fun σ ζ hM => Y8_flood h.1.1.1 h.1.1.2.1 hM hs hl hm hw) (fun r hA => by
    by_cases q : okF ξ s l mm w
    · by_cases qw : WH ξ
      · obtain ⟨⟨q1, q2⟩, q3, q4⟩ := id q
        have n81 := h.1.1.2.1.2.2.1
        have w10 := h.1.1.2.1.1
        have nl := h.1.1.1.1
        obtain ⟨T, hT⟩ := WT_ex (st := s) (fr := 0) h.1 (by omega) (by omega) q1.1 (by omega)
        have ub : ∀ n, 0 ≤ flT ξ T l mm w 98 n ∧ flT ξ T l mm w 98 n ≤ 1 := fun n => by
          rw [flT_8]
          have := ups_b (ξ := ξ) (T := T) (l := l) (mm := mm) (w := w) 10 n
          omega
        rw [(hA.1 q).1 qw (flT ξ T l mm w) (hT.ext h.1.1.2.1 (Int.le_refl _) (fun d k x y _ => flT_o (by omega))) (fun n n0 n1 => by
          have wk := h.1.1.2.1.week n0 n1
          refine ⟨fun e => ?_, fun e => ?_⟩
          · rw [flT_8, flT_o (by omega), ups, if_pos (by omega)]
            rfl
          · rw [flT_8, flT_8]
            have z := h.1.1.2.1.2.2.2.2.1
            have x : n ≠ 0 := fun x => by subst x; omega
            have p := h.1.1.2.1.2.2.2.2.2.1 n (by omega) n1
            rw [ups_st h.1.1.2.1 q4.1 9 (ξ 31 n) p.1 (by omega) (by omega)]
            rw [ups, if_neg (by omega)])]
        exact lfs_bd h.1.1.2.1 (fun m m0 m1 mr => ub m)
      · rw [(hA.1 q).2 qw]
        exact ⟨by decide, by decide⟩
    · rw [hA.2 q]
      exact ⟨by decide, by decide⟩)
end O4
