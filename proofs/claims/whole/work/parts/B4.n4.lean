section N4
variable {b0 : Int} {σ τ : Hp} {ξ ζ η : Int → Int → Int} {a b c i k l m n v j w s L fr st mm : Int}
theorem X5_ends (h : KB b0 ξ σ) (hc : Ch scrC ξ ζ) (n0 : 0 ≤ n) (n1 : n < ξ 23 11) (b43 : tab σ ξ 43 n = 0 ∨ tab σ ξ 43 n = 1) : F_X5_endsCase (b0 + 16) (ξ 10 n) (S b0 σ ζ) = some (if tab σ ξ 43 n = 1 ∧ ξ 33 n = ξ 23 8 - 1 then 1 else 0, S b0 σ ζ) := by
  have t : tab σ ξ 43 n = gf σ (ξ 10 n) 11 := rfl
  rw [F_X5_endsCase]
  refine ev (rd_o (h.nd n0 n1)) ?_
  rw [← t]
  refine ev_bEq (by omega) (by omega) (by omega) (by omega) (fun q => ?_) (fun q => ?_)
  · rw [if_neg (by omega)]; rfl
  · refine ev rS_16_1 ?_
    refine evd (iS_9.trans (X3_isLast h hc n0 n1)) ?_
    unfold lst
    by_cases e : ξ 33 n = ξ 23 8 - 1
    · rw [if_pos e, if_pos ⟨by omega, e⟩]
      exact ev_bEq (by omega) (by omega) (by omega) (by omega) (fun q => by omega) (fun q => rfl)
    · rw [if_neg e, if_neg (fun x => e x.2)]
      exact ev_bEq (by omega) (by omega) (by omega) (by omega) (fun q => rfl) (fun q => by omega)
theorem X5_total (h : KB b0 ξ σ) (hc : Ch scrC ξ ζ) (n0 : 0 ≤ n) (n1 : n < ξ 23 11) (s0 : 0 ≤ tab σ ξ 44 n) (s1 : tab σ ξ 44 n < ZZ ξ) (e0 : 0 ≤ tab σ ξ 45 n) (e1 : tab σ ξ 45 n ≤ 1000000) : F_X5_totalOf (b0 + 16) (ξ 10 n) (S b0 σ ζ) = some (tot ξ (tab σ ξ) n, S b0 σ ζ) := by
  have hf := Cf_scrC hc
  have hz := ZZ_le h.1
  have t4 : tab σ ξ 44 n = gf σ (ξ 10 n) 12 := rfl
  have t5 : tab σ ξ 45 n = gf σ (ξ 10 n) 13 := rfl
  rw [F_X5_totalOf]
  refine ev (rd_o (h.nd n0 n1)) ?_
  rw [← t5]
  refine ev_g3 (by omega) (by omega) ?_
  refine ev rS_16_0 ?_
  refine ev (rd_o (h.nd n0 n1)) ?_
  rw [← t4]
  have q := X4_endWorth (b0 := b0) (σ := σ) (s := tab σ ξ 44 n) (h.1.cf hf) (CV_ch hc h.2.2.1) s0 (by omega)
  rw [endv_cf hf] at q
  exact evd (iS_1.trans q) rfl
theorem X5_all (h : KB b0 ξ σ) (hc : Ch scrC ξ ζ) (hw : WT ξ fr st (tab σ ξ) (ξ 23 11)) : F_X5_allCases (b0 + 16) (S b0 σ ζ) = some (lfs ξ (tab σ ξ) (fun _ => 1), S b0 σ ζ) := by
  have hm := h.made hc
  have n81 := h.2.1.2.2.1
  have key : ∀ (m f : Nat) (a j : Int), m < f → 0 ≤ j → j + m = ξ 23 11 → F_X5_allCases_L4 (b0 + 16) f a j (S b0 σ ζ) = some (a + sf (lfp ξ (tab σ ξ) (fun _ => 1)) j m, S b0 σ ζ) := by
    intro m
    induction m with
    | zero =>
      intro f a j hf j0 he
      obtain ⟨f, rfl⟩ : ∃ g, f = g + 1 := ⟨f - 1, by omega⟩
      rw [F_X5_allCases_L4]
      refine ev rS_16_1 ?_
      refine ev rS_9_2 ?_
      rw [hm.1]
      exact ev_bLt (by omega) (by omega) (by omega) (by omega) (fun q => by omega) (fun q => ev_end (by rw [sf]; omega) rfl)
    | succ m ih =>
      intro f a j hf j0 he
      obtain ⟨f, rfl⟩ : ∃ g, f = g + 1 := ⟨f - 1, by omega⟩
      have b43 := (hw j j0 (by omega)).1
      rw [F_X5_allCases_L4]
      refine ev rS_16_1 ?_
      refine ev rS_9_2 ?_
      rw [hm.1]
      refine ev_bLt (by omega) (by omega) (by omega) (by omega) (fun q => ?_) (fun q => by omega)
      refine ev rS_16_1 ?_
      refine ev rS_9_0 ?_
      refine ev (aS_10 (by omega) (by omega)) ?_
      rw [hm.2.2.2.1]
      refine evd (iS_16.trans (X5_ends h hc j0 (by omega) b43)) ?_
      rw [sf]
      refine ev_if (fun q => ?_) (fun q => ?_)
      · refine Eq.trans (ih f a (j + 1) (by omega) (by omega) (by omega)) (ev_end ?_ rfl)
        rw [show lfp ξ (tab σ ξ) (fun _ => 1) j = 0 from if_neg q, Int.zero_add]
      · refine Eq.trans (ih f (a + 1) (j + 1) (by omega) (by omega) (by omega)) (ev_end ?_ rfl)
        rw [show lfp ξ (tab σ ξ) (fun _ => 1) j = 1 from if_pos q, Int.add_assoc]
  rw [F_X5_allCases, key (ξ 23 11).toNat fu 0 0 (fuN (by omega)) (Int.le_refl _) (by omega), Int.zero_add]
  rfl
theorem X5_mean (h : KB b0 ξ σ) (hc : Ch scrC ξ ζ) (f0 : 0 ≤ fr) (f1 : fr < ξ 23 11) (s0 : 0 ≤ st) (s1 : st < ZZ ξ) (hw : WT ξ fr st (tab σ ξ) (ξ 23 11)) : F_X5_meanOfCases (b0 + 16) (S b0 σ ζ) = some (lfs ξ (tab σ ξ) (fun m => tab σ ξ 99 m * tot ξ (tab σ ξ) m), S b0 σ ζ) := by
  have hm := h.made hc
  have n81 := h.2.1.2.2.1
  have w10 := h.2.1.1
  have wf := h.2.1.week f0 f1
  have key : ∀ (m f : Nat) (a j : Int), m < f → 0 ≤ j → j + m = ξ 23 11 → F_X5_meanOfCases_L4 (b0 + 16) f a j (S b0 σ ζ) = some (a + sf (lfp ξ (tab σ ξ) (fun m => tab σ ξ 99 m * tot ξ (tab σ ξ) m)) j m, S b0 σ ζ) := by
    intro m
    induction m with
    | zero =>
      intro f a j hf j0 he
      obtain ⟨f, rfl⟩ : ∃ g, f = g + 1 := ⟨f - 1, by omega⟩
      rw [F_X5_meanOfCases_L4]
      refine ev rS_16_1 ?_
      refine ev rS_9_2 ?_
      rw [hm.1]
      exact ev_bLt (by omega) (by omega) (by omega) (by omega) (fun q => by omega) (fun q => ev_end (by rw [sf]; omega) rfl)
    | succ m ih =>
      intro f a j hf j0 he
      obtain ⟨f, rfl⟩ : ∃ g, f = g + 1 := ⟨f - 1, by omega⟩
      have b43 := (hw j j0 (by omega)).1
      have wj := h.2.1.week j0 (by omega)
      rw [F_X5_meanOfCases_L4]
      refine ev rS_16_1 ?_
      refine ev rS_9_2 ?_
      rw [hm.1]
      refine ev_bLt (by omega) (by omega) (by omega) (by omega) (fun q => ?_) (fun q => by omega)
      refine ev rS_16_1 ?_
      refine ev rS_9_0 ?_
      refine ev (aS_10 (by omega) (by omega)) ?_
      rw [hm.2.2.2.1]
      refine evd (iS_16.trans (X5_ends h hc j0 (by omega) b43)) ?_
      rw [sf]
      refine ev_if (fun q => ?_) (fun q => ?_)
      · refine Eq.trans (ih f a (j + 1) (by omega) (by omega) (by omega)) (ev_end ?_ rfl)
        rw [show lfp ξ (tab σ ξ) (fun m => tab σ ξ 99 m * tot ξ (tab σ ξ) m) j = 0 from if_neg q, Int.zero_add]
      · obtain ⟨c0, ⟨c1, c2⟩, ⟨c3, c4⟩, c5⟩ := hw.bd h.1 h.2.1 (Int.le_refl _) s0 s1 f0 j.toNat j (by omega) (by omega) q.1
        refine ev (rd_o (h.nd j0 (by omega))) ?_
        refine evd (iS_16.trans (X5_total h hc j0 (by omega) c1 c2 c3 (by omega))) ?_
        refine evn ?_
        refine Eq.trans (ih f _ (j + 1) (by omega) (by omega) (by omega)) (ev_end ?_ rfl)
        rw [show lfp ξ (tab σ ξ) (fun m => tab σ ξ 99 m * tot ξ (tab σ ξ) m) j = tab σ ξ 99 j * tot ξ (tab σ ξ) j from if_pos q, ← Int.add_assoc]
        rfl
  rw [F_X5_meanOfCases, key (ξ 23 11).toNat fu 0 0 (fuN (by omega)) (Int.le_refl _) (by omega), Int.zero_add]
  rfl
theorem X5_lack (h : KB b0 ξ σ) (hc : Ch scrC ξ ζ) (f0 : 0 ≤ fr) (f1 : fr < ξ 23 11) (s0 : 0 ≤ st) (s1 : st < ZZ ξ) (hw : WT ξ fr st (tab σ ξ) (ξ 23 11)) : F_X5_casesOfLack (b0 + 16) (S b0 σ ζ) = some (lfs ξ (tab σ ξ) (tab σ ξ 46), S b0 σ ζ) := by
  have hm := h.made hc
  have n81 := h.2.1.2.2.1
  have key : ∀ (m f : Nat) (a j : Int), m < f → 0 ≤ j → j + m = ξ 23 11 → F_X5_casesOfLack_L4 (b0 + 16) f a j (S b0 σ ζ) = some (a + sf (lfp ξ (tab σ ξ) (tab σ ξ 46)) j m, S b0 σ ζ) := by
    intro m
    induction m with
    | zero =>
      intro f a j hf j0 he
      obtain ⟨f, rfl⟩ : ∃ g, f = g + 1 := ⟨f - 1, by omega⟩
      rw [F_X5_casesOfLack_L4]
      refine ev rS_16_1 ?_
      refine ev rS_9_2 ?_
      rw [hm.1]
      exact ev_bLt (by omega) (by omega) (by omega) (by omega) (fun q => by omega) (fun q => ev_end (by rw [sf]; omega) rfl)
    | succ m ih =>
      intro f a j hf j0 he
      obtain ⟨f, rfl⟩ : ∃ g, f = g + 1 := ⟨f - 1, by omega⟩
      have b43 := (hw j j0 (by omega)).1
      rw [F_X5_casesOfLack_L4]
      refine ev rS_16_1 ?_
      refine ev rS_9_2 ?_
      rw [hm.1]
      refine ev_bLt (by omega) (by omega) (by omega) (by omega) (fun q => ?_) (fun q => by omega)
      refine ev rS_16_1 ?_
      refine ev rS_9_0 ?_
      refine ev (aS_10 (by omega) (by omega)) ?_
      rw [hm.2.2.2.1]
      refine evd (iS_16.trans (X5_ends h hc j0 (by omega) b43)) ?_
      rw [sf]
      refine ev_if (fun q => ?_) (fun q => ?_)
      · refine Eq.trans (ih f a (j + 1) (by omega) (by omega) (by omega)) (ev_end ?_ rfl)
        rw [show lfp ξ (tab σ ξ) (tab σ ξ 46) j = 0 from if_neg q, Int.zero_add]
      · obtain ⟨c0, ⟨c1, c2⟩, ⟨c3, c4⟩, c5⟩ := hw.bd h.1 h.2.1 (Int.le_refl _) s0 s1 f0 j.toNat j (by omega) (by omega) q.1
        have t6 : tab σ ξ 46 j = gf σ (ξ 10 j) 15 := rfl
        refine ev rS_16_1 ?_
        refine ev rS_9_0 ?_
        refine ev (aS_10 (by omega) (by omega)) ?_
        rw [hm.2.2.2.1]
        refine ev (rd_o (h.nd j0 (by omega))) ?_
        rw [← t6]
        rw [show lfp ξ (tab σ ξ) (tab σ ξ 46) j = tab σ ξ 46 j from if_pos q]
        refine ev_bEq (by omega) (by omega) (by omega) (by omega) (fun x => ?_) (fun x => ?_)
        · refine Eq.trans (ih f a (j + 1) (by omega) (by omega) (by omega)) (ev_end ?_ rfl)
          omega
        · refine Eq.trans (ih f (a + 1) (j + 1) (by omega) (by omega) (by omega)) (ev_end ?_ rfl)
          omega
  rw [F_X5_casesOfLack, key (ξ 23 11).toNat fu 0 0 (fuN (by omega)) (Int.le_refl _) (by omega), Int.zero_add]
  rfl
theorem X5_worst (h : KB b0 ξ σ) (hc : Ch scrC ξ ζ) (hW : WH ξ) (f0 : 0 ≤ fr) (f1 : fr < ξ 23 11) (s0 : 0 ≤ st) (s1 : st < ZZ ξ) (hw : WT ξ fr st (tab σ ξ) (ξ 23 11)) : ∃ r, F_X5_leastOfCases (b0 + 16) (S b0 σ ζ) = some (r, S b0 σ ζ) ∧ LE ξ (tab σ ξ) fr (ξ 23 11) r := by
  have hm := h.made hc
  have n81 := h.2.1.2.2.1
  have w10 := h.2.1.1
  have wf := h.2.1.week f0 f1
  have key : ∀ (m f : Nat) (a j : Int), m < f → 0 ≤ j → j + m = ξ 23 11 → ((a = -1 ∧ NoE ξ (tab σ ξ) 0 j) ∨ (LE ξ (tab σ ξ) 0 j a ∧ 0 ≤ a ∧ a < 1000000)) → ∃ r, F_X5_leastOfCases_L6 (b0 + 16) f a j (S b0 σ ζ) = some (r, S b0 σ ζ) ∧ (NoE ξ (tab σ ξ) 0 (ξ 23 11) ∨ LE ξ (tab σ ξ) 0 (ξ 23 11) r) := by
    intro m
    induction m with
    | zero =>
      intro f a j hf j0 he hi
      obtain ⟨f, rfl⟩ : ∃ g, f = g + 1 := ⟨f - 1, by omega⟩
      have e : j = ξ 23 11 := by omega
      subst e
      refine ⟨a, ?_, ?_⟩
      · rw [F_X5_leastOfCases_L6]
        refine ev rS_16_1 ?_
        refine ev rS_9_2 ?_
        rw [hm.1]
        exact ev_bLt (by omega) (by omega) (by omega) (by omega) (fun q => by omega) (fun q => rfl)
      · rcases hi with x | x
        · exact Or.inl x.2
        · exact Or.inr x.1
    | succ m ih =>
      intro f a j hf j0 he hi
      obtain ⟨f, rfl⟩ : ∃ g, f = g + 1 := ⟨f - 1, by omega⟩
      have b43 := (hw j j0 (by omega)).1
      have wj := h.2.1.week j0 (by omega)
      have ab : -1 ≤ a ∧ a < 1000000 := by
        rcases hi with x | x
        · omega
        · omega
      have top : ∀ z, (¬ (tab σ ξ 43 j = 1 ∧ ξ 33 j = ξ 23 8 - 1) → F_X5_leastOfCases_L6 (b0 + 16) f a (j + 1) (S b0 σ ζ) = z) → ((tab σ ξ 43 j = 1 ∧ ξ 33 j = ξ 23 8 - 1) → 0 ≤ tot ξ (tab σ ξ) j ∧ tot ξ (tab σ ξ) j < 1000000 → (a < 0 ∨ tot ξ (tab σ ξ) j < a → F_X5_leastOfCases_L6 (b0 + 16) f (tot ξ (tab σ ξ) j) (j + 1) (S b0 σ ζ) = z) ∧ (¬ a < 0 → ¬ tot ξ (tab σ ξ) j < a → F_X5_leastOfCases_L6 (b0 + 16) f a (j + 1) (S b0 σ ζ) = z)) → F_X5_leastOfCases_L6 (b0 + 16) (f + 1) a j (S b0 σ ζ) = z := by
        intro z z1 z2
        rw [F_X5_leastOfCases_L6]
        refine ev rS_16_1 ?_
        refine ev rS_9_2 ?_
        rw [hm.1]
        refine ev_bLt (by omega) (by omega) (by omega) (by omega) (fun q => ?_) (fun q => by omega)
        refine ev rS_16_1 ?_
        refine ev rS_9_0 ?_
        refine ev (aS_10 (by omega) (by omega)) ?_
        rw [hm.2.2.2.1]
        refine evd (iS_16.trans (X5_ends h hc j0 (by omega) b43)) ?_
        refine ev_if (fun q => z1 q) (fun q => ?_)
        obtain ⟨c0, ⟨c1, c2⟩, ⟨c3, c4⟩, c5⟩ := hw.bd h.1 h.2.1 (Int.le_refl _) s0 s1 f0 j.toNat j (by omega) (by omega) q.1
        have eb := endv_bd (s := tab σ ξ 44 j) h.1
        have tb : 0 ≤ tot ξ (tab σ ξ) j ∧ tot ξ (tab σ ξ) j < 1000000 := by unfold tot; omega
        have ht := X5_total h hc j0 (by omega) c1 c2 c3 (by omega)
        obtain ⟨y1, y2⟩ := z2 q tb
        refine ev_g66 (by omega) (by omega) (by omega) (by omega) ?_
        refine cmpL_lt (fun x => ?_) (fun x => ?_)
        · exact evd (iS_16.trans ht) (y1 (Or.inl x))
        · refine evd (iS_16.trans ht) ?_
          refine ev_g66 (by omega) (by omega) (by omega) (by omega) ?_
          refine cmpL_lt (fun x2 => ?_) (fun x2 => ?_)
          · exact evd (iS_16.trans ht) (y1 (Or.inr x2))
          · exact y2 x x2
      by_cases q : tab σ ξ 43 j = 1 ∧ ξ 33 j = ξ 23 8 - 1
      · obtain ⟨c0, ⟨c1, c2⟩, ⟨c3, c4⟩, c5⟩ := hw.bd h.1 h.2.1 (Int.le_refl _) s0 s1 f0 j.toNat j (by omega) (by omega) q.1
        have eb := endv_bd (s := tab σ ξ 44 j) h.1
        have tb : 0 ≤ tot ξ (tab σ ξ) j ∧ tot ξ (tab σ ξ) j < 1000000 := by unfold tot; omega
        by_cases d : a < 0 ∨ tot ξ (tab σ ξ) j < a
        · obtain ⟨r, r1, r2⟩ := ih f (tot ξ (tab σ ξ) j) (j + 1) (by omega) (by omega) (by omega) (Or.inr ⟨by
            rcases hi with x | x
            · exact x.2.take j0 q
            · exact (x.1.take j0 q).2 (by omega), tb⟩)
          exact ⟨r, top _ (fun x => absurd q x) (fun _ _ => ⟨fun _ => r1, fun x y => by omega⟩), r2⟩
        · obtain ⟨r, r1, r2⟩ := ih f a (j + 1) (by omega) (by omega) (by omega) (Or.inr ⟨by
            rcases hi with x | x
            · omega
            · by_cases e : a < tot ξ (tab σ ξ) j
              · exact (x.1.take j0 q).1 e
              · have := (x.1.take j0 q).2 e
                rw [show tot ξ (tab σ ξ) j = a by omega] at this
                exact this, by omega⟩)
          exact ⟨r, top _ (fun x => absurd q x) (fun _ _ => ⟨fun x => absurd x d, fun x y => r1⟩), r2⟩
      · obtain ⟨r, r1, r2⟩ := ih f a (j + 1) (by omega) (by omega) (by omega) (by
          rcases hi with x | x
          · exact Or.inl ⟨x.1, x.2.skip q⟩
          · exact Or.inr ⟨x.1.skip q, x.2⟩)
        exact ⟨r, top _ (fun _ => r1) (fun x => absurd x q), r2⟩
  obtain ⟨r, r1, r2⟩ := key (ξ 23 11).toNat fu (-1) 0 (fuN (by omega)) (Int.le_refl _) (by omega) (Or.inl ⟨rfl, fun m a b => by omega⟩)
  refine ⟨r, r1, ?_⟩
  have fb : ∀ m, 0 ≤ m → m < ξ 23 11 → tab σ ξ 43 m = 1 → fr ≤ m := fun m a b x => (hw.bd h.1 h.2.1 (Int.le_refl _) s0 s1 f0 m.toNat m (by omega) b x).1
  rcases r2 with x | ⟨⟨m, x1, x2, x3⟩, y⟩
  · exact absurd (fun m a b => x m (by omega) b) (has_end h.2.1 hW f0 f1 hw)
  · exact ⟨⟨m, ⟨fb m x1.1 x1.2 x2.1, x1.2⟩, x2, x3⟩, fun m a b => y m (by omega) b⟩
/-- does the lake stand above the measure at the node of the told week on the way? -/
def flg (ξ T : Int → Int → Int) (l mm n : Int) : Int := if mm < ms ξ (T 44 n) l then 1 else 0
def ups (ξ T : Int → Int → Int) (l mm w : Int) : Nat → Int → Int
  | 0, n => flg ξ T l mm n
  | k + 1, n => if ξ 33 n ≤ w then flg ξ T l mm n else ups ξ T l mm w k (ξ 31 n)
theorem ups_s {T : Int → Int → Int} (k : Nat) (n : Int) : ups ξ T l mm w (k + 1) n = if ξ 33 n ≤ w then flg ξ T l mm n else ups ξ T l mm w k (ξ 31 n) := rfl
theorem ups_st {T : Int → Int → Int} (hT : TB ξ) (w0 : 0 ≤ w) : ∀ (k : Nat) (n : Int), 0 ≤ n → n < ξ 23 11 → ξ 33 n - w ≤ k → ups ξ T l mm w (k + 1) n = ups ξ T l mm w k n := by
  intro k
  induction k with
  | zero =>
    intro n n0 n1 hk
    rw [ups, ups, if_pos (by omega)]
  | succ k ih =>
    intro n n0 n1 hk
    rw [ups_s (k + 1) n, ups_s k n]
    by_cases e : ξ 33 n ≤ w
    · rw [if_pos e, if_pos e]
    · rw [if_neg e, if_neg e]
      have z := hT.2.2.2.2.1
      have x : n ≠ 0 := fun x => by subst x; omega
      have p := hT.2.2.2.2.2.1 n (by omega) n1
      exact ih _ p.1 (by omega) (by omega)
theorem X5_stood (h : KB b0 ξ σ) (hc : Ch scrC ξ ζ) (l0 : 0 ≤ l) (l3 : l < 3) (hmm : R3 mm) (w0 : 0 ≤ w) (w1 : w < 10) (hS : ∀ n, 0 ≤ n → n < ξ 23 11 → 0 ≤ tab σ ξ 44 n ∧ tab σ ξ 44 n < ZZ ξ) (n0 : 0 ≤ n) (n1 : n < ξ 23 11) : F_X5_stoodAbove (b0 + 16) (ξ 10 n) l mm w (S b0 σ ζ) = some (ups ξ (tab σ ξ) l mm w 10 n, S b0 σ ζ) := by
  have hf := Cf_scrC hc
  have hz := ZZ_le h.1
  have w10 := h.2.1.1
  have fin : ∀ n, 0 ≤ n → n < ξ 23 11 → F_X5_stoodAbove_B44 (b0 + 16) l mm (ξ 10 n) (S b0 σ ζ) = some (flg ξ (tab σ ξ) l mm n, S b0 σ ζ) := by
    intro n n0 n1
    have sb := hS n n0 n1
    have t4 : tab σ ξ 44 n = gf σ (ξ 10 n) 12 := rfl
    have q := X4_measureOf (b0 := b0) (σ := σ) (s := tab σ ξ 44 n) (h.1.cf hf) (CV_ch hc h.2.2.1) l0 l3 sb.1 (by omega)
    rw [ms_cf hf] at q
    have mb := ms_bd (s := tab σ ξ 44 n) h.1 l0 l3
    have gb := h.1.gr l0 l3
    rw [F_X5_stoodAbove_B44]
    refine ev rS_16_0 ?_
    refine ev (rd_o (h.nd n0 n1)) ?_
    rw [← t4]
    refine evd (iS_1.trans q) ?_
    unfold flg
    refine ev_bLe (by omega) (by omega) hmm.1 hmm.2 (fun x => ?_) (fun x => ?_)
    · rw [if_neg (by omega)]; rfl
    · rw [if_pos (by omega)]; rfl
  have key : ∀ (k f : Nat) (n i : Int), k < f → 0 ≤ i → i + k = 10 → 0 ≤ n → n < ξ 23 11 → F_X5_stoodAbove_L6 (b0 + 16) l mm w f (ξ 10 n) i (S b0 σ ζ) = some (ups ξ (tab σ ξ) l mm w k n, S b0 σ ζ) := by
    intro k
    induction k with
    | zero =>
      intro f n i hf i0 he n0 n1
      obtain ⟨f, rfl⟩ : ∃ g, f = g + 1 := ⟨f - 1, by omega⟩
      rw [F_X5_stoodAbove_L6]
      exact ev_bLt (by omega) (by omega) (by omega) (by omega) (fun q => by omega) (fun q => fin n n0 n1)
    | succ k ih =>
      intro f n i hf i0 he n0 n1
      obtain ⟨f, rfl⟩ : ∃ g, f = g + 1 := ⟨f - 1, by omega⟩
      have wk := h.2.1.week n0 n1
      have hNn := h.2.2.2.2.2.2.2 n n0 n1
      rw [F_X5_stoodAbove_L6]
      refine ev_bLt (by omega) (by omega) (by omega) (by omega) (fun q => ?_) (fun q => by omega)
      refine ev (rd_o (h.nd n0 n1)) ?_
      rw [h.wk n0 n1, ups]
      refine ev_bLe (by omega) (by omega) (by omega) (by omega) (fun q => ?_) (fun q => ?_)
      · rw [if_pos q]
        exact fin n n0 n1
      · rw [if_neg q]
        have z := h.2.1.2.2.2.2.1
        have x : n ≠ 0 := fun x => by subst x; omega
        have p := h.2.1.2.2.2.2.2.1 n (by omega) n1
        have lp := h.lv (n := ξ 31 n) p.1 (by omega)
        have h3 : gf σ (ξ 10 n) 3 = ξ 10 (ξ 31 n) := by rw [hNn.1, if_neg x]
        refine ev (rd_o (h.nd n0 n1)) ?_
        rw [h3]
        have hp0 := lp.2
        show (if ξ 10 (ξ 31 n) < 0 then _ else _) = _
        rw [if_neg (by omega)]
        refine ev (rd_o (h.nd n0 n1)) ?_
        rw [h3]
        exact ih f (ξ 31 n) (i + 1) (by omega) (by omega) (by omega) p.1 (by omega)
  rw [F_X5_stoodAbove]
  exact key 10 fu n 0 (fuN (by omega)) (by omega) (by omega) n0 n1
theorem ups_b {T : Int → Int → Int} : ∀ (k : Nat) (n : Int), ups ξ T l mm w k n = 0 ∨ ups ξ T l mm w k n = 1
  | 0, n => by rw [ups]; unfold flg; split <;> omega
  | k + 1, n => by
    rw [ups]
    by_cases e : ξ 33 n ≤ w
    · rw [if_pos e]; unfold flg; split <;> omega
    · rw [if_neg e]; exact ups_b k _
def flT (ξ T : Int → Int → Int) (l mm w : Int) (d n : Int) : Int := if d = 98 then ups ξ T l mm w 10 n else T d n
theorem flT_8 {T : Int → Int → Int} : flT ξ T l mm w 98 n = ups ξ T l mm w 10 n := if_pos rfl
theorem flT_o {T : Int → Int → Int} {d : Int} (h : d ≠ 98) : flT ξ T l mm w d n = T d n := if_neg h
theorem X5_flood (h : KB b0 ξ σ) (hc : Ch scrC ξ ζ) (l0 : 0 ≤ l) (l3 : l < 3) (hmm : R3 mm) (w0 : 0 ≤ w) (w1 : w < 10) (s0 : 0 ≤ st) (s1 : st < ZZ ξ) (hw : WT ξ 0 st (tab σ ξ) (ξ 23 11)) : ∃ T, WT ξ 0 st T (ξ 23 11) ∧ FLD ξ l mm w T ∧ F_X5_casesOfFlood (b0 + 16) l mm w (S b0 σ ζ) = some (lfs ξ T (T 98), S b0 σ ζ) := by
  have hm := h.made hc
  have n81 := h.2.1.2.2.1
  have w10 := h.2.1.1
  have hS : ∀ n, 0 ≤ n → n < ξ 23 11 → 0 ≤ tab σ ξ 44 n ∧ tab σ ξ 44 n < ZZ ξ := fun n n0 n1 => (hw.bd h.1 h.2.1 (Int.le_refl _) s0 s1 (Int.le_refl _) n.toNat n (by omega) n1 (all_reached h.2.1 hw n.toNat n (by omega) n1)).2.1
  have key : ∀ (m f : Nat) (a j : Int), m < f → 0 ≤ j → j + m = ξ 23 11 → F_X5_casesOfFlood_L6 (b0 + 16) l mm w f a j (S b0 σ ζ) = some (a + sf (lfp ξ (tab σ ξ) (ups ξ (tab σ ξ) l mm w 10)) j m, S b0 σ ζ) := by
    intro m
    induction m with
    | zero =>
      intro f a j hf j0 he
      obtain ⟨f, rfl⟩ : ∃ g, f = g + 1 := ⟨f - 1, by omega⟩
      rw [F_X5_casesOfFlood_L6]
      refine ev rS_16_1 ?_
      refine ev rS_9_2 ?_
      rw [hm.1]
      exact ev_bLt (by omega) (by omega) (by omega) (by omega) (fun q => by omega) (fun q => ev_end (by rw [sf]; omega) rfl)
    | succ m ih =>
      intro f a j hf j0 he
      obtain ⟨f, rfl⟩ : ∃ g, f = g + 1 := ⟨f - 1, by omega⟩
      have b43 := (hw j j0 (by omega)).1
      rw [F_X5_casesOfFlood_L6]
      refine ev rS_16_1 ?_
      refine ev rS_9_2 ?_
      rw [hm.1]
      refine ev_bLt (by omega) (by omega) (by omega) (by omega) (fun q => ?_) (fun q => by omega)
      refine ev rS_16_1 ?_
      refine ev rS_9_0 ?_
      refine ev (aS_10 (by omega) (by omega)) ?_
      rw [hm.2.2.2.1]
      refine evd (iS_16.trans (X5_ends h hc j0 (by omega) b43)) ?_
      rw [sf]
      refine ev_if (fun q => ?_) (fun q => ?_)
      · refine Eq.trans (ih f a (j + 1) (by omega) (by omega) (by omega)) (ev_end ?_ rfl)
        rw [show lfp ξ (tab σ ξ) (ups ξ (tab σ ξ) l mm w 10) j = 0 from if_neg q, Int.zero_add]
      · refine ev rS_16_1 ?_
        refine ev rS_9_0 ?_
        refine ev (aS_10 (by omega) (by omega)) ?_
        rw [hm.2.2.2.1]
        refine evd (iS_16.trans (X5_stood h hc l0 l3 hmm w0 w1 hS j0 (by omega))) ?_
        rw [show lfp ξ (tab σ ξ) (ups ξ (tab σ ξ) l mm w 10) j = ups ξ (tab σ ξ) l mm w 10 j from if_pos q]
        have ub := ups_b (ξ := ξ) (T := tab σ ξ) (l := l) (mm := mm) (w := w) 10 j
        refine ev_bEq (by omega) (by omega) (by omega) (by omega) (fun x => ?_) (fun x => ?_)
        · refine Eq.trans (ih f a (j + 1) (by omega) (by omega) (by omega)) (ev_end ?_ rfl)
          omega
        · refine Eq.trans (ih f (a + 1) (j + 1) (by omega) (by omega) (by omega)) (ev_end ?_ rfl)
          omega
  have hT := h.2.1
  refine ⟨flT ξ (tab σ ξ) l mm w, hw.ext hT (Int.le_refl _) (fun d k x y _ => flT_o (by omega)), fun n n0 n1 => ?_, ?_⟩
  · have wk := hT.week n0 n1
    refine ⟨fun e => ?_, fun e => ?_⟩
    · rw [flT_8, flT_o (by omega), ups, if_pos (by omega)]
      rfl
    · rw [flT_8, flT_8]
      have z := hT.2.2.2.2.1
      have x : n ≠ 0 := fun x => by subst x; omega
      have p := hT.2.2.2.2.2.1 n (by omega) n1
      rw [ups_st hT w0 9 (ξ 31 n) p.1 (by omega) (by omega)]
      rw [ups, if_neg (by omega)]
  · rw [F_X5_casesOfFlood, key (ξ 23 11).toNat fu 0 0 (fuN (by omega)) (Int.le_refl _) (by omega), Int.zero_add]
    refine ev_end ?_ rfl
    rw [lfs_def]
    refine sf_congr _ _ (fun i a b => ?_)
    unfold lfp
    rw [flT_8, flT_o (by omega)]
end N4
