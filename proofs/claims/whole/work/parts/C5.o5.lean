section O5
variable {b0 : Int} {σ τ σ' : Hp} {ξ ζ η : Int → Int → Int} {a b c i l m n v j w s L p q le r x t t' mm fr st : Int}
theorem Step_s {cls mod : Hp → Option (Int × Hp)} {R : Int → Prop} (h : INV b0 ξ σ t) (ht : t ≤ t') (h1 : cls (S b0 σ ξ) = some (r, S b0 σ ξ)) (h2 : mod (S b0 σ ξ) = some (r, S b0 σ ξ)) (hR : R r) : Step b0 σ ξ t' cls mod R := ⟨r, σ, ξ, σ, ξ, h1, h2, INV_q h h.1 h.2.1 Ch.rf ht, hR⟩
noncomputable def cnt (ξ : Int → Int → Int) (n : Int) : Int := if n = 0 then ξ 23 1 else if n = 1 then ξ 23 11 else if n = 2 then ZZ ξ else if n = 3 then ξ 23 32 else if n = 4 then ξ 23 8 else if n = 5 then ξ 23 9 else if n = 6 then @ite Int (WH ξ) (Classical.propDecidable _) 1 0 else -1
theorem T_count (h : INV b0 ξ σ t) (ht : t ≤ t') (hn : R3 n) : Step b0 σ ξ t' (F_X7_count b0 n) (F_X8_count (b0 + 23) n) R3 := by
  obtain ⟨hI, hM, hX, hR, hv⟩ := id h
  obtain ⟨hB, hT, hV, hC, _⟩ := id hI.1
  have nl := hB.1
  have w10 := hT.1
  have d6 := hT.2.1
  have n81 := hT.2.2.1
  have hz := ZZ_le hB
  have r01 := hR.1
  have wh : @ite Int (WH ξ) (Classical.propDecidable _) 1 0 = 0 ∨ @ite Int (WH ξ) (Classical.propDecidable _) 1 0 = 1 := by
    by_cases e : WH ξ
    · rw [if_pos e]; omega
    · rw [if_neg e]; omega
  refine Step_s (r := cnt ξ n) h ht ?_ ?_ ?_
  · rw [F_X7_count]
    unfold cnt
    refine ev_bEq hn.1 hn.2 (by omega) (by omega) (fun q => ?_) (fun q => ?_)
    · rw [if_pos q]
      refine ev rS_0_0 ?_
      refine ev rS_1_1 ?_
      rw [hV.1]
    rw [if_neg q]
    refine ev_bEq hn.1 hn.2 (by omega) (by omega) (fun q => ?_) (fun q => ?_)
    · rw [if_pos q]
      refine ev rS_0_1 ?_
      refine ev rS_9_2 ?_
      rw [hC.1]
    rw [if_neg q]
    refine ev_bEq hn.1 hn.2 (by omega) (by omega) (fun q => ?_) (fun q => ?_)
    · rw [if_pos q]
      refine ev rS_0_0 ?_
      refine ev rS_1_2 ?_
      rw [hV.2.1]
    rw [if_neg q]
    refine ev_bEq hn.1 hn.2 (by omega) (by omega) (fun q => ?_) (fun q => ?_)
    · rw [if_pos q]
      refine ev rS_0_4 ?_
      refine ev rS_17_5 ?_
      rw [hR.2.1]
      refine ev_bEq (by omega) (by omega) (by omega) (by omega) (fun q => ?_) (fun q => ?_)
      · rw [q]
      · rw [show ξ 23 32 = 1 by omega]
    rw [if_neg q]
    refine ev_bEq hn.1 hn.2 (by omega) (by omega) (fun q => ?_) (fun q => ?_)
    · rw [if_pos q]
      refine ev rS_0_1 ?_
      refine ev rS_9_3 ?_
      rw [hC.2.1]
    rw [if_neg q]
    refine ev_bEq hn.1 hn.2 (by omega) (by omega) (fun q => ?_) (fun q => ?_)
    · rw [if_pos q]
      refine ev rS_0_1 ?_
      refine ev rS_9_4 ?_
      rw [hC.2.2.1]
    rw [if_neg q]
    refine ev_bEq hn.1 hn.2 (by omega) (by omega) (fun q => ?_) (fun q => ?_)
    · rw [if_pos q]
      refine evd (iS_0.trans (X7_isWhole hI.1 Ch.rf)) ?_
      refine ev_bEq (by omega) (by omega) (by omega) (by omega) (fun q => ?_) (fun q => ?_)
      · rw [q]
      · rw [show @ite Int (WH ξ) (Classical.propDecidable _) 1 0 = 1 by omega]
    rw [if_neg q]
  · rw [F_X8_count]
    unfold cnt
    refine ev_bEq hn.1 hn.2 (by omega) (by omega) (fun q => ?_) (fun q => ?_)
    · rw [if_pos q]
      exact ev rS_23_1 rfl
    rw [if_neg q]
    refine ev_bEq hn.1 hn.2 (by omega) (by omega) (fun q => ?_) (fun q => ?_)
    · rw [if_pos q]
      exact ev rS_23_11 rfl
    rw [if_neg q]
    refine ev_bEq hn.1 hn.2 (by omega) (by omega) (fun q => ?_) (fun q => ?_)
    · rw [if_pos q]
      exact evd (iS_23.trans (X8_states hB)) rfl
    rw [if_neg q]
    refine ev_bEq hn.1 hn.2 (by omega) (by omega) (fun q => ?_) (fun q => ?_)
    · rw [if_pos q]
      refine ev rS_23_32 ?_
      refine ev_bEq (by omega) (by omega) (by omega) (by omega) (fun q => ?_) (fun q => ?_)
      · rw [q]
      · rw [show ξ 23 32 = 1 by omega]
    rw [if_neg q]
    refine ev_bEq hn.1 hn.2 (by omega) (by omega) (fun q => ?_) (fun q => ?_)
    · rw [if_pos q]
      exact ev rS_23_8 rfl
    rw [if_neg q]
    refine ev_bEq hn.1 hn.2 (by omega) (by omega) (fun q => ?_) (fun q => ?_)
    · rw [if_pos q]
      exact ev rS_23_9 rfl
    rw [if_neg q]
    refine ev_bEq hn.1 hn.2 (by omega) (by omega) (fun q => ?_) (fun q => ?_)
    · rw [if_pos q]
      refine evd (iS_23.trans (K_isWhole hB hT Cf.rfl')) ?_
      refine ev_bEq (by omega) (by omega) (by omega) (by omega) (fun q => ?_) (fun q => ?_)
      · rw [q]
      · rw [show @ite Int (WH ξ) (Classical.propDecidable _) 1 0 = 1 by omega]
    rw [if_neg q]
  · unfold cnt R3
    repeat' split
    all_goals omega
theorem rk_all (hT : TB ξ) (n0 : 0 ≤ n) (n1 : n < ξ 23 11) : sf (rkf ξ n) 1 (ξ 23 11 - 1).toNat = rk ξ n (ξ 23 11) := by
  have n81 := hT.2.2.1
  unfold rk
  rw [show (ξ 23 11 - 1).toNat = n.toNat + (ξ 23 11 - (n + 1)).toNat by omega, sf_split, sf_zero n.toNat 1 (fun i a b => ?_), show (1 : Int) + (n.toNat : Int) = n + 1 by omega, Int.zero_add]
  have := hT.2.2.2.2.2.1 i (by omega) (by omega)
  exact if_neg (by omega)
theorem about_loop (hT : TB ξ) (n0 : 0 ≤ n) (n1 : n < ξ 23 11) : ∀ (m f : Nat) (a j : Int), m < f → 1 ≤ j → j + m = ξ 23 11 → F_X8_about_L107 (b0 + 23) n f a j (S b0 σ ξ) = some (a + sf (rkf ξ n) j m, S b0 σ ξ) := by
  have n81 := hT.2.2.1
  intro m
  induction m with
  | zero =>
    intro f a j hf j0 he
    obtain ⟨f, rfl⟩ : ∃ g, f = g + 1 := ⟨f - 1, by omega⟩
    rw [F_X8_about_L107]
    refine ev rS_23_11 ?_
    exact ev_bLt (by omega) (by omega) (by omega) (by omega) (fun q => by omega) (fun q => ev_end (by rw [sf]; omega) rfl)
  | succ m ih =>
    intro f a j hf j0 he
    obtain ⟨f, rfl⟩ : ∃ g, f = g + 1 := ⟨f - 1, by omega⟩
    have p := hT.2.2.2.2.2.1 j (by omega) (by omega)
    rw [F_X8_about_L107, sf]
    refine ev rS_23_11 ?_
    refine ev_bLt (by omega) (by omega) (by omega) (by omega) (fun _ => ?_) (fun q => by omega)
    refine ev rS_23_12 ?_
    refine ev (aS_31 (by omega) (by omega)) ?_
    refine ev_bEq (by omega) (by omega) (by omega) (by omega) (fun q => ?_) (fun q => ?_)
    · refine Eq.trans (ih f (a + 1) (j + 1) (by omega) (by omega) (by omega)) (ev_end ?_ rfl)
      rw [show rkf ξ n j = 1 from if_pos q]; omega
    · refine Eq.trans (ih f (a + 0) (j + 1) (by omega) (by omega) (by omega)) (ev_end ?_ rfl)
      rw [show rkf ξ n j = 0 from if_neg q]; omega
def abt (ξ : Int → Int → Int) (n w : Int) : Int := if 0 ≤ n ∧ n ≤ ξ 23 11 - 1 then (if w = 0 then ξ 31 n else if w = 1 then (if n = 0 then ξ 23 9 else ξ 32 n) else if w = 2 then ξ 33 n else if w = 3 then rk ξ n (ξ 23 11) else if w = 4 then wsm ξ n else if 5 ≤ w ∧ w ≤ 7 ∧ w - 5 < ξ 23 1 then ξ 34 (3 * n + (w - 5)) else -2) else -2
theorem T_about (h : INV b0 ξ σ t) (ht : t ≤ t') (hn : R3 n) (hw : R3 w) : Step b0 σ ξ t' (F_X7_about b0 n w) (F_X8_about (b0 + 23) n w) R3 := by
  obtain ⟨hI, hM, hX, hR, hv⟩ := id h
  obtain ⟨hB, hT, hV, hC, hS, hN⟩ := id hI.1
  have nl := hB.1
  have w10 := hT.1
  have d6 := hT.2.1
  have n81 := hT.2.2.1
  have t0 := hT.2.2.2.2.1
  refine Step_s (r := abt ξ n w) h ht ?_ ?_ ?_
  · rw [F_X7_about]
    unfold abt
    refine pre_N hI.1 Ch.rf hn (fun q => by unfold okN at q; rw [if_neg q]) (fun q => ?_)
    unfold okN at q
    have n0 := q.1
    have n1 : n < ξ 23 11 := by have := q.2; omega
    have on := hI.1.nd n0 n1
    have hn' := hN.2.2 n n0 n1
    have oi := (hS.1 n (hI.1.lv n0 n1)).2.1
    have par : n ≠ 0 → 0 ≤ ξ 31 n ∧ ξ 31 n < ξ 23 11 := fun e => by have := hT.2.2.2.2.2.1 n (by omega) n1; omega
    rw [if_pos q]
    have lk : ∀ w, 5 ≤ w → w ≤ 7 → ((rd 8 (S b0 σ ξ) b0 0).bind fun jv14 => bd (iv 5 (S b0 σ ξ) jv14 (F_X4_lakeAt jv14 (w - 5) (S b0 σ ξ))) fun jv15 σ16 => bN jv15 (some ((-2), σ16)) ((rd 2 σ16 (ξ 10 n) 1).bind fun jv17 => (ar 11 σ16 jv17 (w - 5)).bind fun jv18 => some (jv18, σ16))) = some (if 5 ≤ w ∧ w ≤ 7 ∧ w - 5 < ξ 23 1 then ξ 34 (3 * n + (w - 5)) else -2, S b0 σ ξ) := by
      intro w w5 w7
      refine pre_L hI.1 Ch.rf ⟨by omega, by omega⟩ (fun e => ?_) (fun e => ?_)
      · rw [if_neg (by omega)]
      · rw [if_pos (by omega)]
        refine ev (rd_o on) ?_
        refine ev (ar_o oi (by omega) (by omega) (by omega)) ?_
        rw [hn'.2.2.2.2.2.1 (w - 5) (by omega) (by omega)]
    refine ev_bEq hw.1 hw.2 (by omega) (by omega) (fun q => ?_) (fun q => ?_)
    · rw [if_pos q]
      refine ev (rd_o on) ?_
      rw [hn'.1]
      by_cases e : n = 0
      · rw [if_pos e]
        refine ev_bN (fun _ => ?_) (fun x => by omega)
        rw [e, t0.1]
      · rw [if_neg e]
        have lp := hI.1.lv (par e).1 (par e).2
        have lp2 := lp.2
        refine ev_bN (fun x => by omega) (fun _ => ?_)
        refine ev (rd_o on) ?_
        rw [hn'.1, if_neg e]
        refine ev (rd_o (hI.1.nd (par e).1 (par e).2)) ?_
        rw [hN.2.1 _ lp]
    rw [if_neg q]
    refine ev_bEq hw.1 hw.2 (by omega) (by omega) (fun q => ?_) (fun q => ?_)
    · rw [if_pos q]
      refine ev (rd_o on) ?_
      rw [hn'.1]
      by_cases e : n = 0
      · rw [if_pos e, if_pos e]
        refine ev_bN (fun _ => ?_) (fun x => by omega)
        refine ev rS_0_1 ?_
        refine ev rS_9_4 ?_
        rw [hC.2.2.1]
      · rw [if_neg e, if_neg e]
        have lp := hI.1.lv (par e).1 (par e).2
        have lp2 := lp.2
        refine ev_bN (fun x => by omega) (fun _ => ?_)
        refine ev (rd_o on) ?_
        rw [hn'.2.1 (by omega)]
    rw [if_neg q]
    refine ev_bEq hw.1 hw.2 (by omega) (by omega) (fun q => ?_) (fun q => ?_)
    · rw [if_pos q]
      refine ev (rd_o on) ?_
      rw [hn'.2.2.1]
    rw [if_neg q]
    refine ev_bEq hw.1 hw.2 (by omega) (by omega) (fun q => ?_) (fun q => ?_)
    · rw [if_pos q]
      refine ev (rd_o on) ?_
      rw [hn'.2.2.2.1]
    rw [if_neg q]
    refine ev_bEq hw.1 hw.2 (by omega) (by omega) (fun q => ?_) (fun q => ?_)
    · rw [if_pos q]
      refine ev (rd_o on) ?_
      rw [hn'.2.2.2.2.1]
    rw [if_neg q]
    refine ev_bEq hw.1 hw.2 (by omega) (by omega) (fun q => lk w (by omega) (by omega)) (fun q5 => ?_)
    refine ev_bEq hw.1 hw.2 (by omega) (by omega) (fun q => lk w (by omega) (by omega)) (fun q6 => ?_)
    refine ev_bEq hw.1 hw.2 (by omega) (by omega) (fun q => lk w (by omega) (by omega)) (fun q7 => ?_)
    rw [if_neg (by omega)]
  · rw [F_X8_about]
    unfold abt
    refine evd (iS_23.trans (X8_isNode hT hn)) (ev_if (fun q => by rw [if_neg q]) (fun q => ?_))
    have n0 := q.1
    have n1 : n < ξ 23 11 := by have := q.2; omega
    rw [if_pos q]
    refine evd (X8_in _ hw ⟨by omega, by omega⟩ ⟨by omega, by omega⟩) (ev_if (fun q2 => ?_) (fun q2 => ?_))
    · rw [if_neg (by omega), if_neg (by omega), if_neg (by omega), if_neg (by omega), if_neg (by omega), if_neg (by omega)]
    have B36 : (w ≤ 4 ∨ w - 5 < ξ 23 1) → F_X8_about_B36 (b0 + 23) n w (S b0 σ ξ) = some (if w = 0 then ξ 31 n else if w = 1 then (if n = 0 then ξ 23 9 else ξ 32 n) else if w = 2 then ξ 33 n else if w = 3 then rk ξ n (ξ 23 11) else if w = 4 then wsm ξ n else if 5 ≤ w ∧ w ≤ 7 ∧ w - 5 < ξ 23 1 then ξ 34 (3 * n + (w - 5)) else -2, S b0 σ ξ) := by
      intro hlk
      rw [F_X8_about_B36]
      refine ev_bEq hw.1 hw.2 (by omega) (by omega) (fun q => ?_) (fun q => ?_)
      · rw [if_pos q]
        refine ev rS_23_12 ?_
        exact ev (aS_31 (by omega) (by omega)) rfl
      rw [if_neg q]
      refine ev_bEq hw.1 hw.2 (by omega) (by omega) (fun q => ?_) (fun q => ?_)
      · rw [if_pos q]
        refine ev_bEq hn.1 hn.2 (by omega) (by omega) (fun e => ?_) (fun e => ?_)
        · rw [if_pos e]
          exact ev rS_23_9 rfl
        · rw [if_neg e]
          refine ev rS_23_13 ?_
          exact ev (aS_32 (by omega) (by omega)) rfl
      rw [if_neg q]
      refine ev_bEq hw.1 hw.2 (by omega) (by omega) (fun q => ?_) (fun q => ?_)
      · rw [if_pos q]
        refine ev rS_23_14 ?_
        exact ev (aS_33 (by omega) (by omega)) rfl
      rw [if_neg q]
      refine ev_bEq hw.1 hw.2 (by omega) (by omega) (fun q => ?_) (fun q => ?_)
      · rw [if_pos q, about_loop hT n0 n1 (ξ 23 11 - 1).toNat fu 0 1 (fuN (by omega)) (by omega) (by omega), Int.zero_add, rk_all hT n0 n1]
      rw [if_neg q]
      refine ev_bEq hw.1 hw.2 (by omega) (by omega) (fun q => ?_) (fun q => ?_)
      · rw [if_pos q]
        exact evd (iS_23.trans (X8_weightsOf hT hn)) rfl
      rw [if_neg q, if_pos (by omega)]
      refine ev_bEq hn.1 hn.2 (by omega) (by omega) (fun e => ?_) (fun e => ?_)
      · rw [e, show 3 * 0 + (w - 5) = w - 5 by omega, hX.2.2.1 (w - 5) (by omega) (by omega)]
      · refine ev rS_23_15 ?_
        rw [show 3 * n + w - 5 = 3 * n + (w - 5) by omega]
        exact ev (aS_34 (by omega) (by omega)) rfl
    refine ev_bLe hw.1 hw.2 (by omega) (by omega) (fun q3 => B36 (Or.inl q3)) (fun q3 => ?_)
    refine evd (iS_23.trans (X8_isLake hB ⟨by omega, by omega⟩)) (ev_if (fun q4 => ?_) (fun q4 => B36 (Or.inr (by omega))))
    rw [if_neg (by omega), if_neg (by omega), if_neg (by omega), if_neg (by omega), if_neg (by omega), if_neg (by omega)]
  · unfold abt
    by_cases q : 0 ≤ n ∧ n ≤ ξ 23 11 - 1
    · rw [if_pos q]
      have wk := hT.week (n := n) q.1 (by omega)
      have rm := rk_mono (ξ := ξ) (n := n) (p := n + 1) (q := ξ 23 11) (by omega) (by omega)
      rw [rk_0] at rm
      have rw' := rk_wsm hT q.1 (by omega)
      have wb := wsm_bd (m := n) hT
      have pp : -1 ≤ ξ 31 n ∧ ξ 31 n < 81 := by
        by_cases e : n = 0
        · rw [e, t0.1]; omega
        · have := hT.2.2.2.2.2.1 n (by omega) (by omega); omega
      have pw : n ≠ 0 → 1 ≤ ξ 32 n ∧ ξ 32 n ≤ 6 := fun e => by have := hT.2.2.2.2.2.1 n (by omega) (by omega); omega
      have pi : ∀ k, 5 ≤ k → k ≤ 7 → 0 ≤ ξ 34 (3 * n + (k - 5)) ∧ ξ 34 (3 * n + (k - 5)) ≤ 9 := fun k a b => hT.2.2.2.2.2.2 _ (by omega) (by omega)
      unfold R3
      by_cases e0 : w = 0
      · rw [if_pos e0]; omega
      rw [if_neg e0]
      by_cases e1 : w = 1
      · rw [if_pos e1]
        by_cases e : n = 0
        · rw [if_pos e]; omega
        · rw [if_neg e]; have := pw e; omega
      rw [if_neg e1]
      by_cases e2 : w = 2
      · rw [if_pos e2]; omega
      rw [if_neg e2]
      by_cases e3 : w = 3
      · rw [if_pos e3]; omega
      rw [if_neg e3]
      by_cases e4 : w = 4
      · rw [if_pos e4]; omega
      rw [if_neg e4]
      by_cases e5 : 5 ≤ w ∧ w ≤ 7 ∧ w - 5 < ξ 23 1
      · rw [if_pos e5]; have := pi w e5.1 e5.2.1; omega
      · rw [if_neg e5]; omega
    · rw [if_neg q]
      exact ⟨by decide, by decide⟩
end O5
