section N1
variable {b0 : Int} {σ τ : Hp} {ξ ζ η : Int → Int → Int} {a b c i k l m n v j : Int}
/-- what searches write in the class: spilled, found lets -/
def scrC (d k : Int) : Prop := (d = 1 ∧ k = 3) ∨ (d = 15 ∧ k = 3)
theorem Cf_scrC (h : Ch scrC ξ ζ) : Cf ξ ζ := Cf_ch (fun d k q => by unfold scrC at q; omega) h
theorem CV_ch (h : Ch scrC ξ ζ) (hV : CV ξ) : CV ζ := by
  have hf := Cf_scrC h
  have o : ∀ d k, (d ≠ 1 ∨ k ≠ 3) → d ≠ 15 → ζ d k = ξ d k := fun d k q r => h d k (by unfold scrC; omega)
  obtain ⟨h1, h2, h3⟩ := hV
  refine ⟨by rw [o 1 1 (by omega) (by omega), hf.2 1 (by omega)]; exact h1, by rw [o 1 2 (by omega) (by omega), ZZ_cf hf]; exact h2, fun i i0 i3 => ?_⟩
  obtain ⟨q, r⟩ := h3 i i0 i3
  refine ⟨?_, fun m m0 m1 => ?_⟩
  · rw [o _ 1 (by omega) (by omega), o _ 2 (by omega) (by omega), o _ 3 (by omega) (by omega), o _ 4 (by omega) (by omega), o _ 5 (by omega) (by omega), o _ 6 (by omega) (by omega), o _ 7 (by omega) (by omega), o _ 8 (by omega) (by omega), hf.1 24 (by omega), hf.1 25 (by omega), hf.1 26 (by omega), hf.1 27 (by omega), hf.1 29 (by omega), hf.1 41 (by omega), hf.1 42 (by omega), hf.2 1 (by omega), sd_cf hf]
    exact q
  · have e : hd ζ i m = hd ξ i m := by
      unfold hd
      rw [hf.1 25 (by omega), hf.1 28 (by omega), hf.2 1 (by omega)]
    rw [o _ _ (by omega) (by omega), e]
    exact r m m0 m1
theorem hd_cf (hf : Cf ξ ζ) : hd ζ = hd ξ := by
  funext i m
  unfold hd
  rw [hf.1 25 (by omega), hf.1 28 (by omega), hf.2 1 (by omega)]
theorem gfl_cf (hf : Cf ξ ζ) : gfl ζ = gfl ξ := by
  funext i0 i1 i2 m0 m1 m2 t0 t1 t2
  unfold gfl enc gx2 go2 gx1 go1 gx0 go0 gx2 go1 gx1 go0 gx0
  rw [hf.1 25 (by omega)]
/-- the class stands on the base -/
def KB (b0 : Int) (ξ : Int → Int → Int) (σ : Hp) : Prop := LB ξ ∧ TB ξ ∧ CV ξ ∧ CR ξ ∧ NS b0 σ ξ ∧ NL σ ξ
theorem KB.lv (h : KB b0 ξ σ) (n0 : 0 ≤ n) (n1 : n < ξ 23 11) : lv ξ n := ⟨⟨n0, by have := h.2.1.2.2.1; omega⟩, h.2.2.2.2.2.1 n n0 n1⟩
theorem KB.nd (h : KB b0 ξ σ) (n0 : 0 ≤ n) (n1 : n < ξ 23 11) : ob b0 σ (ξ 10 n) 2 0 := (h.2.2.2.2.1.1 n (h.lv n0 n1)).1
theorem KB.wk (h : KB b0 ξ σ) (n0 : 0 ≤ n) (n1 : n < ξ 23 11) : gf σ (ξ 10 n) 5 = ξ 33 n := (h.2.2.2.2.2.2.2 n n0 n1).2.2.1
theorem KB.made (h : KB b0 ξ σ) (hc : Ch scrC ξ ζ) : ζ 9 2 = ξ 23 11 ∧ ζ 9 3 = ξ 23 8 ∧ ζ 9 4 = ξ 23 9 ∧ (∀ n, ζ 10 n = ξ 10 n) ∧ ∀ w, 0 ≤ w → w < 10 → ζ 11 w = ξ 30 w := by
  have q := h.2.2.2.1
  have o : ∀ d k, d ≠ 1 → d ≠ 15 → ζ d k = ξ d k := fun d k q r => hc d k (by unfold scrC; omega)
  refine ⟨by rw [o _ _ (by omega) (by omega)]; exact q.1, by rw [o _ _ (by omega) (by omega)]; exact q.2.1, by rw [o _ _ (by omega) (by omega)]; exact q.2.2.1, fun n => o _ _ (by omega) (by omega), fun w a b => by rw [o _ _ (by omega) (by omega)]; exact q.2.2.2 w a b⟩
theorem X3_nodeAt (h : KB b0 ξ σ) (hc : Ch scrC ξ ζ) (hr : R3 l) : F_X3_nodeAt (b0 + 9) l (S b0 σ ζ) = some (if 0 ≤ l ∧ l ≤ ξ 23 11 - 1 then ξ 10 l else -1, S b0 σ ζ) := by
  have hm := h.made hc
  have n81 := h.2.1.2.2.1
  rw [F_X3_nodeAt]
  refine ev_bLt hr.1 hr.2 (by omega) (by omega) (fun q => ?_) (fun q => ?_)
  · rw [if_neg (by omega)]
  · refine ev rS_9_2 ?_
    rw [hm.1]
    refine ev_bLt hr.1 hr.2 (by omega) (by omega) (fun q2 => ?_) (fun q2 => ?_)
    · refine ev rS_9_0 ?_
      refine ev lS_10 ?_
      refine ev_bLt hr.1 hr.2 (by omega) (by omega) (fun q3 => ?_) (fun q3 => by omega)
      refine ev rS_9_0 ?_
      refine ev (aS_10 (by omega) (by omega)) ?_
      rw [if_pos (by omega), hm.2.2.2.1]
    · rw [if_neg (by omega)]
theorem X3_isLast (h : KB b0 ξ σ) (hc : Ch scrC ξ ζ) (n0 : 0 ≤ n) (n1 : n < ξ 23 11) : F_X3_isLast (b0 + 9) (ξ 10 n) (S b0 σ ζ) = some (lst ξ n, S b0 σ ζ) := by
  have hm := h.made hc
  have w := h.2.1.week n0 n1
  have w10 := h.2.1.1
  rw [F_X3_isLast]
  refine ev (rd_o (h.nd n0 n1)) ?_
  refine ev rS_9_3 ?_
  rw [h.wk n0 n1, hm.2.1]
  unfold lst
  refine ev_bLt (by omega) (by omega) (by omega) (by omega) (fun q => ?_) (fun q => ?_)
  · rw [if_neg (by omega)]; rfl
  · rw [if_pos (by omega)]; rfl
theorem X3_weeksLeft (h : KB b0 ξ σ) (hc : Ch scrC ξ ζ) (n0 : 0 ≤ n) (n1 : n < ξ 23 11) : F_X3_weeksLeft (b0 + 9) (ξ 10 n) (S b0 σ ζ) = some ((lft ξ n : Int), S b0 σ ζ) := by
  have hm := h.made hc
  have w := h.2.1.week n0 n1
  rw [F_X3_weeksLeft]
  refine ev rS_9_3 ?_
  refine ev (rd_o (h.nd n0 n1)) ?_
  rw [h.wk n0 n1, hm.2.1]
  exact ev_end (by unfold lft; omega) rfl
theorem X3_priceFrom (h : KB b0 ξ σ) (hc : Ch scrC ξ ζ) (n0 : 0 ≤ n) (n1 : n < ξ 23 11) (hw : ξ 33 n < ξ 23 8 - 1) : F_X3_priceFrom (b0 + 9) (ξ 10 n) (S b0 σ ζ) = some (ξ 30 (ξ 33 n + 1), S b0 σ ζ) := by
  have hm := h.made hc
  have w := h.2.1.week n0 n1
  have w10 := h.2.1.1
  rw [F_X3_priceFrom]
  refine ev (rd_o (h.nd n0 n1)) ?_
  rw [h.wk n0 n1]
  refine ev_bLt (by omega) (by omega) (by omega) (by omega) (fun q => by omega) (fun q => ?_)
  refine ev rS_9_1 ?_
  refine ev lS_11 ?_
  refine ev_bLt (by omega) (by omega) (by omega) (by omega) (fun q => ?_) (fun q => by omega)
  refine ev rS_9_1 ?_
  refine ev (aS_11 (by omega) (by omega)) ?_
  rw [hm.2.2.2.2 _ (by omega) (by omega)]
theorem X3_scaleOf (h : KB b0 ξ σ) (hc : Ch scrC ξ ζ) (k : Nat) (hk : k ≤ 10) : F_X3_scaleOf (b0 + 9) (k : Int) (S b0 σ ζ) = some (ξ 23 9 ^ k, S b0 σ ζ) := by
  have hm := h.made hc
  have d6 := h.2.1.2.1
  rw [F_X3_scaleOf]
  have key : ∀ (m f : Nat) (a j : Int), m < f → 0 ≤ j → j + m = k → F_X3_scaleOf_L5 (b0 + 9) (k : Int) f a j (S b0 σ ζ) = some (a * ξ 23 9 ^ m, S b0 σ ζ) := by
    intro m
    induction m with
    | zero =>
      intro f a j hf j0 he
      obtain ⟨f, rfl⟩ : ∃ g, f = g + 1 := ⟨f - 1, by omega⟩
      rw [F_X3_scaleOf_L5]
      exact ev_bLt (by omega) (by omega) (by omega) (by omega) (fun q => by omega) (fun q => ev_end (by simp) rfl)
    | succ m ih =>
      intro f a j hf j0 he
      obtain ⟨f, rfl⟩ : ∃ g, f = g + 1 := ⟨f - 1, by omega⟩
      rw [F_X3_scaleOf_L5]
      refine ev_bLt (by omega) (by omega) (by omega) (by omega) (fun q => ?_) (fun q => by omega)
      refine ev rS_9_4 ?_
      rw [hm.2.2.1]
      refine ev_g3 (by omega) (by omega) ?_
      refine evn ?_
      rw [ih f _ (j + 1) (by omega) (by omega) (by omega), Int.mul_assoc, Int.pow_succ, Int.mul_comm (ξ 23 9 ^ m)]
  rw [key k fu 1 0 (fuN (by omega)) (by omega) (by omega), Int.one_mul]
def FI (ξ : Int → Int → Int) (n : Int) : Prop := ∀ m, n ≤ m → m < ξ 23 11 → ξ 33 m < ξ 23 8 - 1 → wsm ξ m = ξ 23 9
theorem X3_isFilled (h : KB b0 ξ σ) (hc : Ch scrC ξ ζ) : ∃ v, F_X3_isFilled (b0 + 9) (S b0 σ ζ) = some (v, S b0 σ ζ) ∧ ((v = 1 ∧ FI ξ 0) ∨ (v = 0 ∧ ¬ FI ξ 0)) := by
  have hm := h.made hc
  have n81 := h.2.1.2.2.1
  have d6 := h.2.1.2.1
  have key : ∀ (m f : Nat) (j : Int), m < f → 0 ≤ j → j + m = ξ 23 11 → ∃ v, F_X3_isFilled_L2 (b0 + 9) f j (S b0 σ ζ) = some (v, S b0 σ ζ) ∧ ((v = 1 ∧ FI ξ j) ∨ (v = 0 ∧ ¬ FI ξ j)) := by
    intro m
    induction m with
    | zero =>
      intro f j hf j0 he
      obtain ⟨f, rfl⟩ : ∃ g, f = g + 1 := ⟨f - 1, by omega⟩
      refine ⟨1, ?_, Or.inl ⟨rfl, fun m a b => by omega⟩⟩
      rw [F_X3_isFilled_L2]
      refine ev rS_9_2 ?_
      rw [hm.1]
      exact ev_bLt (by omega) (by omega) (by omega) (by omega) (fun q => by omega) (fun q => rfl)
    | succ m ih =>
      intro f j hf j0 he
      obtain ⟨f, rfl⟩ : ∃ g, f = g + 1 := ⟨f - 1, by omega⟩
      have w := h.2.1.week (n := j) j0 (by omega)
      have hn := h.2.2.2.2.2.2.2 j j0 (by omega)
      have wb := wsm_bd (m := j) h.2.1
      have top : ∀ z, (ξ 33 j < ξ 23 8 - 1 ∧ wsm ξ j ≠ ξ 23 9 → some (0, S b0 σ ζ) = z) → (¬ (ξ 33 j < ξ 23 8 - 1 ∧ wsm ξ j ≠ ξ 23 9) → F_X3_isFilled_L2 (b0 + 9) f (j + 1) (S b0 σ ζ) = z) → F_X3_isFilled_L2 (b0 + 9) (f + 1) j (S b0 σ ζ) = z := by
        intro z z1 z2
        rw [F_X3_isFilled_L2]
        refine ev rS_9_2 ?_
        rw [hm.1]
        refine ev_bLt (by omega) (by omega) (by omega) (by omega) (fun q => ?_) (fun q => by omega)
        refine ev rS_9_0 ?_
        refine ev (aS_10 (by omega) (by omega)) ?_
        rw [hm.2.2.2.1]
        refine evd (iS_9.trans (X3_isLast h hc j0 (by omega))) ?_
        unfold lst
        by_cases e : ξ 33 j = ξ 23 8 - 1
        · rw [if_pos e]
          exact ev_bEq (by omega) (by omega) (by omega) (by omega) (fun q => by omega) (fun q => z2 (by omega))
        · rw [if_neg e]
          refine ev_bEq (by omega) (by omega) (by omega) (by omega) (fun q => ?_) (fun q => by omega)
          refine ev rS_9_0 ?_
          refine ev (aS_10 (by omega) (by omega)) ?_
          rw [hm.2.2.2.1]
          refine ev (rd_o (h.nd j0 (by omega))) ?_
          refine ev rS_9_4 ?_
          rw [hn.2.2.2.2.1, hm.2.2.1]
          exact ev_bEq (by omega) (by omega) (by omega) (by omega) (fun q => z2 (fun x => x.2 q)) (fun q => z1 ⟨by omega, q⟩)
      by_cases c : ξ 33 j < ξ 23 8 - 1 ∧ wsm ξ j ≠ ξ 23 9
      · exact ⟨0, top _ (fun _ => rfl) (fun x => absurd c x), Or.inr ⟨rfl, fun x => c.2 (x j (Int.le_refl _) (by omega) c.1)⟩⟩
      · obtain ⟨v, r1, r2⟩ := ih f (j + 1) (by omega) (by omega) (by omega)
        refine ⟨v, top _ (fun x => absurd x c) (fun _ => r1), ?_⟩
        have e : FI ξ j ↔ FI ξ (j + 1) := by
          constructor
          · intro x m a b
            exact x m (by omega) b
          · intro x m a b d
            by_cases e : m = j
            · subst e
              by_cases q : wsm ξ m = ξ 23 9
              · exact q
              · exact absurd ⟨d, q⟩ c
            · exact x m (by omega) b d
        rw [e]
        exact r2
  rw [F_X3_isFilled]
  exact key (ξ 23 11).toNat fu 0 (fuN (by omega)) (Int.le_refl _) (by omega)
theorem X7_isWhole (h : KB b0 ξ σ) (hc : Ch scrC ξ ζ) : F_X7_isWhole b0 (S b0 σ ζ) = some (@ite Int (WH ξ) (Classical.propDecidable _) 1 0, S b0 σ ζ) := by
  have nl := h.1.1
  have e1 : ζ 1 1 = ξ 23 1 := by rw [hc 1 1 (by unfold scrC; omega)]; exact h.2.2.1.1
  obtain ⟨v, r1, r2⟩ := X3_isFilled h hc
  have hw : WH ξ ↔ (0 < ξ 23 1 ∧ FI ξ 0) := Iff.rfl
  rw [F_X7_isWhole]
  refine ev rS_0_0 ?_
  refine ev rS_1_1 ?_
  rw [e1]
  refine ev_bLe (by omega) (by omega) (by omega) (by omega) (fun q => ?_) (fun q => ?_)
  · rw [if_neg (fun x => by have := x.1; omega)]
    rfl
  · refine ev rS_0_1 ?_
    refine evd (iS_9.trans r1) ?_
    rcases r2 with ⟨rfl, x⟩ | ⟨rfl, x⟩
    · rw [if_pos (hw.mpr ⟨by omega, x⟩)]
      exact ev_bEq (by omega) (by omega) (by omega) (by omega) (fun q => by omega) (fun q => rfl)
    · rw [if_neg (fun y => x (hw.mp y).2)]
      exact ev_bEq (by omega) (by omega) (by omega) (by omega) (fun q => rfl) (fun q => by omega)
/-- the mean of what comes by the children from a state if nothing is let -/
noncomputable def MV (ξ : Int → Int → Int) (n s : Int) : Int := csm ξ n (fun c => VV ξ (lft ξ n - 1) c (flS ξ c s 0))
def CMn (ξ : Int → Int → Int) (σ : Hp) (n : Int) : Prop := (0 ≤ gf σ (ξ 10 n) 10 ∧ gf σ (ξ 10 n) 10 ≤ ξ 15 2) ∧ (n < ξ 23 11 → gf σ (ξ 10 n) 10 = ξ 15 2 → 0 ≤ gf σ (ξ 10 n) 8 ∧ ln σ (gf σ (ξ 10 n) 8) = ZZ ξ ∧ ∀ s, 0 ≤ s → s < ZZ ξ → (gf σ (gf σ (ξ 10 n) 8) s = -1 ∨ gf σ (gf σ (ξ 10 n) 8) s = VV ξ (lft ξ n) n s) ∧ (gf σ (gf σ (ξ 10 n) 9) s = -1 ∨ gf σ (gf σ (ξ 10 n) 9) s = MV ξ n s))
def CM (ξ : Int → Int → Int) (σ : Hp) : Prop := (1 ≤ ξ 15 2 ∧ ξ 15 2 ≤ 100000) ∧ ∀ n, lv ξ n → CMn ξ σ n
def liv (ξ : Int → Int → Int) (n : Int) : Int := if 0 ≤ ξ 10 n then 1 else 0
def RMn (ξ : Int → Int → Int) (σ : Hp) (cn : Int → Int) (n : Int) : Prop := (0 ≤ cn n ∧ cn n ≤ ξ 23 1) ∧ (0 ≤ ξ 10 n → (0 ≤ gf σ (ξ 10 n) 8 ∧ ln σ (gf σ (ξ 10 n) 8) = ZZ ξ) ∨ cn n < ξ 23 1 ∨ ξ 23 1 = 0) ∧ (ξ 10 n < 0 → cn n = 0)
def RM (b0 : Int) (ξ : Int → Int → Int) (σ : Hp) : Prop := ∃ cn : Int → Int, (∀ n, 0 ≤ n → n < 81 → RMn ξ σ cn n) ∧ (σ.1 : Int) ≤ b0 + 55 + 3 * sf (liv ξ) 0 81 + 2 * sf cn 0 81 ∧ (σ.2.1 : Int) ≤ 1000000 + 25 * sf (liv ξ) 0 81 + 2000 * sf cn 0 81
def KI (b0 : Int) (ξ : Int → Int → Int) (σ : Hp) : Prop := KB b0 ξ σ ∧ CM ξ σ ∧ RM b0 ξ σ
theorem KB_wr (h : KB b0 ξ σ) (hk : kd σ a = 2) (k10 : 10 ≤ k) : KB b0 ξ (wr σ a k v) := ⟨h.1, h.2.1, h.2.2.1, h.2.2.2.1, NS_wr h.2.2.2.2.1 (fun _ => by omega), NL_wr h.2.2.2.2.1 h.2.1.2.2.1.2 h.2.2.2.2.2 (Or.inl ⟨hk, by omega⟩)⟩
theorem KI_wr (h : KI b0 ξ σ) (hk : kd σ a = 2) (k11 : 11 ≤ k) : KI b0 ξ (wr σ a k v) := by
  obtain ⟨hB, ⟨c1, c2⟩, ⟨cn, r1, r2, r3⟩⟩ := h
  have e : ∀ b j, j < 11 → gf (wr σ a k v) b j = gf σ b j := fun b j hj => gf_wr_ne (Or.inr (by omega))
  have e2 : ∀ b l, ob b0 σ b 12 l → ∀ j, gf (wr σ a k v) b j = gf σ b j := fun b l hb j => gf_wr_ne (Or.inl (fun q => by
    have := hb.1
    rw [q, hk] at this
    omega))
  refine ⟨KB_wr hB hk (by omega), ⟨c1, fun n hn => ?_⟩, ⟨cn, fun n a0 a1 => ?_, r2, r3⟩⟩
  · obtain ⟨q1, q2⟩ := c2 n hn
    unfold CMn
    rw [e _ 10 (by omega), e _ 8 (by omega), e _ 9 (by omega), ln_wr]
    refine ⟨q1, fun x y => ?_⟩
    obtain ⟨z1, z2, z3⟩ := q2 x y
    refine ⟨z1, z2, fun s s0 s1 => ?_⟩
    rcases hB.2.2.2.2.1.2.2.1 n hn with w | ⟨l, w1, w2, w3, w4⟩
    · omega
    · rw [e2 _ _ w2.2, e2 _ _ w3.2]
      exact z3 s s0 s1
  · obtain ⟨q1, q2, q3⟩ := r1 n a0 a1
    unfold RMn
    rw [e _ 8 (by omega), ln_wr]
    exact ⟨q1, q2, q3⟩
theorem X1_childAt (h : KB b0 ξ σ) (n0 : 0 ≤ n) (n1 : n < ξ 23 11) (hb : rk ξ n (ξ 23 11) ≤ 6) (hr : R3 k) : F_X1_childAt (ξ 10 n) k (S b0 σ ζ) = some (if 0 ≤ k ∧ k < rk ξ n (ξ 23 11) then gf σ (gf σ (ξ 10 n) 2) k else -1, S b0 σ ζ) := by
  have hn := h.2.2.2.2.2.2.2 n n0 n1
  have ho := h.2.2.2.2.1.1 n (h.lv n0 n1)
  have r0 : 0 ≤ rk ξ n (ξ 23 11) := by have := rk_mono (ξ := ξ) (n := n) (p := n + 1) (q := ξ 23 11) (by omega) (by omega); rw [rk_0] at this; exact this
  rw [F_X1_childAt]
  refine ev_bLt hr.1 hr.2 (by omega) (by omega) (fun q => ?_) (fun q => ?_)
  · rw [if_neg (by omega)]
  · refine ev (rd_o ho.1) ?_
    rw [hn.2.2.2.1]
    refine ev_bLt hr.1 hr.2 (by omega) (by omega) (fun q2 => ?_) (fun q2 => ?_)
    · refine ev (rd_o ho.1) ?_
      refine ev (al_o ho.2.2 (by omega)) ?_
      refine ev_bLt hr.1 hr.2 (by omega) (by omega) (fun q3 => ?_) (fun q3 => by omega)
      refine ev (rd_o ho.1) ?_
      refine ev (ar_o ho.2.2 (by omega) (by omega) (by omega)) ?_
      rw [if_pos (by omega)]
    · rw [if_neg (by omega)]
theorem X1_sumIn (h : KB b0 ξ σ) (n0 : 0 ≤ n) (n1 : n < ξ 23 11) : F_X1_sumIn (ξ 10 n) (S b0 σ ζ) = some (ξ 34 (3 * n) + ξ 34 (3 * n + 1) + ξ 34 (3 * n + 2), S b0 σ ζ) := by
  have hn := h.2.2.2.2.2.2.2 n n0 n1
  have ho := h.2.2.2.2.1.1 n (h.lv n0 n1)
  have hi := hn.2.2.2.2.2.1
  obtain ⟨f, hf⟩ := fu4
  rw [F_X1_sumIn, hf]
  have st : ∀ (f : Nat) (u j : Int), 0 ≤ j → j < 3 → F_X1_sumIn_L4 (ξ 10 n) (f + 1) u j (S b0 σ ζ) = F_X1_sumIn_L4 (ξ 10 n) f (u + ξ 34 (3 * n + j)) (j + 1) (S b0 σ ζ) := by
    intro f u j j0 j3
    rw [F_X1_sumIn_L4]
    refine ev (rd_o ho.1) ?_
    refine ev (al_o ho.2.1 (by omega)) ?_
    refine ev_bLt (by omega) (by omega) (by omega) (by omega) (fun q => ?_) (fun q => by omega)
    refine ev (rd_o ho.1) ?_
    refine ev (ar_o ho.2.1 (by omega) (by omega) (by omega)) ?_
    rw [hi j j0 j3]
  rw [st _ _ _ (by omega) (by omega), st _ _ _ (by omega) (by omega), st _ _ _ (by omega) (by omega), F_X1_sumIn_L4]
  refine ev (rd_o ho.1) ?_
  refine ev (al_o ho.2.1 (by omega)) ?_
  refine ev_bLt (by omega) (by omega) (by omega) (by omega) (fun q => by omega) (fun q => ?_)
  exact ev_end (by simp) rfl
end N1
