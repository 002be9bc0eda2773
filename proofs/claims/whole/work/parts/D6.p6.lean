section P6
variable {b0 : Int} {σ τ σ' : Hp} {ξ ζ η ζc ζm ζ1 ξ' : Int → Int → Int} {a b c i k l m n v j w s L p q le r x t t' mm fr st g e u d : Int}
theorem CM_bump' (h : CM ξ σ) (e10 : ξ' 10 = ξ 10) (ev : ξ' 15 2 = ξ 15 2 + 1) (vb : ξ 15 2 < 100000) (eg : ∀ n, lv ξ n → gf σ' (ξ 10 n) 10 = gf σ (ξ 10 n) 10) : CM ξ' σ' := by
  refine ⟨by have := h.1; omega, fun n hn => ?_⟩
  unfold lv at hn
  rw [e10] at hn
  have q := (h.2 n hn).1
  unfold CMn
  rw [e10, ev, eg n hn]
  exact ⟨by omega, fun _ x => by omega⟩
def scrw (d k : Int) : Prop := (d = 9 ∧ (k = 2 ∨ k = 3 ∨ k = 4)) ∨ (d = 15 ∧ k = 2) ∨ (d = 23 ∧ (k = 8 ∨ k = 9 ∨ k = 11 ∨ k = 19))
theorem T_weeks (h : INV b0 ξ σ t) (ht : t + 1 ≤ t') (tb : t' ≤ 100000) (hw : R3 w) (hdd : R3 d) : Step b0 σ ξ t' (F_X7_weeks b0 w d) (F_X8_weeks (b0 + 23) w d) R3 := by
  obtain ⟨hI, hM, hX, hR, hv⟩ := id h
  obtain ⟨r1, r2, r3, r4⟩ := id hR
  obtain ⟨hB, hT, hV, hC, hS, hN⟩ := id hI.1
  have n81 := hT.2.2.1
  have l0 := hI.1.lv (n := 0) (by omega) (by omega)
  have on := hI.1.nd (n := 0) (by omega) (by omega)
  have top : ∀ z, (¬ ((1 ≤ w ∧ w ≤ 10) ∧ (1 ≤ d ∧ d ≤ 6)) → some (-1, S b0 σ ξ) = z) → ((1 ≤ w ∧ w ≤ 10) ∧ (1 ≤ d ∧ d ≤ 6) → ξ 23 32 ≠ 0 → some (-2, S b0 σ ξ) = z) → ((1 ≤ w ∧ w ≤ 10) ∧ (1 ≤ d ∧ d ≤ 6) → ξ 23 32 = 0 → some (1, S b0 (wr (wr σ (ξ 10 0) 6 0) (ξ 10 0) 7 0) (xu (xu (xu (xu ξ 9 3 w) 9 4 d) 9 2 1) 15 2 (ξ 15 2 + 1))) = z) → F_X7_weeks b0 w d (S b0 σ ξ) = z := by
    intro z z1 z2 z3
    rw [F_X7_weeks]
    refine ev_bLt hw.1 hw.2 (by omega) (by omega) (fun q => z1 (by omega)) (fun q1 => ?_)
    refine ev_bLe hw.1 hw.2 (by omega) (by omega) (fun q2 => ?_) (fun q => z1 (by omega))
    refine ev_bLt hdd.1 hdd.2 (by omega) (by omega) (fun q => z1 (by omega)) (fun q3 => ?_)
    refine ev_bLe hdd.1 hdd.2 (by omega) (by omega) (fun q4 => ?_) (fun q => z1 (by omega))
    refine ev rS_0_4 ?_
    refine ev rS_17_5 ?_
    rw [r2]
    refine ev_bEq (by omega) (by omega) (by omega) (by omega) (fun q => ?_) (fun q => z2 ⟨⟨by omega, by omega⟩, by omega, by omega⟩ q)
    refine ev rS_0_1 ?_
    refine evd (iS_9.trans (show F_X3_clear (b0 + 9) w d (S b0 σ ξ) = some (0, S b0 (wr (wr σ (ξ 10 0) 6 0) (ξ 10 0) 7 0) (xu (xu (xu ξ 9 3 w) 9 4 d) 9 2 1)) from ?_)) ?_
    · rw [F_X3_clear]
      refine ev pS_9_3 ?_
      refine ev pS_9_4 ?_
      refine ev pS_9_2 ?_
      refine ev rS_9_0 ?_
      refine ev (aS_10 (by omega) (by omega)) ?_
      rw [xu_nd (by omega), xu_nd (by omega), xu_nd (by omega)]
      refine evd ((iv_o on).trans (show F_X1_dropChildren (ξ 10 0) (S b0 σ (xu (xu (xu ξ 9 3 w) 9 4 d) 9 2 1)) = some (0, S b0 (wr (wr σ (ξ 10 0) 6 0) (ξ 10 0) 7 0) (xu (xu (xu ξ 9 3 w) 9 4 d) 9 2 1)) from ?_)) rfl
      rw [F_X1_dropChildren]
      refine ev (pw_o on) ?_
      exact ev (pw_o (ob_wr on)) rfl
    · refine ev rS_0_2 ?_
      refine evd (iS_15.trans X6_forget) ?_
      rw [xu_nd (show (15 : Int) ≠ 9 by omega), xu_nd (show (15 : Int) ≠ 9 by omega), xu_nd (show (15 : Int) ≠ 9 by omega)]
      exact z3 ⟨⟨by omega, by omega⟩, by omega, by omega⟩ q
  have mtop : ∀ (σ : Hp) (ζ : Int → Int → Int) z, ζ 23 32 = ξ 23 32 → (¬ ((1 ≤ w ∧ w ≤ 10) ∧ (1 ≤ d ∧ d ≤ 6)) → some (-1, S b0 σ ζ) = z) → ((1 ≤ w ∧ w ≤ 10) ∧ (1 ≤ d ∧ d ≤ 6) → ξ 23 32 ≠ 0 → some (-2, S b0 σ ζ) = z) → ((1 ≤ w ∧ w ≤ 10) ∧ (1 ≤ d ∧ d ≤ 6) → ξ 23 32 = 0 → some (1, S b0 σ (xu (xu (xu (xu ζ 23 8 w) 23 9 d) 23 11 1) 23 19 0)) = z) → F_X8_weeks (b0 + 23) w d (S b0 σ ζ) = z := by
    intro σ ζ z e32 z1 z2 z3
    rw [F_X8_weeks]
    refine evd (X8_in _ hw ⟨by omega, by omega⟩ ⟨by omega, by omega⟩) (ev_if (fun q => z1 (fun y => q y.1)) (fun q1 => ?_))
    refine evd (X8_in _ hdd ⟨by omega, by omega⟩ ⟨by omega, by omega⟩) (ev_if (fun q => z1 (fun y => q y.2)) (fun q2 => ?_))
    refine ev rS_23_32 ?_
    rw [e32]
    refine ev_bEq (by omega) (by omega) (by omega) (by omega) (fun q => ?_) (fun q => z2 ⟨q1, q2⟩ q)
    refine ev pS_23_8 ?_
    refine ev pS_23_9 ?_
    refine ev pS_23_11 ?_
    exact evd (iS_23.trans X8_forget) (z3 ⟨q1, q2⟩ q)
  by_cases ok : (1 ≤ w ∧ w ≤ 10) ∧ (1 ≤ d ∧ d ≤ 6)
  · by_cases off : ξ 23 32 = 0
    · have ch : Ch scrw ξ (xu (xu (xu (xu (xu (xu (xu (xu ξ 9 3 w) 9 4 d) 9 2 1) 15 2 (ξ 15 2 + 1)) 23 8 w) 23 9 d) 23 11 1) 23 19 0) := Ch_xu (by unfold scrw; omega) (Ch_xu (by unfold scrw; omega) (Ch_xu (by unfold scrw; omega) (Ch_xu (by unfold scrw; omega) (Ch_xu (by unfold scrw; omega) (Ch_xu (by unfold scrw; omega) (Ch_xu (by unfold scrw; omega) (Ch_xu (by unfold scrw; omega) Ch.rf)))))))
      refine ⟨1, wr (wr σ (ξ 10 0) 6 0) (ξ 10 0) 7 0, _, wr (wr σ (ξ 10 0) 6 0) (ξ 10 0) 7 0, _, top _ (fun q => absurd ok q) (fun _ q => absurd off q) (fun _ _ => rfl), mtop _ _ _ (by rw [xu_nd (by omega), xu_nd (by omega), xu_nd (by omega), xu_nd (by omega)]) (fun q => absurd ok q) (fun _ q => absurd off q) (fun _ _ => rfl), ?_, ⟨by decide, by decide⟩⟩
      have v92 : xu (xu (xu (xu (xu (xu (xu (xu ξ 9 3 w) 9 4 d) 9 2 1) 15 2 (ξ 15 2 + 1)) 23 8 w) 23 9 d) 23 11 1) 23 19 0 9 2 = 1 := by simp [xu]
      have v93 : xu (xu (xu (xu (xu (xu (xu (xu ξ 9 3 w) 9 4 d) 9 2 1) 15 2 (ξ 15 2 + 1)) 23 8 w) 23 9 d) 23 11 1) 23 19 0 9 3 = w := by simp [xu]
      have v94 : xu (xu (xu (xu (xu (xu (xu (xu ξ 9 3 w) 9 4 d) 9 2 1) 15 2 (ξ 15 2 + 1)) 23 8 w) 23 9 d) 23 11 1) 23 19 0 9 4 = d := by simp [xu]
      have v15 : xu (xu (xu (xu (xu (xu (xu (xu ξ 9 3 w) 9 4 d) 9 2 1) 15 2 (ξ 15 2 + 1)) 23 8 w) 23 9 d) 23 11 1) 23 19 0 15 2 = ξ 15 2 + 1 := by simp [xu]
      have v8 : xu (xu (xu (xu (xu (xu (xu (xu ξ 9 3 w) 9 4 d) 9 2 1) 15 2 (ξ 15 2 + 1)) 23 8 w) 23 9 d) 23 11 1) 23 19 0 23 8 = w := by simp [xu]
      have v9 : xu (xu (xu (xu (xu (xu (xu (xu ξ 9 3 w) 9 4 d) 9 2 1) 15 2 (ξ 15 2 + 1)) 23 8 w) 23 9 d) 23 11 1) 23 19 0 23 9 = d := by simp [xu]
      have v11 : xu (xu (xu (xu (xu (xu (xu (xu ξ 9 3 w) 9 4 d) 9 2 1) 15 2 (ξ 15 2 + 1)) 23 8 w) 23 9 d) 23 11 1) 23 19 0 23 11 = 1 := by simp [xu]
      have v19 : xu (xu (xu (xu (xu (xu (xu (xu ξ 9 3 w) 9 4 d) 9 2 1) 15 2 (ξ 15 2 + 1)) 23 8 w) 23 9 d) 23 11 1) 23 19 0 23 19 = 0 := by simp [xu]
      generalize xu (xu (xu (xu (xu (xu (xu (xu ξ 9 3 w) 9 4 d) 9 2 1) 15 2 (ξ 15 2 + 1)) 23 8 w) 23 9 d) 23 11 1) 23 19 0 = ξ' at *
      have o : ∀ d k, ¬ scrw d k → ξ' d k = ξ d k := ch
      have f : ∀ d, d ≠ 9 → d ≠ 15 → d ≠ 23 → ξ' d = ξ d := fun d a b c => funext fun k => o d k (by unfold scrw; omega)
      have o1 : ξ' 23 1 = ξ 23 1 := o 23 1 (by unfold scrw; omega)
      have e10 : ξ' 10 = ξ 10 := f 10 (by omega) (by omega) (by omega)
      have e33 : ξ' 33 = ξ 33 := f 33 (by omega) (by omega) (by omega)
      have e34 : ξ' 34 = ξ 34 := f 34 (by omega) (by omega) (by omega)
      have hB' : LB ξ' := by
        unfold LB at hB ⊢
        rw [o1, f 24 (by omega) (by omega) (by omega), f 25 (by omega) (by omega) (by omega), f 26 (by omega) (by omega) (by omega), f 27 (by omega) (by omega) (by omega), f 28 (by omega) (by omega) (by omega), f 29 (by omega) (by omega) (by omega), f 41 (by omega) (by omega) (by omega), f 42 (by omega) (by omega) (by omega)]
        exact hB
      have ez : ZZ ξ' = ZZ ξ := by unfold ZZ; rw [f 25 (by omega) (by omega) (by omega)]
      have esd : sd ξ' = sd ξ := by funext i; unfold sd; rw [f 25 (by omega) (by omega) (by omega)]
      have ehd : hd ξ' = hd ξ := by funext i m; unfold hd; rw [f 25 (by omega) (by omega) (by omega), f 28 (by omega) (by omega) (by omega), o1]
      have hT' : TB ξ' := by
        obtain ⟨t1, t2, t3, t4, t5, t6, t7⟩ := hT
        unfold TB IFB at *
        rw [v8, v9, v11, f 30 (by omega) (by omega) (by omega), f 31 (by omega) (by omega) (by omega), e33, e34]
        exact ⟨ok.1, ok.2, by omega, t4, t5, fun n a b => by omega, t7⟩
      have hV' : CV ξ' := by
        obtain ⟨a1, a2, a3⟩ := hV
        refine ⟨by rw [f 1 (by omega) (by omega) (by omega), o1]; exact a1, by rw [f 1 (by omega) (by omega) (by omega), ez]; exact a2, fun i i0 i3 => ?_⟩
        obtain ⟨a4, a5⟩ := a3 i i0 i3
        refine ⟨?_, fun m m0 m1 => ?_⟩
        · rw [f (3 + 2 * i) (by omega) (by omega) (by omega), esd, o1, f 24 (by omega) (by omega) (by omega), f 25 (by omega) (by omega) (by omega), f 26 (by omega) (by omega) (by omega), f 27 (by omega) (by omega) (by omega), f 29 (by omega) (by omega) (by omega), f 41 (by omega) (by omega) (by omega), f 42 (by omega) (by omega) (by omega)]
          exact a4
        · rw [f (4 + 2 * i) (by omega) (by omega) (by omega), ehd]
          exact a5 m m0 m1
      have hC' : CR ξ' := ⟨v92.trans v11.symm, v93.trans v8.symm, v94.trans v9.symm, fun u u0 u1 => by
        rw [f 11 (by omega) (by omega) (by omega), f 30 (by omega) (by omega) (by omega)]
        exact hC.2.2.2 u u0 u1⟩
      have gk : ∀ n k, lv ξ n → k ≠ 6 → k ≠ 7 → gf (wr (wr σ (ξ 10 0) 6 0) (ξ 10 0) 7 0) (ξ 10 n) k = gf σ (ξ 10 n) k := fun n k _ a b => by rw [gf_wr_ne (Or.inr b), gf_wr_ne (Or.inr a)]
      have hS' : NS b0 (wr (wr σ (ξ 10 0) 6 0) (ξ 10 0) 7 0) ξ' := NS_e10 e10 (NS_wr (NS_wr hS (fun _ => by omega)) (fun _ => by omega))
      have hNn := hN.2.2 0 (by omega) (by omega)
      have hN' : NL (wr (wr σ (ξ 10 0) 6 0) (ξ 10 0) 7 0) ξ' := by
        refine ⟨fun n a b => ?_, fun n hn => ?_, fun n a b => ?_⟩
        · rw [v11] at b
          have : n = 0 := by omega
          subst this
          rw [e10]; exact l0.2
        · unfold lv at hn
          rw [e10] at hn ⊢
          rw [gk n 0 hn (by omega) (by omega)]
          exact hN.2.1 n hn
        · rw [v11] at b
          have : n = 0 := by omega
          subst this
          have oi := (hS.1 0 l0).2.1
          have g6 : gf (wr (wr σ (ξ 10 0) 6 0) (ξ 10 0) 7 0) (ξ 10 0) 6 = 0 := by rw [gf_wr_ne (Or.inr (by omega)), gf_wr_s]
          have g7 : gf (wr (wr σ (ξ 10 0) 6 0) (ξ 10 0) 7 0) (ξ 10 0) 7 = 0 := gf_wr_s
          unfold NLn
          rw [e10, e33, e34, v11, gk 0 3 l0 (by omega) (by omega), gk 0 5 l0 (by omega) (by omega), gk 0 1 l0 (by omega) (by omega), g6, g7]
          refine ⟨hNn.1, fun y => by omega, hNn.2.2.1, ?_, ?_, fun i i0 i3 => ?_, fun c y z => by omega⟩
          · exact (rk_0 (ξ := ξ') (n := 0)).symm
          · unfold wsm
            rw [v11]
            rfl
          · have nk : gf σ (ξ 10 0) 1 ≠ ξ 10 0 := fun y => by
              have := oi.1
              rw [y, on.1] at this
              omega
            rw [gf_wr_ne (Or.inl nk), gf_wr_ne (Or.inl nk)]
            exact hNn.2.2.2.2.2.1 i i0 i3
      have hR' : RM b0 ξ' (wr (wr σ (ξ 10 0) 6 0) (ξ 10 0) 7 0) := by
        obtain ⟨cn, c1, c2, c3⟩ := RM_e e10 o1 ez hI.2.2
        refine ⟨cn, fun n a b => ?_, c2, c3⟩
        obtain ⟨q1, q2, q3⟩ := c1 n a b
        refine ⟨q1, fun y => ?_, q3⟩
        rw [e10] at y ⊢
        have q2' := q2 (by rw [e10]; exact y)
        rw [e10] at q2'
        rw [gk n 8 ⟨⟨a, b⟩, y⟩ (by omega) (by omega), ln_wr, ln_wr]
        exact q2'
      refine INV_e h off ⟨⟨hB', hT', hV', hC', hS', hN'⟩, CM_bump' hI.2.1 e10 v15 (by omega) (fun n hn => gk n 10 hn (by omega) (by omega)), hR'⟩ ?_ ?_ ?_ v19 (f 37 (by omega) (by omega) (by omega)) (f 38 (by omega) (by omega) (by omega)) (o 23 32 (by unfold scrw; omega)) (by rw [f 17 (by omega) (by omega) (by omega)]) (fun d a b => by rw [f d (by omega) (by omega) (by omega)]) (by rw [v15]; omega)
      · unfold XT at hX ⊢
        rw [o1, f 25 (by omega) (by omega) (by omega), f 28 (by omega) (by omega) (by omega), e34, f 41 (by omega) (by omega) (by omega)]
        exact hX
      · have q := hM.1.2.1
        unfold MB at q ⊢
        rw [o1, f 25 (by omega) (by omega) (by omega), f 35 (by omega) (by omega) (by omega)]
        exact q
      · have q := hM.1.2.2.1
        unfold TZ at q ⊢
        rw [o1, f 36 (by omega) (by omega) (by omega)]
        exact q
    · exact Step_s h (by omega) (top _ (fun q => absurd ok q) (fun _ _ => rfl) (fun _ q => absurd q off)) (mtop σ ξ _ rfl (fun q => absurd ok q) (fun _ _ => rfl) (fun _ q => absurd q off)) ⟨by decide, by decide⟩
  · exact Step_s h (by omega) (top _ (fun _ => rfl) (fun q => absurd q ok) (fun q => absurd q ok)) (mtop σ ξ _ rfl (fun _ => rfl) (fun q => absurd q ok) (fun q => absurd q ok)) ⟨by decide, by decide⟩
end P6
