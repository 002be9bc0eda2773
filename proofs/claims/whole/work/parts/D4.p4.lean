section P4
variable {b0 : Int} {σ τ σ' : Hp} {ξ ζ η ζc ζm ζ1 ξ' : Int → Int → Int} {a b c i k l m n v j w s L p q le r x t t' mm fr st g e h' : Int}
def scre (l d k : Int) : Prop := (d = 3 + 2 * l ∧ k = 5) ∨ (d = 15 ∧ k = 2) ∨ (d = 29 ∧ k = l) ∨ (d = 23 ∧ k = 19)
theorem T_end (h : INV b0 ξ σ t) (ht : t + 1 ≤ t') (tb : t' ≤ 100000) (hl : R3 l) (he : R3 e) : Step b0 σ ξ t' (F_X7_end b0 l e) (F_X8_end (b0 + 23) l e) R3 := by
  obtain ⟨hI, hM, hX, hR, hv⟩ := id h
  obtain ⟨r1, r2, r3, r4⟩ := id hR
  obtain ⟨hB, hT, hV, hC, hS, hN⟩ := id hI.1
  have nl := hB.1
  have top : ∀ z, (¬ ((0 ≤ l ∧ l ≤ ξ 23 1 - 1) ∧ (0 ≤ e ∧ e ≤ 99)) → some (-1, S b0 σ ξ) = z) → ((0 ≤ l ∧ l ≤ ξ 23 1 - 1) ∧ (0 ≤ e ∧ e ≤ 99) → ξ 23 32 ≠ 0 → some (-2, S b0 σ ξ) = z) → ((0 ≤ l ∧ l ≤ ξ 23 1 - 1) ∧ (0 ≤ e ∧ e ≤ 99) → ξ 23 32 = 0 → some (ξ 29 l, S b0 σ (xu (xu ξ (3 + 2 * l) 5 e) 15 2 (ξ 15 2 + 1))) = z) → F_X7_end b0 l e (S b0 σ ξ) = z := by
    intro z z1 z2 z3
    rw [F_X7_end]
    refine pre_L hI.1 Ch.rf hl (fun q => z1 (fun y => q y.1)) (fun q1 => ?_)
    refine evd (X7_isWithin he ⟨by omega, by omega⟩) (ev_if (fun q => z1 (fun y => q y.2)) (fun q2 => ?_))
    refine ev rS_0_4 ?_
    refine ev rS_17_5 ?_
    rw [r2]
    refine ev_bEq (by omega) (by omega) (by omega) (by omega) (fun q => ?_) (fun q => z2 ⟨q1, q2⟩ q)
    refine ev (rL_5 hV q1.1 (by omega)) ?_
    refine ev (pLk q1.1 (by omega) (by omega)) ?_
    refine ev rS_0_2 ?_
    refine evd (iS_15.trans X6_forget) ?_
    rw [xu_nd (show (15 : Int) ≠ 3 + 2 * l by omega)]
    exact z3 ⟨q1, q2⟩ q
  have mtop : ∀ (ζ : Int → Int → Int) z, Cf ξ ζ → ζ 23 32 = ξ 23 32 → ζ 29 l = ξ 29 l → (¬ ((0 ≤ l ∧ l ≤ ξ 23 1 - 1) ∧ (0 ≤ e ∧ e ≤ 99)) → some (-1, S b0 σ ζ) = z) → ((0 ≤ l ∧ l ≤ ξ 23 1 - 1) ∧ (0 ≤ e ∧ e ≤ 99) → ξ 23 32 ≠ 0 → some (-2, S b0 σ ζ) = z) → ((0 ≤ l ∧ l ≤ ξ 23 1 - 1) ∧ (0 ≤ e ∧ e ≤ 99) → ξ 23 32 = 0 → some (ξ 29 l, S b0 σ (xu (xu ζ 29 l e) 23 19 0)) = z) → F_X8_end (b0 + 23) l e (S b0 σ ζ) = z := by
    intro ζ z cf e32 e29 z1 z2 z3
    rw [F_X8_end]
    refine evd (iS_23.trans (K_isLake hB cf hl)) (ev_if (fun q => z1 (fun y => q y.1)) (fun q1 => ?_))
    refine evd (X8_in _ he ⟨by omega, by omega⟩ ⟨by omega, by omega⟩) (ev_if (fun q => z1 (fun y => q y.2)) (fun q2 => ?_))
    refine ev rS_23_32 ?_
    rw [e32]
    refine ev_bEq (by omega) (by omega) (by omega) (by omega) (fun q => ?_) (fun q => z2 ⟨q1, q2⟩ q)
    refine ev rS_23_7 ?_
    refine ev (aS_29 q1.1 (by omega)) ?_
    rw [e29]
    refine ev rS_23_7 ?_
    refine ev (wS_29 q1.1 (by omega)) ?_
    exact evd (iS_23.trans X8_forget) (z3 ⟨q1, q2⟩ q)
  by_cases ok : (0 ≤ l ∧ l ≤ ξ 23 1 - 1) ∧ (0 ≤ e ∧ e ≤ 99)
  · by_cases off : ξ 23 32 = 0
    · have c1 : Ch (scre l) ξ (xu (xu ξ (3 + 2 * l) 5 e) 15 2 (ξ 15 2 + 1)) := Ch_xu (by unfold scre; omega) (Ch_xu (by unfold scre; omega) Ch.rf)
      have ch : Ch (scre l) ξ (xu (xu (xu (xu ξ (3 + 2 * l) 5 e) 15 2 (ξ 15 2 + 1)) 29 l e) 23 19 0) := Ch_xu (by unfold scre; omega) (Ch_xu (by unfold scre; omega) c1)
      have bl := (hB.2.1 l ok.1.1 (by omega)).1
      have cfc : Cf ξ (xu (xu ξ (3 + 2 * l) 5 e) 15 2 (ξ 15 2 + 1)) := (Cf.xu (by omega)).trans (Cf.xu (by omega))
      refine ⟨ξ 29 l, σ, _, σ, _, top _ (fun q => absurd ok q) (fun _ q => absurd off q) (fun _ _ => rfl), mtop _ _ cfc (by rw [xu_nd (by omega), xu_nd (by omega)]) (by rw [xu_nd (by omega), xu_nd (by omega)]) (fun q => absurd ok q) (fun _ q => absurd off q) (fun _ _ => rfl), ?_, ⟨by omega, by omega⟩⟩
      have v5 : xu (xu (xu (xu ξ (3 + 2 * l) 5 e) 15 2 (ξ 15 2 + 1)) 29 l e) 23 19 0 (3 + 2 * l) 5 = e := by rw [xu_nd (by omega), xu_nd (by omega), xu_nd (by omega), xu_s]
      have v29 : xu (xu (xu (xu ξ (3 + 2 * l) 5 e) 15 2 (ξ 15 2 + 1)) 29 l e) 23 19 0 29 l = e := by rw [xu_nd (by omega), xu_s]
      have v15 : xu (xu (xu (xu ξ (3 + 2 * l) 5 e) 15 2 (ξ 15 2 + 1)) 29 l e) 23 19 0 15 2 = ξ 15 2 + 1 := by rw [xu_nd (by omega), xu_nd (by omega), xu_s]
      have v19 : xu (xu (xu (xu ξ (3 + 2 * l) 5 e) 15 2 (ξ 15 2 + 1)) 29 l e) 23 19 0 23 19 = 0 := xu_s
      generalize xu (xu (xu (xu ξ (3 + 2 * l) 5 e) 15 2 (ξ 15 2 + 1)) 29 l e) 23 19 0 = ξ' at *
      have o : ∀ d k, ¬ scre l d k → ξ' d k = ξ d k := ch
      have f : ∀ d, (d < 3 ∨ 8 < d) → d ≠ 15 → d ≠ 29 → d ≠ 23 → ξ' d = ξ d := fun d a b c e => funext fun k => o d k (by unfold scre; omega)
      have o23 : ∀ k, k ≠ 19 → ξ' 23 k = ξ 23 k := fun k a => o 23 k (by unfold scre; omega)
      have hB' : LB ξ' := by
        obtain ⟨b1, b2, b3, b4⟩ := hB
        unfold LB
        rw [o23 1 (by omega), f 24 (by omega) (by omega) (by omega) (by omega), f 25 (by omega) (by omega) (by omega) (by omega), f 26 (by omega) (by omega) (by omega) (by omega), f 27 (by omega) (by omega) (by omega) (by omega), f 28 (by omega) (by omega) (by omega) (by omega), f 41 (by omega) (by omega) (by omega) (by omega), f 42 (by omega) (by omega) (by omega) (by omega)]
        refine ⟨b1, fun i i0 i3 => ?_, b3, b4⟩
        have q := b2 i i0 i3
        by_cases ei : i = l
        · subst ei
          rw [v29]
          exact ⟨⟨q.1.1, q.1.2.1, q.1.2.2.1, q.1.2.2.2.1, q.1.2.2.2.2.1, q.1.2.2.2.2.2.1, q.1.2.2.2.2.2.2.1, ok.2.1, ok.2.2, q.1.2.2.2.2.2.2.2.2.2⟩, fun y => by omega⟩
        · rw [o 29 i (by unfold scre; omega)]
          exact q
      have ez : ZZ ξ' = ZZ ξ := by unfold ZZ; rw [f 25 (by omega) (by omega) (by omega) (by omega)]
      have esd : sd ξ' = sd ξ := by funext i; unfold sd; rw [f 25 (by omega) (by omega) (by omega) (by omega)]
      have ehd : hd ξ' = hd ξ := by funext i m; unfold hd; rw [f 25 (by omega) (by omega) (by omega) (by omega), f 28 (by omega) (by omega) (by omega) (by omega), o23 1 (by omega)]
      have hT' : TB ξ' := by
        unfold TB IFB at *
        rw [o23 8 (by omega), o23 9 (by omega), o23 11 (by omega), f 30 (by omega) (by omega) (by omega) (by omega), f 31 (by omega) (by omega) (by omega) (by omega), f 32 (by omega) (by omega) (by omega) (by omega), f 33 (by omega) (by omega) (by omega) (by omega), f 34 (by omega) (by omega) (by omega) (by omega)]
        exact hT
      have hV' : CV ξ' := by
        obtain ⟨a1, a2, a3⟩ := hV
        refine ⟨by rw [f 1 (by omega) (by omega) (by omega) (by omega), o23 1 (by omega)]; exact a1, by rw [f 1 (by omega) (by omega) (by omega) (by omega), ez]; exact a2, fun i i0 i3 => ?_⟩
        obtain ⟨a4, a5⟩ := a3 i i0 i3
        refine ⟨?_, fun m m0 m1 => ?_⟩
        · have e5 : ξ' (3 + 2 * i) 5 = ξ' 29 i := by
            by_cases ei : i = l
            · rw [ei, v5, v29]
            · rw [o (3 + 2 * i) 5 (by unfold scre; omega), o 29 i (by unfold scre; omega)]; exact a4.2.2.2.2.1
          have ok' : ∀ k, k ≠ 5 → ξ' (3 + 2 * i) k = ξ (3 + 2 * i) k := fun k hk => o _ k (by unfold scre; omega)
          rw [ok' 1 (by omega), ok' 2 (by omega), ok' 3 (by omega), ok' 4 (by omega), ok' 6 (by omega), ok' 7 (by omega), ok' 8 (by omega), esd, o23 1 (by omega), f 24 (by omega) (by omega) (by omega) (by omega), f 25 (by omega) (by omega) (by omega) (by omega), f 26 (by omega) (by omega) (by omega) (by omega), f 27 (by omega) (by omega) (by omega) (by omega), f 41 (by omega) (by omega) (by omega) (by omega), f 42 (by omega) (by omega) (by omega) (by omega)]
          exact ⟨a4.1, a4.2.1, a4.2.2.1, a4.2.2.2.1, e5, a4.2.2.2.2.2⟩
        · rw [o (4 + 2 * i) m (by unfold scre; omega), ehd]
          exact a5 m m0 m1
      have hC' : CR ξ' := by
        unfold CR at hC ⊢
        rw [f 9 (by omega) (by omega) (by omega) (by omega), f 11 (by omega) (by omega) (by omega) (by omega), f 30 (by omega) (by omega) (by omega) (by omega), o23 11 (by omega), o23 8 (by omega), o23 9 (by omega)]
        exact hC
      refine INV_e h off (KI_e hI hB' hT' hV' hC' (f 10 (by omega) (by omega) (by omega) (by omega)) (o23 11 (by omega)) (f 31 (by omega) (by omega) (by omega) (by omega)) (f 32 (by omega) (by omega) (by omega) (by omega)) (f 33 (by omega) (by omega) (by omega) (by omega)) (f 34 (by omega) (by omega) (by omega) (by omega)) (o23 1 (by omega)) ez v15 (by omega)) ?_ ?_ ?_ v19 (f 37 (by omega) (by omega) (by omega) (by omega)) (f 38 (by omega) (by omega) (by omega) (by omega)) (o23 32 (by omega)) (by rw [f 17 (by omega) (by omega) (by omega) (by omega)]) (fun d a b => by rw [f d (by omega) (by omega) (by omega) (by omega)]) (by rw [v15]; omega)
      · unfold XT at hX ⊢
        rw [o23 1 (by omega), f 25 (by omega) (by omega) (by omega) (by omega), f 28 (by omega) (by omega) (by omega) (by omega), f 34 (by omega) (by omega) (by omega) (by omega), f 41 (by omega) (by omega) (by omega) (by omega)]
        exact hX
      · have q := hM.1.2.1
        unfold MB at q ⊢
        rw [o23 1 (by omega), f 25 (by omega) (by omega) (by omega) (by omega), f 35 (by omega) (by omega) (by omega) (by omega)]
        exact q
      · have q := hM.1.2.2.1
        unfold TZ at q ⊢
        rw [o23 1 (by omega), f 36 (by omega) (by omega) (by omega) (by omega)]
        exact q
    · exact Step_s h (by omega) (top _ (fun q => absurd ok q) (fun _ _ => rfl) (fun _ q => absurd q off)) (mtop ξ _ Cf.rfl' rfl rfl (fun q => absurd ok q) (fun _ _ => rfl) (fun _ q => absurd q off)) ⟨by decide, by decide⟩
  · exact Step_s h (by omega) (top _ (fun _ => rfl) (fun q => absurd q ok) (fun q => absurd q ok)) (mtop ξ _ Cf.rfl' rfl rfl (fun _ => rfl) (fun q => absurd q ok) (fun q => absurd q ok)) ⟨by decide, by decide⟩
theorem WH.cw (h : Cw ξ ζ) (hW : WH ξ) : WH ζ := by
  unfold WH at hW ⊢
  rw [h.2 1 (by omega), h.2 8 (by omega), h.2 9 (by omega), h.2 11 (by omega), h.1 33 (by omega), wsm_cw h]
  exact hW
def scrr (l d k : Int) : Prop := (d = 3 + 2 * l ∧ (k = 6 ∨ k = 7)) ∨ (d = 41 ∧ k = l) ∨ (d = 42 ∧ k = l)
theorem T_rule (h : INV b0 ξ σ t) (ht : t ≤ t') (hl : R3 l) (ha : R3 a) (hb : R3 b) : Step b0 σ ξ t' (F_X7_rule b0 l a b) (F_X8_rule (b0 + 23) l a b) R3 := by
  obtain ⟨hI, hM, hX, hR, hv⟩ := id h
  obtain ⟨hB, hT, hV, hC, hS, hN⟩ := id hI.1
  have nl := hB.1
  have top : ∀ z, (¬ ((0 ≤ l ∧ l ≤ ξ 23 1 - 1) ∧ (0 ≤ a ∧ a ≤ 30) ∧ (0 ≤ b ∧ b ≤ 30)) → some (-1, S b0 σ ξ) = z) → ((0 ≤ l ∧ l ≤ ξ 23 1 - 1) ∧ (0 ≤ a ∧ a ≤ 30) ∧ (0 ≤ b ∧ b ≤ 30) → some (1, S b0 σ (xu (xu ξ (3 + 2 * l) 6 a) (3 + 2 * l) 7 b)) = z) → F_X7_rule b0 l a b (S b0 σ ξ) = z := by
    intro z z1 z3
    rw [F_X7_rule]
    refine pre_L hI.1 Ch.rf hl (fun q => z1 (fun y => q y.1)) (fun q1 => ?_)
    refine evd (X7_isWithin ha ⟨by omega, by omega⟩) (ev_if (fun q => z1 (fun y => q y.2.1)) (fun q2 => ?_))
    refine evd (X7_isWithin hb ⟨by omega, by omega⟩) (ev_if (fun q => z1 (fun y => q y.2.2)) (fun q3 => ?_))
    refine ev (pLk q1.1 (by omega) (by omega)) ?_
    refine ev (pLk q1.1 (by omega) (by omega)) ?_
    exact z3 ⟨q1, q2, q3⟩
  have mtop : ∀ (ζ : Int → Int → Int) z, Cf ξ ζ → (¬ ((0 ≤ l ∧ l ≤ ξ 23 1 - 1) ∧ (0 ≤ a ∧ a ≤ 30) ∧ (0 ≤ b ∧ b ≤ 30)) → some (-1, S b0 σ ζ) = z) → ((0 ≤ l ∧ l ≤ ξ 23 1 - 1) ∧ (0 ≤ a ∧ a ≤ 30) ∧ (0 ≤ b ∧ b ≤ 30) → some (1, S b0 σ (xu (xu ζ 41 l a) 42 l b)) = z) → F_X8_rule (b0 + 23) l a b (S b0 σ ζ) = z := by
    intro ζ z cf z1 z3
    rw [F_X8_rule]
    refine evd (iS_23.trans (K_isLake hB cf hl)) (ev_if (fun q => z1 (fun y => q y.1)) (fun q1 => ?_))
    refine evd (X8_in _ ha ⟨by omega, by omega⟩ ⟨by omega, by omega⟩) (ev_if (fun q => z1 (fun y => q y.2.1)) (fun q2 => ?_))
    refine evd (X8_in _ hb ⟨by omega, by omega⟩ ⟨by omega, by omega⟩) (ev_if (fun q => z1 (fun y => q y.2.2)) (fun q3 => ?_))
    refine ev rS_23_24 ?_
    refine ev (wS_41 q1.1 (by omega)) ?_
    refine ev rS_23_25 ?_
    exact ev (wS_42 q1.1 (by omega)) (z3 ⟨q1, q2, q3⟩)
  by_cases ok : (0 ≤ l ∧ l ≤ ξ 23 1 - 1) ∧ (0 ≤ a ∧ a ≤ 30) ∧ (0 ≤ b ∧ b ≤ 30)
  · have ch : Ch (scrr l) ξ (xu (xu (xu (xu ξ (3 + 2 * l) 6 a) (3 + 2 * l) 7 b) 41 l a) 42 l b) := Ch_xu (by unfold scrr; omega) (Ch_xu (by unfold scrr; omega) (Ch_xu (by unfold scrr; omega) (Ch_xu (by unfold scrr; omega) Ch.rf)))
    refine ⟨1, σ, _, σ, _, top _ (fun q => absurd ok q) (fun _ => rfl), mtop _ _ ((Cf.xu (by omega)).trans (Cf.xu (by omega))) (fun q => absurd ok q) (fun _ => rfl), ?_, ⟨by decide, by decide⟩⟩
    have v6 : xu (xu (xu (xu ξ (3 + 2 * l) 6 a) (3 + 2 * l) 7 b) 41 l a) 42 l b (3 + 2 * l) 6 = a := by rw [xu_nd (by omega), xu_nd (by omega), xu_ni (by omega), xu_s]
    have v7 : xu (xu (xu (xu ξ (3 + 2 * l) 6 a) (3 + 2 * l) 7 b) 41 l a) 42 l b (3 + 2 * l) 7 = b := by rw [xu_nd (by omega), xu_nd (by omega), xu_s]
    have v41 : xu (xu (xu (xu ξ (3 + 2 * l) 6 a) (3 + 2 * l) 7 b) 41 l a) 42 l b 41 l = a := by rw [xu_nd (by omega), xu_s]
    have v42 : xu (xu (xu (xu ξ (3 + 2 * l) 6 a) (3 + 2 * l) 7 b) 41 l a) 42 l b 42 l = b := xu_s
    generalize xu (xu (xu (xu ξ (3 + 2 * l) 6 a) (3 + 2 * l) 7 b) 41 l a) 42 l b = ξ' at *
    have o : ∀ d k, ¬ scrr l d k → ξ' d k = ξ d k := ch
    have f : ∀ d, (d < 3 ∨ 8 < d) → d ≠ 41 → d ≠ 42 → ξ' d = ξ d := fun d a b c => funext fun k => o d k (by unfold scrr; omega)
    have cw : Cw ξ ξ' := ⟨fun d hd => f d (by omega) (by omega) (by omega), fun k hk => by rw [f 23 (by omega) (by omega) (by omega)]⟩
    have hB' : LB ξ' := by
      obtain ⟨b1, b2, b3, b4⟩ := hB
      unfold LB
      rw [f 23 (by omega) (by omega) (by omega), f 24 (by omega) (by omega) (by omega), f 25 (by omega) (by omega) (by omega), f 26 (by omega) (by omega) (by omega), f 27 (by omega) (by omega) (by omega), f 28 (by omega) (by omega) (by omega), f 29 (by omega) (by omega) (by omega)]
      refine ⟨b1, fun i i0 i3 => ?_, b3, b4⟩
      have q := b2 i i0 i3
      by_cases ei : i = l
      · subst ei
        rw [v41, v42]
        exact ⟨⟨q.1.1, q.1.2.1, q.1.2.2.1, q.1.2.2.2.1, q.1.2.2.2.2.1, q.1.2.2.2.2.2.1, q.1.2.2.2.2.2.2.1, q.1.2.2.2.2.2.2.2.1, q.1.2.2.2.2.2.2.2.2.1, by omega, by omega, by omega, by omega⟩, q.2⟩
      · rw [o 41 i (by unfold scrr; omega), o 42 i (by unfold scrr; omega)]
        exact q
    have hT' : TB ξ' := by
      unfold TB IFB at *
      rw [f 23 (by omega) (by omega) (by omega), f 30 (by omega) (by omega) (by omega), f 31 (by omega) (by omega) (by omega), f 32 (by omega) (by omega) (by omega), f 33 (by omega) (by omega) (by omega), f 34 (by omega) (by omega) (by omega)]
      exact hT
    have esd : sd ξ' = sd ξ := by funext i; unfold sd; rw [f 25 (by omega) (by omega) (by omega)]
    have ehd : hd ξ' = hd ξ := by funext i m; unfold hd; rw [f 25 (by omega) (by omega) (by omega), f 28 (by omega) (by omega) (by omega), f 23 (by omega) (by omega) (by omega)]
    have hV' : CV ξ' := by
      obtain ⟨a1, a2, a3⟩ := hV
      refine ⟨by rw [f 1 (by omega) (by omega) (by omega), f 23 (by omega) (by omega) (by omega)]; exact a1, by rw [f 1 (by omega) (by omega) (by omega), ZZ_cw cw]; exact a2, fun i i0 i3 => ?_⟩
      obtain ⟨a4, a5⟩ := a3 i i0 i3
      refine ⟨?_, fun m m0 m1 => ?_⟩
      · have e6 : ξ' (3 + 2 * i) 6 = ξ' 41 i ∧ ξ' (3 + 2 * i) 7 = (if i < ξ 23 1 then ξ' 42 i else 30) := by
          by_cases ei : i = l
          · subst ei
            rw [v6, v41, v7, v42, if_pos (by omega)]
            exact ⟨rfl, rfl⟩
          · rw [o (3 + 2 * i) 6 (by unfold scrr; omega), o (3 + 2 * i) 7 (by unfold scrr; omega), o 41 i (by unfold scrr; omega), o 42 i (by unfold scrr; omega)]
            exact ⟨a4.2.2.2.2.2.1, a4.2.2.2.2.2.2.1⟩
        have ok' : ∀ k, k ≠ 6 → k ≠ 7 → ξ' (3 + 2 * i) k = ξ (3 + 2 * i) k := fun k hk hk2 => o _ k (by unfold scrr; omega)
        rw [ok' 1 (by omega) (by omega), ok' 2 (by omega) (by omega), ok' 3 (by omega) (by omega), ok' 4 (by omega) (by omega), ok' 5 (by omega) (by omega), ok' 8 (by omega) (by omega), esd, f 23 (by omega) (by omega) (by omega), f 24 (by omega) (by omega) (by omega), f 25 (by omega) (by omega) (by omega), f 26 (by omega) (by omega) (by omega), f 27 (by omega) (by omega) (by omega), f 29 (by omega) (by omega) (by omega)]
        exact ⟨a4.1, a4.2.1, a4.2.2.1, a4.2.2.2.1, a4.2.2.2.2.1, e6.1, e6.2, a4.2.2.2.2.2.2.2⟩
      · rw [o (4 + 2 * i) m (by unfold scrr; omega), ehd]
        exact a5 m m0 m1
    have hC' : CR ξ' := by
      unfold CR at hC ⊢
      rw [f 9 (by omega) (by omega) (by omega), f 11 (by omega) (by omega) (by omega), f 30 (by omega) (by omega) (by omega), f 23 (by omega) (by omega) (by omega)]
      exact hC
    have e10 : ξ' 10 = ξ 10 := f 10 (by omega) (by omega) (by omega)
    have e15 : ξ' 15 = ξ 15 := f 15 (by omega) (by omega) (by omega)
    have hK' : KI b0 ξ' σ := ⟨⟨hB', hT', hV', hC', NS_e10 e10 hS, NL_cg cw e10 hN⟩, CM_cg cw e10 (by rw [e15]) hI.2.1, RM_cg cw e10 hI.2.2⟩
    have g : ∀ d, 35 ≤ d → d ≤ 40 → ξ' d = ξ d := fun d a b => f d (by omega) (by omega) (by omega)
    refine ⟨hK', ⟨⟨Cf.rfl', ?_, ?_, ?_, ?_⟩, ?_, fun q => ?_⟩, ?_, ?_, by rw [e15]; omega⟩
    · have q := hM.1.2.1
      unfold MB at q ⊢
      rw [f 23 (by omega) (by omega) (by omega), f 25 (by omega) (by omega) (by omega), g 35 (by omega) (by omega)]
      exact q
    · have q := hM.1.2.2.1
      unfold TZ at q ⊢
      rw [f 23 (by omega) (by omega) (by omega), g 36 (by omega) (by omega)]
      exact q
    · unfold Bo; rw [g 37 (by omega) (by omega)]; exact hM.1.2.2.2.1
    · unfold Bo; rw [g 38 (by omega) (by omega)]; exact hM.1.2.2.2.2
    · rw [f 23 (by omega) (by omega) (by omega)]; exact hM.2.1
    · rw [f 23 (by omega) (by omega) (by omega)] at q
      have mm := MM_cw cw (hM.2.2 q)
      unfold MM KW at mm ⊢
      rw [g 37 (by omega) (by omega), g 39 (by omega) (by omega), g 40 (by omega) (by omega)]
      exact mm
    · obtain ⟨x1, x2, x3, x4⟩ := hX
      unfold XT
      rw [f 23 (by omega) (by omega) (by omega), f 25 (by omega) (by omega) (by omega), f 28 (by omega) (by omega) (by omega), f 34 (by omega) (by omega) (by omega)]
      refine ⟨x1, x2, x3, fun i i0 i1 => ?_⟩
      rw [o 41 i (by unfold scrr; omega)]
      exact x4 i i0 i1
    · obtain ⟨q1, q2, q3, q4⟩ := hR
      unfold RN RNt
      have gg : ∀ d, (d = 10 ∨ d = 23 ∨ (17 ≤ d ∧ d ≤ 22) ∨ (31 ≤ d ∧ d ≤ 33) ∨ (49 ≤ d ∧ d ≤ 54)) → ξ' d = ξ d := fun d q => f d (by omega) (by omega) (by omega)
      rw [gg 10 (by omega), gg 23 (by omega), gg 17 (by omega), gg 18 (by omega), gg 19 (by omega), gg 20 (by omega), gg 21 (by omega), gg 22 (by omega), gg 31 (by omega), gg 33 (by omega), gg 49 (by omega), gg 50 (by omega), gg 51 (by omega), gg 52 (by omega), gg 53 (by omega), gg 54 (by omega), ZZ_cw cw]
      exact ⟨q1, q2, q3, fun y => ⟨(q4 y).1.cw cw, (q4 y).2⟩⟩
  · exact Step_s h ht (top _ (fun _ => rfl) (fun q => absurd q ok)) (mtop ξ _ Cf.rfl' (fun _ => rfl) (fun q => absurd q ok)) ⟨by decide, by decide⟩
end P4
