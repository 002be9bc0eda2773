section P3
variable {b0 : Int} {σ τ σ' : Hp} {ξ ζ η ζc ζm ζ1 ξ' : Int → Int → Int} {a b c i k l m n v j w s L p q le r x t t' mm fr st g e h' : Int}
theorem X6_forget : F_X6_forget (b0 + 15) (S b0 σ ζ) = some (0, S b0 σ (xu ζ 15 2 (ζ 15 2 + 1))) := by
  rw [F_X6_forget]
  refine ev rS_15_2 ?_
  exact ev pS_15_2 rfl
theorem pLk (h0 : 0 ≤ i) (h3 : i < 3) (hk : k ≠ 0) : pw 1 (S b0 σ ξ) (b0 + 3 + 2 * i) k v = some (S b0 σ (xu ξ (3 + 2 * i) k v)) := by
  rw [show b0 + 3 + 2 * i = b0 + (3 + 2 * i) by omega]
  refine pw_S (by unfold inS; omega) (by rcases lake3 h0 h3 with rfl | rfl | rfl <;> rfl) (fun ζ => ?_)
  rcases lake3 h0 h3 with rfl | rfl | rfl <;> simp [cS, hk]
theorem wHk (h0 : 0 ≤ i) (h3 : i < 3) (m0 : 0 ≤ m) (m1 : m < 31) : aw 11 (S b0 σ ξ) (b0 + 4 + 2 * i) m v = some (S b0 σ (xu ξ (4 + 2 * i) m v)) := by
  rw [show b0 + 4 + 2 * i = b0 + (4 + 2 * i) by omega]
  refine aw_S (by unfold inS; omega) (by rcases lake3 h0 h3 with rfl | rfl | rfl <;> rfl) m0 ?_ (by omega) (fun ζ => ?_)
  · rcases lake3 h0 h3 with rfl | rfl | rfl <;> exact m1
  · rcases lake3 h0 h3 with rfl | rfl | rfl <;> simp [cS]
theorem INV_e (h : INV b0 ξ σ t) (off : ξ 23 32 = 0) (hK : KI b0 ξ' σ') (hX : XT ξ') (hMB : MB ξ') (hTZ : TZ ξ') (e19 : ξ' 23 19 = 0) (e37 : ξ' 37 = ξ 37) (e38 : ξ' 38 = ξ 38) (e32 : ξ' 23 32 = ξ 23 32) (e17 : ξ' 17 5 = ξ 17 5) (er : ∀ d, 19 ≤ d → d ≤ 22 → ξ' d 0 = ξ d 0) (ev : ξ' 15 2 ≤ t') : INV b0 ξ' σ' t' := by
  obtain ⟨hI, hM, _, ⟨r1, r2, r3, r4⟩, hv⟩ := h
  refine ⟨hK, ⟨⟨Cf.rfl', hMB, hTZ, ?_, ?_⟩, Or.inl e19, fun q => by omega⟩, hX, ⟨?_, ?_, ?_, fun q => by omega⟩, ev⟩
  · unfold Bo; rw [e37]; exact hM.1.2.2.2.1
  · unfold Bo; rw [e38]; exact hM.1.2.2.2.2
  · rw [e32]; exact r1
  · rw [e32, e17]; exact r2
  · rw [er 19 (by omega) (by omega), er 20 (by omega) (by omega), er 21 (by omega) (by omega), er 22 (by omega) (by omega)]; exact r3
theorem CM_bump (h : CM ξ σ) (e10 : ξ' 10 = ξ 10) (ev : ξ' 15 2 = ξ 15 2 + 1) (vb : ξ 15 2 < 100000) : CM ξ' σ := by
  refine ⟨by have := h.1; omega, fun n hn => ?_⟩
  unfold lv at hn
  rw [e10] at hn
  have q := (h.2 n hn).1
  unfold CMn
  rw [e10, ev]
  exact ⟨by omega, fun _ x => by omega⟩
theorem NL_e (e10 : ξ' 10 = ξ 10) (e11 : ξ' 23 11 = ξ 23 11) (e31 : ξ' 31 = ξ 31) (e32 : ξ' 32 = ξ 32) (e33 : ξ' 33 = ξ 33) (e34 : ξ' 34 = ξ 34) (h : NL σ ξ) : NL σ ξ' := by
  have er : rk ξ' = rk ξ := by
    funext n p
    have e : rkf ξ' = rkf ξ := by
      funext n c
      unfold rkf
      rw [e31]
    unfold rk
    rw [e]
  have ew : wsm ξ' = wsm ξ := by
    funext n
    have e : wof ξ' = wof ξ := by
      funext n c
      unfold wof
      rw [e31, e32]
    unfold wsm
    rw [e, e11]
  unfold NL NLn lv at h ⊢
  rw [e10, e11, er, ew, e31, e32, e33, e34]
  exact h
theorem RM_e (e10 : ξ' 10 = ξ 10) (e1 : ξ' 23 1 = ξ 23 1) (ez : ZZ ξ' = ZZ ξ) (h : RM b0 ξ σ) : RM b0 ξ' σ := by
  have el : liv ξ' = liv ξ := by
    funext n
    unfold liv
    rw [e10]
  unfold RM RMn at h ⊢
  rw [el, e10, e1, ez]
  exact h
theorem KI_e (h : KI b0 ξ σ) (hB' : LB ξ') (hT' : TB ξ') (hV' : CV ξ') (hC' : CR ξ') (e10 : ξ' 10 = ξ 10) (e11 : ξ' 23 11 = ξ 23 11) (e31 : ξ' 31 = ξ 31) (e32 : ξ' 32 = ξ 32) (e33 : ξ' 33 = ξ 33) (e34 : ξ' 34 = ξ 34) (e1 : ξ' 23 1 = ξ 23 1) (ez : ZZ ξ' = ZZ ξ) (ev : ξ' 15 2 = ξ 15 2 + 1) (vb : ξ 15 2 < 100000) : KI b0 ξ' σ := ⟨⟨hB', hT', hV', hC', NS_e10 e10 h.1.2.2.2.2.1, NL_e e10 e11 e31 e32 e33 e34 h.1.2.2.2.2.2⟩, CM_bump h.2.1 e10 ev vb, RM_e e10 e1 ez h.2.2⟩
def scrp (w d k : Int) : Prop := (d = 11 ∧ k = w) ∨ (d = 15 ∧ k = 2) ∨ (d = 30 ∧ k = w) ∨ (d = 23 ∧ k = 19)
theorem T_price (h : INV b0 ξ σ t) (ht : t + 1 ≤ t') (tb : t' ≤ 100000) (hw : R3 w) (hp : R3 p) : Step b0 σ ξ t' (F_X7_price b0 w p) (F_X8_price (b0 + 23) w p) R3 := by
  obtain ⟨hI, hM, hX, hR, hv⟩ := id h
  obtain ⟨r1, r2, r3, r4⟩ := id hR
  obtain ⟨hB, hT, hV, hC, hS, hN⟩ := id hI.1
  have top : ∀ z, (¬ ((0 ≤ w ∧ w ≤ 9) ∧ (0 ≤ p ∧ p ≤ 20)) → some (-1, S b0 σ ξ) = z) → ((0 ≤ w ∧ w ≤ 9) ∧ (0 ≤ p ∧ p ≤ 20) → ξ 23 32 ≠ 0 → some (-2, S b0 σ ξ) = z) → ((0 ≤ w ∧ w ≤ 9) ∧ (0 ≤ p ∧ p ≤ 20) → ξ 23 32 = 0 → some (ξ 30 w, S b0 σ (xu (xu ξ 11 w p) 15 2 (ξ 15 2 + 1))) = z) → F_X7_price b0 w p (S b0 σ ξ) = z := by
    intro z z1 z2 z3
    rw [F_X7_price]
    refine evd (X7_isWithin hw ⟨by omega, by omega⟩) (ev_if (fun q => z1 (fun y => q y.1)) (fun q1 => ?_))
    refine evd (X7_isWithin hp ⟨by omega, by omega⟩) (ev_if (fun q => z1 (fun y => q y.2)) (fun q2 => ?_))
    refine ev rS_0_4 ?_
    refine ev rS_17_5 ?_
    rw [r2]
    refine ev_bEq (by omega) (by omega) (by omega) (by omega) (fun q => ?_) (fun q => z2 ⟨q1, q2⟩ q)
    refine ev rS_0_1 ?_
    refine ev rS_9_1 ?_
    refine ev (aS_11 q1.1 (by omega)) ?_
    rw [hC.2.2.2 w q1.1 (by omega)]
    refine ev rS_0_1 ?_
    refine ev rS_9_1 ?_
    refine ev (wS_11 q1.1 (by omega)) ?_
    refine ev rS_0_2 ?_
    refine evd (iS_15.trans X6_forget) ?_
    rw [xu_nd (show (15 : Int) ≠ 11 by omega)]
    exact z3 ⟨q1, q2⟩ q
  have mtop : ∀ (ζ : Int → Int → Int) z, ζ 23 32 = ξ 23 32 → ζ 30 w = ξ 30 w → (¬ ((0 ≤ w ∧ w ≤ 9) ∧ (0 ≤ p ∧ p ≤ 20)) → some (-1, S b0 σ ζ) = z) → ((0 ≤ w ∧ w ≤ 9) ∧ (0 ≤ p ∧ p ≤ 20) → ξ 23 32 ≠ 0 → some (-2, S b0 σ ζ) = z) → ((0 ≤ w ∧ w ≤ 9) ∧ (0 ≤ p ∧ p ≤ 20) → ξ 23 32 = 0 → some (ξ 30 w, S b0 σ (xu (xu ζ 30 w p) 23 19 0)) = z) → F_X8_price (b0 + 23) w p (S b0 σ ζ) = z := by
    intro ζ z e32 e30 z1 z2 z3
    rw [F_X8_price]
    refine evd (X8_in _ hw ⟨by omega, by omega⟩ ⟨by omega, by omega⟩) (ev_if (fun q => z1 (fun y => q y.1)) (fun q1 => ?_))
    refine evd (X8_in _ hp ⟨by omega, by omega⟩ ⟨by omega, by omega⟩) (ev_if (fun q => z1 (fun y => q y.2)) (fun q2 => ?_))
    refine ev rS_23_32 ?_
    rw [e32]
    refine ev_bEq (by omega) (by omega) (by omega) (by omega) (fun q => ?_) (fun q => z2 ⟨q1, q2⟩ q)
    refine ev rS_23_10 ?_
    refine ev (aS_30 q1.1 (by omega)) ?_
    rw [e30]
    refine ev rS_23_10 ?_
    refine ev (wS_30 q1.1 (by omega)) ?_
    exact evd (iS_23.trans X8_forget) (z3 ⟨q1, q2⟩ q)
  by_cases ok : (0 ≤ w ∧ w ≤ 9) ∧ (0 ≤ p ∧ p ≤ 20)
  · by_cases off : ξ 23 32 = 0
    · have ch : Ch (scrp w) ξ (xu (xu (xu (xu ξ 11 w p) 15 2 (ξ 15 2 + 1)) 30 w p) 23 19 0) := Ch_xu (by unfold scrp; omega) (Ch_xu (by unfold scrp; omega) (Ch_xu (by unfold scrp; omega) (Ch_xu (by unfold scrp; omega) Ch.rf)))
      have pb := hT.2.2.2.1 w ok.1.1 (by omega)
      refine ⟨ξ 30 w, σ, _, σ, _, top _ (fun q => absurd ok q) (fun _ q => absurd off q) (fun _ _ => rfl), mtop _ _ (by rw [xu_nd (by omega), xu_nd (by omega)]) (by rw [xu_nd (by omega), xu_nd (by omega)]) (fun q => absurd ok q) (fun _ q => absurd off q) (fun _ _ => rfl), ?_, ⟨by omega, by omega⟩⟩
      have v11 : xu (xu (xu (xu ξ 11 w p) 15 2 (ξ 15 2 + 1)) 30 w p) 23 19 0 11 w = p := by simp [xu]
      have v30 : xu (xu (xu (xu ξ 11 w p) 15 2 (ξ 15 2 + 1)) 30 w p) 23 19 0 30 w = p := by simp [xu]
      have v15 : xu (xu (xu (xu ξ 11 w p) 15 2 (ξ 15 2 + 1)) 30 w p) 23 19 0 15 2 = ξ 15 2 + 1 := by simp [xu]
      have v19 : xu (xu (xu (xu ξ 11 w p) 15 2 (ξ 15 2 + 1)) 30 w p) 23 19 0 23 19 = 0 := by simp [xu]
      generalize xu (xu (xu (xu ξ 11 w p) 15 2 (ξ 15 2 + 1)) 30 w p) 23 19 0 = ξ' at *
      have o : ∀ d k, ¬ scrp w d k → ξ' d k = ξ d k := ch
      have f : ∀ d, d ≠ 11 → d ≠ 15 → d ≠ 30 → d ≠ 23 → ξ' d = ξ d := fun d a b c e => funext fun k => o d k (by unfold scrp; omega)
      have o23 : ∀ k, k ≠ 19 → ξ' 23 k = ξ 23 k := fun k a => o 23 k (by unfold scrp; omega)
      have hB' : LB ξ' := by
        unfold LB at hB ⊢
        rw [o23 1 (by omega), f 24 (by omega) (by omega) (by omega) (by omega), f 25 (by omega) (by omega) (by omega) (by omega), f 26 (by omega) (by omega) (by omega) (by omega), f 27 (by omega) (by omega) (by omega) (by omega), f 28 (by omega) (by omega) (by omega) (by omega), f 29 (by omega) (by omega) (by omega) (by omega), f 41 (by omega) (by omega) (by omega) (by omega), f 42 (by omega) (by omega) (by omega) (by omega)]
        exact hB
      have ez : ZZ ξ' = ZZ ξ := by unfold ZZ; rw [f 25 (by omega) (by omega) (by omega) (by omega)]
      have esd : sd ξ' = sd ξ := by funext i; unfold sd; rw [f 25 (by omega) (by omega) (by omega) (by omega)]
      have ehd : hd ξ' = hd ξ := by funext i m; unfold hd; rw [f 25 (by omega) (by omega) (by omega) (by omega), f 28 (by omega) (by omega) (by omega) (by omega), o23 1 (by omega)]
      have hT' : TB ξ' := by
        obtain ⟨t1, t2, t3, t4, t5, t6, t7⟩ := hT
        unfold TB IFB at *
        rw [o23 8 (by omega), o23 9 (by omega), o23 11 (by omega), f 31 (by omega) (by omega) (by omega) (by omega), f 32 (by omega) (by omega) (by omega) (by omega), f 33 (by omega) (by omega) (by omega) (by omega), f 34 (by omega) (by omega) (by omega) (by omega)]
        refine ⟨t1, t2, t3, fun u u0 u1 => ?_, t5, t6, t7⟩
        by_cases e : u = w
        · rw [e, v30]; exact ok.2
        · rw [o 30 u (by unfold scrp; omega)]; exact t4 u u0 u1
      have hV' : CV ξ' := by
        obtain ⟨a1, a2, a3⟩ := hV
        refine ⟨by rw [f 1 (by omega) (by omega) (by omega) (by omega), o23 1 (by omega)]; exact a1, by rw [f 1 (by omega) (by omega) (by omega) (by omega), ez]; exact a2, fun i i0 i3 => ?_⟩
        obtain ⟨a4, a5⟩ := a3 i i0 i3
        refine ⟨?_, fun m m0 m1 => ?_⟩
        · rw [f (3 + 2 * i) (by omega) (by omega) (by omega) (by omega), esd, o23 1 (by omega), f 24 (by omega) (by omega) (by omega) (by omega), f 25 (by omega) (by omega) (by omega) (by omega), f 26 (by omega) (by omega) (by omega) (by omega), f 27 (by omega) (by omega) (by omega) (by omega), f 29 (by omega) (by omega) (by omega) (by omega), f 41 (by omega) (by omega) (by omega) (by omega), f 42 (by omega) (by omega) (by omega) (by omega)]
          exact a4
        · rw [f (4 + 2 * i) (by omega) (by omega) (by omega) (by omega), ehd]
          exact a5 m m0 m1
      have hC' : CR ξ' := by
        obtain ⟨a1, a2, a3, a4⟩ := hC
        refine ⟨by rw [f 9 (by omega) (by omega) (by omega) (by omega), o23 11 (by omega)]; exact a1, by rw [f 9 (by omega) (by omega) (by omega) (by omega), o23 8 (by omega)]; exact a2, by rw [f 9 (by omega) (by omega) (by omega) (by omega), o23 9 (by omega)]; exact a3, fun u u0 u1 => ?_⟩
        by_cases e : u = w
        · rw [e, v30, v11]
        · rw [o 30 u (by unfold scrp; omega), o 11 u (by unfold scrp; omega)]; exact a4 u u0 u1
      refine INV_e h off (KI_e hI hB' hT' hV' hC' (f 10 (by omega) (by omega) (by omega) (by omega)) (o23 11 (by omega)) (f 31 (by omega) (by omega) (by omega) (by omega)) (f 32 (by omega) (by omega) (by omega) (by omega)) (f 33 (by omega) (by omega) (by omega) (by omega)) (f 34 (by omega) (by omega) (by omega) (by omega)) (o23 1 (by omega)) ez v15 (by omega)) ?_ ?_ ?_ v19 (f 37 (by omega) (by omega) (by omega) (by omega)) (f 38 (by omega) (by omega) (by omega) (by omega)) (o23 32 (by omega)) (by rw [f 17 (by omega) (by omega) (by omega) (by omega)]) (fun d a b => by rw [f d (by omega) (by omega) (by omega) (by omega)]) (by rw [v15]; omega)
      · unfold XT at hX ⊢
        rw [o23 1 (by omega), f 25 (by omega) (by omega) (by omega) (by omega), f 28 (by omega) (by omega) (by omega) (by omega), f 34 (by omega) (by omega) (by omega) (by omega), f 41 (by omega) (by omega) (by omega) (by omega)]
        exact hX
      · have q := hM.1.2.1
        unfold MB at q ⊢
        rw [o23 1 (by omega), f 25 (by omega) (by omega) (by omega) (by omega), f 35 (by omega) (by omega) (by omega) (by omega)]
        exact q
      · have q := hM.1.2.2.1
        unfold TZ at q ⊢
        rw [o23 1 (by omega), f 36 (by omega) (by omega) (by omega) (by omega)]
        exact q
    · exact Step_s h (by omega) (top _ (fun q => absurd ok q) (fun _ _ => rfl) (fun _ q => absurd q off)) (mtop ξ _ rfl rfl (fun q => absurd ok q) (fun _ _ => rfl) (fun _ q => absurd q off)) ⟨by decide, by decide⟩
  · exact Step_s h (by omega) (top _ (fun _ => rfl) (fun q => absurd q ok) (fun q => absurd q ok)) (mtop ξ _ rfl rfl (fun _ => rfl) (fun q => absurd q ok) (fun q => absurd q ok)) ⟨by decide, by decide⟩
end P3
