section O6
variable {b0 : Int} {σ τ σ' : Hp} {ξ ζ η : Int → Int → Int} {a b c i l m n v j w s L p q le r x t t' mm fr st g : Int}
def scrU (d k : Int) : Prop := (17 ≤ d ∧ d ≤ 22) ∨ (49 ≤ d ∧ d ≤ 54) ∨ (d = 23 ∧ (k = 32 ∨ k = 33))
theorem scrUY (d k : Int) (h : scrU d k) : scrY d k := by unfold scrU at h; unfold scrY; omega
theorem MK_u (hM : MK ξ η) (hc : Ch scrU η ζ) : MK ξ ζ := by
  have o : ∀ d k, (d < 17 ∨ (24 ≤ d ∧ d ≤ 48) ∨ (d = 23 ∧ k ≠ 32 ∧ k ≠ 33)) → ζ d k = η d k := fun d k q => hc d k (by unfold scrU; omega)
  have f : ∀ d, (24 ≤ d ∧ d ≤ 48) → ζ d = η d := fun d q => funext fun k => o d k (by omega)
  obtain ⟨⟨h1, h2, h3, h4, h5⟩, h6, h7⟩ := hM
  have cf := Cf_scrY (hc.mono scrUY)
  unfold MK WS MB TZ Bo MM KW at *
  rw [f 35 (by omega), f 36 (by omega), f 37 (by omega), f 38 (by omega), f 39 (by omega), f 40 (by omega), f 25 (by omega), o 23 19 (by omega), o 23 1 (by omega)]
  exact ⟨⟨h1.trans cf, h2, h3, h4, h5⟩, h6, h7⟩
theorem INV_r (h : INV b0 ξ σ t) (hK : KI b0 ξ σ') (hM : MK ξ ζ) (hc : Ch scrY ξ ζ) (hR : RN ζ) (ht : t ≤ t') : INV b0 ζ σ' t' := by
  have cf := Cf_scrY hc
  refine ⟨KI_cg hc hK, MK_self cf hM, h.2.2.1.cf cf, hR, ?_⟩
  rw [hc 15 2 (by unfold scrY; omega)]
  have := h.2.2.2.2
  omega
theorem RNt_cg (cf : Cf ξ ζ) (e : ∀ d, (18 ≤ d ∧ d ≤ 22) ∨ (49 ≤ d ∧ d ≤ 54) → ζ d t = ξ d t) (e1 : ζ 49 (t - 1) = ξ 49 (t - 1)) (h : RNt ξ t) : RNt ζ t := by
  unfold RNt at h ⊢
  rw [e 49 (by omega), e 50 (by omega), e 51 (by omega), e 52 (by omega), e 53 (by omega), e 54 (by omega), e 18 (by omega), e 19 (by omega), e 20 (by omega), e 21 (by omega), e 22 (by omega), e1, cf.2 11 (by omega), cf.1 33 (by omega), cf.1 31 (by omega), ZZ_cf cf]
  exact h
theorem RN_off (cf : Ch scrU ξ ζ) (h : RN ξ) (h1 : ζ 23 32 = 0) (h2 : ζ 17 5 = 0) (h3 : ∀ d, 19 ≤ d ∧ d ≤ 22 → ζ d 0 = ξ d 0) : RN ζ := by
  obtain ⟨a1, a2, a3, a4⟩ := h
  refine ⟨Or.inl h1, h2.trans h1.symm, ?_, fun e => by omega⟩
  rw [h3 19 (by omega), h3 20 (by omega), h3 21 (by omega), h3 22 (by omega)]
  exact a3
theorem X2_told (g0 : 0 ≤ g) (g1 : g ≤ 10) (z6 : ζ 17 6 = g) (hl : al 11 (S b0 σ ζ) q = some 11) (ha : ar 11 (S b0 σ ζ) q g = some s) : F_X2_toldNow (b0 + 17) q (S b0 σ ζ) = some (s, S b0 σ ζ) := by
  rw [F_X2_toldNow]
  refine ev rS_17_6 ?_
  rw [z6]
  refine ev_bLt (by omega) (by omega) (by omega) (by omega) (fun x => absurd x (by omega)) (fun _ => ?_)
  refine ev rS_17_6 ?_
  rw [z6]
  refine ev hl ?_
  refine ev_bLt (by omega) (by omega) (by omega) (by omega) (fun _ => ?_) (fun x => absurd (by omega) x)
  refine ev rS_17_6 ?_
  rw [z6]
  exact ev ha rfl
theorem X2_stateNow (g0 : 0 ≤ g) (g1 : g ≤ 10) (z6 : ζ 17 6 = g) (z18 : ζ 18 g = s) : F_X2_stateNow (b0 + 17) (S b0 σ ζ) = some (s, S b0 σ ζ) := by
  rw [F_X2_stateNow]
  refine ev rS_17_0 ?_
  exact evd (iS_17.trans (X2_told g0 g1 z6 lS_18 ((aS_18 g0 (by omega)).trans (by rw [z18])))) rfl
theorem T_now (h : INV b0 ξ σ t) (ht : t ≤ t') (hw : R3 w) : Step b0 σ ξ t' (F_X7_now b0 w) (F_X8_now (b0 + 23) w) R3 := by
  obtain ⟨hI, hM, hX, hR, hv⟩ := id h
  obtain ⟨r1, r2, r3, r4⟩ := id hR
  by_cases on : ξ 23 32 = 0
  · refine Step_s (r := -6) h ht ?_ ?_ ⟨by decide, by decide⟩
    · rw [F_X7_now]
      refine ev rS_0_4 ?_
      refine ev rS_17_5 ?_
      rw [r2]
      exact ev_bEq (by omega) (by omega) (by omega) (by omega) (fun _ => rfl) (fun x => absurd on x)
    · rw [F_X8_now]
      refine ev rS_23_32 ?_
      exact ev_bEq (by omega) (by omega) (by omega) (by omega) (fun _ => rfl) (fun x => absurd on x)
  · obtain ⟨g1, g2, g3, g4, g5⟩ := r4 (by omega)
    obtain ⟨n1, n2, n3, n4, n5, n6, n7, n8, n9⟩ := g5 (ξ 23 33) g3.1 (Int.le_refl _)
    have ln' := hI.1.lv n1.1 n1.2
    have lp2 := ln'.2
    have n81 := hI.1.2.1.2.2.1
    have hz := ZZ_le hI.1.1
    refine Step_s (r := if w = 0 then ξ 49 (ξ 23 33) else if w = 1 then ξ 50 (ξ 23 33) else if w = 2 then ξ 51 (ξ 23 33) else if w = 3 then ξ 52 (ξ 23 33) else if w = 4 then ξ 53 (ξ 23 33) else if w = 5 then ξ 54 (ξ 23 33) else if w = 6 then ξ 23 33 else -1) h ht ?_ ?_ ?_
    · rw [F_X7_now]
      refine ev rS_0_4 ?_
      refine ev rS_17_5 ?_
      rw [r2]
      refine ev_bEq (by omega) (by omega) (by omega) (by omega) (fun x => absurd x on) (fun _ => ?_)
      refine ev rS_0_4 ?_
      refine ev rS_17_7 ?_
      rw [g4]
      refine ev_bN (fun x => by omega) (fun _ => ?_)
      refine ev_bEq hw.1 hw.2 (by omega) (by omega) (fun q => ?_) (fun q => ?_)
      · rw [if_pos q]
        refine ev rS_0_4 ?_
        refine ev rS_17_7 ?_
        rw [g4]
        refine ev (rd_o (hI.1.nd n1.1 n1.2)) ?_
        rw [hI.1.2.2.2.2.2.2.1 _ ln']
      rw [if_neg q]
      refine ev_bEq hw.1 hw.2 (by omega) (by omega) (fun q => ?_) (fun q => ?_)
      · rw [if_pos q]
        refine ev rS_0_4 ?_
        exact evd (iS_17.trans (X2_stateNow g3.1 (by omega) g2 n5.1)) rfl
      rw [if_neg q]
      refine ev_bEq hw.1 hw.2 (by omega) (by omega) (fun q => ?_) (fun q => ?_)
      · rw [if_pos q]
        refine ev rS_0_4 ?_
        refine ev rS_0_4 ?_
        refine ev rS_17_1 ?_
        exact evd (iS_17.trans (X2_told g3.1 (by omega) g2 lS_19 ((aS_19 g3.1 (by omega)).trans (by rw [n5.2.1])))) rfl
      rw [if_neg q]
      refine ev_bEq hw.1 hw.2 (by omega) (by omega) (fun q => ?_) (fun q => ?_)
      · rw [if_pos q]
        refine ev rS_0_4 ?_
        refine ev rS_0_4 ?_
        refine ev rS_17_2 ?_
        exact evd (iS_17.trans (X2_told g3.1 (by omega) g2 lS_20 ((aS_20 g3.1 (by omega)).trans (by rw [n5.2.2.1])))) rfl
      rw [if_neg q]
      refine ev_bEq hw.1 hw.2 (by omega) (by omega) (fun q => ?_) (fun q => ?_)
      · rw [if_pos q]
        refine ev rS_0_4 ?_
        refine ev rS_0_4 ?_
        refine ev rS_17_3 ?_
        exact evd (iS_17.trans (X2_told g3.1 (by omega) g2 lS_21 ((aS_21 g3.1 (by omega)).trans (by rw [n5.2.2.2.1])))) rfl
      rw [if_neg q]
      refine ev_bEq hw.1 hw.2 (by omega) (by omega) (fun q => ?_) (fun q => ?_)
      · rw [if_pos q]
        refine ev rS_0_4 ?_
        refine ev rS_0_4 ?_
        refine ev rS_17_4 ?_
        exact evd (iS_17.trans (X2_told g3.1 (by omega) g2 lS_22 ((aS_22 g3.1 (by omega)).trans (by rw [n5.2.2.2.2])))) rfl
      rw [if_neg q]
      refine ev_bEq hw.1 hw.2 (by omega) (by omega) (fun q => ?_) (fun q => ?_)
      · rw [if_pos q]
        refine ev rS_0_4 ?_
        refine ev rS_17_6 ?_
        rw [g2]
      rw [if_neg q]
    · rw [F_X8_now]
      refine ev rS_23_32 ?_
      refine ev_bEq (by omega) (by omega) (by omega) (by omega) (fun x => absurd x on) (fun _ => ?_)
      refine ev_bEq hw.1 hw.2 (by omega) (by omega) (fun q => ?_) (fun q => ?_)
      · rw [if_pos q]
        refine ev rS_23_34 ?_
        refine ev rS_23_33 ?_
        exact ev (aS_49 g3.1 (by omega)) rfl
      rw [if_neg q]
      refine ev_bEq hw.1 hw.2 (by omega) (by omega) (fun q => ?_) (fun q => ?_)
      · rw [if_pos q]
        refine ev rS_23_35 ?_
        refine ev rS_23_33 ?_
        exact ev (aS_50 g3.1 (by omega)) rfl
      rw [if_neg q]
      refine ev_bEq hw.1 hw.2 (by omega) (by omega) (fun q => ?_) (fun q => ?_)
      · rw [if_pos q]
        refine ev rS_23_36 ?_
        refine ev rS_23_33 ?_
        exact ev (aS_51 g3.1 (by omega)) rfl
      rw [if_neg q]
      refine ev_bEq hw.1 hw.2 (by omega) (by omega) (fun q => ?_) (fun q => ?_)
      · rw [if_pos q]
        refine ev rS_23_37 ?_
        refine ev rS_23_33 ?_
        exact ev (aS_52 g3.1 (by omega)) rfl
      rw [if_neg q]
      refine ev_bEq hw.1 hw.2 (by omega) (by omega) (fun q => ?_) (fun q => ?_)
      · rw [if_pos q]
        refine ev rS_23_38 ?_
        refine ev rS_23_33 ?_
        exact ev (aS_53 g3.1 (by omega)) rfl
      rw [if_neg q]
      refine ev_bEq hw.1 hw.2 (by omega) (by omega) (fun q => ?_) (fun q => ?_)
      · rw [if_pos q]
        refine ev rS_23_39 ?_
        refine ev rS_23_33 ?_
        exact ev (aS_54 g3.1 (by omega)) rfl
      rw [if_neg q]
      refine ev_bEq hw.1 hw.2 (by omega) (by omega) (fun q => ?_) (fun q => ?_)
      · rw [if_pos q]
        exact ev rS_23_33 rfl
      rw [if_neg q]
    · unfold R3
      repeat' split
      all_goals omega
theorem T_stop (h : INV b0 ξ σ t) (ht : t ≤ t') : Step b0 σ ξ t' (F_X7_stop b0) (F_X8_stop (b0 + 23)) R3 := by
  obtain ⟨hI, hM, hX, hR, hv⟩ := id h
  obtain ⟨r1, r2, r3, r4⟩ := id hR
  by_cases on : ξ 23 32 = 0
  · have c2 : Ch scrU ξ (xu ξ 23 32 0) := Ch_xu (by unfold scrU; omega) Ch.rf
    refine ⟨0, σ, ξ, σ, xu ξ 23 32 0, ?_, ?_, INV_r h hI (MK_u hM c2) (c2.mono scrUY) (RN_off c2 hR xu_s ((xu_nd (by omega)).trans (r2.trans on)) (fun d hd => xu_nd (by omega))) ht, ⟨by decide, by decide⟩⟩
    · rw [F_X7_stop]
      refine ev rS_0_4 ?_
      refine ev rS_17_5 ?_
      rw [r2]
      exact ev_bEq (by omega) (by omega) (by omega) (by omega) (fun _ => rfl) (fun x => absurd on x)
    · rw [F_X8_stop]
      refine ev rS_23_32 ?_
      refine ev_bEq (by omega) (by omega) (by omega) (by omega) (fun _ => ?_) (fun x => absurd on x)
      exact ev (pS_23_32 (by omega)) rfl
  · have c1 : Ch scrU ξ (xu ξ 17 5 0) := Ch_xu (by unfold scrU; omega) Ch.rf
    have c2 : Ch scrU ξ (xu (xu ξ 17 5 0) 23 32 0) := Ch_xu (by unfold scrU; omega) c1
    refine ⟨1, σ, xu ξ 17 5 0, σ, xu (xu ξ 17 5 0) 23 32 0, ?_, ?_, INV_r h hI (MK_u hM c2) (c2.mono scrUY) (RN_off c2 hR xu_s ((xu_nd (by omega)).trans xu_s) (fun d hd => (xu_nd (by omega)).trans (xu_nd (by omega)))) ht, ⟨by decide, by decide⟩⟩
    · rw [F_X7_stop]
      refine ev rS_0_4 ?_
      refine ev rS_17_5 ?_
      rw [r2]
      refine ev_bEq (by omega) (by omega) (by omega) (by omega) (fun x => absurd x on) (fun _ => ?_)
      refine ev rS_0_4 ?_
      exact ev (pS_17_5 (by omega)) rfl
    · rw [F_X8_stop]
      refine ev rS_23_32 ?_
      rw [xu_nd (by omega)]
      refine ev_bEq (by omega) (by omega) (by omega) (by omega) (fun x => absurd x on) (fun _ => ?_)
      exact ev (pS_23_32 (by omega)) rfl
theorem T_undo (h : INV b0 ξ σ t) (ht : t ≤ t') : Step b0 σ ξ t' (F_X7_undo b0) (F_X8_undo (b0 + 23)) R3 := by
  obtain ⟨hI, hM, hX, hR, hv⟩ := id h
  obtain ⟨r1, r2, r3, r4⟩ := id hR
  by_cases on : ξ 23 32 = 0
  · refine Step_s (r := -6) h ht ?_ ?_ ⟨by decide, by decide⟩
    · rw [F_X7_undo]
      refine ev rS_0_4 ?_
      refine ev rS_17_5 ?_
      rw [r2]
      exact ev_bEq (by omega) (by omega) (by omega) (by omega) (fun _ => rfl) (fun x => absurd on x)
    · rw [F_X8_undo]
      refine ev rS_23_32 ?_
      exact ev_bEq (by omega) (by omega) (by omega) (by omega) (fun _ => rfl) (fun x => absurd on x)
  · obtain ⟨g1, g2, g3, g4, g5⟩ := r4 (by omega)
    by_cases e0 : ξ 23 33 = 0
    · refine Step_s (r := -6) h ht ?_ ?_ ⟨by decide, by decide⟩
      · rw [F_X7_undo]
        refine ev rS_0_4 ?_
        refine ev rS_17_5 ?_
        rw [r2]
        refine ev_bEq (by omega) (by omega) (by omega) (by omega) (fun x => absurd x on) (fun _ => ?_)
        refine ev rS_0_4 ?_
        refine ev rS_17_6 ?_
        rw [g2]
        exact ev_bLt (by omega) (by omega) (by omega) (by omega) (fun _ => rfl) (fun x => by omega)
      · rw [F_X8_undo]
        refine ev rS_23_32 ?_
        refine ev_bEq (by omega) (by omega) (by omega) (by omega) (fun x => absurd x on) (fun _ => ?_)
        refine ev rS_23_33 ?_
        exact ev_bEq (by omega) (by omega) (by omega) (by omega) (fun _ => rfl) (fun x => absurd e0 x)
    · obtain ⟨n1, n2, n3, n4, n5, n6, n7, n8, n9⟩ := g5 (ξ 23 33) g3.1 (Int.le_refl _)
      obtain ⟨m1, m2, m3, m4, m5, m6, m7, m8, m9⟩ := g5 (ξ 23 33 - 1) (by omega) (by omega)
      have ln' := hI.1.lv n1.1 n1.2
      have lm := hI.1.lv m1.1 m1.2
      have ln2 := ln'.2
      have lm2 := lm.2
      have n81 := hI.1.2.1.2.2.1
      have hNn := hI.1.2.2.2.2.2.2.2 _ n1.1 n1.2
      have nz : ξ 49 (ξ 23 33) ≠ 0 := fun x => by rw [x] at n2; have := hI.1.2.1.2.2.2.2.1; omega
      have p3 : gf σ (ξ 10 (ξ 49 (ξ 23 33))) 3 = ξ 10 (ξ 49 (ξ 23 33 - 1)) := by rw [hNn.1, if_neg nz, n3 (by omega)]
      have c1 : Ch scrU ξ (xu (xu ξ 17 6 (ξ 23 33 - 1)) 17 7 (ξ 10 (ξ 49 (ξ 23 33 - 1)))) := Ch_xu (by unfold scrU; omega) (Ch_xu (by unfold scrU; omega) Ch.rf)
      have c2 : Ch scrU ξ (xu (xu (xu ξ 17 6 (ξ 23 33 - 1)) 17 7 (ξ 10 (ξ 49 (ξ 23 33 - 1)))) 23 33 (ξ 23 33 - 1)) := Ch_xu (by unfold scrU; omega) c1
      have on1 : ∀ k, (k ≠ 33) → xu (xu (xu ξ 17 6 (ξ 23 33 - 1)) 17 7 (ξ 10 (ξ 49 (ξ 23 33 - 1)))) 23 33 (ξ 23 33 - 1) 23 k = ξ 23 k := fun k hk => by rw [xu_ni hk, xu_nd (by omega), xu_nd (by omega)]
      have od : ∀ d k, d ≠ 17 → d ≠ 23 → xu (xu (xu ξ 17 6 (ξ 23 33 - 1)) 17 7 (ξ 10 (ξ 49 (ξ 23 33 - 1)))) 23 33 (ξ 23 33 - 1) d k = ξ d k := fun d k h1 h2 => by rw [xu_nd h2, xu_nd h1, xu_nd h1]
      have cf := Cf_scrY (c2.mono scrUY)
      refine ⟨ξ 33 (ξ 49 (ξ 23 33 - 1)), σ, xu (xu ξ 17 6 (ξ 23 33 - 1)) 17 7 (ξ 10 (ξ 49 (ξ 23 33 - 1))), σ, _, ?_, ?_, INV_r h hI (MK_u hM c2) (c2.mono scrUY) ?_ ht, ⟨by omega, by omega⟩⟩
      · rw [F_X7_undo]
        refine ev rS_0_4 ?_
        refine ev rS_17_5 ?_
        rw [r2]
        refine ev_bEq (by omega) (by omega) (by omega) (by omega) (fun x => absurd x on) (fun _ => ?_)
        refine ev rS_0_4 ?_
        refine ev rS_17_6 ?_
        rw [g2]
        refine ev_bLt (by omega) (by omega) (by omega) (by omega) (fun x => by omega) (fun _ => ?_)
        refine ev rS_0_4 ?_
        refine ev rS_17_7 ?_
        rw [g4]
        refine ev_bN (fun x => by omega) (fun _ => ?_)
        refine ev rS_0_4 ?_
        refine ev rS_17_7 ?_
        rw [g4]
        refine ev (rd_o (hI.1.nd n1.1 n1.2)) ?_
        rw [p3]
        refine ev_bN (fun x => by omega) (fun _ => ?_)
        refine ev rS_0_4 ?_
        refine ev rS_17_6 ?_
        rw [g2]
        refine ev pS_17_6 ?_
        refine ev rS_0_4 ?_
        refine ev rS_0_4 ?_
        refine ev rS_17_7 ?_
        rw [xu_ni (by omega), g4]
        refine ev (rd_o (hI.1.nd n1.1 n1.2)) ?_
        rw [p3]
        refine ev pS_17_7 ?_
        refine ev rS_0_4 ?_
        refine ev rS_17_7 ?_
        rw [xu_s]
        refine ev (rd_o (hI.1.nd m1.1 m1.2)) ?_
        rw [hI.1.wk m1.1 m1.2]
      · rw [F_X8_undo]
        refine ev rS_23_32 ?_
        rw [xu_nd (by omega), xu_nd (by omega)]
        refine ev_bEq (by omega) (by omega) (by omega) (by omega) (fun x => absurd x on) (fun _ => ?_)
        refine ev rS_23_33 ?_
        rw [xu_nd (by omega), xu_nd (by omega)]
        refine ev_bEq (by omega) (by omega) (by omega) (by omega) (fun x => absurd x e0) (fun _ => ?_)
        refine ev rS_23_33 ?_
        rw [xu_nd (by omega), xu_nd (by omega)]
        refine ev pS_23_33 ?_
        refine ev rS_23_14 ?_
        refine ev rS_23_34 ?_
        refine ev rS_23_33 ?_
        rw [xu_s]
        refine ev (aS_49 (by omega) (by omega)) ?_
        rw [od 49 _ (by omega) (by omega)]
        refine ev (aS_33 (by omega) (by omega)) ?_
        rw [od 33 _ (by omega) (by omega)]
      · refine ⟨?_, ?_, ?_, fun _ => ⟨g1.cf cf, ?_, ?_, ?_, fun u u0 u1 => ?_⟩⟩
        · rw [on1 32 (by omega)]; exact r1
        · rw [on1 32 (by omega), xu_nd (by omega), xu_ni (by omega), xu_ni (by omega)]; exact r2
        · rw [od 19 _ (by omega) (by omega), od 20 _ (by omega) (by omega), od 21 _ (by omega) (by omega), od 22 _ (by omega) (by omega)]; exact r3
        · rw [xu_s, xu_nd (by omega), xu_ni (by omega), xu_s]
        · rw [xu_s]; omega
        · rw [xu_s, xu_nd (by omega), xu_s, od 10 _ (by omega) (by omega), od 49 _ (by omega) (by omega)]
        · rw [xu_s] at u1
          exact RNt_cg cf (fun d hd => od d _ (by omega) (by omega)) (od 49 _ (by omega) (by omega)) (g5 u u0 (by omega))
theorem T_begin (h : INV b0 ξ σ t) (ht : t ≤ t') (hs : R3 s) : Step b0 σ ξ t' (F_X7_begin b0 s) (F_X8_begin (b0 + 23) s) R3 := by
  obtain ⟨hI, hM, hX, hR, hv⟩ := id h
  obtain ⟨r1, r2, r3, r4⟩ := id hR
  obtain ⟨hB, hT, hV, hC, hS, hN⟩ := id hI.1
  have hz := ZZ_le hB
  have n81 := hT.2.2.1
  have eS := X4_hasState (b0 := b0) (σ := σ) hB hV hs
  by_cases q : 0 ≤ s ∧ s < ZZ ξ
  · by_cases qw : WH ξ
    · have c1 : Ch scrU ξ (xu (xu (xu (xu ξ 17 5 1) 17 6 0) 17 7 (ξ 10 0)) 18 0 s) := Ch_xu (by unfold scrU; omega) (Ch_xu (by unfold scrU; omega) (Ch_xu (by unfold scrU; omega) (Ch_xu (by unfold scrU; omega) Ch.rf)))
      generalize hζ1 : xu (xu (xu (xu ξ 17 5 1) 17 6 0) 17 7 (ξ 10 0)) 18 0 s = ζ1 at *
      have c2 : Ch scrU ξ (xu (xu (xu (xu (xu (xu (xu (xu ζ1 23 32 1) 23 33 0) 49 0 0) 50 0 s) 51 0 0) 52 0 0) 53 0 0) 54 0 0) := Ch_xu (by unfold scrU; omega) (Ch_xu (by unfold scrU; omega) (Ch_xu (by unfold scrU; omega) (Ch_xu (by unfold scrU; omega) (Ch_xu (by unfold scrU; omega) (Ch_xu (by unfold scrU; omega) (Ch_xu (by unfold scrU; omega) (Ch_xu (by unfold scrU; omega) c1)))))))
      have cf := Cf_scrY (c2.mono scrUY)
      have cf1 := Cf_scrY (c1.mono scrUY)
      refine ⟨1, σ, ζ1, σ, _, ?_, ?_, INV_r h hI (MK_u hM c2) (c2.mono scrUY) ?_ ht, ⟨by decide, by decide⟩⟩
      · rw [F_X7_begin]
        refine ev rS_0_0 ?_
        refine evd (iS_1.trans eS) ?_
        refine ev_if (fun x => absurd q x) (fun _ => ?_)
        refine pre_W hI.1 Ch.rf (fun x => absurd qw x) (fun _ => ?_)
        refine ev rS_0_4 ?_
        refine ev rS_0_1 ?_
        refine evd (iS_9.trans (X3_nodeAt hI.1 Ch.rf ⟨by omega, by omega⟩)) ?_
        rw [if_pos (by omega)]
        refine evd (iS_17.trans (show F_X2_startAt (b0 + 17) (ξ 10 0) s (S b0 σ ξ) = some (0, S b0 σ ζ1) from ?_)) rfl
        rw [F_X2_startAt]
        refine ev (pS_17_5 (by omega)) ?_
        refine ev pS_17_6 ?_
        refine ev pS_17_7 ?_
        refine ev rS_17_0 ?_
        refine ev (wS_18 (by omega) (by omega)) ?_
        rw [hζ1]
      · rw [F_X8_begin]
        refine evd (iS_23.trans (K_isState hB cf1 hs)) (ev_if (fun x => by omega) (fun _ => ?_))
        refine evd (iS_23.trans (K_isWhole hB hT cf1)) (ev_if (fun x => absurd qw x) (fun _ => ?_))
        refine ev (pS_23_32 (by omega)) ?_
        refine ev pS_23_33 ?_
        refine ev rS_23_34 ?_
        refine ev (wS_49 (by omega) (by omega)) ?_
        refine ev rS_23_35 ?_
        refine ev (wS_50 (by omega) (by omega)) ?_
        refine ev rS_23_36 ?_
        refine ev (wS_51 (by omega) (by omega)) ?_
        refine ev rS_23_37 ?_
        refine ev (wS_52 (by omega) (by omega)) ?_
        refine ev rS_23_38 ?_
        refine ev (wS_53 (by omega) (by omega)) ?_
        refine ev rS_23_39 ?_
        exact ev (wS_54 (by omega) (by omega)) rfl
      · generalize hζ2 : xu (xu (xu (xu (xu (xu (xu (xu ζ1 23 32 1) 23 33 0) 49 0 0) 50 0 s) 51 0 0) 52 0 0) 53 0 0) 54 0 0 = ζ2 at *
        have v32 : ζ2 23 32 = 1 := by rw [← hζ2]; simp [xu]
        have v33 : ζ2 23 33 = 0 := by rw [← hζ2]; simp [xu]
        have v175 : ζ2 17 5 = 1 := by rw [← hζ2, ← hζ1]; simp [xu]
        have v176 : ζ2 17 6 = 0 := by rw [← hζ2, ← hζ1]; simp [xu]
        have v177 : ζ2 17 7 = ξ 10 0 := by rw [← hζ2, ← hζ1]; simp [xu]
        have v18 : ζ2 18 0 = s := by rw [← hζ2, ← hζ1]; simp [xu]
        have v49 : ζ2 49 0 = 0 := by rw [← hζ2]; simp [xu]
        have v50 : ζ2 50 0 = s := by rw [← hζ2]; simp [xu]
        have v51 : ζ2 51 0 = 0 := by rw [← hζ2]; simp [xu]
        have v52 : ζ2 52 0 = 0 := by rw [← hζ2]; simp [xu]
        have v53 : ζ2 53 0 = 0 := by rw [← hζ2]; simp [xu]
        have v54 : ζ2 54 0 = 0 := by rw [← hζ2]; simp [xu]
        have v19 : ζ2 19 0 = 0 := by rw [← hζ2, ← hζ1]; simp [xu, r3.1]
        have v20 : ζ2 20 0 = 0 := by rw [← hζ2, ← hζ1]; simp [xu, r3.2.1]
        have v21 : ζ2 21 0 = 0 := by rw [← hζ2, ← hζ1]; simp [xu, r3.2.2.1]
        have v22 : ζ2 22 0 = 0 := by rw [← hζ2, ← hζ1]; simp [xu, r3.2.2.2]
        have v10 : ζ2 10 0 = ξ 10 0 := by rw [← hζ2, ← hζ1]; simp [xu]
        refine ⟨Or.inr v32, v175.trans v32.symm, ⟨v19, v20, v21, v22⟩, fun _ => ⟨qw.cf cf, v176.trans v33.symm, by rw [v33]; omega, by rw [v33, v49, v10]; exact v177, fun u u0 u1 => ?_⟩⟩
        rw [v33] at u1
        have e : u = 0 := by omega
        subst e
        unfold RNt
        rw [v49, v50, v51, v52, v53, v54, v18, v19, v20, v21, v22, cf.2 11 (by omega), cf.1 33 (by omega), ZZ_cf cf]
        have t0 := hT.2.2.2.2.1
        exact ⟨by omega, by omega, fun x => by omega, q, by omega, by omega, by omega, by omega, by omega⟩
    · refine Step_s (r := -3) h ht ?_ ?_ ⟨by decide, by decide⟩
      · rw [F_X7_begin]
        refine ev rS_0_0 ?_
        refine evd (iS_1.trans eS) ?_
        refine ev_if (fun x => absurd q x) (fun _ => ?_)
        exact pre_W hI.1 Ch.rf (fun x => rfl) (fun x => absurd x qw)
      · rw [F_X8_begin]
        refine evd (iS_23.trans (K_isState hB Cf.rfl' hs)) (ev_if (fun x => by omega) (fun _ => ?_))
        exact evd (iS_23.trans (K_isWhole hB hT Cf.rfl')) (ev_if (fun x => rfl) (fun x => absurd x qw))
  · refine Step_s (r := -1) h ht ?_ ?_ ⟨by decide, by decide⟩
    · rw [F_X7_begin]
      refine ev rS_0_0 ?_
      refine evd (iS_1.trans eS) ?_
      exact ev_if (fun x => rfl) (fun x => absurd x q)
    · rw [F_X8_begin]
      exact evd (iS_23.trans (K_isState hB Cf.rfl' hs)) (ev_if (fun x => rfl) (fun x => absurd x (by omega)))
end O6
