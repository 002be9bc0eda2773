section N7
variable {b0 : Int} {σ τ σ' : Hp} {ξ ζ η : Int → Int → Int} {a b c i k l m n v j w s L p q : Int}
theorem X6_refresh (h : KI b0 ξ σ) (hc : Ch scrC ξ ζ) (hl : 0 < ξ 23 1) (n0 : 0 ≤ n) (n1 : n < ξ 23 11) : ∃ σ', F_X6_refresh (b0 + 15) (ξ 10 n) (S b0 σ ζ) = some (0, S b0 σ' ζ) ∧ KI b0 ξ σ' ∧ Fp n ξ σ σ' ∧ gf σ' (ξ 10 n) 10 = ξ 15 2 := by
  obtain ⟨hK, hC, hM⟩ := id h
  have hB := hK.1
  have hT := hK.2.1
  have hf := Cf_scrC hc
  have hz := ZZ_le hB
  have ln' := hK.lv n0 n1
  have on := hK.nd n0 n1
  have hN3 := hK.2.2.2.2.1.2.2.1 n ln'
  have bb := hK.2.2.2.2.1.2.2.2.2
  have hCn := hC.2 n ln'
  have v1 := hC.1
  have e15 : ζ 15 2 = ξ 15 2 := hc 15 2 (by unfold scrC; omega)
  have e12 : ζ 1 2 = ZZ ξ := by rw [hc 1 2 (by unfold scrC; omega)]; exact hK.2.2.1.2.1
  -- the fills
  have fin : ∀ (σ1 : Hp) (p q : Int), ob b0 σ1 (ξ 10 n) 2 0 → gf σ1 (ξ 10 n) 8 = p → gf σ1 (ξ 10 n) 9 = q → ob b0 σ1 p 12 (ZZ ξ) → ob b0 σ1 q 12 (ZZ ξ) → p ≠ ξ 10 n → q ≠ ξ 10 n → ∃ σ', F_X6_refresh_B81 (b0 + 15) (ξ 10 n) (S b0 σ1 ζ) = some (0, S b0 σ' ζ) ∧ σ'.1 = σ1.1 ∧ σ'.2.1 = σ1.2.1 ∧ (∀ a, kd σ' a = kd σ1 a ∧ ln σ' a = ln σ1 a) ∧ (∀ s, 0 ≤ s → s < ZZ ξ → gf σ' p s = -1 ∧ gf σ' q s = -1) ∧ gf σ' (ξ 10 n) 10 = ξ 15 2 ∧ ∀ a k, a ≠ p → a ≠ q → (a = ξ 10 n → k ≠ 10) → gf σ' a k = gf σ1 a k := by
    intro σ1 p q o g8 g9 op oq np nq
    obtain ⟨σ2, r1, r2, r3, r4, r5⟩ := fill_row (V := -1) (ζ := ζ) op (by omega) (by omega)
    have o2 : ob b0 σ2 (ξ 10 n) 2 0 := ⟨(r4 _).1.trans o.1, (r4 _).2.trans o.2.1, o.2.2.1, by rw [r2]; exact o.2.2.2⟩
    have oq2 : ob b0 σ2 q 12 (ZZ ξ) := ⟨(r4 _).1.trans oq.1, (r4 _).2.trans oq.2.1, oq.2.2.1, by rw [r2]; exact oq.2.2.2⟩
    obtain ⟨σ3, t1, t2, t3, t4, t5⟩ := fill_row (V := -1) (ζ := ζ) oq2 (by omega) (by omega)
    have o3 : ob b0 σ3 (ξ 10 n) 2 0 := ⟨(t4 _).1.trans o2.1, (t4 _).2.trans o2.2.1, o2.2.2.1, by rw [t2]; exact o2.2.2.2⟩
    have g92 : gf σ2 (ξ 10 n) 9 = q := by rw [r5, if_neg (fun x => np x.1.symm)]; exact g9
    refine ⟨wr σ3 (ξ 10 n) 10 (ξ 15 2), ?_, t2.trans r2, t3.trans r3, fun a => ⟨kd_wr.trans ((t4 a).1.trans (r4 a).1), ln_wr.trans ((t4 a).2.trans (r4 a).2)⟩, fun s s0 s1 => ?_, gf_wr_s, fun a k ap aq ak => ?_⟩
    · rw [F_X6_refresh_B81]
      refine ev (rd_o o) ?_
      rw [g8]
      refine evd r1 ?_
      refine ev (rd_o o2) ?_
      rw [g92]
      refine evd t1 ?_
      refine ev rS_15_2 ?_
      rw [e15]
      exact ev (pw_o o3) rfl
    · rw [gf_wr_ne (Or.inl np), gf_wr_ne (Or.inl nq), t5, t5, if_pos (show q = q ∧ 0 ≤ s ∧ s < ZZ ξ from ⟨rfl, s0, s1⟩)]
      refine ⟨?_, rfl⟩
      by_cases e : p = q ∧ 0 ≤ s ∧ s < ZZ ξ
      · rw [if_pos e]
      · rw [if_neg e, r5, if_pos ⟨rfl, s0, s1⟩]
    · rw [gf_wr_ne (by
        by_cases e : a = ξ 10 n
        · exact Or.inr (ak e)
        · exact Or.inl e), t5, if_neg (fun x => aq x.1), r5, if_neg (fun x => ap x.1)]
  have nne : ∀ a l, ob b0 σ a 12 l → a ≠ ξ 10 n := fun a l x e => by
    have := x.1
    rw [e, on.1] at this
    omega
  -- anew
  have anew : ¬ (0 ≤ gf σ (ξ 10 n) 8 ∧ ln σ (gf σ (ξ 10 n) 8) = ZZ ξ) → ∃ σ', F_X6_refresh_B55 (b0 + 15) (ξ 10 n) (S b0 σ ζ) = some (0, S b0 σ' ζ) ∧ KI b0 ξ σ' ∧ Fp n ξ σ σ' ∧ gf σ' (ξ 10 n) 10 = ξ 15 2 := by
    intro hno
    have nlt := on.2.2.2
    have sz := nw_S (b0 := b0) (σ := σ) (ζ := ζ) (c := 12) (l := ZZ ξ) (sz := (ZZ ξ).toNat) (f := fun _ => 0) bb.2
    generalize h1 : nw σ 12 (ZZ ξ) (ZZ ξ).toNat (fun _ => 0) = σ1 at *
    have e1 : σ1.1 = σ.1 + 1 := by rw [← h1]; rfl
    have e1' : σ1.2.1 = σ.2.1 + (ZZ ξ).toNat := by rw [← h1]; rfl
    have o1 : ob b0 σ1 (ξ 10 n) 2 0 := by rw [← h1]; exact ob_nw on
    have op1 : ob b0 σ1 (σ.1 : Int) 12 (ZZ ξ) := by rw [← h1]; exact ob_new bb.2
    have o2 : ob b0 (wr σ1 (ξ 10 n) 8 σ.1) (ξ 10 n) 2 0 := ob_wr o1
    have op2 : ob b0 (wr σ1 (ξ 10 n) 8 σ.1) (σ.1 : Int) 12 (ZZ ξ) := ob_wr op1
    generalize h2 : wr σ1 (ξ 10 n) 8 σ.1 = σ2 at *
    have e2 : σ2.1 = σ.1 + 1 := by rw [← h2]; exact e1
    have e2' : σ2.2.1 = σ.2.1 + (ZZ ξ).toNat := by rw [← h2]; exact e1'
    have bb2 : b0 + 55 ≤ (σ2.1 : Int) := by omega
    have sz2 := nw_S (b0 := b0) (σ := σ2) (ζ := ζ) (c := 12) (l := ZZ ξ) (sz := (ZZ ξ).toNat) (f := fun _ => 0) bb2
    have o3 : ob b0 (nw σ2 12 (ZZ ξ) (ZZ ξ).toNat (fun _ => 0)) (ξ 10 n) 2 0 := ob_nw o2
    have op3 : ob b0 (nw σ2 12 (ZZ ξ) (ZZ ξ).toNat (fun _ => 0)) (σ.1 : Int) 12 (ZZ ξ) := ob_nw op2
    have oq3 : ob b0 (nw σ2 12 (ZZ ξ) (ZZ ξ).toNat (fun _ => 0)) (σ2.1 : Int) 12 (ZZ ξ) := ob_new bb2
    generalize h3 : nw σ2 12 (ZZ ξ) (ZZ ξ).toNat (fun _ => 0) = σ3 at *
    have e3 : σ3.1 = σ.1 + 2 := by rw [← h3, nw_1]; omega
    have e3' : σ3.2.1 = σ.2.1 + (ZZ ξ).toNat + (ZZ ξ).toNat := by rw [← h3, nw_2]; omega
    have o4 : ob b0 (wr σ3 (ξ 10 n) 9 σ2.1) (ξ 10 n) 2 0 := ob_wr o3
    have op4 : ob b0 (wr σ3 (ξ 10 n) 9 σ2.1) (σ.1 : Int) 12 (ZZ ξ) := ob_wr op3
    have oq4 : ob b0 (wr σ3 (ξ 10 n) 9 σ2.1) (σ2.1 : Int) 12 (ZZ ξ) := ob_wr oq3
    have g8 : gf (wr σ3 (ξ 10 n) 9 σ2.1) (ξ 10 n) 8 = σ.1 := by
      rw [gf_wr_ne (Or.inr (by omega)), ← h3, gf_nw, if_neg (by omega), ← h2]
      exact gf_wr_s
    have g9 : gf (wr σ3 (ξ 10 n) 9 σ2.1) (ξ 10 n) 9 = σ2.1 := gf_wr_s
    have sm4 : ∀ a, a < (σ.1 : Int) → kd (wr σ3 (ξ 10 n) 9 σ2.1) a = kd σ a ∧ ln (wr σ3 (ξ 10 n) 9 σ2.1) a = ln σ a := by
      intro a ha
      rw [kd_wr, ln_wr, ← h3, kd_nw, ln_nw, if_neg (by omega), if_neg (by omega), ← h2, kd_wr, ln_wr, ← h1, kd_nw, ln_nw, if_neg (by omega), if_neg (by omega)]
      exact ⟨rfl, rfl⟩
    have gm4 : ∀ a k, a < (σ.1 : Int) → (a = ξ 10 n → k < 8 ∨ 10 < k) → gf (wr σ3 (ξ 10 n) 9 σ2.1) a k = gf σ a k := by
      intro a k ha hk
      have d : ∀ j, j = 8 ∨ j = 9 → a ≠ ξ 10 n ∨ k ≠ j := by
        intro j hj
        by_cases e : a = ξ 10 n
        · have := hk e
          exact Or.inr (by omega)
        · exact Or.inl e
      rw [gf_wr_ne (d 9 (by omega)), ← h3, gf_nw, if_neg (by omega), ← h2, gf_wr_ne (d 8 (by omega)), ← h1, gf_nw, if_neg (by omega)]
    generalize h4 : wr σ3 (ξ 10 n) 9 σ2.1 = σ4 at *
    have e4 : σ4.1 = σ.1 + 2 := by rw [← h4]; exact e3
    have e4' : σ4.2.1 = σ.2.1 + (ZZ ξ).toNat + (ZZ ξ).toNat := by rw [← h4]; exact e3'
    obtain ⟨σ', r1, r2, r3, r4, r5, r6, r7⟩ := fin σ4 σ.1 σ2.1 o4 g8 g9 op4 oq4 (by omega) (by omega)
    have fk := KI_refresh (σ' := σ') (p := σ.1) (q := σ2.1) h hl n0 n1 (fun a ha => ⟨(r4 a).1.trans (sm4 a ha).1, (r4 a).2.trans (sm4 a ha).2⟩) ⟨by omega, (r4 _).1.trans op4.1, (r4 _).2.trans op4.2.1, op4.2.2.1, by rw [r2]; exact op4.2.2.2⟩ ⟨by omega, (r4 _).1.trans oq4.1, (r4 _).2.trans oq4.2.1, oq4.2.2.1, by rw [r2]; exact oq4.2.2.2⟩ (by omega) ((r7 _ _ (by omega) (by omega) (fun _ => by omega)).trans g8) ((r7 _ _ (by omega) (by omega) (fun _ => by omega)).trans g9) r6 (fun a k ha hk x y => (r7 a k x y (fun z => by have := hk z; omega)).trans (gm4 a k ha hk)) r5 (Or.inr ⟨by omega, by omega, by omega, by omega, hno⟩)
    refine ⟨σ', ?_, fk.1, fk.2, r6⟩
    rw [F_X6_refresh_B55]
    refine ev rS_15_0 ?_
    refine ev rS_1_2 ?_
    rw [e12]
    have na1 : na 12 (S b0 σ ζ) (ZZ ξ) 0 = some (S b0 σ1 ζ) := by
      unfold na
      rw [if_pos (by omega), sz]
    have na2 : na 12 (S b0 σ2 ζ) (ZZ ξ) 0 = some (S b0 σ3 ζ) := by
      unfold na
      rw [if_pos (by omega), sz2]
    unfold nab
    refine ev na1 ?_
    refine ev (pw_o o1) ?_
    rw [show wr σ1 (ξ 10 n) 8 ((S b0 σ ζ).1 : Int) = σ2 from h2]
    refine ev rS_15_0 ?_
    refine ev rS_1_2 ?_
    rw [e12]
    refine ev na2 ?_
    refine ev (pw_o o3) ?_
    rw [show wr σ3 (ξ 10 n) 9 ((S b0 σ2 ζ).1 : Int) = σ4 from h4]
    exact r1
  -- filled again
  have agn : 0 ≤ gf σ (ξ 10 n) 8 ∧ ln σ (gf σ (ξ 10 n) 8) = ZZ ξ → ∃ σ', F_X6_refresh_B81 (b0 + 15) (ξ 10 n) (S b0 σ ζ) = some (0, S b0 σ' ζ) ∧ KI b0 ξ σ' ∧ Fp n ξ σ σ' ∧ gf σ' (ξ 10 n) 10 = ξ 15 2 := by
    intro hy
    rcases hN3 with x | ⟨l, x1, x2, x3, x4⟩
    · omega
    · have el : l = ZZ ξ := x2.2.2.1.symm.trans hy.2
      subst el
      obtain ⟨σ', r1, r2, r3, r4, r5, r6, r7⟩ := fin σ _ _ on rfl rfl x2.2 x3.2 (nne _ _ x2.2) (nne _ _ x3.2)
      have fk := KI_refresh (σ' := σ') h hl n0 n1 (fun a ha => r4 a) ⟨x2.1, (r4 _).1.trans x2.2.1, (r4 _).2.trans x2.2.2.1, x2.2.2.2.1, by rw [r2]; exact x2.2.2.2.2⟩ ⟨x3.1, (r4 _).1.trans x3.2.1, (r4 _).2.trans x3.2.2.1, x3.2.2.2.1, by rw [r2]; exact x3.2.2.2.2⟩ x4 (r7 _ _ (fun e => nne _ _ x2.2 e.symm) (fun e => nne _ _ x3.2 e.symm) (fun _ => by omega)) (r7 _ _ (fun e => nne _ _ x2.2 e.symm) (fun e => nne _ _ x3.2 e.symm) (fun _ => by omega)) r6 (fun a k ha hk x y => r7 a k x y (fun z => by have := hk z; omega)) r5 (Or.inl ⟨rfl, rfl, r2, r3⟩)
      exact ⟨σ', r1, fk.1, fk.2, r6⟩
  have B26 : ∃ σ', F_X6_refresh_B26 (b0 + 15) (ξ 10 n) (S b0 σ ζ) = some (0, S b0 σ' ζ) ∧ KI b0 ξ σ' ∧ Fp n ξ σ σ' ∧ gf σ' (ξ 10 n) 10 = ξ 15 2 := by
    rw [F_X6_refresh_B26]
    rcases hN3 with x | ⟨l, x1, x2, x3, x4⟩
    · obtain ⟨σ', r1, r2⟩ := anew (by omega)
      refine ⟨σ', ?_, r2⟩
      refine ev (rd_o on) ?_
      exact ev_bN (fun _ => r1) (fun y => by omega)
    · by_cases e : l = ZZ ξ
      · obtain ⟨σ', r1, r2⟩ := agn ⟨x2.1, x2.2.2.1.trans e⟩
        refine ⟨σ', ?_, r2⟩
        refine ev (rd_o on) ?_
        refine ev_bN (fun y => by omega) (fun y => ?_)
        refine ev (rd_o on) ?_
        refine ev_bN (fun y => by have := x3.1; omega) (fun y => ?_)
        refine ev (rd_o on) ?_
        refine ev (al_o x2.2 (by omega)) ?_
        refine ev rS_15_0 ?_
        refine ev rS_1_2 ?_
        rw [e12]
        exact ev_bEq (by omega) (by omega) (by omega) (by omega) (fun _ => r1) (fun y => absurd e y)
      · obtain ⟨σ', r1, r2⟩ := anew (fun y => e (x2.2.2.1.symm.trans y.2))
        refine ⟨σ', ?_, r2⟩
        refine ev (rd_o on) ?_
        refine ev_bN (fun y => by omega) (fun y => ?_)
        refine ev (rd_o on) ?_
        refine ev_bN (fun y => by have := x3.1; omega) (fun y => ?_)
        refine ev (rd_o on) ?_
        refine ev (al_o x2.2 (by omega)) ?_
        refine ev rS_15_0 ?_
        refine ev rS_1_2 ?_
        rw [e12]
        exact ev_bEq (by omega) (by omega) (by omega) (by omega) (fun y => absurd y e) (fun _ => r1)
  by_cases e : gf σ (ξ 10 n) 10 = ξ 15 2
  · refine ⟨σ, ?_, h, Fp.rf, e⟩
    have z := hCn.2 n1 e
    rw [F_X6_refresh]
    refine ev (rd_o on) ?_
    refine ev rS_15_2 ?_
    rw [e15, e]
    refine ev_bEq (by omega) (by omega) (by omega) (by omega) (fun _ => ?_) (fun y => absurd rfl y)
    refine ev (rd_o on) ?_
    refine ev_bN (fun y => by omega) (fun y => ?_)
    refine ev (rd_o on) ?_
    refine ev_bN (fun y2 => ?_) (fun y => rfl)
    rcases hN3 with x | ⟨l, x1, x2, x3, x4⟩
    · omega
    · have := x3.1
      omega
  · obtain ⟨σ', r1, r2⟩ := B26
    refine ⟨σ', ?_, r2⟩
    have cb := hCn.1
    rw [F_X6_refresh]
    refine ev (rd_o on) ?_
    refine ev rS_15_2 ?_
    rw [e15]
    exact ev_bEq (by omega) (by omega) (by omega) (by omega) (fun y => absurd y e) (fun _ => r1)
end N7
