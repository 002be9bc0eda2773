section O3
variable {b0 : Int} {σ τ σ' : Hp} {ξ ζ η : Int → Int → Int} {a b c i l m n v j w s L p q le r x t t' : Int}
/-- the same valley and tree, whatever the rules -/
def Cw (ξ ζ : Int → Int → Int) : Prop := (∀ d, 24 ≤ d ∧ d ≤ 34 → ζ d = ξ d) ∧ ∀ k, k = 1 ∨ k = 8 ∨ k = 9 ∨ k = 11 → ζ 23 k = ξ 23 k
theorem Cf.cw (h : Cf ξ ζ) : Cw ξ ζ := ⟨fun d hd => h.1 d (Or.inl hd), h.2⟩
theorem ms_cw (h : Cw ξ ζ) : ms ζ = ms ξ := by
  funext s l
  unfold ms
  rw [h.1 25 (by omega)]
theorem ZZ_cw (h : Cw ξ ζ) : ZZ ζ = ZZ ξ := by
  unfold ZZ
  rw [h.1 25 (by omega)]
theorem lft_cw (h : Cw ξ ζ) : lft ζ = lft ξ := by
  funext n
  unfold lft
  rw [h.2 8 (by omega), h.1 33 (by omega)]
theorem endv_cw (h : Cw ξ ζ) : endv ζ = endv ξ := by
  funext s
  unfold endv
  rw [ms_cw h, h.1 29 (by omega)]
theorem ernS_cw (h : Cw ξ ζ) : ernS ζ = ernS ξ := by
  funext w s L
  unfold ernS ern
  rw [ms_cw h, h.1 28 (by omega), h.1 30 (by omega)]
theorem flS_cw (h : Cw ξ ζ) : flS ζ = flS ξ := by
  funext c s L
  unfold flS flw enc fx2 fo2 fx2 fo1 fx1 fo0 fx0
  rw [ms_cw h, h.1 25 (by omega), h.1 34 (by omega)]
theorem bx_cw (h : Cw ξ ζ) : bx ζ = bx ξ := by
  funext s L
  unfold bx lo hi
  rw [ms_cw h, h.1 24 (by omega), h.1 26 (by omega), h.1 27 (by omega)]
theorem csm_cw (h : Cw ξ ζ) : csm ζ = csm ξ := by
  funext n g
  have e : cof ζ = cof ξ := by
    funext n g c
    unfold cof
    rw [h.1 31 (by omega), h.1 32 (by omega)]
  unfold csm
  rw [e, h.2 11 (by omega)]
theorem vL_cw (h : Cw ξ ζ) : vL ζ = vL ξ := by
  funext V k n s L
  unfold vL
  rw [h.2 9 (by omega), ernS_cw h, flS_cw h, csm_cw h, h.1 33 (by omega)]
theorem VV_cw (h : Cw ξ ζ) : VV ζ = VV ξ := by
  funext k
  induction k with
  | zero => funext n s; rw [VV, VV, endv_cw h]
  | succ k ih => funext n s; rw [VV, VV, vL_cw h, bx_cw h, ih]
theorem MV_cw (h : Cw ξ ζ) : MV ζ = MV ξ := by
  funext n s
  unfold MV
  rw [csm_cw h, VV_cw h, lft_cw h, flS_cw h]
theorem wsm_cw (h : Cw ξ ζ) : wsm ζ = wsm ξ := by
  funext n
  have e : wof ζ = wof ξ := by
    funext n c
    unfold wof
    rw [h.1 31 (by omega), h.1 32 (by omega)]
  unfold wsm
  rw [e, h.2 11 (by omega)]
theorem KW_cw (h : Cw ξ ζ) (hk : KW ξ η n s) : KW ζ η n s := by
  unfold KW at hk ⊢
  rw [VV_cw h, vL_cw h, bx_cw h, lft_cw h]
  exact hk
theorem MM_cw (h : Cw ξ ζ) (hm : MM ξ η) : MM ζ η := by
  intro n s a b c d e
  rw [h.2 11 (by omega)] at b
  rw [ZZ_cw h] at d
  exact KW_cw h (hm n s a b c d e)
/-- numbers that neither the valley nor the tree nor what is kept of worths in the class is made of -/
def scrY (d k : Int) : Prop := (d = 1 ∧ k = 3) ∨ (d = 15 ∧ k = 3) ∨ (d = 23 ∧ (k = 18 ∨ k = 19 ∨ k = 32 ∨ k = 33)) ∨ (35 ≤ d ∧ d ≤ 40) ∨ 43 ≤ d ∨ (17 ≤ d ∧ d ≤ 22)
theorem Cf_scrY (h : Ch scrY ξ ζ) : Cf ξ ζ := Cf_ch (fun d k q => by unfold scrY at q; omega) h
theorem CV_cy (h : Ch scrY ξ ζ) (hV : CV ξ) : CV ζ := by
  have hf := Cf_scrY h
  have o : ∀ d k, (d ≠ 1 ∨ k ≠ 3) → d < 12 → ζ d k = ξ d k := fun d k q r => h d k (by unfold scrY; omega)
  obtain ⟨h1, h2, h3⟩ := hV
  refine ⟨by rw [o 1 1 (by omega) (by omega), hf.2 1 (by omega)]; exact h1, by rw [o 1 2 (by omega) (by omega), ZZ_cf hf]; exact h2, fun i i0 i3 => ?_⟩
  obtain ⟨q, r⟩ := h3 i i0 i3
  refine ⟨?_, fun m m0 m1 => ?_⟩
  · rw [o _ 1 (by omega) (by omega), o _ 2 (by omega) (by omega), o _ 3 (by omega) (by omega), o _ 4 (by omega) (by omega), o _ 5 (by omega) (by omega), o _ 6 (by omega) (by omega), o _ 7 (by omega) (by omega), o _ 8 (by omega) (by omega), hf.1 24 (by omega), hf.1 25 (by omega), hf.1 26 (by omega), hf.1 27 (by omega), hf.1 29 (by omega), hf.1 41 (by omega), hf.1 42 (by omega), hf.2 1 (by omega), sd_cf hf]
    exact q
  · rw [o _ _ (by omega) (by omega), hd_cf hf]
    exact r m m0 m1
theorem NS_e10 (e : ζ 10 = ξ 10) (h : NS b0 σ ξ) : NS b0 σ ζ := by
  unfold NS NS1 NS2 NS3 NS4 lv at h ⊢
  rw [e]
  exact h
theorem rk_cw (h : Cw ξ ζ) : rk ζ = rk ξ := by
  funext n p
  have e : rkf ζ = rkf ξ := by
    funext n c
    unfold rkf
    rw [h.1 31 (by omega)]
  unfold rk
  rw [e]
theorem NL_cg (hc : Cw ξ ζ) (e : ζ 10 = ξ 10) (h : NL σ ξ) : NL σ ζ := by
  unfold NL NLn lv at h ⊢
  rw [e, hc.2 11 (by omega), rk_cw hc, wsm_cw hc, hc.1 31 (by omega), hc.1 32 (by omega), hc.1 33 (by omega), hc.1 34 (by omega)]
  exact h
theorem CM_cg (hc : Cw ξ ζ) (e : ζ 10 = ξ 10) (e2 : ζ 15 2 = ξ 15 2) (h : CM ξ σ) : CM ζ σ := by
  unfold CM CMn lv at h ⊢
  rw [e, e2, hc.2 11 (by omega), ZZ_cw hc, VV_cw hc, lft_cw hc, MV_cw hc]
  exact h
theorem RM_cg (hc : Cw ξ ζ) (e : ζ 10 = ξ 10) (h : RM b0 ξ σ) : RM b0 ζ σ := by
  have el : liv ζ = liv ξ := by
    funext n
    unfold liv
    rw [e]
  unfold RM RMn at h ⊢
  rw [el, e, hc.2 1 (by omega), ZZ_cw hc]
  exact h
theorem KI_cg (hc : Ch scrY ξ ζ) (h : KI b0 ξ σ) : KI b0 ζ σ := by
  have cf := Cf_scrY hc
  have e10 : ζ 10 = ξ 10 := funext fun k => hc 10 k (by unfold scrY; omega)
  have e2 : ζ 15 2 = ξ 15 2 := hc 15 2 (by unfold scrY; omega)
  have o : ∀ d k, d = 9 ∨ d = 11 → ζ d k = ξ d k := fun d k q => hc d k (by unfold scrY; omega)
  obtain ⟨⟨h1, h2, h3, h4, h5, h6⟩, h7, h8⟩ := h
  refine ⟨⟨h1.cf cf, h2.cf cf, CV_cy hc h3, ⟨?_, ?_, ?_, fun w a b => ?_⟩, NS_e10 e10 h5, NL_cg cf.cw e10 h6⟩, CM_cg cf.cw e10 e2 h7, RM_cg cf.cw e10 h8⟩
  · rw [o 9 2 (by omega), cf.2 11 (by omega)]; exact h4.1
  · rw [o 9 3 (by omega), cf.2 8 (by omega)]; exact h4.2.1
  · rw [o 9 4 (by omega), cf.2 9 (by omega)]; exact h4.2.2.1
  · rw [o 11 w (by omega), cf.1 30 (by omega)]; exact h4.2.2.2 w a b
/-- what else stands: heads rise, nothing comes into lakes that were not made, no rules of such lakes -/
def XT (ξ : Int → Int → Int) : Prop := (∀ l x y, 0 ≤ l → l < ξ 23 1 → 0 ≤ x → x ≤ y → y ≤ ξ 25 l → ξ 28 (31 * l + x) ≤ ξ 28 (31 * l + y)) ∧ (∀ n l, 0 ≤ n → n < 81 → ξ 23 1 ≤ l → l < 3 → ξ 34 (3 * n + l) = 0) ∧ (∀ l, 0 ≤ l → l < 3 → ξ 34 l = 0) ∧ ∀ l, ξ 23 1 ≤ l → l < 3 → ξ 41 l = 0
theorem XT.cf (h : Cf ξ ζ) (hx : XT ξ) : XT ζ := by
  unfold XT at hx ⊢
  rw [h.2 1 (by omega), h.1 25 (by omega), h.1 28 (by omega), h.1 34 (by omega), h.1 41 (by omega)]
  exact hx
/-- a week of a run -/
def RNt (ξ : Int → Int → Int) (t : Int) : Prop := (0 ≤ ξ 49 t ∧ ξ 49 t < ξ 23 11) ∧ ξ 33 (ξ 49 t) = t - 1 ∧ (1 ≤ t → ξ 31 (ξ 49 t) = ξ 49 (t - 1)) ∧ (0 ≤ ξ 50 t ∧ ξ 50 t < ZZ ξ) ∧ (ξ 18 t = ξ 50 t ∧ ξ 19 t = ξ 51 t ∧ ξ 20 t = ξ 52 t ∧ ξ 21 t = ξ 53 t ∧ ξ 22 t = ξ 54 t) ∧ (0 ≤ ξ 51 t ∧ ξ 51 t ≤ 8100 * t) ∧ (0 ≤ ξ 52 t ∧ ξ 52 t ≤ 10000 * t) ∧ (0 ≤ ξ 53 t ∧ ξ 53 t ≤ 100 * t) ∧ (0 ≤ ξ 54 t ∧ ξ 54 t ≤ 100 * t)
def RN (ξ : Int → Int → Int) : Prop := (ξ 23 32 = 0 ∨ ξ 23 32 = 1) ∧ ξ 17 5 = ξ 23 32 ∧ (ξ 19 0 = 0 ∧ ξ 20 0 = 0 ∧ ξ 21 0 = 0 ∧ ξ 22 0 = 0) ∧ (ξ 23 32 = 1 → WH ξ ∧ ξ 17 6 = ξ 23 33 ∧ (0 ≤ ξ 23 33 ∧ ξ 23 33 ≤ 10) ∧ ξ 17 7 = ξ 10 (ξ 49 (ξ 23 33)) ∧ ∀ t, 0 ≤ t → t ≤ ξ 23 33 → RNt ξ t)
def scrZ (d k : Int) : Prop := (d = 1 ∧ k = 3) ∨ (d = 15 ∧ k = 3) ∨ (d = 23 ∧ (k = 18 ∨ k = 19)) ∨ (35 ≤ d ∧ d ≤ 40) ∨ (43 ≤ d ∧ d ≤ 48)
theorem scrZY (d k : Int) (h : scrZ d k) : scrY d k := by unfold scrZ at h; unfold scrY; omega
theorem RN_cg (hc : Ch scrZ ξ ζ) (h : RN ξ) : RN ζ := by
  have cf := Cf_scrY (hc.mono scrZY)
  have o : ∀ d k, (d = 10 ∨ (17 ≤ d ∧ d ≤ 22) ∨ (49 ≤ d ∧ d ≤ 54) ∨ (d = 23 ∧ (k = 32 ∨ k = 33))) → ζ d k = ξ d k := fun d k q => hc d k (by unfold scrZ; omega)
  have f : ∀ d, (d = 10 ∨ (17 ≤ d ∧ d ≤ 22) ∨ (49 ≤ d ∧ d ≤ 54)) → ζ d = ξ d := fun d q => funext fun k => o d k (by omega)
  obtain ⟨h1, h2, h3, h4⟩ := h
  unfold RN RNt
  rw [o 23 32 (by omega), o 23 33 (by omega), f 17 (by omega), f 18 (by omega), f 19 (by omega), f 20 (by omega), f 21 (by omega), f 22 (by omega), f 10 (by omega), f 49 (by omega), f 50 (by omega), f 51 (by omega), f 52 (by omega), f 53 (by omega), f 54 (by omega), cf.2 11 (by omega), cf.1 33 (by omega), cf.1 31 (by omega), ZZ_cf cf]
  refine ⟨h1, h2, h3, fun e => ?_⟩
  obtain ⟨g1, g2⟩ := h4 e
  exact ⟨g1.cf cf, g2⟩
/-- what stands after each call -/
def INV (b0 : Int) (ξ : Int → Int → Int) (σ : Hp) (t : Int) : Prop := KI b0 ξ σ ∧ MK ξ ξ ∧ XT ξ ∧ RN ξ ∧ ξ 15 2 ≤ t
theorem MK_self (hc : Cf ξ ζ) (h : MK ξ ζ) : MK ζ ζ := ⟨⟨Cf.rfl', h.1.2⟩, h.2.1, fun q => MM_cw hc.cw (h.2.2 q)⟩
theorem INV_q (h : INV b0 ξ σ t) (hK : KI b0 ξ σ') (hM : MK ξ ζ) (hc : Ch scrZ ξ ζ) (ht : t ≤ t') : INV b0 ζ σ' t' := by
  have hy := hc.mono scrZY
  have cf := Cf_scrY hy
  refine ⟨KI_cg hy hK, MK_self cf hM, h.2.2.1.cf cf, RN_cg hc h.2.2.2.1, ?_⟩
  rw [hc 15 2 (by unfold scrZ; omega)]
  have := h.2.2.2.2
  omega
theorem MK_c (hM : MK ξ ξ) (hc : Ch scrC ξ ζ) : MK ξ ζ := by
  have o : ∀ d k, d ≠ 1 → d ≠ 15 → ζ d k = ξ d k := fun d k q r => hc d k (by unfold scrC; omega)
  have f : ∀ d, d ≠ 1 → d ≠ 15 → ζ d = ξ d := fun d q r => funext fun k => o d k q r
  obtain ⟨⟨h1, h2, h3, h4, h5⟩, h6, h7⟩ := hM
  unfold MK WS MB TZ Bo MM KW at *
  rw [f 35 (by omega) (by omega), f 36 (by omega) (by omega), f 37 (by omega) (by omega), f 38 (by omega) (by omega), f 39 (by omega) (by omega), f 40 (by omega) (by omega), f 23 (by omega) (by omega), f 25 (by omega) (by omega)]
  exact ⟨⟨Cf_scrC hc, h2, h3, h4, h5⟩, h6, h7⟩
/-- a call of both, one after the other -/
def Step (b0 : Int) (σ : Hp) (ξ : Int → Int → Int) (t : Int) (cls mod : Hp → Option (Int × Hp)) (R : Int → Prop) : Prop := ∃ r σ1 ζ1 σ2 ζ2, cls (S b0 σ ξ) = some (r, S b0 σ1 ζ1) ∧ mod (S b0 σ1 ζ1) = some (r, S b0 σ2 ζ2) ∧ INV b0 ζ2 σ2 t ∧ R r
theorem Step_q {cls mod : Hp → Option (Int × Hp)} {A R : Int → Prop} {P : Int → Int → Prop} (h : INV b0 ξ σ t) (ht : t ≤ t') (hP : ∀ d k, P d k → scrZ d k) (hcls : ∀ r, A r → ∃ σ' ζ', cls (S b0 σ ξ) = some (r, S b0 σ' ζ') ∧ KI b0 ξ σ' ∧ Ch scrC ξ ζ') (hmod : ∀ σ ζ, MK ξ ζ → ∃ r ζ', mod (S b0 σ ζ) = some (r, S b0 σ ζ') ∧ A r ∧ MK ξ ζ' ∧ Ch P ζ ζ') (hR : ∀ r, A r → R r) : Step b0 σ ξ t' cls mod R := by
  obtain ⟨r0, _, _, a0, _⟩ := hmod σ ξ h.2.1
  obtain ⟨σ1, ζ1, c1, c2, c3⟩ := hcls r0 a0
  obtain ⟨r1, ζ2, m1, m2, m3, m4⟩ := hmod σ1 ζ1 (MK_c h.2.1 c3)
  obtain ⟨σ1', ζ1', d1, _⟩ := hcls r1 m2
  have e : r0 = r1 := by
    rw [c1] at d1
    exact congrArg Prod.fst (Option.some.inj d1)
  subst e
  exact ⟨r0, σ1, ζ1, σ1, ζ2, c1, m1, INV_q h c2 m3 ((c3.mono (fun d k q => by unfold scrC at q; unfold scrZ; omega)).trans (m4.mono hP)) ht, hR r0 a0⟩
end O3
