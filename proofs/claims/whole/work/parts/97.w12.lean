section W12
variable {b0 : Int} {σ : Hp} {ξ ζ η : Int → Int → Int} {i m s t L n l v fr st N : Int}
/-- a node in the table of a walk by the rule -/
def WTn (ξ : Int → Int → Int) (fr st : Int) (T : Int → Int → Int) (n : Int) : Prop := (T 43 n = 0 ∨ T 43 n = 1) ∧ (T 43 n = 1 ↔ (n = fr ∨ (fr < n ∧ T 43 (ξ 31 n) = 1))) ∧ (n = fr → T 44 n = st ∧ T 45 n = 0 ∧ T 46 n = 0) ∧ (fr < n → T 43 (ξ 31 n) = 1 → T 44 n = flS ξ n (T 44 (ξ 31 n)) (rls ξ (T 44 (ξ 31 n))) ∧ T 45 n = T 45 (ξ 31 n) + ernS ξ (ξ 33 n) (T 44 (ξ 31 n)) (rls ξ (T 44 (ξ 31 n))) ∧ T 46 n = (if T 46 (ξ 31 n) = 1 ∨ bel ξ (T 44 n) = 1 then 1 else 0))
def WT (ξ : Int → Int → Int) (fr st : Int) (T : Int → Int → Int) (N : Int) : Prop := ∀ n, 0 ≤ n → n < N → WTn ξ fr st T n
theorem TB.par (hT : TB ξ) (n0 : 0 ≤ n) (n1 : n < ξ 23 11) : ξ 31 n < n ∧ -1 ≤ ξ 31 n ∧ (1 ≤ n → 0 ≤ ξ 31 n) := by
  by_cases h : n = 0
  · subst h; have := hT.2.2.2.2.1.1; omega
  · have := hT.2.2.2.2.2.1 n (by omega) n1; omega
theorem WT.ext (hT : TB ξ) (hN : N ≤ ξ 23 11) (h : WT ξ fr st ζ N) (e : ∀ d k, 43 ≤ d → d ≤ 46 → k < N → η d k = ζ d k) : WT ξ fr st η N := by
  intro n n0 n1
  have p := hT.par n0 (by omega)
  have q := h n n0 n1
  unfold WTn at q ⊢
  rw [e 43 n (by omega) (by omega) n1, e 44 n (by omega) (by omega) n1, e 45 n (by omega) (by omega) n1, e 46 n (by omega) (by omega) n1, e 43 _ (by omega) (by omega) (by omega : ξ 31 n < N), e 44 _ (by omega) (by omega) (by omega : ξ 31 n < N), e 45 _ (by omega) (by omega) (by omega : ξ 31 n < N), e 46 _ (by omega) (by omega) (by omega : ξ 31 n < N)]
  exact q
theorem WT.bd (hB : LB ξ) (hT : TB ξ) (hN : N ≤ ξ 23 11) (s0 : 0 ≤ st) (s1 : st < ZZ ξ) (f0 : 0 ≤ fr) (h : WT ξ fr st ζ N) : ∀ (k : Nat) (n : Int), n = k → n < N → ζ 43 n = 1 → fr ≤ n ∧ (0 ≤ ζ 44 n ∧ ζ 44 n < ZZ ξ) ∧ (0 ≤ ζ 45 n ∧ ζ 45 n ≤ 8100 * (ξ 33 n - ξ 33 fr)) ∧ (ζ 46 n = 0 ∨ ζ 46 n = 1) := by
  intro k
  induction k using Nat.strongRecOn with
  | ind k ih =>
    intro n hk n1 hb
    obtain ⟨_, q2, q3, q4⟩ := h n (by omega) n1
    have p := hT.par (n := n) (by omega) (by omega)
    by_cases e : n = fr
    · obtain ⟨a, b, c⟩ := q3 e
      subst e
      rw [a, b, c]
      omega
    · have hp : fr < n ∧ ζ 43 (ξ 31 n) = 1 := by
        rcases q2.mp hb with h | h
        · exact absurd h e
        · exact h
      obtain ⟨a, b, c⟩ := q4 hp.1 hp.2
      have h6 := hT.2.2.2.2.2.1 n (by omega) (by omega)
      have r := ih (ξ 31 n).toNat (by omega) (ξ 31 n) (by omega) (by omega) hp.2
      have n81 := hT.2.2.1
      have w10 := hT.1
      have wp := hT.week (n := ξ 31 n) (by omega) (by omega)
      have fb := flS_bd (c := n) hB hT (by omega) (by omega) (bx_rls (s := ζ 44 (ξ 31 n)) hB)
      have eb := ernS_bd (w := ξ 33 n) hB hT (by omega) (by omega) (bx_rls (s := ζ 44 (ξ 31 n)) hB)
      rw [a, b, c]
      refine ⟨by omega, fb, by omega, ?_⟩
      split
      · exact Or.inr rfl
      · exact Or.inl rfl
theorem walk_lack_st {k2 : Int → Hp → Option (Int × Hp)} {f : Nat} {j u w : Int} (hB : LB ζ) (hm : MB ζ) (n0 : 0 ≤ n) (n1 : n < 81) (hv : ζ 46 n = 0 ∨ ζ 46 n = 1) (j0 : 0 ≤ j) (j1 : j < ζ 23 1) : F_X8_walk_L174 k2 (b0 + 23) u w n (f + 1) j (S b0 σ ζ) = F_X8_walk_L174 k2 (b0 + 23) u w n f (j + 1) (S b0 σ (xu ζ 46 n (if ζ 46 n = 1 ∨ ζ 35 j < ζ 24 j then 1 else 0))) := by
  have nl := hB.1
  have a := (hB.2.1 j j0 (by omega)).1
  have b := hm.le hB j0 (by omega)
  rw [F_X8_walk_L174]
  refine ev rS_23_1 ?_
  refine ev_bLt (by omega) (by omega) (by omega) (by omega) (fun hc => ?_) (fun hc => absurd j1 hc)
  refine ev rS_23_29 ?_
  refine ev rS_23_29 ?_
  refine ev (aS_46 (by omega) (by omega)) ?_
  refine ev_bEq (by omega) (by omega) (by omega) (by omega) (fun h0 => ?_) (fun h0 => ?_)
  · refine ev rS_23_16 ?_
    refine ev (aS_35 (by omega) (by omega)) ?_
    refine ev rS_23_2 ?_
    refine ev (aS_24 (by omega) (by omega)) ?_
    refine ev_bLt (by omega) (by omega) (by omega) (by omega) (fun hc => ?_) (fun hc => ?_)
    · rw [if_pos (Or.inr hc)]
      exact ev (wS_46 (by omega) (by omega) (by omega)) rfl
    · rw [if_neg (by omega)]
      exact ev (wS_46 (by omega) (by omega) (by omega)) rfl
  · rw [if_pos (by omega)]
    exact ev (wS_46 (by omega) (by omega) (by omega)) rfl
theorem walk_lack_en {k2 : Int → Hp → Option (Int × Hp)} {f : Nat} {j u w : Int} (hB : LB ζ) (j1 : j = ζ 23 1) : F_X8_walk_L174 k2 (b0 + 23) u w n (f + 1) j (S b0 σ ζ) = k2 (n + 1) (S b0 σ ζ) := by
  have nl := hB.1
  rw [F_X8_walk_L174]
  refine ev rS_23_1 ?_
  exact ev_bLt (by omega) (by omega) (by omega) (by omega) (fun hc => absurd hc (by omega)) (fun hc => rfl)
theorem walk_lack {k2 : Int → Hp → Option (Int × Hp)} {u w : Int} (hB : LB ξ) (h : Cf ξ ζ) (hm : ∀ l, 0 ≤ l → l < 3 → ζ 35 l = ms ξ s l) (n0 : 0 ≤ n) (n1 : n < 81) (hv : ζ 46 n = 0 ∨ ζ 46 n = 1) : F_X8_walk_L174 k2 (b0 + 23) u w n fu 0 (S b0 σ ζ) = k2 (n + 1) (S b0 σ (xu ζ 46 n (if ζ 46 n = 1 ∨ bel ξ s = 1 then 1 else 0))) := by
  have nl := hB.1
  obtain ⟨k, hk⟩ := fu4
  rw [hk]
  have hB' := hB.cf h
  have e1 : ζ 23 1 = ξ 23 1 := h.2 1 (by omega)
  have e24 : ζ 24 = ξ 24 := h.1 24 (by omega)
  have hm' : MB ζ := fun l a b => by
    rw [hm l a b, h.1 25 (by omega), e1]
    exact ⟨ms_bd hB a b, fun hz => ms_no hB a b hz⟩
  have B : ∀ {v : Int} {ξ : Int → Int → Int}, LB ξ → LB (xu ξ 46 n v) := fun h => h.congr (cfgL.xu (by omega))
  have M : ∀ {v : Int} {ξ : Int → Int → Int}, MB ξ → MB (xu ξ 46 n v) := fun h l a b => by rw [xu_nd (by omega), xu_nd (by omega), xu_nd (by omega)]; exact h l a b
  have X : ∀ {v d k : Int} {ξ : Int → Int → Int}, d ≠ 46 → xu ξ 46 n v d k = ξ d k := fun h => xu_nd h
  have i2 : ∀ p : Prop, ∀ _ : Decidable p, (if p then (1 : Int) else 0) = 0 ∨ (if p then (1 : Int) else 0) = 1 := fun p _ => by split <;> omega
  have hl : ∀ i, 0 ≤ i → i < 3 → ξ 23 1 ≤ i → ms ξ s i = 0 ∧ ξ 24 i = 0 := fun i a b c => ⟨ms_no hB a b c, ((hB.2.1 i a b).2 c).1⟩
  have hl0 := hl 0 (by omega) (by omega)
  have hl1 := hl 1 (by omega) (by omega)
  have hl2 := hl 2 (by omega) (by omega)
  have m0 := hm 0 (by omega) (by omega)
  have m1 := hm 1 (by omega) (by omega)
  have m2 := hm 2 (by omega) (by omega)
  have fin : ∀ p : Prop, ∀ _ : Decidable p, (p ↔ (ζ 46 n = 1 ∨ bel ξ s = 1)) → (if p then (1 : Int) else 0) = (if ζ 46 n = 1 ∨ bel ξ s = 1 then 1 else 0) := fun p _ h => by simp only [h]
  have hbel : bel ξ s = 1 ↔ (ms ξ s 0 < ξ 24 0 ∨ ms ξ s 1 < ξ 24 1 ∨ ms ξ s 2 < ξ 24 2) := by
    unfold bel
    split
    · rename_i h; exact ⟨fun _ => h, fun _ => rfl⟩
    · rename_i h; exact ⟨fun q => absurd q (by omega), fun q => absurd q h⟩
  have o1 : ∀ p : Prop, ∀ _ : Decidable p, ((if p then (1 : Int) else 0) = 1 ↔ p) := fun p _ => by split <;> simp [*]
  rcases (show ξ 23 1 = 0 ∨ ξ 23 1 = 1 ∨ ξ 23 1 = 2 ∨ ξ 23 1 = 3 by omega) with h | h | h | h
  · rw [walk_lack_en hB' (by omega)]
    have := hl0 (by omega)
    have := hl1 (by omega)
    have := hl2 (by omega)
    have e : (if ζ 46 n = 1 ∨ bel ξ s = 1 then 1 else 0) = ζ 46 n := by
      have hb0 : ¬ bel ξ s = 1 := fun q => by have := hbel.mp q; omega
      split <;> omega
    rw [e, xu_self]
  · rw [walk_lack_st hB' hm' n0 n1 hv (by omega) (by omega), walk_lack_en (B hB') (by rw [X (by omega)]; omega)]
    have := hl1 (by omega)
    have := hl2 (by omega)
    rw [fin _ _ (by rw [hbel, m0, e24]; omega)]
  · rw [walk_lack_st hB' hm' n0 n1 hv (by omega) (by omega), walk_lack_st (B hB') (M hm') n0 n1 (by rw [xu_s]; exact i2 _ _) (by omega) (by rw [X (by omega)]; omega), walk_lack_en (B (B hB')) (by rw [X (by omega), X (by omega)]; omega), xu_xu, xu_s, X (by omega), X (by omega)]
    have := hl2 (by omega)
    rw [fin _ _ (by rw [o1, hbel, Int.zero_add, m0, m1, e24]; omega)]
  · rw [walk_lack_st hB' hm' n0 n1 hv (by omega) (by omega), walk_lack_st (B hB') (M hm') n0 n1 (by rw [xu_s]; exact i2 _ _) (by omega) (by rw [X (by omega)]; omega), walk_lack_st (B (B hB')) (M (M hm')) n0 n1 (by rw [xu_s]; exact i2 _ _) (by omega) (by rw [X (by omega), X (by omega)]; omega), walk_lack_en (B (B (B hB'))) (by rw [X (by omega), X (by omega), X (by omega)]; omega), xu_xu, xu_xu, xu_s, xu_s]
    simp only [X (show (35 : Int) ≠ 46 by omega), X (show (24 : Int) ≠ 46 by omega)]
    rw [fin _ _ (by rw [o1, o1, hbel, Int.zero_add, show (1 : Int) + 1 = 2 from rfl, m0, m1, m2, e24]; omega)]
def scrK (n d k : Int) : Prop := scr d k ∨ ((43 ≤ d ∧ d ≤ 46) ∧ k = n)
theorem scrKM : ∀ d k, scrK n d k → scrM d k := fun d k q => by unfold scrK scr at q; unfold scrM scr; omega
theorem MB_cfm (hB : LB ξ) (h : Cf ξ ζ) (hm : ∀ l, 0 ≤ l → l < 3 → ζ 35 l = ms ξ s l) : MB ζ := fun l a b => by
  rw [hm l a b, h.1 25 (by omega), h.2 1 (by omega)]
  exact ⟨ms_bd hB a b, fun hz => ms_no hB a b hz⟩
theorem walk_step {f : Nat} (hB : LB ξ) (hT : TB ξ) (s0 : 0 ≤ st) (s1 : st < ZZ ξ) (f0 : 0 ≤ fr) (f1 : fr < ξ 23 11) (n0 : 0 ≤ n) (n1 : n < ξ 23 11) (h : Cf ξ ζ) (hM : MB ζ) (hZ : TZ ζ) (hw : WT ξ fr st ζ n) : ∃ ζ', F_X8_walk_L2 (b0 + 23) fr st (f + 1) n (S b0 σ ζ) = F_X8_walk_L2 (b0 + 23) fr st f (n + 1) (S b0 σ ζ') ∧ Ch (scrK n) ζ ζ' ∧ MB ζ' ∧ TZ ζ' ∧ WT ξ fr st ζ' (n + 1) := by
  have n81 := hT.2.2.1
  have w10 := hT.1
  have hz := ZZ_le hB
  have p := hT.par n0 n1
  have e11 : ζ 23 11 = ξ 23 11 := h.2 11 (by omega)
  have e31 : ζ 31 = ξ 31 := h.1 31 (by omega)
  have fin : ∀ ζ', Ch (scrK n) ζ ζ' → WTn ξ fr st ζ' n → WT ξ fr st ζ' (n + 1) := by
    intro ζ' hc hn k k0 k1
    by_cases e : k = n
    · subst e; exact hn
    · exact hw.ext hT (by omega) (fun d k' a b c => hc d k' (by unfold scrK scr; omega)) k k0 (by omega)
  have pm : ∀ {d k v : Int} {θ : Int → Int → Int}, 43 ≤ d → MB θ → MB (xu θ d k v) := fun hd q l a b => by rw [xu_nd (by omega), xu_nd (by omega), xu_nd (by omega)]; exact q l a b
  have pz' : ∀ {d k v : Int} {θ : Int → Int → Int}, 43 ≤ d → TZ θ → TZ (xu θ d k v) := fun hd q l a b hz => by rw [xu_nd (by omega)] at hz ⊢; exact q l a b hz
  have top : ∀ z, (n = fr → F_X8_walk_B39 (F_X8_walk_L2 (b0 + 23) fr st f) (b0 + 23) fr st n n (b0 + 43) (S b0 σ ζ) = z) → (n < fr ∨ (fr < n ∧ ζ 43 (ξ 31 n) = 0) → F_X8_walk_B43 (F_X8_walk_L2 (b0 + 23) fr st f) (b0 + 23) fr st n n (b0 + 43) (S b0 σ ζ) = z) → (fr < n ∧ ζ 43 (ξ 31 n) = 1 → F_X8_walk_B39 (F_X8_walk_L2 (b0 + 23) fr st f) (b0 + 23) fr st n n (b0 + 43) (S b0 σ ζ) = z) → F_X8_walk_L2 (b0 + 23) fr st (f + 1) n (S b0 σ ζ) = z := by
    intro z z1 z2 z3
    rw [F_X8_walk_L2]
    refine ev rS_23_11 ?_
    rw [e11]
    refine ev_bLt (by omega) (by omega) (by omega) (by omega) (fun hc => ?_) (fun hc => absurd n1 hc)
    refine ev rS_23_26 ?_
    refine ev_bEq (by omega) (by omega) (by omega) (by omega) (fun hc => z1 hc) (fun hc => ?_)
    refine ev_bLe (by omega) (by omega) (by omega) (by omega) (fun hc' => z2 (Or.inl (by omega))) (fun hc' => ?_)
    have q := (hw (ξ 31 n) (by omega) (by omega)).1
    refine ev rS_23_26 ?_
    refine ev rS_23_12 ?_
    refine ev (aS_31 (by omega) (by omega)) ?_
    rw [e31]
    refine ev (aS_43 (by omega) (by omega)) ?_
    exact ev_bEq (by omega) (by omega) (by omega) (by omega) (fun hc'' => z2 (Or.inr ⟨by omega, hc''⟩)) (fun hc'' => z3 ⟨by omega, by omega⟩)
  by_cases e : n = fr
  · -- the beginning
    let ζ' := xu (xu (xu (xu ζ 43 n 1) 44 n st) 45 n 0) 46 n 0
    have hc : Ch (scrK n) ζ ζ' := Ch_xu (Or.inr ⟨by omega, rfl⟩) (Ch_xu (Or.inr ⟨by omega, rfl⟩) (Ch_xu (Or.inr ⟨by omega, rfl⟩) (Ch_xu (Or.inr ⟨by omega, rfl⟩) Ch.rf)))
    have g43 : ζ' 43 n = 1 := by show xu _ _ _ _ _ _ = _; rw [xu_nd (by omega), xu_nd (by omega), xu_nd (by omega), xu_s]
    have g44 : ζ' 44 n = st := by show xu _ _ _ _ _ _ = _; rw [xu_nd (by omega), xu_nd (by omega), xu_s]
    have g45 : ζ' 45 n = 0 := by show xu _ _ _ _ _ _ = _; rw [xu_nd (by omega), xu_s]
    have g46 : ζ' 46 n = 0 := xu_s
    refine ⟨ζ', top _ (fun _ => ?_) (fun q => by omega) (fun q => by omega), hc, pm (by omega) (pm (by omega) (pm (by omega) (pm (by omega) hM))), pz' (by omega) (pz' (by omega) (pz' (by omega) (pz' (by omega) hZ))), fin ζ' hc ⟨Or.inr g43, ⟨fun _ => Or.inl e, fun _ => g43⟩, fun _ => ⟨g44, g45, g46⟩, fun q => by omega⟩⟩
    show F_X8_walk_B44 _ _ _ _ _ _ _ _ _ = _
    rw [F_X8_walk_B44]
    refine ev (wS_43 (by omega) (by omega) (by omega)) ?_
    refine ev rS_23_26 ?_
    refine ev (aS_43 (by omega) (by omega)) ?_
    rw [xu_s]
    refine ev_bEq (by omega) (by omega) (by omega) (by omega) (fun hc => absurd hc (by omega)) (fun _ => ?_)
    refine ev_bEq (by omega) (by omega) (by omega) (by omega) (fun _ => ?_) (fun hc => absurd e hc)
    refine ev rS_23_27 ?_
    refine ev (wS_44 (by omega) (by omega)) ?_
    refine ev rS_23_28 ?_
    refine ev (wS_45 (by omega) (by omega)) ?_
    refine ev rS_23_29 ?_
    exact ev (wS_46 (by omega) (by omega) (by omega)) rfl
  · by_cases e2 : n < fr ∨ (fr < n ∧ ζ 43 (ξ 31 n) = 0)
    · have hc : Ch (scrK n) ζ (xu ζ 43 n 0) := Ch_xu (Or.inr ⟨by omega, rfl⟩) Ch.rf
      have gp : xu ζ 43 n 0 43 (ξ 31 n) = ζ 43 (ξ 31 n) := xu_ni (by omega)
      refine ⟨xu ζ 43 n 0, top _ (fun q => absurd q e) (fun _ => ?_) (fun q => by omega), hc, pm (by omega) hM, pz' (by omega) hZ, fin _ hc ⟨Or.inl xu_s, ?_, fun q => absurd q e, fun q1 q2 => ?_⟩⟩
      · show F_X8_walk_B44 _ _ _ _ _ _ _ _ _ = _
        rw [F_X8_walk_B44]
        refine ev (wS_43 (by omega) (by omega) (by omega)) ?_
        refine ev rS_23_26 ?_
        refine ev (aS_43 (by omega) (by omega)) ?_
        rw [xu_s]
        exact ev_bEq (by omega) (by omega) (by omega) (by omega) (fun hc => rfl) (fun hc => absurd rfl hc)
      · rw [gp, xu_s]
        omega
      · rw [gp] at q2
        omega
    · have hp : fr < n ∧ ζ 43 (ξ 31 n) = 1 := by
        have q := (hw (ξ 31 n) (by omega) (by omega)).1
        omega
      obtain ⟨c0, ⟨c1, c2⟩, ⟨c3, c4⟩, c5⟩ := hw.bd hB hT (by omega) s0 s1 f0 (ξ 31 n).toNat (ξ 31 n) (by omega) (by omega) hp.2
      have h6 := hT.2.2.2.2.2.1 n (by omega) (by omega)
      have wp := hT.week (n := ξ 31 n) (by omega) (by omega)
      generalize hsp : ζ 44 (ξ 31 n) = sp at *
      have hbx := bx_rls (s := sp) hB
      have fb := flS_bd (c := n) hB hT (by omega) (by omega) hbx
      let ζ1 := xu ζ 43 n 1
      have h1 : Cf ξ ζ1 := h.trans (Cf.xu (by omega))
      have hM1 : MB ζ1 := pm (by omega) hM
      have hZ1 : TZ ζ1 := pz' (by omega) hZ
      obtain ⟨r1, hA⟩ := At_unf_ruled (b0 := b0) (σ := σ) (s := sp) hB h1 hM1 hZ1
      let ζ2 := setL (unf ζ1 sp) (rls ξ sp)
      have o2 : ∀ d k, d ≠ 35 → d ≠ 36 → ζ2 d k = ζ1 d k := fun d k a b => (lts_d b).trans (unf_d a)
      let ζ3 := xu ζ2 45 n (ζ 45 (ξ 31 n) + ernS ξ (ξ 33 n) sp (rls ξ sp))
      have hA3 : At ξ ζ3 sp (rls ξ sp) := At_xu hA (by omega)
      let ζ4 := xu (xu ζ3 23 18 (spS ξ n sp (rls ξ sp))) 44 n (flS ξ n sp (rls ξ sp))
      have hA4 : At ξ ζ4 sp (rls ξ sp) := At_xu (At_xu hA3 (by omega)) (by omega)
      have hM4 : MB ζ4 := At_MB hB hA4
      have hZ4 : TZ ζ4 := TZ_At hB hA4 hbx
      let ζ5 := unf ζ4 (flS ξ n sp (rls ξ sp))
      have h5 : Cf ξ ζ5 := hA4.1.trans Cf.unf
      have m5 : ∀ l, 0 ≤ l → l < 3 → ζ5 35 l = ms ξ (flS ξ n sp (rls ξ sp)) l := fun l a b => by
        show unf ζ4 _ 35 l = _
        rw [unf_m (hB.cf hA4.1) hM4 a b, ms_cf hA4.1]
      have z5 : TZ ζ5 := fun l a b hz => by
        have e : ∀ d k, d ≠ 35 → ζ5 d k = ζ4 d k := fun d k h => unf_d h
        rw [e _ _ (by omega)] at hz ⊢
        exact hZ4 l a b hz
      let ζ6 := xu ζ5 46 n (ζ 46 (ξ 31 n))
      have h6' : Cf ξ ζ6 := h5.trans (Cf.xu (by omega))
      have m6 : ∀ l, 0 ≤ l → l < 3 → ζ6 35 l = ms ξ (flS ξ n sp (rls ξ sp)) l := fun l a b => (xu_nd (by omega)).trans (m5 l a b)
      let ζ7 := xu ζ6 46 n (if ζ6 46 n = 1 ∨ bel ξ (flS ξ n sp (rls ξ sp)) = 1 then 1 else 0)
      have o5 : ∀ d k, d ≠ 35 → ζ5 d k = ζ4 d k := fun d k h => unf_d h
      have hc : Ch (scrK n) ζ ζ7 := Ch_xu (Or.inr ⟨by omega, rfl⟩) (Ch_xu (Or.inr ⟨by omega, rfl⟩) (Ch_unf (fun _ => Or.inl (Or.inr (Or.inl rfl))) (Ch_xu (Or.inr ⟨by omega, rfl⟩) (Ch_xu (Or.inl (Or.inl ⟨rfl, rfl⟩)) (Ch_xu (Or.inr ⟨by omega, rfl⟩) (Ch_lts (fun _ => Or.inl (Or.inr (Or.inr rfl))) (Ch_unf (fun _ => Or.inl (Or.inr (Or.inl rfl))) (Ch_xu (Or.inr ⟨by omega, rfl⟩) Ch.rf))))))))
      have pp : ∀ d, 43 ≤ d → d ≤ 46 → ζ7 d (ξ 31 n) = ζ d (ξ 31 n) := fun d a b => hc d _ (by unfold scrK scr; omega)
      have g6 : ζ6 46 n = ζ 46 (ξ 31 n) := xu_s
      have g7 : ζ7 46 n = (if ζ6 46 n = 1 ∨ bel ξ (flS ξ n sp (rls ξ sp)) = 1 then 1 else 0) := xu_s
      have g44 : ζ7 44 n = flS ξ n sp (rls ξ sp) := by
        show xu (xu ζ5 46 n _) 46 n _ 44 n = _
        rw [xu_nd (by omega), xu_nd (by omega), o5 _ _ (by omega)]
        exact xu_s
      have g45 : ζ7 45 n = ζ 45 (ξ 31 n) + ernS ξ (ξ 33 n) sp (rls ξ sp) := by
        show xu (xu ζ5 46 n _) 46 n _ 45 n = _
        rw [xu_nd (by omega), xu_nd (by omega), o5 _ _ (by omega)]
        show xu (xu ζ3 23 18 _) 44 n _ 45 n = _
        rw [xu_nd (by omega), xu_nd (by omega)]
        exact xu_s
      have g43 : ζ7 43 n = 1 := by
        show xu (xu ζ5 46 n _) 46 n _ 43 n = _
        rw [xu_nd (by omega), xu_nd (by omega), o5 _ _ (by omega)]
        show xu (xu ζ3 23 18 _) 44 n _ 43 n = _
        rw [xu_nd (by omega), xu_nd (by omega)]
        show xu ζ2 45 n _ 43 n = _
        rw [xu_nd (by omega), o2 _ _ (by omega) (by omega)]
        exact xu_s
      refine ⟨ζ7, top _ (fun q => absurd q e) (fun q => absurd q e2) (fun _ => ?_), hc, pm (by omega) (MB_cfm hB h6' m6), pz' (by omega) (pz' (by omega) z5), fin _ hc ⟨Or.inr g43, ⟨fun _ => Or.inr ⟨hp.1, by rw [pp _ (by omega) (by omega)]; exact hp.2⟩, fun _ => g43⟩, fun q => absurd q e, fun _ _ => ?_⟩⟩
      · show F_X8_walk_B44 _ _ _ _ _ _ _ _ _ = _
        rw [F_X8_walk_B44]
        refine ev (wS_43 (by omega) (by omega) (by omega)) ?_
        refine ev rS_23_26 ?_
        refine ev (aS_43 (by omega) (by omega)) ?_
        rw [xu_s]
        refine ev_bEq (by omega) (by omega) (by omega) (by omega) (fun hc => absurd hc (by omega)) (fun _ => ?_)
        refine ev_bEq (by omega) (by omega) (by omega) (by omega) (fun hc => absurd hc e) (fun _ => ?_)
        refine ev rS_23_27 ?_
        refine ev rS_23_12 ?_
        refine ev (aS_31 (by omega) (by omega)) ?_
        rw [xu_nd (by omega), e31]
        refine ev (aS_44 (by omega) (by omega)) ?_
        rw [xu_nd (by omega), hsp]
        refine evd (iS_23.trans (X8_unfold (hB.cf h1) c1 (by omega))) ?_
        refine evd (iS_23.trans r1) ?_
        refine ev rS_23_28 ?_
        refine ev rS_23_28 ?_
        refine ev rS_23_12 ?_
        refine ev (aS_31 (by omega) (by omega)) ?_
        rw [hA.1.1 31 (by omega)]
        refine ev (aS_45 (by omega) (by omega)) ?_
        rw [show setL (unf (xu ζ 43 n 1) sp) (rls ξ sp) 45 (ξ 31 n) = ζ 45 (ξ 31 n) from (o2 45 _ (by omega) (by omega)).trans (xu_nd (by omega))]
        refine ev rS_23_14 ?_
        refine ev (aS_33 (by omega) (by omega)) ?_
        rw [hA.1.1 33 (by omega)]
        refine evd (iS_23.trans (At_earns hB hA hbx (by omega) (by omega))) ?_
        refine ev (wS_45 (by omega) (by omega)) ?_
        refine ev rS_23_27 ?_
        refine evd (iS_23.trans (At_comes hB hT hA3 hbx (by omega) (by omega))) ?_
        refine ev (wS_44 (by omega) (by omega)) ?_
        refine ev rS_23_27 ?_
        refine ev (aS_44 (by omega) (by omega)) ?_
        rw [xu_s]
        refine evd (iS_23.trans (X8_unfold (hB.cf hA4.1) fb.1 (by omega))) ?_
        refine ev rS_23_29 ?_
        refine ev rS_23_29 ?_
        refine ev rS_23_12 ?_
        refine ev (aS_31 (by omega) (by omega)) ?_
        rw [show unf (xu (xu ζ3 23 18 (spS ξ n sp (rls ξ sp))) 44 n (flS ξ n sp (rls ξ sp))) (flS ξ n sp (rls ξ sp)) 31 = ξ 31 from h5.1 31 (by omega)]
        refine ev (aS_46 (by omega) (by omega)) ?_
        rw [show unf (xu (xu ζ3 23 18 (spS ξ n sp (rls ξ sp))) 44 n (flS ξ n sp (rls ξ sp))) (flS ξ n sp (rls ξ sp)) 46 (ξ 31 n) = ζ 46 (ξ 31 n) by
          rw [unf_d (by omega), xu_nd (by omega), xu_nd (by omega)]
          show xu ζ2 45 n _ 46 _ = _
          rw [xu_nd (by omega), o2 _ _ (by omega) (by omega)]
          exact xu_nd (by omega)]
        refine ev (wS_46 (by omega) (by omega) c5) ?_
        exact walk_lack (b0 := b0) (σ := σ) (ζ := ζ6) hB h6' m6 n0 (by omega) (by rw [g6]; exact c5)
      · rw [pp _ (by omega) (by omega), pp _ (by omega) (by omega), pp _ (by omega) (by omega), g44, g45, g7, g6, hsp]
        exact ⟨rfl, rfl, rfl⟩
end W12
