section N6
variable {b0 : Int} {σ τ σ' : Hp} {ξ ζ η : Int → Int → Int} {a b c i k l m n v j w s L p q : Int}
theorem nw_S {sz : Nat} {f : Int → Int} (h : b0 + 55 ≤ (σ.1 : Int)) : nw (S b0 σ ζ) c l sz f = S b0 (nw σ c l sz f) ζ := by
  unfold nw S
  refine Prod.ext rfl (Prod.ext rfl (funext fun b => ?_))
  dsimp only
  by_cases e : b = (σ.1 : Int)
  · rw [if_pos e, if_neg (by omega), if_pos e]
  · rw [if_neg e]
    by_cases q : ((0 ≤ b - b0 ∧ b - b0 < 12) ∨ (15 ≤ b - b0 ∧ b - b0 < 55))
    · rw [if_pos q, if_pos q]
    · rw [if_neg q, if_neg q, if_neg e]
theorem kd_nw {sz : Nat} {f : Int → Int} : kd (nw σ c l sz f) a = if a = (σ.1 : Int) then c else kd σ a := by
  unfold kd nw
  dsimp only
  split <;> rfl
theorem ln_nw {sz : Nat} {f : Int → Int} : ln (nw σ c l sz f) a = if a = (σ.1 : Int) then l else ln σ a := by
  unfold ln nw
  dsimp only
  split <;> rfl
theorem gf_nw {sz : Nat} {f : Int → Int} : gf (nw σ c l sz f) a k = if a = (σ.1 : Int) then f k else gf σ a k := by
  unfold gf nw
  dsimp only
  split <;> rfl
theorem nw_1 {sz : Nat} {f : Int → Int} : (nw σ c l sz f).1 = σ.1 + 1 := rfl
theorem nw_2 {sz : Nat} {f : Int → Int} : (nw σ c l sz f).2.1 = σ.2.1 + sz := rfl
theorem ob_nw {sz : Nat} {f : Int → Int} {c' l' : Int} (h : ob b0 σ a c l) : ob b0 (nw σ c' l' sz f) a c l := by
  obtain ⟨h1, h2, h3, h4⟩ := h
  refine ⟨?_, ?_, h3, ?_⟩
  · rw [kd_nw, if_neg (by omega)]; exact h1
  · rw [ln_nw, if_neg (by omega)]; exact h2
  · rw [nw_1]; omega
theorem ob_new {sz : Nat} {f : Int → Int} (h : b0 + 55 ≤ (σ.1 : Int)) : ob b0 (nw σ c l sz f) (σ.1 : Int) c l := by
  refine ⟨?_, ?_, ?_, ?_⟩
  · rw [kd_nw, if_pos rfl]
  · rw [ln_nw, if_pos rfl]
  · unfold inS; omega
  · rw [nw_1]; omega
/-- a row filled -/
theorem fill_row {V : Int} (h : ob b0 σ p 12 l) (l0 : 0 ≤ l) (l1 : l ≤ 1000) : ∃ σ', F_J7_fill_d0a16 p V (S b0 σ ζ) = some (0, S b0 σ' ζ) ∧ σ'.1 = σ.1 ∧ σ'.2.1 = σ.2.1 ∧ (∀ a, kd σ' a = kd σ a ∧ ln σ' a = ln σ a) ∧ ∀ a k, gf σ' a k = if a = p ∧ 0 ≤ k ∧ k < l then V else gf σ a k := by
  have key : ∀ (m f : Nat) (j : Int) (σ : Hp), ob b0 σ p 12 l → m < f → 0 ≤ j → j + m = l → ∃ σ', F_J7_fill_d0a16_L6 p V l f j (S b0 σ ζ) = some (0, S b0 σ' ζ) ∧ σ'.1 = σ.1 ∧ σ'.2.1 = σ.2.1 ∧ (∀ a, kd σ' a = kd σ a ∧ ln σ' a = ln σ a) ∧ ∀ a k, gf σ' a k = if a = p ∧ j ≤ k ∧ k < l then V else gf σ a k := by
    intro m
    induction m with
    | zero =>
      intro f j σ h hf j0 he
      obtain ⟨f, rfl⟩ : ∃ g, f = g + 1 := ⟨f - 1, by omega⟩
      refine ⟨σ, ?_, rfl, rfl, fun a => ⟨rfl, rfl⟩, fun a k => by rw [if_neg (by omega)]⟩
      rw [F_J7_fill_d0a16_L6]
      exact ev_bLt (by omega) (by omega) (by omega) (by omega) (fun q => by omega) (fun q => rfl)
    | succ m ih =>
      intro f j σ h hf j0 he
      obtain ⟨f, rfl⟩ : ∃ g, f = g + 1 := ⟨f - 1, by omega⟩
      obtain ⟨σ', r1, r2, r3, r4, r5⟩ := ih f (j + 1) (wr σ p j V) (ob_wr h) (by omega) (by omega) (by omega)
      refine ⟨σ', ?_, r2, r3, fun a => ⟨(r4 a).1.trans kd_wr, (r4 a).2.trans ln_wr⟩, fun a k => ?_⟩
      · rw [F_J7_fill_d0a16_L6]
        refine ev_bLt (by omega) (by omega) (by omega) (by omega) (fun q => ?_) (fun q => by omega)
        exact ev (aw_o h j0 (by omega) (by omega)) r1
      · rw [r5 a k, gf_wr]
        by_cases e : a = p ∧ k = j
        · rw [if_pos (show a = p ∧ j ≤ k ∧ k < l by omega)]
          by_cases e2 : a = p ∧ j + 1 ≤ k ∧ k < l
          · rw [if_pos e2]
          · rw [if_neg e2, if_pos e]
        · by_cases e2 : a = p ∧ j + 1 ≤ k ∧ k < l
          · rw [if_pos e2, if_pos (by omega)]
          · rw [if_neg e2, if_neg e, if_neg (by omega)]
  obtain ⟨σ', r1, r2⟩ := key l.toNat fu 0 σ h (fuN (by omega)) (by omega) (by omega)
  refine ⟨σ', ?_, r2⟩
  rw [F_J7_fill_d0a16]
  exact ev (al_o h l0) r1
/-- the rows of nodes ahead stay where they are -/
def Fp (n : Int) (ξ : Int → Int → Int) (σ σ' : Hp) : Prop := ∀ m k, lv ξ m → m < n → 8 ≤ k → k ≤ 10 → gf σ' (ξ 10 m) k = gf σ (ξ 10 m) k
theorem Fp.rf : Fp n ξ σ σ := fun _ _ _ _ _ _ => rfl
theorem Fp.trans {τ : Hp} (h : Fp n ξ σ σ') (h2 : Fp n ξ σ' τ) : Fp n ξ σ τ := fun m k a b c d => (h2 m k a b c d).trans (h m k a b c d)
theorem Fp.mono {m : Int} (h : Fp n ξ σ σ') (hm : m ≤ n) : Fp m ξ σ σ' := fun k j a b c d => h k j a (by omega) c d
theorem sf_upd {f g : Int → Int} {p : Int} : ∀ (n : Nat) (a : Int), a ≤ p → p < a + n → (∀ i, i ≠ p → g i = f i) → g p = f p + 1 → sf g a n = sf f a n + 1 := by
  intro n
  induction n with
  | zero => intro a h1 h2; omega
  | succ n ih =>
    intro a h1 h2 h3 h4
    rw [sf, sf]
    by_cases e : a = p
    · subst e
      rw [h4, sf_congr (f := g) (g := f) n (a + 1) (fun i x y => h3 i (by omega))]
      omega
    · rw [h3 a e, ih (a + 1) (by omega) (by omega) h3 h4]
      omega
/-- what a refreshed node leaves of what stood -/
theorem KI_refresh (h : KI b0 ξ σ) (hl : 0 < ξ 23 1) (n0 : 0 ≤ n) (n1 : n < ξ 23 11) (s1 : ∀ a, a < (σ.1 : Int) → kd σ' a = kd σ a ∧ ln σ' a = ln σ a) (hp : 0 ≤ p ∧ ob b0 σ' p 12 (ZZ ξ)) (hq : 0 ≤ q ∧ ob b0 σ' q 12 (ZZ ξ)) (hpq : p ≠ q) (g8 : gf σ' (ξ 10 n) 8 = p) (g9 : gf σ' (ξ 10 n) 9 = q) (g10 : gf σ' (ξ 10 n) 10 = ξ 15 2) (ho : ∀ a k, a < (σ.1 : Int) → (a = ξ 10 n → k < 8 ∨ 10 < k) → a ≠ p → a ≠ q → gf σ' a k = gf σ a k) (hv : ∀ s, 0 ≤ s → s < ZZ ξ → gf σ' p s = -1 ∧ gf σ' q s = -1) (hR : (p = gf σ (ξ 10 n) 8 ∧ q = gf σ (ξ 10 n) 9 ∧ σ'.1 = σ.1 ∧ σ'.2.1 = σ.2.1) ∨ ((σ.1 : Int) ≤ p ∧ (σ.1 : Int) ≤ q ∧ σ'.1 = σ.1 + 2 ∧ σ'.2.1 = σ.2.1 + (ZZ ξ).toNat + (ZZ ξ).toNat ∧ ¬ (0 ≤ gf σ (ξ 10 n) 8 ∧ ln σ (gf σ (ξ 10 n) 8) = ZZ ξ))) : KI b0 ξ σ' ∧ Fp n ξ σ σ' := by
  obtain ⟨hK, hC, hM⟩ := h
  obtain ⟨hB, hT, hV, hE, ⟨N1, N2, N3, N4, N5⟩, L1, L2, L3⟩ := id hK
  have hz := ZZ_le hB
  have n81 := hT.2.2.1
  have ln' := hK.lv n0 n1
  have le : σ.1 ≤ σ'.1 := by omega
  -- other objects
  have lt : ∀ a c l, ob b0 σ a c l → a < (σ.1 : Int) := fun a c l x => x.2.2.2
  have obk : ∀ a c l, ob b0 σ a c l → ob b0 σ' a c l := by
    intro a c l x
    have e := s1 a x.2.2.2
    exact ⟨e.1.trans x.1, e.2.trans x.2.1, x.2.2.1, by have := x.2.2.2; omega⟩
  have kpq : ∀ a c l, ob b0 σ a c l → c ≠ 12 → a ≠ p ∧ a ≠ q := by
    intro a c l x hc
    have e := obk a c l x
    refine ⟨fun y => ?_, fun y => ?_⟩
    · rw [y] at e; exact hc (e.1.symm.trans hp.2.1)
    · rw [y] at e; exact hc (e.1.symm.trans hq.2.1)
  have gn : ∀ m k, lv ξ m → (k < 8 ∨ 10 < k) → gf σ' (ξ 10 m) k = gf σ (ξ 10 m) k := by
    intro m k hm hk
    have o := (N1 m hm).1
    have e := kpq _ _ _ o (by omega)
    exact ho _ _ o.2.2.2 (fun _ => hk) e.1 e.2
  have gne : ∀ m k, lv ξ m → m ≠ n → gf σ' (ξ 10 m) k = gf σ (ξ 10 m) k := by
    intro m k hm hk
    have o := (N1 m hm).1
    have e := kpq _ _ _ o (by omega)
    exact ho _ _ o.2.2.2 (fun x => absurd x (N2 m n hm ln' hk).1) e.1 e.2
  have go : ∀ a c l, ob b0 σ a c l → c ≠ 12 → c ≠ 2 → ∀ k, gf σ' a k = gf σ a k := by
    intro a c l x hc hc2 k
    have e := kpq a c l x hc
    refine ho a k x.2.2.2 (fun y => ?_) e.1 e.2
    have := x.1
    rw [y, (N1 n ln').1.1] at this
    omega
  -- rows of other nodes
  have orow : ∀ m, lv ξ m → m ≠ n → ∀ k, k = 8 ∨ k = 9 → 0 ≤ gf σ (ξ 10 m) k → gf σ (ξ 10 m) k ≠ p ∧ gf σ (ξ 10 m) k ≠ q ∧ gf σ (ξ 10 m) k < (σ.1 : Int) ∧ kd σ (gf σ (ξ 10 m) k) = 12 := by
    intro m hm hmn k hk hz0
    rcases N3 m hm with x | ⟨l, x1, x2, x3, x4⟩
    · rcases hk with rfl | rfl <;> omega
    · have lt8 := x2.2.2.2.2
      have lt9 := x3.2.2.2.2
      have kk : kd σ (gf σ (ξ 10 m) k) = 12 := by
        rcases hk with rfl | rfl
        · exact x2.2.1
        · exact x3.2.1
      rcases hR with ⟨y1, y2, _⟩ | ⟨y1, y2, _⟩
      · have p0 := hp.1
        rw [y1] at p0
        have d1 := N4 m n hm ln' hmn x2.1 p0
        have d2 := N4 n m ln' hm (fun e => hmn e.symm) p0 x2.1
        rw [y1, y2]
        rcases hk with rfl | rfl
        · exact ⟨d1.1, d1.2.2, lt8, kk⟩
        · exact ⟨fun e => d2.2.2 e.symm, d1.2.1, lt9, kk⟩
      · rcases hk with rfl | rfl
        · exact ⟨by omega, by omega, lt8, kk⟩
        · exact ⟨by omega, by omega, lt9, kk⟩
  have grow : ∀ m, lv ξ m → m ≠ n → ∀ k, k = 8 ∨ k = 9 → 0 ≤ gf σ (ξ 10 m) k → ∀ j, gf σ' (gf σ (ξ 10 m) k) j = gf σ (gf σ (ξ 10 m) k) j := by
    intro m hm hmn k hk hz0 j
    have o := orow m hm hmn k hk hz0
    refine ho _ _ o.2.2.1 (fun y => ?_) o.1 o.2.1
    have := o.2.2.2
    rw [y, (N1 n ln').1.1] at this
    omega
  have bb : b0 + 55 ≤ (σ'.1 : Int) := by omega
  have KB' : KB b0 ξ σ' := by
    refine ⟨hB, hT, hV, hE, ⟨fun m hm => ?_, fun m m' hm hm' hq' => ?_, fun m hm => ?_, fun m m' hm hm' hq' e8 e8' => ?_, N5.1, bb⟩, L1, fun m hm => ?_, fun m m0 m1 => ?_⟩
    · rw [gn m 1 hm (by omega), gn m 2 hm (by omega)]
      obtain ⟨x, y, z⟩ := N1 m hm
      exact ⟨obk _ _ _ x, obk _ _ _ y, obk _ _ _ z⟩
    · rw [gn m 1 hm (by omega), gn m 2 hm (by omega), gn m' 1 hm' (by omega), gn m' 2 hm' (by omega)]
      exact N2 m m' hm hm' hq'
    · by_cases e : m = n
      · subst e
        rw [g8, g9]
        exact Or.inr ⟨ZZ ξ, ⟨by omega, by omega⟩, hp, hq, hpq⟩
      · rw [gne m 8 hm e, gne m 9 hm e]
        rcases N3 m hm with x | ⟨l, x1, x2, x3, x4⟩
        · exact Or.inl x
        · exact Or.inr ⟨l, x1, ⟨x2.1, obk _ _ _ x2.2⟩, ⟨x3.1, obk _ _ _ x3.2⟩, x4⟩
    · by_cases e : m = n
      · have e' : m' ≠ n := fun y => hq' (e.trans y.symm)
        subst e
        rw [g8, g9, gne m' 8 hm' e', gne m' 9 hm' e']
        rw [gne m' 8 hm' e'] at e8'
        have p9 : 0 ≤ gf σ (ξ 10 m') 9 := by
          rcases N3 m' hm' with x | ⟨l, x1, x2, x3, x4⟩
          · omega
          · exact x3.1
        have o8 := orow m' hm' e' 8 (by omega) e8'
        have o9 := orow m' hm' e' 9 (by omega) p9
        exact ⟨fun y => o8.1 y.symm, fun y => o9.2.1 y.symm, fun y => o9.1 y.symm⟩
      · by_cases e' : m' = n
        · subst e'
          rw [g8, g9, gne m 8 hm e, gne m 9 hm e]
          rw [gne m 8 hm e] at e8
          have p9 : 0 ≤ gf σ (ξ 10 m) 9 := by
            rcases N3 m hm with x | ⟨l, x1, x2, x3, x4⟩
            · omega
            · exact x3.1
          have o8 := orow m hm e 8 (by omega) e8
          have o9 := orow m hm e 9 (by omega) p9
          exact ⟨o8.1, o9.2.1, o8.2.1⟩
        · rw [gne m 8 hm e, gne m 9 hm e, gne m' 8 hm' e', gne m' 9 hm' e']
          rw [gne m 8 hm e] at e8
          rw [gne m' 8 hm' e'] at e8'
          exact N4 m m' hm hm' hq' e8 e8'
    · rw [gn m 0 hm (by omega)]
      exact L2 m hm
    · have hm := hK.lv m0 m1
      obtain ⟨q1, q2, q3, q4, q5, q6, q7⟩ := L3 m m0 m1
      have o := N1 m hm
      unfold NLn
      rw [gn m 3 hm (by omega), gn m 4 hm (by omega), gn m 5 hm (by omega), gn m 6 hm (by omega), gn m 7 hm (by omega), gn m 1 hm (by omega), gn m 2 hm (by omega)]
      exact ⟨q1, q2, q3, q4, q5, fun l x y => by rw [go _ _ _ o.2.1 (by omega) (by omega)]; exact q6 l x y, fun c x y z => by rw [go _ _ _ o.2.2 (by omega) (by omega)]; exact q7 c x y z⟩
  refine ⟨⟨KB', ⟨hC.1, fun m hm => ?_⟩, ?_⟩, fun m k hm hmn k8 k10 => gne m k hm (by omega)⟩
  · by_cases e : m = n
    · subst e
      unfold CMn
      rw [g8, g9, g10]
      have c1 := hC.1
      refine ⟨by omega, fun _ _ => ⟨hp.1, hp.2.2.1, fun s x y => ?_⟩⟩
      exact ⟨Or.inl (hv s x y).1, Or.inl (hv s x y).2⟩
    · obtain ⟨q1, q2⟩ := hC.2 m hm
      unfold CMn
      rw [gne m 8 hm e, gne m 9 hm e, gne m 10 hm e]
      refine ⟨q1, fun x y => ?_⟩
      obtain ⟨z1, z2, z3⟩ := q2 x y
      have p9 : 0 ≤ gf σ (ξ 10 m) 9 := by
        rcases N3 m hm with x | ⟨l, x1, x2, x3, x4⟩
        · omega
        · exact x3.1
      have o8 := orow m hm e 8 (by omega) z1
      refine ⟨z1, (s1 _ o8.2.2.1).2.trans z2, fun s x y => ?_⟩
      rw [grow m hm e 8 (by omega) z1, grow m hm e 9 (by omega) p9]
      exact z3 s x y
  · obtain ⟨cn, r1, r2, r3⟩ := hM
    rcases hR with ⟨y1, y2, y3, y4⟩ | ⟨y1, y2, y3, y4, y5⟩
    · refine ⟨cn, fun m m0 m1 => ?_, by omega, by omega⟩
      obtain ⟨q1, q2, q3⟩ := r1 m m0 m1
      refine ⟨q1, fun x => ?_, q3⟩
      have hm : lv ξ m := ⟨⟨m0, m1⟩, x⟩
      by_cases e : m = n
      · subst e
        rw [g8]
        exact Or.inl ⟨hp.1, hp.2.2.1⟩
      · rw [gne m 8 hm e]
        rcases q2 x with z | z
        · exact Or.inl ⟨z.1, (s1 _ (orow m hm e 8 (by omega) z.1).2.2.1).2.trans z.2⟩
        · exact Or.inr z
    · have cnn := r1 n n0 (by omega)
      have cl : cn n < ξ 23 1 := by
        rcases cnn.2.1 ln'.2 with z | z | z
        · exact absurd z y5
        · exact z
        · omega
      have su := sf_upd (f := cn) (g := fun m => if m = n then cn n + 1 else cn m) (p := n) 81 0 n0 (by omega) (fun i hi => if_neg hi) (if_pos rfl)
      refine ⟨fun m => if m = n then cn n + 1 else cn m, fun m m0 m1 => ?_, by omega, by omega⟩
      by_cases e : m = n
      · subst e
        unfold RMn
        dsimp only
        rw [if_pos rfl]
        have cn0 := cnn.1
        refine ⟨by omega, fun x => ?_, fun x => by have := ln'.2; omega⟩
        rw [g8]
        exact Or.inl ⟨hp.1, hp.2.2.1⟩
      · obtain ⟨q1, q2, q3⟩ := r1 m m0 m1
        unfold RMn
        dsimp only
        rw [if_neg e]
        refine ⟨q1, fun x => ?_, q3⟩
        have hm : lv ξ m := ⟨⟨m0, m1⟩, x⟩
        rw [gne m 8 hm e]
        rcases q2 x with z | z
        · exact Or.inl ⟨z.1, (s1 _ (orow m hm e 8 (by omega) z.1).2.2.1).2.trans z.2⟩
        · exact Or.inr z
end N6
