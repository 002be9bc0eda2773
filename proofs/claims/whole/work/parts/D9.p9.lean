theorem d0_n : d0 1 8 = -1 ∧ d0 1 9 = -1 ∧ d0 1 10 = 0 ∧ d0 1 3 = -1 ∧ d0 1 6 = 0 ∧ d0 1 7 = 0 := ⟨rfl, rfl, rfl, rfl, rfl, rfl⟩
section P9
variable {b0 : Int} {σ τ σ' : Hp} {ξ ζ η ζc ζm ζ1 ξ' : Int → Int → Int} {a b c i k l m n v j w s L p q le r x t t' mm fr st g e u d N A : Int}
theorem aq_S10 {l' : Int} (h0 : 0 ≤ i) (h1 : i < 81) (hv : ob b0 σ v 2 l') : aq 15 2 (S b0 σ ζ) (b0 + 10) i v = some (S b0 σ (xu ζ 10 i v)) := by
  unfold aq
  rw [kd_S (d := 10) (by unfold inS; omega), ln_S (d := 10) (by unfold inS; omega), kd_So hv.2.2.1, if_pos ⟨rfl, h0, h1, by omega, hv.1⟩, wr_S (by unfold inS; omega) (fun _ => rfl)]
theorem KI_new (h : KI b0 ξ σ) (hN : N = ξ 23 11) (N81 : N < 81) (neg : ξ 10 N < 0) (hA : A = (σ.1 : Int)) (hs : ∀ a, a < A → kd σ' a = kd σ a ∧ ln σ' a = ln σ a ∧ ∀ k, gf σ' a k = gf σ a k) (kA : kd σ' A = 2 ∧ ln σ' A = 0) (kB : kd σ' (A + 1) = 11 ∧ ln σ' (A + 1) = 3) (kC : kd σ' (A + 2) = 15 ∧ ln σ' (A + 2) = 6) (gA : gf σ' A 0 = N ∧ gf σ' A 1 = A + 1 ∧ gf σ' A 2 = A + 2 ∧ gf σ' A 8 = -1 ∧ gf σ' A 9 = -1 ∧ gf σ' A 10 = 0) (s1 : σ'.1 = σ.1 + 3) (s2 : σ'.2.1 = σ.2.1 + 25) : KI b0 (xu ξ 10 N A) σ' := by
  obtain ⟨⟨hB, hT, hV, hC, ⟨N1, N2, N3, N4, N5⟩, L1, L2, L3⟩, hM, hR⟩ := h
  have n81 := hT.2.2.1
  have cf : Cf ξ (xu ξ 10 N A) := Cf.xu (by omega)
  have f : ∀ d, d ≠ 10 → xu ξ 10 N A d = ξ d := fun d q => funext fun k => xu_nd q
  have xN : xu ξ 10 N A 10 N = A := xu_s
  have xo : ∀ m, m ≠ N → xu ξ 10 N A 10 m = ξ 10 m := fun m q => xu_ni q
  have lo : ∀ m, lv (xu ξ 10 N A) m → m ≠ N → lv ξ m := fun m q r => ⟨q.1, by have := q.2; rw [xo m r] at this; exact this⟩
  have A0 : 0 ≤ A := by omega
  have ok : ∀ a c l, ob b0 σ a c l → ob b0 σ' a c l := fun a c l x => by
    have e := hs a (by rw [hA]; exact x.2.2.2)
    exact ⟨e.1.trans x.1, e.2.1.trans x.2.1, x.2.2.1, by have := x.2.2.2; omega⟩
  have lt : ∀ a c l, ob b0 σ a c l → a < A := fun a c l x => by rw [hA]; exact x.2.2.2
  have gm : ∀ m k, lv ξ m → gf σ' (ξ 10 m) k = gf σ (ξ 10 m) k := fun m k hm => (hs _ (lt _ _ _ (N1 m hm).1)).2.2 k
  have nA : ∀ x, A ≤ x → ¬ inS (x - b0) := fun x q => by unfold inS; omega
  have CV' : CV (xu ξ 10 N A) := by
    unfold CV sd hd ZZ at *
    rw [f 1 (by omega), f 23 (by omega), f 24 (by omega), f 25 (by omega), f 26 (by omega), f 27 (by omega), f 28 (by omega), f 29 (by omega), f 41 (by omega), f 42 (by omega)]
    refine ⟨hV.1, hV.2.1, fun i i0 i3 => ?_⟩
    rw [f (3 + 2 * i) (by omega), f (4 + 2 * i) (by omega)]
    exact hV.2.2 i i0 i3
  have CR' : CR (xu ξ 10 N A) := by
    unfold CR at *
    rw [f 9 (by omega), f 11 (by omega), f 23 (by omega), f 30 (by omega)]
    exact hC
  refine ⟨⟨hB.cf cf, hT.cf cf, CV', CR', ⟨fun m hm => ?_, fun m m' hm hm' hq => ?_, fun m hm => ?_, fun m m' hm hm' hq e8 e8' => ?_, N5.1, by omega⟩, fun m a b => ?_, fun m hm => ?_, fun m a b => ?_⟩, ⟨by rw [f 15 (by omega)]; exact hM.1, fun m hm => ?_⟩, ?_⟩
  · by_cases e : m = N
    · rw [e, xN, gA.2.1, gA.2.2.1]
      exact ⟨⟨kA.1, kA.2, nA _ (by omega), by omega⟩, ⟨kB.1, kB.2, nA _ (by omega), by omega⟩, ⟨kC.1, kC.2, nA _ (by omega), by omega⟩⟩
    · have l := lo m hm e
      rw [xo m e, gm m 1 l, gm m 2 l]
      obtain ⟨x, y, z⟩ := N1 m l
      exact ⟨ok _ _ _ x, ok _ _ _ y, ok _ _ _ z⟩
  · by_cases e : m = N
    · have e' : m' ≠ N := fun y => hq (e.trans y.symm)
      have l' := lo m' hm' e'
      obtain ⟨x, y, z⟩ := N1 m' l'
      have := lt _ _ _ x
      have := lt _ _ _ y
      have := lt _ _ _ z
      rw [e, xN, gA.2.1, gA.2.2.1, xo m' e', gm m' 1 l', gm m' 2 l']
      omega
    · have l := lo m hm e
      obtain ⟨x, y, z⟩ := N1 m l
      have := lt _ _ _ x
      have := lt _ _ _ y
      have := lt _ _ _ z
      by_cases e' : m' = N
      · rw [e', xN, gA.2.1, gA.2.2.1, xo m e, gm m 1 l, gm m 2 l]
        omega
      · have l' := lo m' hm' e'
        rw [xo m e, xo m' e', gm m 1 l, gm m 2 l, gm m' 1 l', gm m' 2 l']
        exact N2 m m' l l' hq
  · by_cases e : m = N
    · rw [e, xN]
      exact Or.inl ⟨gA.2.2.2.1, gA.2.2.2.2.1⟩
    · have l := lo m hm e
      rw [xo m e, gm m 8 l, gm m 9 l]
      rcases N3 m l with x | ⟨ll, x1, x2, x3, x4⟩
      · exact Or.inl x
      · exact Or.inr ⟨ll, x1, ⟨x2.1, ok _ _ _ x2.2⟩, ⟨x3.1, ok _ _ _ x3.2⟩, x4⟩
  · by_cases e : m = N
    · rw [e, xN, gA.2.2.2.1] at e8
      omega
    · by_cases e' : m' = N
      · rw [e', xN, gA.2.2.2.1] at e8'
        omega
      · have l := lo m hm e
        have l' := lo m' hm' e'
        rw [xo m e, gm m 8 l] at e8 ⊢
        rw [xo m' e', gm m' 8 l'] at e8' ⊢
        rw [gm m 9 l, gm m' 9 l']
        exact N4 m m' l l' hq e8 e8'
  · rw [f 23 (by omega)] at b
    rw [xo m (by omega)]
    exact L1 m a b
  · by_cases e : m = N
    · rw [e, xN]; exact gA.1
    · have l := lo m hm e
      rw [xo m e, gm m 0 l]
      exact L2 m l
  · rw [f 23 (by omega)] at b
    have l : lv ξ m := ⟨⟨a, by omega⟩, L1 m a b⟩
    obtain ⟨q1, q2, q3, q4, q5, q6, q7⟩ := L3 m a b
    obtain ⟨x, y, z⟩ := N1 m l
    have er : rk (xu ξ 10 N A) = rk ξ := rk_cw cf.cw
    have ew : wsm (xu ξ 10 N A) = wsm ξ := wsm_cw cf.cw
    unfold NLn
    rw [er, ew, f 23 (by omega), f 31 (by omega), f 32 (by omega), f 33 (by omega), f 34 (by omega), xo m (by omega), gm m 3 l, gm m 4 l, gm m 5 l, gm m 6 l, gm m 7 l, gm m 1 l, gm m 2 l]
    refine ⟨?_, q2, q3, q4, q5, fun i i0 i3 => ?_, fun c c0 c1 c2 => ?_⟩
    · rw [q1]
      by_cases e0 : m = 0
      · rw [if_pos e0, if_pos e0]
      · have := hT.2.2.2.2.2.1 m (by omega) b
        rw [if_neg e0, if_neg e0, xo _ (by omega)]
    · rw [(hs _ (lt _ _ _ y)).2.2]
      exact q6 i i0 i3
    · rw [(hs _ (lt _ _ _ z)).2.2, xo c (by omega)]
      exact q7 c c0 c1 c2
  · unfold CMn
    by_cases e : m = N
    · rw [e, xN, gA.2.2.2.2.2, f 15 (by omega), f 23 (by omega)]
      have := hM.1
      exact ⟨by omega, fun y => by omega⟩
    · have l := lo m hm e
      obtain ⟨q1, q2⟩ := hM.2 m l
      rw [xo m e, gm m 10 l, gm m 8 l, gm m 9 l, f 15 (by omega), f 23 (by omega), ZZ_cw cf.cw, VV_cw cf.cw, lft_cw cf.cw, MV_cw cf.cw]
      refine ⟨q1, fun x y => ?_⟩
      obtain ⟨z1, z2, z3⟩ := q2 x y
      rcases N3 m l with w | ⟨ll, w1, w2, w3, w4⟩
      · omega
      · refine ⟨z1, ?_, fun s s0 s1 => ?_⟩
        · rw [(hs _ (lt _ _ _ w2.2)).2.1]; exact z2
        · rw [(hs _ (lt _ _ _ w2.2)).2.2, (hs _ (lt _ _ _ w3.2)).2.2]
          exact z3 s s0 s1
  · obtain ⟨cn, c1, c2, c3⟩ := hR
    have su := sf_upd (f := liv ξ) (g := liv (xu ξ 10 N A)) (p := N) 81 0 (by omega) (by omega) (fun i hi => by unfold liv; rw [xo i hi]) (by unfold liv; rw [xN, if_pos A0, if_neg (by omega)]; rfl)
    refine ⟨cn, fun m m0 m1 => ?_, by omega, by omega⟩
    obtain ⟨q1, q2, q3⟩ := c1 m m0 m1
    unfold RMn
    rw [f 23 (by omega), ZZ_cw cf.cw]
    by_cases e : m = N
    · have q := q3 (by rw [e]; exact neg)
      rw [e] at q q1 ⊢
      rw [xN]
      exact ⟨by omega, fun _ => by omega, fun y => by omega⟩
    · rw [xo m e]
      refine ⟨q1, fun y => ?_, q3⟩
      have l : lv ξ m := ⟨⟨m0, m1⟩, y⟩
      rw [gm m 8 l]
      rcases q2 y with z | z
      · refine Or.inl ⟨z.1, ?_⟩
        rcases N3 m l with w | ⟨ll, w1, w2, w3, w4⟩
        · omega
        · rw [(hs _ (lt _ _ _ w2.2)).2.1]; exact z.2
      · exact Or.inr z
end P9
