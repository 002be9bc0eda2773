section Q1
variable {b0 : Int} {σ τ σ' : Hp} {ξ ζ η ζc ζm ζ1 ξ' : Int → Int → Int} {a b c i k l m n v j w s L p q le r x t t' mm fr st g e u d N A wt : Int}
/-- what a new node changes in the numbers -/
def scrn (N d k : Int) : Prop := (d = 9 ∧ k = 2) ∨ (d = 15 ∧ k = 2) ∨ (d = 23 ∧ (k = 11 ∨ k = 19)) ∨ ((d = 31 ∨ d = 32 ∨ d = 33) ∧ k = N) ∨ (d = 34 ∧ 3 * N ≤ k ∧ k ≤ 3 * N + 2)
theorem rk_new (o31 : ∀ k, k ≠ N → ξ' 31 k = ξ 31 k) (h : c ≤ N) : rk ξ' m c = rk ξ m c := by
  unfold rk
  refine sf_congr _ _ (fun i a b => ?_)
  unfold rkf
  rw [o31 i (by omega)]
theorem KI_node (h : KI b0 ξ σ) (hN : N = ξ 23 11) (N81 : N < 81) (lN : 0 ≤ ξ 10 N) (n0 : 0 ≤ n) (nN : n < N) (wl : ξ 33 n < ξ 23 8 - 1) (w1 : 1 ≤ wt) (w2 : wt ≤ ξ 23 9) (ch : Ch (scrn N) ξ ξ') (v9 : ξ' 9 2 = N + 1) (v15 : ξ' 15 2 = ξ 15 2 + 1) (vb : ξ 15 2 < 100000) (v11 : ξ' 23 11 = N + 1) (v31 : ξ' 31 N = n) (v32 : ξ' 32 N = wt) (v33 : ξ' 33 N = ξ 33 n + 1) (v34 : ∀ l, 0 ≤ l → l < 3 → 0 ≤ ξ' 34 (3 * N + l) ∧ ξ' 34 (3 * N + l) ≤ 9) (hk : ∀ a, kd σ' a = kd σ a ∧ ln σ' a = ln σ a) (s1 : σ'.1 = σ.1) (s2 : σ'.2.1 = σ.2.1) (G1 : ∀ m k, lv ξ m → m ≠ N → m ≠ n → gf σ' (ξ 10 m) k = gf σ (ξ 10 m) k) (G2 : ∀ k, k ≠ 6 → k ≠ 7 → gf σ' (ξ 10 n) k = gf σ (ξ 10 n) k) (G26 : gf σ' (ξ 10 n) 6 = rk ξ n N + 1) (G27 : gf σ' (ξ 10 n) 7 = wsm ξ n + wt) (G3 : ∀ k, k < 3 ∨ 7 < k → gf σ' (ξ 10 N) k = gf σ (ξ 10 N) k) (G33 : gf σ' (ξ 10 N) 3 = ξ 10 n) (G34 : gf σ' (ξ 10 N) 4 = wt) (G35 : gf σ' (ξ 10 N) 5 = ξ 33 n + 1) (G36 : gf σ' (ξ 10 N) 6 = 0) (G37 : gf σ' (ξ 10 N) 7 = 0) (G4 : ∀ m k, lv ξ m → m ≠ n ∨ k ≠ rk ξ n N → gf σ' (gf σ (ξ 10 m) 2) k = gf σ (gf σ (ξ 10 m) 2) k) (G4n : gf σ' (gf σ (ξ 10 n) 2) (rk ξ n N) = ξ 10 N) (G5 : ∀ m k, lv ξ m → m ≠ N → gf σ' (gf σ (ξ 10 m) 1) k = gf σ (gf σ (ξ 10 m) 1) k) (G5N : ∀ l, 0 ≤ l → l < 3 → gf σ' (gf σ (ξ 10 N) 1) l = ξ' 34 (3 * N + l)) : KI b0 ξ' σ' := by
  obtain ⟨⟨hB, hT, hV, hC, hS, L1, L2, L3⟩, hM, hR⟩ := id h
  have n81 := hT.2.2.1
  have lN' : lv ξ N := ⟨⟨by omega, N81⟩, lN⟩
  have ln' := h.1.lv n0 (by omega)
  have o : ∀ d k, ¬ scrn N d k → ξ' d k = ξ d k := ch
  have f : ∀ d, (d < 9 ∨ d = 10 ∨ d = 11 ∨ (16 ≤ d ∧ d ≤ 22) ∨ (24 ≤ d ∧ d ≤ 30) ∨ 35 ≤ d) → ξ' d = ξ d := fun d q => funext fun k => o d k (by unfold scrn; omega)
  have o23 : ∀ k, k ≠ 11 → k ≠ 19 → ξ' 23 k = ξ 23 k := fun k a b => o 23 k (by unfold scrn; omega)
  have o31 : ∀ k, k ≠ N → ξ' 31 k = ξ 31 k := fun k q => o 31 k (by unfold scrn; omega)
  have o32 : ∀ k, k ≠ N → ξ' 32 k = ξ 32 k := fun k q => o 32 k (by unfold scrn; omega)
  have o33 : ∀ k, k ≠ N → ξ' 33 k = ξ 33 k := fun k q => o 33 k (by unfold scrn; omega)
  have o34 : ∀ k, k < 3 * N ∨ 3 * N + 2 < k → ξ' 34 k = ξ 34 k := fun k q => o 34 k (by unfold scrn; omega)
  have e10 : ξ' 10 = ξ 10 := f 10 (by omega)
  have ez : ZZ ξ' = ZZ ξ := by unfold ZZ; rw [f 25 (by omega)]
  have hB' : LB ξ' := by
    unfold LB at hB ⊢
    rw [o23 1 (by omega) (by omega), f 24 (by omega), f 25 (by omega), f 26 (by omega), f 27 (by omega), f 28 (by omega), f 29 (by omega), f 41 (by omega), f 42 (by omega)]
    exact hB
  have wk := hT.week n0 (by omega)
  have hT' : TB ξ' := by
    obtain ⟨t1, t2, t3, t4, t5, t6, t7⟩ := hT
    refine ⟨by rw [o23 8 (by omega) (by omega)]; exact t1, by rw [o23 9 (by omega) (by omega)]; exact t2, by rw [v11]; omega, by rw [f 30 (by omega)]; exact t4, by rw [o31 0 (by omega), o33 0 (by omega)]; exact t5, fun m a b => ?_, fun i a b => ?_⟩
    · rw [v11] at b
      rw [o23 8 (by omega) (by omega), o23 9 (by omega) (by omega)]
      by_cases e : m = N
      · rw [e, v31, v32, v33, o33 n (by omega)]
        exact ⟨by omega, by omega, rfl, by omega, w1, w2⟩
      · have q := t6 m a (by omega)
        rw [o31 m e, o32 m e, o33 m e, o33 _ (by omega)]
        exact q
    · by_cases e : 3 * N ≤ i ∧ i ≤ 3 * N + 2
      · have := v34 (i - 3 * N) (by omega) (by omega)
        rw [show 3 * N + (i - 3 * N) = i by omega] at this
        exact this
      · rw [o34 i (by omega)]
        exact t7 i a b
  have hV' : CV ξ' := by
    unfold CV sd hd at *
    rw [ez, f 1 (by omega), o23 1 (by omega) (by omega), f 24 (by omega), f 25 (by omega), f 26 (by omega), f 27 (by omega), f 28 (by omega), f 29 (by omega), f 41 (by omega), f 42 (by omega)]
    refine ⟨hV.1, hV.2.1, fun i i0 i3 => ?_⟩
    rw [f (3 + 2 * i) (by omega), f (4 + 2 * i) (by omega)]
    exact hV.2.2 i i0 i3
  have hC' : CR ξ' := ⟨v9.trans v11.symm, by rw [o 9 3 (by unfold scrn; omega), o23 8 (by omega) (by omega)]; exact hC.2.1, by rw [o 9 4 (by unfold scrn; omega), o23 9 (by omega) (by omega)]; exact hC.2.2.1, fun u u0 u1 => by rw [f 11 (by omega), f 30 (by omega)]; exact hC.2.2.2 u u0 u1⟩
  -- pointers stay
  have gp : ∀ m k, lv ξ m → k < 3 ∨ 7 < k → gf σ' (ξ 10 m) k = gf σ (ξ 10 m) k := fun m k hm hq => by
    by_cases e : m = N
    · rw [e]; exact G3 k hq
    · by_cases e2 : m = n
      · rw [e2]; exact G2 k (by omega) (by omega)
      · exact G1 m k hm e e2
  have ok : ∀ a c l, ob b0 σ a c l → ob b0 σ' a c l := fun a c l x => ⟨(hk a).1.trans x.1, (hk a).2.trans x.2.1, x.2.2.1, by rw [s1]; exact x.2.2.2⟩
  have hS' : NS b0 σ' ξ' := by
    obtain ⟨N1, N2, N3, N4, N5⟩ := hS
    refine NS_e10 e10 ⟨fun m hm => ?_, fun m m' hm hm' hq => ?_, fun m hm => ?_, fun m m' hm hm' hq => ?_, N5.1, by rw [s1]; exact N5.2⟩
    · rw [gp m 1 hm (by omega), gp m 2 hm (by omega)]
      obtain ⟨x, y, z⟩ := N1 m hm
      exact ⟨ok _ _ _ x, ok _ _ _ y, ok _ _ _ z⟩
    · rw [gp m 1 hm (by omega), gp m 2 hm (by omega), gp m' 1 hm' (by omega), gp m' 2 hm' (by omega)]
      exact N2 m m' hm hm' hq
    · rw [gp m 8 hm (by omega), gp m 9 hm (by omega)]
      rcases N3 m hm with x | ⟨ll, x1, x2, x3, x4⟩
      · exact Or.inl x
      · exact Or.inr ⟨ll, x1, ⟨x2.1, ok _ _ _ x2.2⟩, ⟨x3.1, ok _ _ _ x3.2⟩, x4⟩
    · rw [gp m 8 hm (by omega), gp m 9 hm (by omega), gp m' 8 hm' (by omega), gp m' 9 hm' (by omega)]
      exact N4 m m' hm hm' hq
  have wsN : ∀ m, 0 ≤ m → m < N + 1 → wsm ξ' m = wsm ξ m + (if m = n then wt else 0) := by
    intro m m0 m1
    unfold wsm
    rw [v11, show (N + 1 - 1).toNat = (ξ 23 11 - 1).toNat + 1 by omega, sf_last, show (1 : Int) + ((ξ 23 11 - 1).toNat : Int) = N by omega]
    have e1 : sf (wof ξ' m) 1 (ξ 23 11 - 1).toNat = sf (wof ξ m) 1 (ξ 23 11 - 1).toNat := sf_congr _ _ (fun i a b => by
      unfold wof
      rw [o31 i (by omega), o32 i (by omega)])
    rw [e1]
    unfold wof
    rw [v31, v32]
    by_cases e : m = n
    · rw [if_pos e, if_pos e.symm]
    · rw [if_neg e, if_neg (fun y => e y.symm)]
  have rkN : ∀ m, 0 ≤ m → m < N → rk ξ' m (N + 1) = rk ξ m N + (if m = n then 1 else 0) := by
    intro m m0 m1
    rw [rk_s (by omega), rk_new o31 (Int.le_refl _)]
    unfold rkf
    rw [v31]
    by_cases e : m = n
    · rw [if_pos e, if_pos e.symm]
    · rw [if_neg e, if_neg (fun y => e y.symm)]
  have ws0 : wsm ξ N = 0 := by
    unfold wsm
    refine sf_zero _ _ (fun i a b => ?_)
    have := hT.2.2.2.2.2.1 i (by omega) (by omega)
    exact if_neg (by omega)
  have hN' : NL σ' ξ' := by
    refine ⟨fun m a b => ?_, fun m hm => ?_, fun m a b => ?_⟩
    · rw [v11] at b
      rw [e10]
      by_cases e : m = N
      · rw [e]; exact lN
      · exact L1 m a (by omega)
    · unfold lv at hm
      rw [e10] at hm ⊢
      rw [gp m 0 hm (by omega)]
      exact L2 m hm
    · rw [v11] at b
      unfold NLn
      rw [e10, v11]
      by_cases e : m = N
      · rw [e, G33, G34, G35, G36, G37, G3 1 (by omega), G3 2 (by omega), v31, v32, v33, if_neg (by omega), wsN N (by omega) (by omega), ws0, if_neg (by omega)]
        exact ⟨rfl, fun _ => rfl, rfl, (rk_0 (ξ := ξ') (n := N)).symm, rfl, G5N, fun c c0 c1 => by omega⟩
      · have hm : lv ξ m := h.1.lv a (by omega)
        obtain ⟨q1, q2, q3, q4, q5, q6, q7⟩ := L3 m a (by omega)
        rw [o31 m e, o32 m e, o33 m e, rkN m a (by omega), wsN m a b, gp m 1 hm (by omega), gp m 2 hm (by omega)]
        have i6 : ∀ l, 0 ≤ l → l < 3 → gf σ' (gf σ (ξ 10 m) 1) l = ξ' 34 (3 * m + l) := fun l l0 l3 => by
          rw [G5 m l hm e, o34 _ (by omega)]
          exact q6 l l0 l3
        by_cases e2 : m = n
        · rw [e2] at hm q1 q2 q3 q4 q5 q6 q7 i6 ⊢
          rw [G2 3 (by omega) (by omega), G2 4 (by omega) (by omega), G2 5 (by omega) (by omega), G26, G27, if_pos rfl, if_pos rfl]
          refine ⟨q1, q2, q3, rfl, rfl, i6, fun c c0 c1 c2 => ?_⟩
          rw [rk_new o31 (by omega)]
          by_cases ec : c = N
          · rw [ec]; exact G4n
          · rw [o31 c ec] at c2
            have := rk_lt hT n0 c0 (by omega) c2
            rw [G4 n _ hm (Or.inr (by rw [hN]; omega))]
            exact q7 c c0 (by omega) c2
        · rw [G1 m 3 hm e e2, G1 m 4 hm e e2, G1 m 5 hm e e2, G1 m 6 hm e e2, G1 m 7 hm e e2, if_neg e2, if_neg e2, Int.add_zero, Int.add_zero]
          refine ⟨q1, q2, q3, by rw [hN]; exact q4, q5, i6, fun c c0 c1 c2 => ?_⟩
          rw [rk_new o31 (by omega), G4 m _ hm (Or.inl e2)]
          by_cases ec : c = N
          · rw [ec, v31] at c2
            exact absurd c2.symm e2
          · rw [o31 c ec] at c2
            exact q7 c c0 (by omega) c2
  have hR' : RM b0 ξ' σ' := by
    obtain ⟨cn, c1, c2, c3⟩ := RM_e e10 (o23 1 (by omega) (by omega)) ez hR
    refine ⟨cn, fun m a b => ?_, by rw [s1]; exact c2, by rw [s2]; exact c3⟩
    obtain ⟨q1, q2, q3⟩ := c1 m a b
    refine ⟨q1, fun y => ?_, q3⟩
    have q2' := q2 y
    rw [e10] at y q2' ⊢
    rw [gp m 8 ⟨⟨a, b⟩, y⟩ (by omega), (hk _).2]
    exact q2'
  exact ⟨⟨hB', hT', hV', hC', hS', hN'⟩, CM_bump' hM e10 v15 vb (fun m hm => gp m 10 hm (by omega)), hR'⟩
end Q1
