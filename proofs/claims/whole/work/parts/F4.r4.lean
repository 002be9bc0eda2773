section R4
variable {b0 m z sz N ci : Nat} {ξ ζ : Int → Int → Int} {c l v i n e : Int} {k : Int} {γ : Type}
set_option maxRecDepth 20000 in
set_option maxHeartbeats 4000000 in
theorem cS_I (hc : CS b0 ξ) (hm : MS b0 ξ) (d k : Int) : cS (b0 : Int) ξ d k = ξ d k := by
  obtain ⟨⟨a1, a2, a3, a4, a5⟩, ⟨⟨v1, _, _⟩, ⟨w1, w2, w3⟩, l0, l1, l2⟩, ⟨⟨t1, t2, _, _, _⟩, _⟩, ⟨x1, x2, _⟩, ⟨y1, y2⟩, ⟨u1, u2, u3, u4, u5, _⟩, _⟩ := hc
  have p3 : ξ 3 0 = (b0 : Int) + 4 := l0.1
  have p5 : ξ 5 0 = (b0 : Int) + 6 := l1.1
  have p7 : ξ 7 0 = (b0 : Int) + 8 := l2.1
  obtain ⟨m2, m3, m4, m5, m6, m7, m10, m12, m13, m14, m15, m16, m17, m20, m21, m22, m23, m24, m25, m26, m27, m28, m29, m30, m31, m34, m35, m36, m37, m38, m39⟩ := hm.1
  unfold cS
  by_cases d0 : d = 0
  · subst d0
    rw [if_pos rfl]
    repeat' split
    all_goals first | rfl | (subst_vars; symm; assumption)
  rw [if_neg d0]
  by_cases d1 : d = 1
  · subst d1
    rw [if_pos rfl]
    repeat' split
    all_goals first | rfl | (subst_vars; symm; assumption)
  rw [if_neg d1]
  by_cases d2 : d = 2
  · subst d2
    rw [if_pos rfl]
    split
    · rename_i hk
      rcases (by omega : k = 0 ∨ k = 1 ∨ k = 2) with rfl | rfl | rfl
      · rw [w1]; omega
      · rw [w2]; omega
      · rw [w3]; omega
    · rfl
  rw [if_neg d2]
  by_cases d3 : d = 3
  · subst d3
    rw [if_pos rfl]
    repeat' split
    all_goals first | rfl | (subst_vars; symm; assumption)
  rw [if_neg d3]
  by_cases d5 : d = 5
  · subst d5
    rw [if_pos rfl]
    repeat' split
    all_goals first | rfl | (subst_vars; symm; assumption)
  rw [if_neg d5]
  by_cases d7 : d = 7
  · subst d7
    rw [if_pos rfl]
    repeat' split
    all_goals first | rfl | (subst_vars; symm; assumption)
  rw [if_neg d7]
  by_cases d9 : d = 9
  · subst d9
    rw [if_pos rfl]
    repeat' split
    all_goals first | rfl | (subst_vars; symm; assumption)
  rw [if_neg d9]
  by_cases d15 : d = 15
  · subst d15
    rw [if_pos rfl]
    repeat' split
    all_goals first | rfl | (subst_vars; symm; assumption)
  rw [if_neg d15]
  by_cases d16 : d = 16
  · subst d16
    rw [if_pos rfl]
    repeat' split
    all_goals first | rfl | (subst_vars; symm; assumption)
  rw [if_neg d16]
  by_cases d17 : d = 17
  · subst d17
    rw [if_pos rfl]
    repeat' split
    all_goals first | rfl | (subst_vars; symm; assumption)
  rw [if_neg d17]
  by_cases d23 : d = 23
  · subst d23
    rw [if_pos rfl]
    by_cases h2 : k = 2
    · subst h2; rw [if_pos rfl]; exact m2.symm
    rw [if_neg h2]
    by_cases h3 : k = 3
    · subst h3; rw [if_pos rfl]; exact m3.symm
    rw [if_neg h3]
    by_cases h4 : k = 4
    · subst h4; rw [if_pos rfl]; exact m4.symm
    rw [if_neg h4]
    by_cases h5 : k = 5
    · subst h5; rw [if_pos rfl]; exact m5.symm
    rw [if_neg h5]
    by_cases h6 : k = 6
    · subst h6; rw [if_pos rfl]; exact m6.symm
    rw [if_neg h6]
    by_cases h7 : k = 7
    · subst h7; rw [if_pos rfl]; exact m7.symm
    rw [if_neg h7]
    by_cases h10 : k = 10
    · subst h10; rw [if_pos rfl]; exact m10.symm
    rw [if_neg h10]
    by_cases h12 : k = 12
    · subst h12; rw [if_pos rfl]; exact m12.symm
    rw [if_neg h12]
    by_cases h13 : k = 13
    · subst h13; rw [if_pos rfl]; exact m13.symm
    rw [if_neg h13]
    by_cases h14 : k = 14
    · subst h14; rw [if_pos rfl]; exact m14.symm
    rw [if_neg h14]
    by_cases h15 : k = 15
    · subst h15; rw [if_pos rfl]; exact m15.symm
    rw [if_neg h15]
    by_cases h16 : k = 16
    · subst h16; rw [if_pos rfl]; exact m16.symm
    rw [if_neg h16]
    by_cases h17 : k = 17
    · subst h17; rw [if_pos rfl]; exact m17.symm
    rw [if_neg h17]
    by_cases h20 : k = 20
    · subst h20; rw [if_pos rfl]; exact m20.symm
    rw [if_neg h20]
    by_cases h21 : k = 21
    · subst h21; rw [if_pos rfl]; exact m21.symm
    rw [if_neg h21]
    by_cases h22 : k = 22
    · subst h22; rw [if_pos rfl]; exact m22.symm
    rw [if_neg h22]
    by_cases h23 : k = 23
    · subst h23; rw [if_pos rfl]; exact m23.symm
    rw [if_neg h23]
    by_cases h24 : k = 24
    · subst h24; rw [if_pos rfl]; exact m24.symm
    rw [if_neg h24]
    by_cases h25 : k = 25
    · subst h25; rw [if_pos rfl]; exact m25.symm
    rw [if_neg h25]
    by_cases h26 : k = 26
    · subst h26; rw [if_pos rfl]; exact m26.symm
    rw [if_neg h26]
    by_cases h27 : k = 27
    · subst h27; rw [if_pos rfl]; exact m27.symm
    rw [if_neg h27]
    by_cases h28 : k = 28
    · subst h28; rw [if_pos rfl]; exact m28.symm
    rw [if_neg h28]
    by_cases h29 : k = 29
    · subst h29; rw [if_pos rfl]; exact m29.symm
    rw [if_neg h29]
    by_cases h30 : k = 30
    · subst h30; rw [if_pos rfl]; exact m30.symm
    rw [if_neg h30]
    by_cases h31 : k = 31
    · subst h31; rw [if_pos rfl]; exact m31.symm
    rw [if_neg h31]
    by_cases h34 : k = 34
    · subst h34; rw [if_pos rfl]; exact m34.symm
    rw [if_neg h34]
    by_cases h35 : k = 35
    · subst h35; rw [if_pos rfl]; exact m35.symm
    rw [if_neg h35]
    by_cases h36 : k = 36
    · subst h36; rw [if_pos rfl]; exact m36.symm
    rw [if_neg h36]
    by_cases h37 : k = 37
    · subst h37; rw [if_pos rfl]; exact m37.symm
    rw [if_neg h37]
    by_cases h38 : k = 38
    · subst h38; rw [if_pos rfl]; exact m38.symm
    rw [if_neg h38]
    by_cases h39 : k = 39
    · subst h39; rw [if_pos rfl]; exact m39.symm
    rw [if_neg h39]
  rw [if_neg d23]
theorem S_I (hc : CS b0 ξ) (hm : MS b0 ξ) : S (b0 : Int) (I b0 55 z ξ) ξ = I b0 55 z ξ := by
  refine Prod.ext rfl (Prod.ext rfl (funext fun a => ?_))
  show (if ((0 ≤ a - (b0 : Int) ∧ a - (b0 : Int) < 12) ∨ (15 ≤ a - (b0 : Int) ∧ a - (b0 : Int) < 55)) then (kS (a - b0), lS (a - b0), cS (b0 : Int) ξ (a - b0)) else (I b0 55 z ξ).2.2 a) = (I b0 55 z ξ).2.2 a
  by_cases q : ((0 ≤ a - (b0 : Int) ∧ a - (b0 : Int) < 12) ∨ (15 ≤ a - (b0 : Int) ∧ a - (b0 : Int) < 55))
  · rw [if_pos q]
    show _ = (if 0 ≤ a - (b0 : Int) ∧ a - (b0 : Int) < ((55 : Nat) : Int) then (kT (a - b0), lT (a - b0), ξ (a - b0)) else (0, 0, fun _ => 0))
    rw [if_pos (by omega)]
    refine Prod.ext ?_ (Prod.ext ?_ (funext fun k => cS_I hc hm _ k))
    · show kS (a - b0) = kT (a - b0)
      unfold kT
      rw [if_neg (by omega), if_neg (by omega), if_neg (by omega)]
    · show lS (a - b0) = lT (a - b0)
      unfold lT
      rw [if_neg (by omega), if_neg (by omega), if_neg (by omega)]
  · rw [if_neg q]
theorem σ0_I : σ0 b0 = I b0 0 0 xD := by
  refine Prod.ext rfl (Prod.ext rfl (funext fun a => ?_))
  show _ = (if 0 ≤ a - (b0 : Int) ∧ a - (b0 : Int) < ((0 : Nat) : Int) then _ else _)
  rw [if_neg (by omega)]
  rfl
set_option maxHeartbeats 20000000 in
theorem INV_0 (hz : z ≤ 1000000) (hc : CS b0 ξ) (hm : MS b0 ξ) : INV (b0 : Int) ξ (I b0 55 z ξ) 1 := by
  obtain ⟨⟨a1, a2, a3, a4, a5⟩, ⟨⟨v1, v2, v3⟩, ⟨w1, w2, w3⟩, l0, l1, l2⟩, ⟨⟨t1, t2, t3, t4, t5⟩, ⟨t6, t7⟩, t8, ⟨n0, n1, n2, n3, n5, n6, n7, n8, n9, n10⟩, t13⟩, ⟨x1, x2, x3⟩, ⟨y1, y2⟩, ⟨u1, u2, u3, u4, u5, u6⟩, r0⟩ := hc
  obtain ⟨mp, ⟨m1, m8, m9, m11, m18, m19, m32, m33⟩, m30, m31, m33', mz⟩ := hm
  clear mp a1 a2 a3 a4 a5 v1 w1 w2 w3 t1 t2 x1 x2 y1 y2 u1 u2 u3 u4 u5 m18 m33
  have z24 : ∀ d k, 24 ≤ d → d ≤ 29 → ξ d k = 0 := fun d k a b => mz d k (by omega) (by omega) (by omega) (by omega)
  have z34 : ∀ d k, 34 ≤ d → d ≤ 54 → ξ d k = 0 := fun d k a b => mz d k (by omega) (by omega) (by omega) (by omega)
  have hB : LB ξ := by
    refine ⟨by omega, fun i i0 i3 => ?_, fun i i0 i1 => ?_, ?_⟩
    · rw [z24 24 _ (by omega) (by omega), z24 25 _ (by omega) (by omega), z24 26 _ (by omega) (by omega), z24 27 _ (by omega) (by omega), z24 29 _ (by omega) (by omega), z34 41 _ (by omega) (by omega), z34 42 _ (by omega) (by omega)]
      omega
    · rw [z24 28 _ (by omega) (by omega)]; omega
    · rw [z24 25 _ (by omega) (by omega), z24 25 _ (by omega) (by omega), z24 25 _ (by omega) (by omega)]; decide
  have hT : TB ξ := by
    refine ⟨by omega, by omega, by omega, fun w w0 w1 => by rw [m30 w w0 w1]; omega, ⟨m31, m33'⟩, fun n a b => by omega, fun i i0 i1 => by rw [z34 34 _ (by omega) (by omega)]; omega⟩
  have eZ : ZZ ξ = 1 := by
    unfold ZZ
    rw [z24 25 _ (by omega) (by omega), z24 25 _ (by omega) (by omega), z24 25 _ (by omega) (by omega)]; rfl
  have esd : ∀ i, sd ξ i = 1 := fun i => by
    unfold sd
    rw [z24 25 _ (by omega) (by omega), z24 25 _ (by omega) (by omega)]
    split
    · rfl
    · split <;> rfl
  have ehd : ∀ i m, 0 ≤ i → hd ξ i m = 1 := fun i m q => by
    unfold hd
    rw [if_neg (by omega)]
  have vk : ∀ i, 0 ≤ i → i < 3 → VLk b0 ξ i := fun i i0 i3 => by
    rcases (by omega : i = 0 ∨ i = 1 ∨ i = 2) with rfl | rfl | rfl
    · exact l0
    · exact l1
    · exact l2
  have hV : CV ξ := by
    refine ⟨by rw [v2, m1], by rw [v3, eZ], fun i i0 i3 => ?_⟩
    obtain ⟨q0, q1, q2, q3, q4, q5, q6, q7, q8, q9⟩ := vk i i0 i3
    rw [z24 24 _ (by omega) (by omega), z24 25 _ (by omega) (by omega), z24 26 _ (by omega) (by omega), z24 27 _ (by omega) (by omega), z24 29 _ (by omega) (by omega), z34 41 _ (by omega) (by omega), if_neg (by omega), esd i]
    exact ⟨⟨q1, q2, q3, q4, q5, q6, q7, q8⟩, fun m m0 m1 => by rw [ehd i m i0]; exact q9 m m0 m1⟩
  have hC : CR ξ := ⟨by rw [t3, m11], by rw [t4, m8], by rw [t5, m9], fun w w0 w1 => by rw [t8 w w0 w1, m30 w w0 w1]⟩
  have lv0 : ∀ n, lv ξ n → n = 0 := fun n hn => by
    by_cases e : n = 0
    · exact e
    · have := hn.2
      rw [t7 n e] at this
      omega
  have s1 : (I b0 55 z ξ).1 = b0 + 55 := rfl
  have s2 : (I b0 55 z ξ).2.1 = z := rfl
  have g12 : ∀ k, gf (I b0 55 z ξ) ((b0 : Int) + 12) k = ξ 12 k := fun k => gf_I (by decide) (by decide)
  have g13 : ∀ k, gf (I b0 55 z ξ) ((b0 : Int) + 13) k = ξ 13 k := fun k => gf_I (by decide) (by decide)
  have k12 : kd (I b0 55 z ξ) ((b0 : Int) + 12) = 2 := kd_I (by decide) (by decide)
  have l12 : ln (I b0 55 z ξ) ((b0 : Int) + 12) = 0 := ln_I (by decide) (by decide)
  have k13 : kd (I b0 55 z ξ) ((b0 : Int) + 13) = 11 := kd_I (by decide) (by decide)
  have l13 : ln (I b0 55 z ξ) ((b0 : Int) + 13) = 3 := ln_I (by decide) (by decide)
  have k14 : kd (I b0 55 z ξ) ((b0 : Int) + 14) = 15 := kd_I (by decide) (by decide)
  have l14 : ln (I b0 55 z ξ) ((b0 : Int) + 14) = 6 := ln_I (by decide) (by decide)
  generalize I b0 55 z ξ = τ at *
  have ob12 : ob (b0 : Int) τ ((b0 : Int) + 12) 2 0 := ⟨k12, l12, by unfold inS; omega, by rw [s1]; omega⟩
  have ob13 : ob (b0 : Int) τ ((b0 : Int) + 13) 11 3 := ⟨k13, l13, by unfold inS; omega, by rw [s1]; omega⟩
  have ob14 : ob (b0 : Int) τ ((b0 : Int) + 14) 15 6 := ⟨k14, l14, by unfold inS; omega, by rw [s1]; omega⟩
  have hS : NS (b0 : Int) τ ξ := by
    refine ⟨fun n hn => ?_, fun n m hn hm hq => ?_, fun n hn => ?_, fun n m hn hm hq => ?_, by omega, by rw [s1]; omega⟩
    · rw [lv0 n hn, t6, g12, g12, n1, n2]
      exact ⟨ob12, ob13, ob14⟩
    · exact absurd ((lv0 n hn).trans (lv0 m hm).symm) hq
    · rw [lv0 n hn, t6, g12, g12]
      exact Or.inl ⟨n8, n9⟩
    · exact absurd ((lv0 n hn).trans (lv0 m hm).symm) hq
  have hN : NL τ ξ := by
    refine ⟨fun n a b => ?_, fun n hn => ?_, fun n a b => ?_⟩
    · have : n = 0 := by omega
      rw [this, t6]; omega
    · rw [lv0 n hn, t6, g12]; exact n0
    · have : n = 0 := by omega
      subst this
      unfold NLn
      rw [t6, g12, g12, g12, g12, g12, g12, g12, m11, m33', n1, n3, n5, n6, n7]
      refine ⟨rfl, fun q => by omega, rfl, (rk_0 (ξ := ξ) (n := 0)).symm, ?_, fun l q1 q2 => ?_, fun c q1 q2 => by omega⟩
      · unfold wsm
        rw [m11]
        rfl
      · rw [g13, t13, z34 34 _ (by omega) (by omega)]
  have hCM : CM ξ τ := by
    refine ⟨by omega, fun n hn => ?_⟩
    unfold CMn
    rw [lv0 n hn, t6, g12, n10]
    exact ⟨by omega, fun _ q => by omega⟩
  have hRM : RM (b0 : Int) ξ τ := by
    have sl := sf_bd (f := liv ξ) (M := 1) 81 0 (fun i a b => by unfold liv; split <;> omega)
    have s0 : sf (fun _ => (0 : Int)) 0 81 = 0 := sf_zero 81 0 (fun i a b => rfl)
    refine ⟨fun _ => 0, fun n a b => ⟨by show 0 ≤ (0 : Int) ∧ (0 : Int) ≤ ξ 23 1; omega, fun _ => Or.inr (Or.inr m1), fun _ => rfl⟩, ?_, ?_⟩
    · rw [s0, s1]; omega
    · rw [s0, s2]; omega
  refine ⟨⟨⟨hB, hT, hV, hC, hS, hN⟩, hCM, hRM⟩, ⟨⟨Cf.rfl', fun l q1 q2 => ?_, fun l q1 q2 _ => z34 36 l (by omega) (by omega), fun j q1 q2 => Or.inl (z34 37 j (by omega) (by omega)), fun j q1 q2 => Or.inl (z34 38 j (by omega) (by omega))⟩, Or.inl m19, fun q => by omega⟩, ⟨fun l x y q1 q2 => by omega, fun n l _ _ _ _ => z34 34 _ (by omega) (by omega), fun l _ _ => z34 34 _ (by omega) (by omega), fun l _ _ => z34 41 _ (by omega) (by omega)⟩, ⟨Or.inl m32, by rw [u6, m32], ⟨r0 19 0 (by omega) (by omega), r0 20 0 (by omega) (by omega), r0 21 0 (by omega) (by omega), r0 22 0 (by omega) (by omega)⟩, fun q => by omega⟩, by omega⟩
  rw [z34 35 _ (by omega) (by omega), z24 25 _ (by omega) (by omega)]
  exact ⟨by omega, fun _ => rfl⟩
end R4
