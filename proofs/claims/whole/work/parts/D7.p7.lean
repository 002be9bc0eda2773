section P7
variable {b0 : Int} {σ τ σ' : Hp} {ξ ζ η ζc ζm ζ1 ξ' : Int → Int → Int} {a b c i k l m n v j w s L p q le r x t t' mm fr st g e u d lim fi : Int}
theorem addLake_loop {n : Int} (n3 : n ≤ 3) : ∀ (m f : Nat) (j : Int) (ζ : Int → Int → Int), m < f → 0 ≤ j → j + m = n → ζ 1 1 = n → ∃ (f' : Nat) (ζ' : Int → Int → Int), F_X4_addLake_L18 (b0 + 1) le g lim fi f j (S b0 σ ζ) = F_X4_addLake_L18 (b0 + 1) le g lim fi (f' + 1) n (S b0 σ ζ') ∧ (∀ d k, k ≠ 8 ∨ d < 3 + 2 * j ∨ 3 + 2 * n ≤ d ∨ d % 2 = 0 → ζ' d k = ζ d k) ∧ ∀ i, j ≤ i → i < n → ζ' (3 + 2 * i) 8 = ζ (3 + 2 * i) 8 * (g + 1) := by
  intro m
  induction m with
  | zero =>
    intro f j ζ hf j0 he h1
    refine ⟨f - 1, ζ, ?_, fun d k _ => rfl, fun i a b => by omega⟩
    rw [show f - 1 + 1 = f by omega, show j = n by omega]
  | succ m ih =>
    intro f j ζ hf j0 he h1
    obtain ⟨f, rfl⟩ : ∃ g, f = g + 1 := ⟨f - 1, by omega⟩
    obtain ⟨f', ζ', e1, e2, e3⟩ := ih f (j + 1) (xu ζ (3 + 2 * j) 8 (ζ (3 + 2 * j) 8 * (g + 1))) (by omega) (by omega) (by omega) (by rw [xu_nd (by omega)]; exact h1)
    refine ⟨f', ζ', ?_, fun d k q => ?_, fun i a b => ?_⟩
    · refine Eq.trans ?_ e1
      rw [F_X4_addLake_L18]
      refine ev rS_1_1 ?_
      rw [h1]
      refine ev_bLt (by omega) (by omega) (by omega) (by omega) (fun _ => ?_) (fun q => by omega)
      refine ev rS_1_0 ?_
      refine ev (aS_2 j0 (by omega)) ?_
      refine ev (rLk j0 (by omega) (by omega)) ?_
      exact ev (pLk j0 (by omega) (by omega)) rfl
    · rw [e2 d k (by omega)]
      by_cases ek : k = 8
      · exact xu_nd (by omega)
      · exact xu_ni ek
    · by_cases ei : i = j
      · subst ei
        rw [e2 _ _ (by omega), xu_s]
      · rw [e3 i (by omega) b, xu_nd (by omega)]
theorem X4_addLake {n : Int} (n0 : 0 ≤ n) (n3 : n < 3) (h1 : ζ 1 1 = n) : ∃ ζ', F_X4_addLake (b0 + 1) le g lim fi (S b0 σ ζ) = some (n, S b0 σ ζ') ∧ (∀ d k, ¬ ((d = 1 ∧ (k = 1 ∨ k = 2)) ∨ (k = 8 ∧ 3 ≤ d ∧ d < 3 + 2 * n ∧ d % 2 = 1) ∨ (d = 3 + 2 * n ∧ 1 ≤ k ∧ k ≤ 4)) → ζ' d k = ζ d k) ∧ (ζ' 1 1 = n + 1 ∧ ζ' 1 2 = ζ 1 2 * (g + 1) ∧ ζ' (3 + 2 * n) 1 = le ∧ ζ' (3 + 2 * n) 2 = g ∧ ζ' (3 + 2 * n) 3 = lim ∧ ζ' (3 + 2 * n) 4 = fi) ∧ ∀ i, 0 ≤ i → i < n → ζ' (3 + 2 * i) 8 = ζ (3 + 2 * i) 8 * (g + 1) := by
  obtain ⟨f', ζa, e1, e2, e3⟩ := addLake_loop (b0 := b0) (σ := σ) (le := le) (g := g) (lim := lim) (fi := fi) (n := n) (by omega) n.toNat fu 0 ζ (fuN (by omega)) (Int.le_refl _) (by omega) h1
  have a11 : ζa 1 1 = n := by rw [e2 1 1 (by omega)]; exact h1
  have a12 : ζa 1 2 = ζ 1 2 := e2 1 2 (by omega)
  refine ⟨xu (xu (xu (xu (xu (xu ζa 1 2 (ζ 1 2 * (g + 1))) (3 + 2 * n) 1 le) (3 + 2 * n) 2 g) (3 + 2 * n) 3 lim) (3 + 2 * n) 4 fi) 1 1 (n + 1), ?_, fun d k q => ?_, ⟨xu_s, ?_, ?_, ?_, ?_, ?_⟩, fun i i0 i1 => ?_⟩
  · rw [F_X4_addLake]
    refine ev rS_1_1 ?_
    rw [h1]
    refine ev rS_1_0 ?_
    refine ev lS_2 ?_
    refine ev_bLt (by omega) (by omega) (by omega) (by omega) (fun _ => ?_) (fun q => by omega)
    rw [e1, F_X4_addLake_L18]
    refine ev rS_1_1 ?_
    rw [a11]
    refine ev_bLt (by omega) (by omega) (by omega) (by omega) (fun q => by omega) (fun _ => ?_)
    refine ev rS_1_2 ?_
    rw [a12]
    refine ev pS_1_2 ?_
    refine ev rS_1_0 ?_
    refine ev rS_1_1 ?_
    rw [xu_ni (by omega), a11]
    refine ev (aS_2 n0 n3) ?_
    refine ev (pLk n0 n3 (by omega)) ?_
    refine ev (pLk n0 n3 (by omega)) ?_
    refine ev (pLk n0 n3 (by omega)) ?_
    refine ev (pLk n0 n3 (by omega)) ?_
    refine ev rS_1_1 ?_
    rw [xu_nd (by omega), xu_nd (by omega), xu_nd (by omega), xu_nd (by omega), xu_ni (by omega), a11]
    refine ev pS_1_1 ?_
    refine ev rS_1_1 ?_
    rw [xu_s]
    exact ev_end (by omega) rfl
  · have x : ∀ (η : Int → Int → Int) (d' k' v : Int), ¬ (d = d' ∧ k = k') → xu η d' k' v d k = η d k := fun η d' k' v y => if_neg y
    rw [x _ _ _ _ (by omega), x _ _ _ _ (by omega), x _ _ _ _ (by omega), x _ _ _ _ (by omega), x _ _ _ _ (by omega), x _ _ _ _ (by omega)]
    exact e2 d k (by omega)
  · rw [xu_ni (by omega), xu_nd (by omega), xu_nd (by omega), xu_nd (by omega), xu_nd (by omega), xu_s]
  · rw [xu_nd (by omega), xu_ni (by omega), xu_ni (by omega), xu_ni (by omega), xu_s]
  · rw [xu_nd (by omega), xu_ni (by omega), xu_ni (by omega), xu_s]
  · rw [xu_nd (by omega), xu_ni (by omega), xu_s]
  · rw [xu_nd (by omega), xu_s]
  · rw [xu_nd (by omega), xu_nd (by omega), xu_nd (by omega), xu_nd (by omega), xu_nd (by omega), xu_nd (by omega)]
    exact e3 i i0 i1
theorem mLake_loop {n : Int} (n0 : 0 ≤ n) (n3 : n < 3) (g0 : 0 ≤ g) (g30 : g ≤ 30) : ∀ (m f : Nat) (x : Int) (ζ : Int → Int → Int), m < f → 0 ≤ x → x + m = g + 1 → ∃ (f' : Nat) (ζ' : Int → Int → Int), F_X8_lake_L134 (b0 + 23) g n f x (S b0 σ ζ) = F_X8_lake_L134 (b0 + 23) g n (f' + 1) (g + 1) (S b0 σ ζ') ∧ (∀ d k, d ≠ 28 ∨ k < 31 * n + x ∨ 31 * n + g < k → ζ' d k = ζ d k) ∧ ∀ y, x ≤ y → y ≤ g → ζ' 28 (31 * n + y) = 1 := by
  intro m
  induction m with
  | zero =>
    intro f x ζ hf x0 he
    refine ⟨f - 1, ζ, ?_, fun d k _ => rfl, fun y a b => by omega⟩
    rw [show f - 1 + 1 = f by omega, show x = g + 1 by omega]
  | succ m ih =>
    intro f x ζ hf x0 he
    obtain ⟨f, rfl⟩ : ∃ g, f = g + 1 := ⟨f - 1, by omega⟩
    obtain ⟨f', ζ', e1, e2, e3⟩ := ih f (x + 1) (xu ζ 28 (31 * n + x) 1) (by omega) (by omega) (by omega)
    refine ⟨f', ζ', ?_, fun d k q => ?_, fun y a b => ?_⟩
    · refine Eq.trans ?_ e1
      rw [F_X8_lake_L134]
      refine ev_bLe (by omega) (by omega) (by omega) (by omega) (fun _ => ?_) (fun q => by omega)
      refine ev rS_23_6 ?_
      exact ev (wS_28 (by omega) (by omega)) rfl
    · rw [e2 d k (by omega)]
      exact if_neg (by omega)
    · by_cases ei : y = x
      · subst ei
        rw [e2 _ _ (by omega), xu_s]
      · exact e3 y (by omega) b
theorem X8_lakeAdd {n : Int} (n0 : 0 ≤ n) (n3 : n < 3) (g0 : 0 ≤ g) (g30 : g ≤ 30) (h1 : ζ 23 1 = n) : ∃ ζ', ((rd 9 (S b0 σ ζ) (b0 + 23) 1).bind fun jv15 => (rd 9 (S b0 σ ζ) (b0 + 23) 2).bind fun jv16 => (aw 11 (S b0 σ ζ) jv16 jv15 le).bind fun σ17 => (rd 9 σ17 (b0 + 23) 3).bind fun jv18 => (aw 11 σ17 jv18 jv15 g).bind fun σ19 => (rd 9 σ19 (b0 + 23) 4).bind fun jv20 => (aw 11 σ19 jv20 jv15 lim).bind fun σ21 => (rd 9 σ21 (b0 + 23) 5).bind fun jv22 => (aw 11 σ21 jv22 jv15 fi).bind fun σ23 => F_X8_lake_L134 (b0 + 23) g jv15 fu 0 σ23) = some (n, S b0 σ ζ') ∧ (∀ d k, ¬ ((k = n ∧ ((24 ≤ d ∧ d ≤ 27) ∨ d = 29 ∨ d = 41 ∨ d = 42)) ∨ (d = 28 ∧ 31 * n ≤ k ∧ k ≤ 31 * n + g) ∨ (d = 23 ∧ (k = 1 ∨ k = 19))) → ζ' d k = ζ d k) ∧ (ζ' 24 n = le ∧ ζ' 25 n = g ∧ ζ' 26 n = lim ∧ ζ' 27 n = fi ∧ ζ' 29 n = 0 ∧ ζ' 41 n = 0 ∧ ζ' 42 n = 30 ∧ ζ' 23 1 = n + 1 ∧ ζ' 23 19 = 0) ∧ ∀ y, 0 ≤ y → y ≤ g → ζ' 28 (31 * n + y) = 1 := by
  obtain ⟨f', ζa, e1, e2, e3⟩ := mLake_loop (b0 := b0) (σ := σ) n0 n3 g0 g30 (g + 1).toNat fu 0 (xu (xu (xu (xu ζ 24 n le) 25 n g) 26 n lim) 27 n fi) (fuN (by omega)) (Int.le_refl _) (by omega)
  have a1 : ζa 23 1 = n := by rw [e2 23 1 (by omega), xu_nd (by omega), xu_nd (by omega), xu_nd (by omega), xu_nd (by omega)]; exact h1
  refine ⟨xu (xu (xu (xu (xu ζa 29 n 0) 41 n 0) 42 n 30) 23 1 (n + 1)) 23 19 0, ?_, fun d k q => ?_, ⟨?_, ?_, ?_, ?_, ?_, ?_, ?_, ?_, xu_s⟩, fun y y0 y1 => ?_⟩
  · refine ev rS_23_1 ?_
    rw [h1]
    refine ev rS_23_2 ?_
    refine ev (wS_24 n0 n3) ?_
    refine ev rS_23_3 ?_
    refine ev (wS_25 n0 n3) ?_
    refine ev rS_23_4 ?_
    refine ev (wS_26 n0 n3) ?_
    refine ev rS_23_5 ?_
    refine ev (wS_27 n0 n3) ?_
    rw [e1, F_X8_lake_L134]
    refine ev_bLe (by omega) (by omega) (by omega) (by omega) (fun q => by omega) (fun _ => ?_)
    refine ev rS_23_7 ?_
    refine ev (wS_29 n0 n3) ?_
    refine ev rS_23_24 ?_
    refine ev (wS_41 n0 n3) ?_
    refine ev rS_23_25 ?_
    refine ev (wS_42 n0 n3) ?_
    refine ev rS_23_1 ?_
    rw [xu_nd (by omega), xu_nd (by omega), xu_nd (by omega), a1]
    refine ev pS_23_1 ?_
    exact evd (iS_23.trans X8_forget) rfl
  · have x : ∀ (η : Int → Int → Int) (d' k' v : Int), ¬ (d = d' ∧ k = k') → xu η d' k' v d k = η d k := fun η d' k' v y => if_neg y
    rw [x _ _ _ _ (by omega), x _ _ _ _ (by omega), x _ _ _ _ (by omega), x _ _ _ _ (by omega), x _ _ _ _ (by omega), e2 d k (by omega), x _ _ _ _ (by omega), x _ _ _ _ (by omega), x _ _ _ _ (by omega), x _ _ _ _ (by omega)]
  · rw [xu_nd (by omega), xu_nd (by omega), xu_nd (by omega), xu_nd (by omega), xu_nd (by omega), e2 _ _ (by omega), xu_nd (by omega), xu_nd (by omega), xu_nd (by omega), xu_s]
  · rw [xu_nd (by omega), xu_nd (by omega), xu_nd (by omega), xu_nd (by omega), xu_nd (by omega), e2 _ _ (by omega), xu_nd (by omega), xu_nd (by omega), xu_s]
  · rw [xu_nd (by omega), xu_nd (by omega), xu_nd (by omega), xu_nd (by omega), xu_nd (by omega), e2 _ _ (by omega), xu_nd (by omega), xu_s]
  · rw [xu_nd (by omega), xu_nd (by omega), xu_nd (by omega), xu_nd (by omega), xu_nd (by omega), e2 _ _ (by omega), xu_s]
  · rw [xu_nd (by omega), xu_nd (by omega), xu_nd (by omega), xu_nd (by omega), xu_s]
  · rw [xu_nd (by omega), xu_nd (by omega), xu_nd (by omega), xu_s]
  · rw [xu_nd (by omega), xu_nd (by omega), xu_s]
  · rw [xu_ni (by omega), xu_s]
  · rw [xu_nd (by omega), xu_nd (by omega), xu_nd (by omega), xu_nd (by omega), xu_nd (by omega)]
    exact e3 y y0 y1
/-- states and strides with a lake more -/
theorem ZZ_add {n : Int} (hB : LB ξ) (hn : ξ 23 1 = n) (n0 : 0 ≤ n) (n3 : n < 3) (e : ∀ i, 0 ≤ i → i < 3 → ξ' 25 i = if i = n then g else ξ 25 i) : ZZ ξ' = ZZ ξ * (g + 1) ∧ ∀ i, 0 ≤ i → i < 3 → sd ξ' i = if i < n then sd ξ i * (g + 1) else sd ξ i := by
  have z : ∀ i, 0 ≤ i → i < 3 → n ≤ i → ξ 25 i = 0 := fun i a b c => hB.no a b (by omega)
  have e0 := e 0 (by omega) (by omega)
  have e1 := e 1 (by omega) (by omega)
  have e2 := e 2 (by omega) (by omega)
  have s0 : ∀ ξ : Int → Int → Int, sd ξ 0 = (ξ 25 1 + 1) * (ξ 25 2 + 1) := fun ξ => if_pos rfl
  have s1 : ∀ ξ : Int → Int → Int, sd ξ 1 = ξ 25 2 + 1 := fun ξ => rfl
  have s2 : ∀ ξ : Int → Int → Int, sd ξ 2 = 1 := fun ξ => rfl
  rcases (by omega : n = 0 ∨ n = 1 ∨ n = 2) with rfl | rfl | rfl
  · have z0 := z 0 (by omega) (by omega) (by omega)
    have z1 := z 1 (by omega) (by omega) (by omega)
    have z2 := z 2 (by omega) (by omega) (by omega)
    simp at e0 e1 e2
    refine ⟨?_, fun i a b => ?_⟩
    · unfold ZZ
      rw [e0, e1, e2, z0, z1, z2]
      omega
    · rcases (by omega : i = 0 ∨ i = 1 ∨ i = 2) with rfl | rfl | rfl
      · rw [s0, s0, e1, e2]; rfl
      · rw [s1, s1, e2]; rfl
      · rw [s2, s2]; rfl
  · have z1 := z 1 (by omega) (by omega) (by omega)
    have z2 := z 2 (by omega) (by omega) (by omega)
    simp at e0 e1 e2
    refine ⟨?_, fun i a b => ?_⟩
    · unfold ZZ
      rw [e0, e1, e2, z1, z2]
      simp
    · rcases (by omega : i = 0 ∨ i = 1 ∨ i = 2) with rfl | rfl | rfl
      · rw [s0, s0, e1, e2, z1, z2]; simp
      · rw [s1, s1, e2]; rfl
      · rw [s2, s2]; rfl
  · have z2 := z 2 (by omega) (by omega) (by omega)
    simp at e0 e1 e2
    refine ⟨?_, fun i a b => ?_⟩
    · unfold ZZ
      rw [e0, e1, e2, z2]
      simp
    · rcases (by omega : i = 0 ∨ i = 1 ∨ i = 2) with rfl | rfl | rfl
      · rw [s0, s0, e1, e2, z2]; simp
      · rw [s1, s1, e2, z2]; simp
      · rw [s2, s2]; rfl
end P7
