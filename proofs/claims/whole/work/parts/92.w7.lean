section W7
variable {b0 : Int} {σ : Hp} {ξ ζ η : Int → Int → Int} {i m s t L n : Int}
def WS (ξ ζ : Int → Int → Int) : Prop := Cf ξ ζ ∧ MB ζ ∧ TZ ζ ∧ Bo ζ 37 ∧ Bo ζ 38
def P1 (ξ ζ : Int → Int → Int) (n s : Int) : Prop := ζ 38 (1000 * n + s) = 1 → ζ 37 (1000 * n + s) ≠ 1 → ξ 33 n < ξ 23 8 - 1 → ∀ c, n < c → c < ξ 23 11 → ξ 31 c = n → ∀ L', bx ξ s L' → ζ 38 (1000 * c + flS ξ c s L') = 1
theorem P1.sp {n' : Int} (h : P1 ξ ζ n' s) (hs : SpR n ζ η) (h1 : n' ≤ n) (h2 : s < 1000) : P1 ξ η n' s := by
  intro a b w c c0 c1 hp L' hb
  rw [hs.2.1 _ (by omega)] at a
  rw [hs.1 37 _ (by unfold scrQ scr; omega)] at b
  exact hs.2.2.1 _ (h a b w c c0 c1 hp L' hb)
theorem WS.st (h : WS ξ ζ) (hB : LB ξ) : F_X8_states (b0 + 23) (S b0 σ ζ) = some (ZZ ξ, S b0 σ ζ) := by rw [X8_states (hB.cf h.1), ZZ_cf h.1]
theorem work_a {k2 : Int → Hp → Option (Int × Hp)} {fr : Int} (hB : LB ξ) (hT : TB ξ) (n0 : 0 ≤ n) (n1 : n < ξ 23 11) : ∀ (m f : Nat) (s : Int) (ζ : Int → Int → Int), m < f → 0 ≤ s → s + m = ZZ ξ → WS ξ ζ → (∀ s', 0 ≤ s' → s' < s → P1 ξ ζ n s') → ∃ ζ', F_X8_work_L12 k2 (b0 + 23) fr n f s (S b0 σ ζ) = k2 (n + 1) (S b0 σ ζ') ∧ WS ξ ζ' ∧ SpR n ζ ζ' ∧ ∀ s', 0 ≤ s' → s' < ZZ ξ → P1 ξ ζ' n s' := by
  intro m
  have n81 := hT.2.2.1
  have hz := ZZ_le hB
  have wk := hT.week n0 n1
  have wk10 := hT.1
  induction m with
  | zero =>
    intro f s ζ hf s0 he hw hp
    obtain ⟨f, rfl⟩ : ∃ g, f = g + 1 := ⟨f - 1, by omega⟩
    refine ⟨ζ, ?_, hw, SpR.rf, fun s' a b => hp s' a (by omega)⟩
    rw [F_X8_work_L12]
    refine evd (iS_23.trans (hw.st hB)) ?_
    exact ev_bLt (by omega) (by omega) (by omega) (by omega) (fun hc => absurd hc (by omega)) (fun hc => rfl)
  | succ m ih =>
    intro f s ζ hf s0 he hw hp
    obtain ⟨f, rfl⟩ : ∃ g, f = g + 1 := ⟨f - 1, by omega⟩
    have h38 := hw.2.2.2.2 (1000 * n + s) (by omega) (by omega)
    have h37 := hw.2.2.2.1 (1000 * n + s) (by omega) (by omega)
    have e33 : ζ 33 = ξ 33 := hw.1.1 33 (by omega)
    have e8 : ζ 23 8 = ξ 23 8 := hw.1.2 8 (by omega)
    have nxt : ∀ ζ1, WS ξ ζ1 → SpR n ζ ζ1 → P1 ξ ζ1 n s → ∃ ζ', F_X8_work_L12 k2 (b0 + 23) fr n f (s + 1) (S b0 σ ζ1) = k2 (n + 1) (S b0 σ ζ') ∧ WS ξ ζ' ∧ SpR n ζ ζ' ∧ ∀ s', 0 ≤ s' → s' < ZZ ξ → P1 ξ ζ' n s' := by
      intro ζ1 hw1 hs1 hp1
      obtain ⟨ζ', r1, r2, r3, r4⟩ := ih f (s + 1) ζ1 (by omega) (by omega) (by omega) hw1 (fun s' a b => by
        by_cases e : s' = s
        · subst e; exact hp1
        · exact (hp s' a (by omega)).sp hs1 (Int.le_refl _) (by omega))
      exact ⟨ζ', r1, r2, hs1.trans r3, r4⟩
    have top : ∀ z, (ζ 38 (1000 * n + s) = 0 ∨ ζ 37 (1000 * n + s) = 1 ∨ ¬ ξ 33 n < ξ 23 8 - 1 → F_X8_work_L12 k2 (b0 + 23) fr n f (s + 1) (S b0 σ ζ) = z) → (¬ (ζ 38 (1000 * n + s) = 0 ∨ ζ 37 (1000 * n + s) = 1 ∨ ¬ ξ 33 n < ξ 23 8 - 1) → bd (iv 9 (S b0 σ ζ) (b0 + 23) (F_X8_spread (b0 + 23) n s (S b0 σ ζ))) (fun jv11 σ12 => F_X8_work_L12 k2 (b0 + 23) fr n f (s + 1) σ12) = z) → F_X8_work_L12 k2 (b0 + 23) fr n (f + 1) s (S b0 σ ζ) = z := by
      intro z z1 z2
      rw [F_X8_work_L12]
      refine evd (iS_23.trans (hw.st hB)) ?_
      refine ev_bLt (by omega) (by omega) (by omega) (by omega) (fun hc => ?_) (fun hc => absurd hc (by omega))
      refine ev rS_23_21 ?_
      refine ev (aS_38 (by omega) (by omega)) ?_
      refine ev_bEq (by omega) (by omega) (by omega) (by omega) (fun hc => z1 (Or.inl hc)) (fun hc => ?_)
      refine ev rS_23_20 ?_
      refine ev (aS_37 (by omega) (by omega)) ?_
      refine ev_bEq (by omega) (by omega) (by omega) (by omega) (fun hc => ?_) (fun hc => z1 (Or.inr (Or.inl (by omega))))
      refine ev rS_23_14 ?_
      refine ev (aS_33 (by omega) (by omega)) ?_
      refine ev rS_23_8 ?_
      rw [e33, e8]
      exact ev_bLt (by omega) (by omega) (by omega) (by omega) (fun hc => z2 (by omega)) (fun hc => z1 (Or.inr (Or.inr hc)))
    by_cases c : ζ 38 (1000 * n + s) = 0 ∨ ζ 37 (1000 * n + s) = 1 ∨ ¬ ξ 33 n < ξ 23 8 - 1
    · obtain ⟨ζ', r1, r2⟩ := nxt ζ hw SpR.rf (fun a b w => by exfalso; omega)
      exact ⟨ζ', top _ (fun _ => r1) (fun q => absurd c q), r2⟩
    · obtain ⟨ζ1, q1, q2, q3, q4, q5⟩ := X8_spread (b0 := b0) (σ := σ) hB hT n0 n1 s0 (by omega) hw.1 hw.2.1 hw.2.2.1
      obtain ⟨ζ', r1, r2⟩ := nxt ζ1 ⟨hw.1.trans (Cf_scrQ q2.1), q3, q4, fun j a b => by rw [q2.1 37 j (by unfold scrQ scr; omega)]; exact hw.2.2.2.1 j a b, q2.2.2.2 hw.2.2.2.2⟩ q2 (fun a b w => q5)
      exact ⟨ζ', top _ (fun q => absurd q c) (fun _ => evd (iS_23.trans q1) r1), r2⟩
theorem work_b {fr : Int} (hB : LB ξ) (hT : TB ξ) (r0 : 0 ≤ fr) : ∀ (m f : Nat) (n : Int) (ζ : Int → Int → Int), m < f → fr ≤ n → n + m = ξ 23 11 → WS ξ ζ → (∀ n' s', fr ≤ n' → n' < n → 0 ≤ s' → s' < ZZ ξ → P1 ξ ζ n' s') → ∃ ζ', F_X8_work_L2 (b0 + 23) fr f n (S b0 σ ζ) = F_X8_work_L90 (b0 + 23) fr fu (ξ 23 11 - 1) (S b0 σ ζ') ∧ WS ξ ζ' ∧ Ch scrQ ζ ζ' ∧ (∀ j, ζ 38 j = 1 → ζ' 38 j = 1) ∧ ∀ n' s', fr ≤ n' → n' < ξ 23 11 → 0 ≤ s' → s' < ZZ ξ → P1 ξ ζ' n' s' := by
  intro m
  have n81 := hT.2.2.1
  have hz := ZZ_le hB
  induction m with
  | zero =>
    intro f n ζ hf s0 he hw hp
    obtain ⟨f, rfl⟩ : ∃ g, f = g + 1 := ⟨f - 1, by omega⟩
    have e11 : ζ 23 11 = ξ 23 11 := hw.1.2 11 (by omega)
    refine ⟨ζ, ?_, hw, Ch.rf, fun _ h => h, fun n' s' a b => hp n' s' a (by omega)⟩
    rw [F_X8_work_L2]
    refine ev rS_23_11 ?_
    rw [e11]
    refine ev_bLt (by omega) (by omega) (by omega) (by omega) (fun hc => absurd hc (by omega)) (fun hc => ?_)
    refine ev rS_23_11 ?_
    rw [e11]
  | succ m ih =>
    intro f n ζ hf s0 he hw hp
    obtain ⟨f, rfl⟩ : ∃ g, f = g + 1 := ⟨f - 1, by omega⟩
    have e11 : ζ 23 11 = ξ 23 11 := hw.1.2 11 (by omega)
    obtain ⟨ζ1, q1, q2, q3, q4⟩ := work_a (b0 := b0) (σ := σ) (n := n) (k2 := F_X8_work_L2 (b0 + 23) fr f) (fr := fr) hB hT (by omega) (by omega) (ZZ ξ).toNat fu 0 ζ (fuN (by omega)) (Int.le_refl _) (by omega) hw (fun s' a b => by omega)
    obtain ⟨ζ', t1, t2, t3, t4, t5⟩ := ih f (n + 1) ζ1 (by omega) (by omega) (by omega) q2 (fun n' s' a b c d => by
      by_cases e : n' = n
      · subst e; exact q4 s' c d
      · exact (hp n' s' a (by omega) c d).sp q3 (by omega) (by omega))
    refine ⟨ζ', ?_, t2, q3.1.trans t3, fun j h => t4 j (q3.2.2.1 j h), t5⟩
    rw [F_X8_work_L2]
    refine ev rS_23_11 ?_
    rw [e11]
    refine ev_bLt (by omega) (by omega) (by omega) (by omega) (fun hc => ?_) (fun hc => absurd hc (by omega))
    rw [q1, t1]
def MM (ξ ζ : Int → Int → Int) : Prop := ∀ n s, 0 ≤ n → n < ξ 23 11 → 0 ≤ s → s < ZZ ξ → ζ 37 (1000 * n + s) = 1 → KW ξ ζ n s
def scrR (d k : Int) : Prop := scr d k ∨ d = 37 ∨ d = 39 ∨ d = 40
/-- what the second half of the work keeps -/
def W2 (ξ : Int → Int → Int) (fr : Int) (ζ : Int → Int → Int) : Prop := WS ξ ζ ∧ MM ξ ζ ∧ ∀ n' s', fr ≤ n' → n' < ξ 23 11 → 0 ≤ s' → s' < ZZ ξ → P1 ξ ζ n' s'
def W2R (ζ η : Int → Int → Int) : Prop := Ch scrR ζ η ∧ ∀ j, ζ 37 j = 1 → η 37 j = 1
theorem W2R.rf : W2R ζ ζ := ⟨Ch.rf, fun _ h => h⟩
theorem W2R.trans {θ : Int → Int → Int} (h : W2R ζ η) (h2 : W2R η θ) : W2R ζ θ := ⟨h.1.trans h2.1, fun j q => h2.2 j (h.2 j q)⟩
theorem Cf_scrR (h : Ch scrR ξ ζ) : Cf ξ ζ := Cf_ch (fun d k q => by unfold scrR scr at q; omega) h
theorem W2_step {fr : Int} (hB : LB ξ) (hT : TB ξ) (hW : WH ξ) (r0 : 0 ≤ fr) (n0 : fr ≤ n) (n1 : n < ξ 23 11) (s0 : 0 ≤ s) (s1 : s < ZZ ξ) (h : W2 ξ fr ζ) (ha : ζ 38 (1000 * n + s) = 1) (hk : ζ 37 (1000 * n + s) = 0) (hd : ∀ n' s', n < n' → n' < ξ 23 11 → 0 ≤ s' → s' < ZZ ξ → ζ 38 (1000 * n' + s') = 1 → ζ 37 (1000 * n' + s') = 1) : ∃ ζ', F_X8_settle (b0 + 23) n s (S b0 σ ζ) = some (0, S b0 σ ζ') ∧ W2 ξ fr ζ' ∧ W2R ζ ζ' ∧ ζ' 37 (1000 * n + s) = 1 := by
  obtain ⟨hw, hm, hp⟩ := h
  have hz := ZZ_le hB
  have n81 := hT.2.2.1
  obtain ⟨ζ', r1, r2, r3, r4, r5, r6⟩ := X8_settle (b0 := b0) (σ := σ) (n := n) (s := s) hB hT hW (by omega) n1 s0 s1 hw.1 hw.2.1 hw.2.2.1 (fun c c0 c1 hc L' hb => by
    have h6 := hT.2.2.2.2.2.1 c (by omega) c1
    rw [hc] at h6
    have q := hp n s n0 n1 s0 s1 ha (by omega) (by omega) c c0 c1 hc L' hb
    have hfl := flS_bd (c := c) hB hT (by omega) (by omega) hb
    exact hm c _ (by omega) c1 hfl.1 hfl.2 (hd c _ c0 c1 hfl.1 hfl.2 q))
  have o : ∀ d k, (d = 37 ∨ d = 39 ∨ d = 40) → k ≠ 1000 * n + s → ζ' d k = ζ d k := fun d k hd hk => r2 d k (by unfold scrB scr; omega)
  have o38 : ∀ k, ζ' 38 k = ζ 38 k := fun k => r2 38 k (by unfold scrB scr; omega)
  have mono : ∀ j, ζ 37 j = 1 → ζ' 37 j = 1 := by
    intro j hj
    by_cases e : j = 1000 * n + s
    · subst e; exact r3
    · rw [o 37 j (by omega) e]; exact hj
  refine ⟨ζ', r1, ⟨⟨hw.1.trans (Cf_scrB r2), r5, r6, fun j a b => ?_, fun j a b => by rw [o38]; exact hw.2.2.2.2 j a b⟩, ?_, ?_⟩, ⟨r2.mono (fun d k q => by unfold scrB scr at q; unfold scrR scr; omega), mono⟩, r3⟩
  · by_cases e : j = 1000 * n + s
    · subst e; exact Or.inr r3
    · rw [o 37 j (by omega) e]; exact hw.2.2.2.1 j a b
  · intro n' s' a b c d h37
    by_cases e : n' = n ∧ s' = s
    · obtain ⟨rfl, rfl⟩ := e; exact r4
    · rw [o 37 _ (by omega) (by omega)] at h37
      exact (hm n' s' a b c d h37).congr (o 39 _ (by omega) (by omega)) (o 40 _ (by omega) (by omega))
  · intro n' s' a b c d p q w c' c0 c1 hc L' hb
    rw [o38] at p ⊢
    exact hp n' s' a b c d p (fun q' => q (mono _ q')) w c' c0 c1 hc L' hb
theorem work_c {k90 : Int → Hp → Option (Int × Hp)} {fr : Int} (hB : LB ξ) (hT : TB ξ) (hW : WH ξ) (r0 : 0 ≤ fr) (n0 : fr ≤ n) (n1 : n < ξ 23 11) : ∀ (m f : Nat) (s : Int) (ζ : Int → Int → Int), m < f → 0 ≤ s → s + m = ZZ ξ → W2 ξ fr ζ → (∀ n' s', (n < n' ∨ (n' = n ∧ s' < s)) → n' < ξ 23 11 → 0 ≤ s' → s' < ZZ ξ → ζ 38 (1000 * n' + s') = 1 → ζ 37 (1000 * n' + s') = 1) → ∃ ζ', F_X8_work_L97 k90 (b0 + 23) fr n f s (S b0 σ ζ) = k90 (n + (-1)) (S b0 σ ζ') ∧ W2 ξ fr ζ' ∧ W2R ζ ζ' ∧ ∀ n' s', n ≤ n' → n' < ξ 23 11 → 0 ≤ s' → s' < ZZ ξ → ζ' 38 (1000 * n' + s') = 1 → ζ' 37 (1000 * n' + s') = 1 := by
  intro m
  have n81 := hT.2.2.1
  have hz := ZZ_le hB
  induction m with
  | zero =>
    intro f s ζ hf s0 he hw hp
    obtain ⟨f, rfl⟩ : ∃ g, f = g + 1 := ⟨f - 1, by omega⟩
    refine ⟨ζ, ?_, hw, W2R.rf, fun n' s' a b c d => hp n' s' (by omega) b c d⟩
    rw [F_X8_work_L97]
    refine evd (iS_23.trans (hw.1.st hB)) ?_
    exact ev_bLt (by omega) (by omega) (by omega) (by omega) (fun hc => absurd hc (by omega)) (fun hc => rfl)
  | succ m ih =>
    intro f s ζ hf s0 he hw hp
    obtain ⟨f, rfl⟩ : ∃ g, f = g + 1 := ⟨f - 1, by omega⟩
    have h38 := hw.1.2.2.2.2 (1000 * n + s) (by omega) (by omega)
    have h37 := hw.1.2.2.2.1 (1000 * n + s) (by omega) (by omega)
    have nxt : ∀ ζ1, W2 ξ fr ζ1 → W2R ζ ζ1 → (ζ1 38 (1000 * n + s) = 1 → ζ1 37 (1000 * n + s) = 1) → ∃ ζ', F_X8_work_L97 k90 (b0 + 23) fr n f (s + 1) (S b0 σ ζ1) = k90 (n + (-1)) (S b0 σ ζ') ∧ W2 ξ fr ζ' ∧ W2R ζ ζ' ∧ ∀ n' s', n ≤ n' → n' < ξ 23 11 → 0 ≤ s' → s' < ZZ ξ → ζ' 38 (1000 * n' + s') = 1 → ζ' 37 (1000 * n' + s') = 1 := by
      intro ζ1 hw1 hs1 hp1
      obtain ⟨ζ', r1, r2, r3, r4⟩ := ih f (s + 1) ζ1 (by omega) (by omega) (by omega) hw1 (fun n' s' q a b c p => by
        by_cases e : n' = n ∧ s' = s
        · obtain ⟨rfl, rfl⟩ := e; exact hp1 p
        · rw [hs1.1 38 _ (by unfold scrR scr; omega)] at p
          exact hs1.2 _ (hp n' s' (by omega) a b c p))
      exact ⟨ζ', r1, r2, hs1.trans r3, r4⟩
    have top : ∀ z, (¬ (ζ 38 (1000 * n + s) = 1 ∧ ζ 37 (1000 * n + s) = 0) → F_X8_work_L97 k90 (b0 + 23) fr n f (s + 1) (S b0 σ ζ) = z) → (ζ 38 (1000 * n + s) = 1 ∧ ζ 37 (1000 * n + s) = 0 → bd (iv 9 (S b0 σ ζ) (b0 + 23) (F_X8_settle (b0 + 23) n s (S b0 σ ζ))) (fun jv11 σ12 => F_X8_work_L97 k90 (b0 + 23) fr n f (s + 1) σ12) = z) → F_X8_work_L97 k90 (b0 + 23) fr n (f + 1) s (S b0 σ ζ) = z := by
      intro z z1 z2
      rw [F_X8_work_L97]
      refine evd (iS_23.trans (hw.1.st hB)) ?_
      refine ev_bLt (by omega) (by omega) (by omega) (by omega) (fun hc => ?_) (fun hc => absurd hc (by omega))
      refine ev rS_23_21 ?_
      refine ev (aS_38 (by omega) (by omega)) ?_
      refine ev_bEq (by omega) (by omega) (by omega) (by omega) (fun hc => z1 (by omega)) (fun hc => ?_)
      refine ev rS_23_20 ?_
      refine ev (aS_37 (by omega) (by omega)) ?_
      exact ev_bEq (by omega) (by omega) (by omega) (by omega) (fun hc => z2 (by omega)) (fun hc => z1 (by omega))
    by_cases c : ζ 38 (1000 * n + s) = 1 ∧ ζ 37 (1000 * n + s) = 0
    · obtain ⟨ζ1, q1, q2, q3, q4⟩ := W2_step (b0 := b0) (σ := σ) hB hT hW r0 n0 n1 s0 (by omega) hw c.1 c.2 (fun n' s' a => hp n' s' (Or.inl a))
      obtain ⟨ζ', r1, r2⟩ := nxt ζ1 q2 q3 (fun _ => q4)
      exact ⟨ζ', top _ (fun q => absurd c q) (fun _ => evd (iS_23.trans q1) r1), r2⟩
    · obtain ⟨ζ', r1, r2⟩ := nxt ζ hw W2R.rf (fun a => by omega)
      exact ⟨ζ', top _ (fun _ => r1) (fun q => absurd q c), r2⟩
theorem work_d {fr : Int} (hB : LB ξ) (hT : TB ξ) (hW : WH ξ) (r0 : 0 ≤ fr) (r1 : fr < ξ 23 11) : ∀ (m f : Nat) (n : Int) (ζ : Int → Int → Int), m < f → n < ξ 23 11 → n + 1 = fr + m → W2 ξ fr ζ → (∀ n' s', n < n' → n' < ξ 23 11 → 0 ≤ s' → s' < ZZ ξ → ζ 38 (1000 * n' + s') = 1 → ζ 37 (1000 * n' + s') = 1) → ∃ ζ', F_X8_work_L90 (b0 + 23) fr f n (S b0 σ ζ) = some (0, S b0 σ ζ') ∧ W2 ξ fr ζ' ∧ W2R ζ ζ' ∧ ∀ n' s', fr ≤ n' → n' < ξ 23 11 → 0 ≤ s' → s' < ZZ ξ → ζ' 38 (1000 * n' + s') = 1 → ζ' 37 (1000 * n' + s') = 1 := by
  intro m
  have n81 := hT.2.2.1
  have hz := ZZ_le hB
  induction m with
  | zero =>
    intro f n ζ hf s0 he hw hp
    obtain ⟨f, rfl⟩ : ∃ g, f = g + 1 := ⟨f - 1, by omega⟩
    refine ⟨ζ, ?_, hw, W2R.rf, fun n' s' a => hp n' s' (by omega)⟩
    rw [F_X8_work_L90]
    exact ev_bLt (by omega) (by omega) (by omega) (by omega) (fun hc => rfl) (fun hc => absurd hc (by omega))
  | succ m ih =>
    intro f n ζ hf s0 he hw hp
    obtain ⟨f, rfl⟩ : ∃ g, f = g + 1 := ⟨f - 1, by omega⟩
    obtain ⟨ζ1, q1, q2, q3, q4⟩ := work_c (b0 := b0) (σ := σ) (n := n) (k90 := F_X8_work_L90 (b0 + 23) fr f) (fr := fr) hB hT hW r0 (by omega) (by omega) (ZZ ξ).toNat fu 0 ζ (fuN (by omega)) (Int.le_refl _) (by omega) hw (fun n' s' a b c d => hp n' s' (by omega) b c d)
    obtain ⟨ζ', t1, t2, t3, t4⟩ := ih f (n + (-1)) ζ1 (by omega) (by omega) (by omega) q2 (fun n' s' a => q4 n' s' (by omega))
    refine ⟨ζ', ?_, t2, q3.trans t3, t4⟩
    rw [F_X8_work_L90]
    refine ev_bLt (by omega) (by omega) (by omega) (by omega) (fun hc => absurd hc (by omega)) (fun hc => ?_)
    rw [q1, t1]
def scrW (d k : Int) : Prop := scr d k ∨ (37 ≤ d ∧ d ≤ 40)
theorem Cf_scrW (h : Ch scrW ξ ζ) : Cf ξ ζ := Cf_ch (fun d k q => by unfold scrW scr at q; omega) h
theorem X8_work {fr : Int} (hB : LB ξ) (hT : TB ξ) (hW : WH ξ) (r0 : 0 ≤ fr) (r1 : fr < ξ 23 11) (hw : WS ξ ζ) (hm : MM ξ ζ) : ∃ ζ', F_X8_work (b0 + 23) fr (S b0 σ ζ) = some (0, S b0 σ ζ') ∧ WS ξ ζ' ∧ MM ξ ζ' ∧ Ch scrW ζ ζ' ∧ ∀ n s, fr ≤ n → n < ξ 23 11 → 0 ≤ s → s < ZZ ξ → ζ 38 (1000 * n + s) = 1 → KW ξ ζ' n s := by
  have n81 := hT.2.2.1
  obtain ⟨ζ1, q1, q2, q3, q4, q5⟩ := work_b (b0 := b0) (σ := σ) hB hT r0 (ξ 23 11 - fr).toNat fu fr ζ (fuN (by omega)) (Int.le_refl _) (by omega) hw (fun n' s' a b => by omega)
  have hm1 : MM ξ ζ1 := fun n s a b c d h37 => by
    rw [q3 37 _ (by unfold scrQ scr; omega)] at h37
    exact (hm n s a b c d h37).congr (q3 39 _ (by unfold scrQ scr; omega)) (q3 40 _ (by unfold scrQ scr; omega))
  obtain ⟨ζ', t1, t2, t3, t4⟩ := work_d (b0 := b0) (σ := σ) hB hT hW r0 r1 (ξ 23 11 - fr).toNat fu (ξ 23 11 - 1) ζ1 (fuN (by omega)) (by omega) (by omega) ⟨q2, hm1, q5⟩ (fun n' s' a b => by omega)
  refine ⟨ζ', ?_, t2.1, t2.2.1, (q3.mono (fun d k q => by unfold scrQ scr at q; unfold scrW scr; omega)).trans (t3.1.mono (fun d k q => by unfold scrR scr at q; unfold scrW scr; omega)), fun n s a b c d h => ?_⟩
  · rw [F_X8_work, q1, t1]
  · exact t2.2.1 n s (by omega) b c d (t4 n s a b c d (by rw [t3.1 38 _ (by unfold scrR scr; omega)]; exact q4 _ h))
end W7
