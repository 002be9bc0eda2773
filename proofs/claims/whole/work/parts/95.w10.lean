theorem cmpL_lt {γ : Type} {a b : Int} {T E z : Option γ} (kT : a < b → T = z) (kE : ¬ a < b → E = z) : bLt (cmpL a b) 0 T E = z := by
  unfold cmpL
  by_cases h : a > b
  · rw [if_pos h]; exact ev_bLt (by omega) (by omega) (by omega) (by omega) (fun hc => absurd hc (by omega)) (fun _ => kE (by omega))
  · rw [if_neg h]
    by_cases e : a = b
    · rw [if_pos e]; exact ev_bLt (by omega) (by omega) (by omega) (by omega) (fun hc => absurd hc (by omega)) (fun _ => kE (by omega))
    · rw [if_neg e]; exact ev_bLt (by omega) (by omega) (by omega) (by omega) (fun _ => kT (by omega)) (fun hc => absurd hc (by omega))
section W10
variable {b0 : Int} {σ : Hp} {ξ ζ η : Int → Int → Int} {i m s t L n l v : Int}
def okW (ξ : Int → Int → Int) (n s l : Int) : Prop := okNS ξ n s ∧ (0 ≤ l ∧ l ≤ ξ 23 1 - 1) ∧ ¬ ms ξ s l = ξ 25 l ∧ WH ξ
def A_water (ξ : Int → Int → Int) (n s l r : Int) : Prop := (okW ξ n s l → r = VV ξ (lft ξ n) n (s + sd ξ l) - VV ξ (lft ξ n) n s) ∧ (¬ okW ξ n s l → r = -9000000000000000000)
theorem Y8_water (hB : LB ξ) (hT : TB ξ) (hK : MK ξ ζ) (hn : R3 n) (hs : R3 s) (hl : R3 l) : ∃ r ζ', F_X8_water (b0 + 23) n s l (S b0 σ ζ) = some (r, S b0 σ ζ') ∧ A_water ξ n s l r ∧ MK ξ ζ' ∧ Ch scrP ζ ζ' := by
  have n81 := hT.2.2.1
  have nl := hB.1
  have hz := ZZ_le hB
  have hKu : MK ξ (unf ζ s) := MK_unf hB hK
  have hcu : Ch scrP ζ (unf ζ s) := Ch_unf (fun _ => Or.inl (Or.inr (Or.inl rfl))) Ch.rf
  have hm := ms_bd (s := s) (i := l) hB
  have hg := hB.gr (l := l)
  have pre : ∀ z, (¬ (okNS ξ n s ∧ (0 ≤ l ∧ l ≤ ξ 23 1 - 1)) → some (-9000000000000000000, S b0 σ ζ) = z) → (okNS ξ n s ∧ (0 ≤ l ∧ l ≤ ξ 23 1 - 1) → ¬ okW ξ n s l → some (-9000000000000000000, S b0 σ (unf ζ s)) = z) → (okW ξ n s l → bd (iv 9 (S b0 σ (unf ζ s)) (b0 + 23) (F_X8_unit (b0 + 23) l (S b0 σ (unf ζ s)))) (fun jv15 σ16 => bd (iv 9 σ16 (b0 + 23) (F_X8_worthOf (b0 + 23) n (s + jv15) σ16)) fun jv17 σ18 => bd (iv 9 σ18 (b0 + 23) (F_X8_worthOf (b0 + 23) n s σ18)) fun jv19 σ20 => some ((jv17 - jv19), σ20)) = z) → F_X8_water (b0 + 23) n s l (S b0 σ ζ) = z := by
    intro z z1 z2 z3
    rw [F_X8_water]
    refine evd (iS_23.trans (K_isNode hT hK.1.1 hn)) (ev_if (fun h => z1 (fun q => h q.1.1)) (fun h1 => ?_))
    refine evd (iS_23.trans (K_isState hB hK.1.1 hs)) (ev_if (fun h => z1 (fun q => h q.1.2)) (fun h2 => ?_))
    refine evd (iS_23.trans (K_isLake hB hK.1.1 hl)) (ev_if (fun h => z1 (fun q => h q.2)) (fun h3 => ?_))
    have hm := hm (by omega) (by omega)
    have hg := hg (by omega) (by omega)
    refine evd (iS_23.trans (X8_unfold (hB.cf hK.1.1) h2.1 (by omega))) ?_
    refine ev rS_23_16 ?_
    refine ev (aS_35 (by omega) (by omega)) ?_
    refine ev rS_23_3 ?_
    refine ev (aS_25 (by omega) (by omega)) ?_
    rw [unf_m (hB.cf hK.1.1) hK.1.2.1 (by omega) (by omega), ms_cf hK.1.1, hKu.1.1.1 25 (by omega)]
    refine ev_bEq (by omega) (by omega) (by omega) (by omega) (fun h => z2 ⟨⟨h1, h2⟩, h3⟩ (fun q => q.2.2.1 h)) (fun h4 => ?_)
    exact evd (iS_23.trans (K_isWhole hB hT hKu.1.1)) (ev_if (fun h => z2 ⟨⟨h1, h2⟩, h3⟩ (fun q => h q.2.2.2)) (fun h5 => z3 ⟨⟨h1, h2⟩, h3, h4, h5⟩))
  by_cases ok : okNS ξ n s ∧ (0 ≤ l ∧ l ≤ ξ 23 1 - 1)
  · by_cases okw : okW ξ n s l
    · obtain ⟨o1, o2⟩ := ok
      obtain ⟨⟨a1, a2⟩, ⟨a3, a4⟩⟩ := o1
      have hm := hm (by omega) (by omega)
      have ss := sd_st (l := l) hB a3 (by omega) (by omega) (by omega) (by have := okw.2.2.1; omega)
      obtain ⟨ζ1, q1, q2, q3, q4⟩ := X8_worthOf (b0 := b0) (σ := σ) (n := n) (s := s + sd ξ l) hB hT okw.2.2.2 a1 (by omega) ss.1 ss.2 hKu
      obtain ⟨ζ2, t1, t2, t3, t4⟩ := X8_worthOf (b0 := b0) (σ := σ) (n := n) (s := s) hB hT okw.2.2.2 a1 (by omega) a3 (by omega) q2
      refine ⟨_, ζ2, pre _ (fun h => absurd ⟨⟨⟨a1, a2⟩, ⟨a3, a4⟩⟩, o2⟩ h) (fun _ h => absurd okw h) (fun _ => ?_), ⟨fun _ => rfl, fun h => absurd okw h⟩, t2, hcu.trans (q3.trans t3)⟩
      have hu := X8_unit (b0 := b0) (σ := σ) (l := l) (hB.cf hKu.1.1) (by omega) (by rw [hKu.1.1.2 1 (by omega)]; omega)
      rw [sd_cf hKu.1.1] at hu
      refine evd (iS_23.trans hu) ?_
      refine evd (iS_23.trans q1) ?_
      exact evd (iS_23.trans t1) rfl
    · exact ⟨_, _, pre _ (fun h => absurd ok h) (fun _ _ => rfl) (fun h => absurd h okw), ⟨fun h => absurd h okw, fun _ => rfl⟩, hKu, hcu⟩
  · exact ⟨_, ζ, pre _ (fun _ => rfl) (fun h => absurd h ok) (fun h => absurd ⟨h.1, h.2.1⟩ ok), ⟨fun h => absurd ⟨h.1, h.2.1⟩ ok, fun _ => rfl⟩, hK, Ch.rf⟩
def sm (ξ : Int → Int → Int) (s : Int) : Int := ms ξ s 0 + ms ξ s 1 + ms ξ s 2
theorem sm_bd (hB : LB ξ) : 0 ≤ sm ξ s ∧ sm ξ s ≤ 90 := by
  have m0 := ms_bd (s := s) (i := 0) hB (by omega) (by omega)
  have m1 := ms_bd (s := s) (i := 1) hB (by omega) (by omega)
  have m2 := ms_bd (s := s) (i := 2) hB (by omega) (by omega)
  have g0 := hB.gr (l := 0) (by omega) (by omega)
  have g1 := hB.gr (l := 1) (by omega) (by omega)
  have g2 := hB.gr (l := 2) (by omega) (by omega)
  unfold sm
  omega
theorem needs_sum {k71 : Int → Int → Int → Hp → Option (Int × Hp)} {be fe : Int} {z : Option (Int × Hp)} (hB : LB ξ) (h : Cf ξ ζ) (hm : ∀ l, 0 ≤ l → l < 3 → ζ 35 l = ms ξ s l) (hbe : -6 ≤ be ∧ be < 100000) (hfe : 0 ≤ fe ∧ fe < 100000) (z1 : be < 0 ∨ sm ξ s < fe → F_X8_needs_B155 k71 (b0 + 23) n v s (sm ξ s) (S b0 σ ζ) = z) (z2 : ¬ (be < 0 ∨ sm ξ s < fe) → F_X8_needs_B163 k71 (b0 + 23) n v be fe s (S b0 σ ζ) = z) : F_X8_needs_L113 k71 (b0 + 23) n v be fe s fu 0 0 (S b0 σ ζ) = z := by
  have nl := hB.1
  obtain ⟨k, hk⟩ := fu4
  rw [hk]
  have e1 : ζ 23 1 = ξ 23 1 := h.2 1 (by omega)
  have z0' := ms_no (s := s) (i := 0) hB (by omega) (by omega)
  have z1' := ms_no (s := s) (i := 1) hB (by omega) (by omega)
  have z2' := ms_no (s := s) (i := 2) hB (by omega) (by omega)
  have b := sm_bd (s := s) hB
  have st : ∀ (f : Nat) (u j : Int), 0 ≤ j → j < 3 → j < ξ 23 1 → F_X8_needs_L113 k71 (b0 + 23) n v be fe s (f + 1) u j (S b0 σ ζ) = F_X8_needs_L113 k71 (b0 + 23) n v be fe s f (u + ms ξ s j) (j + 1) (S b0 σ ζ) := by
    intro f u j j0 j3 jl
    rw [F_X8_needs_L113]
    refine ev rS_23_1 ?_
    rw [e1]
    refine ev_bLt (by omega) (by omega) (by omega) (by omega) (fun hc => ?_) (fun hc => absurd jl hc)
    refine ev rS_23_16 ?_
    refine ev (aS_35 (by omega) (by omega)) ?_
    rw [hm j j0 j3]
  have en : ∀ (f : Nat) (u j : Int), 0 ≤ j → j ≤ 3 → ξ 23 1 ≤ j → u = sm ξ s → F_X8_needs_L113 k71 (b0 + 23) n v be fe s (f + 1) u j (S b0 σ ζ) = z := by
    intro f u j j0 j3 jl hu
    subst hu
    rw [F_X8_needs_L113]
    refine ev rS_23_1 ?_
    rw [e1]
    refine ev_bLt (by omega) (by omega) (by omega) (by omega) (fun hc => absurd hc (by omega)) (fun hc => ?_)
    refine ev_bLt (by omega) (by omega) (by omega) (by omega) (fun hc => z1 (Or.inl hc)) (fun hc => ?_)
    exact ev_bLt (by omega) (by omega) (by omega) (by omega) (fun hc' => z1 (Or.inr hc')) (fun hc' => z2 (by omega))
  have hu : sm ξ s = ms ξ s 0 + ms ξ s 1 + ms ξ s 2 := rfl
  rcases (show ξ 23 1 = 0 ∨ ξ 23 1 = 1 ∨ ξ 23 1 = 2 ∨ ξ 23 1 = 3 by omega) with h | h | h | h
  · rw [en _ _ _ (by omega) (by omega) (by omega) (by omega)]
  · rw [st _ _ _ (by omega) (by omega) (by omega), en _ _ _ (by omega) (by omega) (by omega) (by omega)]
  · rw [st _ _ _ (by omega) (by omega) (by omega), st _ _ _ (by omega) (by omega) (by omega), en _ _ _ (by omega) (by omega) (by omega) (by simp only [Int.zero_add]; omega)]
  · rw [st _ _ _ (by omega) (by omega) (by omega), st _ _ _ (by omega) (by omega) (by omega), st _ _ _ (by omega) (by omega) (by omega), en _ _ _ (by omega) (by omega) (by omega) (by simp only [Int.zero_add, Int.reduceAdd]; omega)]
/-- the best of the states gone through -/
def NP (ξ : Int → Int → Int) (n v s r : Int) : Prop := (r = -6 ∧ ∀ s', 0 ≤ s' → s' < s → VV ξ (lft ξ n) n s' < v) ∨ ((0 ≤ r ∧ r < s) ∧ v ≤ VV ξ (lft ξ n) n r ∧ ∀ s', 0 ≤ s' → s' < s → v ≤ VV ξ (lft ξ n) n s' → sm ξ r ≤ sm ξ s' ∧ (s' < r → sm ξ r < sm ξ s'))
theorem NP.uniq {r r' : Int} (h : NP ξ n v s r) (h' : NP ξ n v s r') : r = r' := by
  rcases h with ⟨h1, h2⟩ | ⟨h1, h2, h3⟩
  · rcases h' with ⟨g1, g2⟩ | ⟨g1, g2, g3⟩
    · omega
    · have := h2 r' g1.1 g1.2; omega
  · rcases h' with ⟨g1, g2⟩ | ⟨g1, g2, g3⟩
    · have := g2 r h1.1 h1.2; omega
    · have a := h3 r' g1.1 g1.2 g2
      have b := g3 r h1.1 h1.2 h2
      rcases Int.lt_trichotomy r r' with q | q | q
      · have := b.2 q; omega
      · exact q
      · have := a.2 q; omega
theorem NP.step {r few : Int} (hfe : 0 ≤ r → few = sm ξ r) (h : NP ξ n v s r) (s0 : 0 ≤ s) : (VV ξ (lft ξ n) n s < v → NP ξ n v (s + 1) r) ∧ (¬ VV ξ (lft ξ n) n s < v → (r < 0 ∨ sm ξ s < few → NP ξ n v (s + 1) s) ∧ (¬ (r < 0 ∨ sm ξ s < few) → NP ξ n v (s + 1) r)) := by
  refine ⟨fun hv => ?_, fun hv => ⟨fun hc => ?_, fun hc => ?_⟩⟩
  · rcases h with ⟨h1, h2⟩ | ⟨h1, h2, h3⟩
    · refine Or.inl ⟨h1, fun s' a b => ?_⟩
      by_cases e : s' = s
      · subst e; exact hv
      · exact h2 s' a (by omega)
    · refine Or.inr ⟨by omega, h2, fun s' a b c => ?_⟩
      by_cases e : s' = s
      · subst e; omega
      · exact h3 s' a (by omega) c
  · refine Or.inr ⟨by omega, by omega, fun s' a b c => ?_⟩
    by_cases e : s' = s
    · subst e; exact ⟨Int.le_refl _, fun q => absurd q (by omega)⟩
    · rcases h with ⟨h1, h2⟩ | ⟨h1, h2, h3⟩
      · have := h2 s' a (by omega); omega
      · have := h3 s' a (by omega) c
        have := hfe h1.1
        exact ⟨by omega, fun _ => by omega⟩
  · rcases h with ⟨h1, h2⟩ | ⟨h1, h2, h3⟩
    · omega
    · have := hfe h1.1
      refine Or.inr ⟨by omega, h2, fun s' a b c => ?_⟩
      by_cases e : s' = s
      · subst e; exact ⟨by omega, fun q => absurd q (by omega)⟩
      · exact h3 s' a (by omega) c
theorem needs_loop (hB : LB ξ) (hT : TB ξ) (hW : WH ξ) (n0 : 0 ≤ n) (n1 : n < ξ 23 11) (hv : R6 v) : ∀ (m f : Nat) (be fe s : Int) (ζ : Int → Int → Int), m < f → 0 ≤ s → s + m = ZZ ξ → MK ξ ζ → (∀ s', 0 ≤ s' → s' < ZZ ξ → ζ 39 (1000 * n + s') = VV ξ (lft ξ n) n s') → NP ξ n v s be → (0 ≤ fe ∧ fe < 100000) → (0 ≤ be → fe = sm ξ be) → ∃ r ζ', F_X8_needs_L71 (b0 + 23) n v f be fe s (S b0 σ ζ) = some (r, S b0 σ ζ') ∧ NP ξ n v (ZZ ξ) r ∧ MK ξ ζ' ∧ Ch scrP ζ ζ' := by
  intro m
  have n81 := hT.2.2.1
  have hz := ZZ_le hB
  induction m with
  | zero =>
    intro f be fe s ζ hf s0 he hK h39 hp hfe hbf
    obtain ⟨f, rfl⟩ : ∃ g, f = g + 1 := ⟨f - 1, by omega⟩
    have e : s = ZZ ξ := by omega
    subst e
    refine ⟨be, ζ, ?_, hp, hK, Ch.rf⟩
    rw [F_X8_needs_L71]
    refine evd (iS_23.trans (hK.1.st hB)) ?_
    exact ev_bLt (by omega) (by omega) (by omega) (by omega) (fun hc => absurd hc (by omega)) (fun hc => rfl)
  | succ m ih =>
    intro f be fe s ζ hf s0 he hK h39 hp hfe hbf
    obtain ⟨f, rfl⟩ : ∃ g, f = g + 1 := ⟨f - 1, by omega⟩
    have hvb := VV_bd hB hT hW (lft ξ n) n s n0 n1 rfl
    have hb1 := BD_mono (lft_le hT n0 n1)
    have hb2 := BD_10
    have st := hp.step hbf s0
    have hKu : MK ξ (unf ζ s) := MK_unf hB hK
    have hcu : Ch scrP ζ (unf ζ s) := Ch_unf (fun _ => Or.inl (Or.inr (Or.inl rfl))) Ch.rf
    have hbe : -6 ≤ be ∧ be < 100000 := by rcases hp with h | h <;> omega
    have hsm := sm_bd (s := s) hB
    have top : ∀ z, (VV ξ (lft ξ n) n s < v → F_X8_needs_L71 (b0 + 23) n v f be fe (s + 1) (S b0 σ ζ) = z) → (¬ VV ξ (lft ξ n) n s < v → (be < 0 ∨ sm ξ s < fe) → F_X8_needs_L71 (b0 + 23) n v f s (sm ξ s) (s + 1) (S b0 σ (unf ζ s)) = z) → (¬ VV ξ (lft ξ n) n s < v → ¬ (be < 0 ∨ sm ξ s < fe) → F_X8_needs_L71 (b0 + 23) n v f be fe (s + 1) (S b0 σ (unf ζ s)) = z) → F_X8_needs_L71 (b0 + 23) n v (f + 1) be fe s (S b0 σ ζ) = z := by
      intro z z1 z2 z3
      rw [F_X8_needs_L71]
      refine evd (iS_23.trans (hK.1.st hB)) ?_
      refine ev_bLt (by omega) (by omega) (by omega) (by omega) (fun hc => ?_) (fun hc => absurd hc (by omega))
      refine ev rS_23_22 ?_
      refine ev (aS_39 (by omega) (by omega)) ?_
      rw [h39 s s0 (by omega)]
      refine ev_g66 (by omega) (by omega) hv.1 hv.2 ?_
      refine cmpL_lt (fun hc => z1 hc) (fun hc => ?_)
      refine evd (iS_23.trans (X8_unfold (hB.cf hK.1.1) s0 (by omega))) ?_
      refine needs_sum hB hKu.1.1 (fun l a b => by rw [unf_m (hB.cf hK.1.1) hK.1.2.1 a b, ms_cf hK.1.1]) hbe hfe (fun q => ?_) (fun q => ?_)
      · exact z2 hc q
      · exact z3 hc q
    by_cases c : VV ξ (lft ξ n) n s < v
    · obtain ⟨r, ζ', r1, r2⟩ := ih f be fe (s + 1) ζ (by omega) (by omega) (by omega) hK h39 (st.1 c) hfe hbf
      exact ⟨r, ζ', top _ (fun _ => r1) (fun h => absurd c h) (fun h => absurd c h), r2⟩
    · have h39u : ∀ s', 0 ≤ s' → s' < ZZ ξ → unf ζ s 39 (1000 * n + s') = VV ξ (lft ξ n) n s' := fun s' a b => by rw [unf_d (by omega)]; exact h39 s' a b
      by_cases c2 : be < 0 ∨ sm ξ s < fe
      · obtain ⟨r, ζ', r1, r2, r3, r4⟩ := ih f s (sm ξ s) (s + 1) (unf ζ s) (by omega) (by omega) (by omega) hKu h39u ((st.2 c).1 c2) (by omega) (fun _ => rfl)
        exact ⟨r, ζ', top _ (fun h => absurd h c) (fun _ _ => r1) (fun _ h => absurd c2 h), r2, r3, hcu.trans r4⟩
      · obtain ⟨r, ζ', r1, r2, r3, r4⟩ := ih f be fe (s + 1) (unf ζ s) (by omega) (by omega) (by omega) hKu h39u ((st.2 c).2 c2) hfe hbf
        exact ⟨r, ζ', top _ (fun h => absurd h c) (fun _ h => absurd h c2) (fun _ _ => r1), r2, r3, hcu.trans r4⟩
theorem needs_mark (hB : LB ξ) (n0 : 0 ≤ n) (n1 : n < 81) : ∀ (m f : Nat) (s : Int) (ζ : Int → Int → Int), m < f → 0 ≤ s → s + m = ZZ ξ → WS ξ ζ → (∀ s', 0 ≤ s' → s' < s → ζ 38 (1000 * n + s') = 1) → ∃ ζ', F_X8_needs_L27 (b0 + 23) n v f s (S b0 σ ζ) = bd (iv 9 (S b0 σ ζ') (b0 + 23) (F_X8_work (b0 + 23) n (S b0 σ ζ'))) (fun jv11 σ12 => F_X8_needs_L71 (b0 + 23) n v fu (-6) 0 0 σ12) ∧ WS ξ ζ' ∧ Ch (fun d _ => d = 38) ζ ζ' ∧ ∀ s', 0 ≤ s' → s' < ZZ ξ → ζ' 38 (1000 * n + s') = 1 := by
  intro m
  have hz := ZZ_le hB
  induction m with
  | zero =>
    intro f s ζ hf s0 he hw hp
    obtain ⟨f, rfl⟩ : ∃ g, f = g + 1 := ⟨f - 1, by omega⟩
    refine ⟨ζ, ?_, hw, Ch.rf, fun s' a b => hp s' a (by omega)⟩
    rw [F_X8_needs_L27]
    refine evd (iS_23.trans (hw.st hB)) ?_
    exact ev_bLt (by omega) (by omega) (by omega) (by omega) (fun hc => absurd hc (by omega)) (fun hc => rfl)
  | succ m ih =>
    intro f s ζ hf s0 he hw hp
    obtain ⟨f, rfl⟩ : ∃ g, f = g + 1 := ⟨f - 1, by omega⟩
    have o : ∀ d k, d ≠ 38 → xu ζ 38 (1000 * n + s) 1 d k = ζ d k := fun d k h => xu_nd h
    obtain ⟨ζ', r1, r2, r3, r4⟩ := ih f (s + 1) (xu ζ 38 (1000 * n + s) 1) (by omega) (by omega) (by omega) ⟨hw.1.trans (Cf.xu (by omega)), fun l a b => by rw [o _ _ (by omega), o _ _ (by omega), o _ _ (by omega)]; exact hw.2.1 l a b, fun l a b hz => by rw [o _ _ (by omega)] at hz ⊢; exact hw.2.2.1 l a b hz, fun j a b => by rw [o _ _ (by omega)]; exact hw.2.2.2.1 j a b, fun j a b => by
      by_cases e : j = 1000 * n + s
      · subst e; exact Or.inr xu_s
      · rw [xu_ni e]; exact hw.2.2.2.2 j a b⟩ (fun s' a b => by
      by_cases e : s' = s
      · subst e; exact xu_s
      · rw [xu_ni (by omega)]; exact hp s' a (by omega))
    refine ⟨ζ', ?_, r2, Ch.trans (fun d k q => xu_nd q) r3, r4⟩
    rw [F_X8_needs_L27]
    refine evd (iS_23.trans (hw.st hB)) ?_
    refine ev_bLt (by omega) (by omega) (by omega) (by omega) (fun hc => ?_) (fun hc => absurd hc (by omega))
    refine ev rS_23_21 ?_
    exact ev (wS_38 (by omega) (by omega) (by omega)) r1
def A_needs (ξ : Int → Int → Int) (n v r : Int) : Prop := (0 ≤ n ∧ n ≤ ξ 23 11 - 1 → (WH ξ → NP ξ n v (ZZ ξ) r) ∧ (¬ WH ξ → r = -3)) ∧ (¬ (0 ≤ n ∧ n ≤ ξ 23 11 - 1) → r = -1)
theorem Y8_needs (hB : LB ξ) (hT : TB ξ) (hK : MK ξ ζ) (hn : R3 n) (hv : R6 v) : ∃ r ζ', F_X8_needs (b0 + 23) n v (S b0 σ ζ) = some (r, S b0 σ ζ') ∧ A_needs ξ n v r ∧ MK ξ ζ' ∧ Ch scrP ζ ζ' := by
  have n81 := hT.2.2.1
  have hz := ZZ_le hB
  by_cases ok : 0 ≤ n ∧ n ≤ ξ 23 11 - 1
  · by_cases hw : WH ξ
    · obtain ⟨ζ1, q1, q2, q3, q4, q5, q6⟩ := X8_prepare (b0 := b0) (σ := σ) hB hT hK
      obtain ⟨ζ2, t1, t2, t3, t4⟩ := needs_mark (b0 := b0) (σ := σ) (v := v) hB ok.1 (by omega) (ZZ ξ).toNat fu 0 ζ1 (fuN (by omega)) (Int.le_refl _) (by omega) q2 (fun s' a b => by omega)
      obtain ⟨ζ3, u1, u2, u3, u4, u5⟩ := X8_work (b0 := b0) (σ := σ) hB hT hw ok.1 (by omega) t2 (fun n' s' a b c d h37 => by
        rw [t3 37 _ (by omega)] at h37
        exact (q3 n' s' a b c d h37).congr (t3 39 _ (by omega)) (t3 40 _ (by omega)))
      have hk3 : MK ξ ζ3 := ⟨u2, by rw [u4 23 19 (by unfold scrW scr; omega), t3 23 19 (by omega), q4]; exact Or.inr rfl, fun _ => u3⟩
      obtain ⟨r, ζ', w1, w2, w3, w4⟩ := needs_loop (b0 := b0) (σ := σ) hB hT hw ok.1 (by omega) hv (ZZ ξ).toNat fu (-6) 0 0 ζ3 (fuN (by omega)) (Int.le_refl _) (by omega) hk3 (fun s' a b => (u5 n s' (Int.le_refl _) (by omega) a b (t4 s' a b)).1) (Or.inl ⟨rfl, fun s' a b => by omega⟩) (by omega) (fun h => by omega)
      refine ⟨r, ζ', ?_, ⟨fun _ => ⟨fun _ => w2, fun h => absurd hw h⟩, fun h => absurd ok h⟩, w3, ((q5.trans (t3.mono (fun d k q => by unfold scrP scr; omega))).trans (u4.mono (fun d k q => by unfold scrW scr at q; unfold scrP scr; omega))).trans w4⟩
      rw [F_X8_needs]
      refine evd (iS_23.trans (K_isNode hT hK.1.1 hn)) (ev_if (fun h => absurd ok h) (fun _ => ?_))
      refine evd (iS_23.trans (K_isWhole hB hT hK.1.1)) (ev_if (fun h => absurd hw h) (fun _ => ?_))
      refine evd (iS_23.trans q1) ?_
      rw [t1]
      exact evd (iS_23.trans u1) w1
    · refine ⟨-3, ζ, ?_, ⟨fun _ => ⟨fun h => absurd h hw, fun _ => rfl⟩, fun h => absurd ok h⟩, hK, Ch.rf⟩
      rw [F_X8_needs]
      refine evd (iS_23.trans (K_isNode hT hK.1.1 hn)) (ev_if (fun h => absurd ok h) (fun _ => ?_))
      exact evd (iS_23.trans (K_isWhole hB hT hK.1.1)) (ev_if (fun h => rfl) (fun h => absurd h hw))
  · refine ⟨-1, ζ, ?_, ⟨fun h => absurd h ok, fun _ => rfl⟩, hK, Ch.rf⟩
    rw [F_X8_needs]
    exact evd (iS_23.trans (K_isNode hT hK.1.1 hn)) (ev_if (fun h => rfl) (fun h => absurd h ok))
end W10
