section W13
variable {b0 : Int} {σ : Hp} {ξ ζ η : Int → Int → Int} {i m s t L n l v fr st N : Int}
def scrV (d k : Int) : Prop := scr d k ∨ (43 ≤ d ∧ d ≤ 48)
theorem scrVM : ∀ d k, scrV d k → scrM d k := fun d k q => by unfold scrV scr at q; unfold scrM scr; omega
theorem Cf_scrV (h : Ch scrV ξ ζ) : Cf ξ ζ := Cf_scrM (h.mono scrVM)
/-- one at the last weeks' nodes -/
def lst (ξ : Int → Int → Int) (n : Int) : Int := if ξ 33 n = ξ 23 8 - 1 then 1 else 0
def chf (ξ : Int → Int → Int) (n : Int) (h : Int → Int) (c : Int) : Int := if ξ 31 c = n then h c else 0
def chs (ξ : Int → Int → Int) (n : Int) (h : Int → Int) : Int := sf (chf ξ n h) (n + 1) (ξ 23 11 - (n + 1)).toNat
def CT (ξ : Int → Int → Int) (fr : Int) (T : Int → Int → Int) : Prop := ∀ n, fr ≤ n → n < ξ 23 11 → T 48 n = lst ξ n + chs ξ n (T 48)
theorem walk_a (hB : LB ξ) (hT : TB ξ) (s0 : 0 ≤ st) (s1 : st < ZZ ξ) (f0 : 0 ≤ fr) (f1 : fr < ξ 23 11) : ∀ (m f : Nat) (n : Int) (ζ : Int → Int → Int), m < f → 0 ≤ n → n + m = ξ 23 11 → Cf ξ ζ → MB ζ → TZ ζ → WT ξ fr st ζ n → ∃ ζ', F_X8_walk_L2 (b0 + 23) fr st f n (S b0 σ ζ) = F_X8_walk_L239 (b0 + 23) fr fu (ξ 23 11 - 1) (S b0 σ ζ') ∧ Ch scrV ζ ζ' ∧ MB ζ' ∧ TZ ζ' ∧ WT ξ fr st ζ' (ξ 23 11) := by
  intro m
  have n81 := hT.2.2.1
  induction m with
  | zero =>
    intro f n ζ hf n0 he h hM hZ hw
    obtain ⟨f, rfl⟩ : ∃ g, f = g + 1 := ⟨f - 1, by omega⟩
    have e : n = ξ 23 11 := by omega
    refine ⟨ζ, ?_, Ch.rf, hM, hZ, by rw [← e]; exact hw⟩
    rw [F_X8_walk_L2]
    refine ev rS_23_11 ?_
    rw [h.2 11 (by omega)]
    refine ev_bLt (by omega) (by omega) (by omega) (by omega) (fun hc => absurd hc (by omega)) (fun hc => ?_)
    refine ev rS_23_11 ?_
    rw [h.2 11 (by omega)]
  | succ m ih =>
    intro f n ζ hf n0 he h hM hZ hw
    obtain ⟨f, rfl⟩ : ∃ g, f = g + 1 := ⟨f - 1, by omega⟩
    obtain ⟨ζ1, r1, r2, r3, r4, r5⟩ := walk_step (b0 := b0) (σ := σ) (f := f) hB hT s0 s1 f0 f1 n0 (by omega) h hM hZ hw
    have c1 : Ch scrV ζ ζ1 := r2.mono (fun d k q => by unfold scrK scr at q; unfold scrV scr; omega)
    obtain ⟨ζ', t1, t2, t3, t4, t5⟩ := ih f (n + 1) ζ1 (by omega) (by omega) (by omega) (h.trans (Cf_scrV c1)) r3 r4 r5
    exact ⟨ζ', r1.trans t1, c1.trans t2, t3, t4, t5⟩
theorem walk_b (hT : TB ξ) (f0 : 0 ≤ fr) (f1 : fr < ξ 23 11) : ∀ (m f : Nat) (j : Int) (ζ : Int → Int → Int), m < f → j < ξ 23 11 → j + 1 = fr + m → Cf ξ ζ → (∀ n, j < n → n < ξ 23 11 → ζ 48 n = lst ξ n) → ∃ ζ', F_X8_walk_L239 (b0 + 23) fr f j (S b0 σ ζ) = F_X8_walk_L283 (b0 + 23) fr fu (ξ 23 11 - 1) (S b0 σ ζ') ∧ Ch (fun d _ => d = 48) ζ ζ' ∧ ∀ n, fr ≤ n → n < ξ 23 11 → ζ' 48 n = lst ξ n := by
  intro m
  have n81 := hT.2.2.1
  have w10 := hT.1
  induction m with
  | zero =>
    intro f j ζ hf j1 he h hl
    obtain ⟨f, rfl⟩ : ∃ g, f = g + 1 := ⟨f - 1, by omega⟩
    refine ⟨ζ, ?_, Ch.rf, fun n a b => hl n (by omega) b⟩
    rw [F_X8_walk_L239]
    refine ev_bLt (by omega) (by omega) (by omega) (by omega) (fun hc => ?_) (fun hc => absurd hc (by omega))
    refine ev rS_23_11 ?_
    rw [h.2 11 (by omega)]
  | succ m ih =>
    intro f j ζ hf j1 he h hl
    obtain ⟨f, rfl⟩ : ∃ g, f = g + 1 := ⟨f - 1, by omega⟩
    have wk := hT.week (n := j) (by omega) j1
    obtain ⟨ζ', t1, t2, t3⟩ := ih f (j + (-1)) (xu ζ 48 j (lst ξ j)) (by omega) (by omega) (by omega) (h.trans (Cf.xu (by omega))) (fun n a b => by
      by_cases e : n = j
      · subst e; exact xu_s
      · rw [xu_ni e]; exact hl n (by omega) b)
    refine ⟨ζ', ?_, Ch.trans (fun d k q => xu_nd q) t2, t3⟩
    rw [F_X8_walk_L239]
    refine ev_bLt (by omega) (by omega) (by omega) (by omega) (fun hc => absurd hc (by omega)) (fun hc => ?_)
    refine ev rS_23_31 ?_
    refine ev rS_23_14 ?_
    refine ev (aS_33 (by omega) (by omega)) ?_
    refine ev rS_23_8 ?_
    rw [h.1 33 (by omega), h.2 8 (by omega)]
    refine ev_bEq (by omega) (by omega) (by omega) (by omega) (fun hc => ?_) (fun hc => ?_)
    · rw [show lst ξ j = 1 from if_pos hc] at t1
      exact ev (wS_48 (by omega) (by omega)) t1
    · rw [show lst ξ j = 0 from if_neg hc] at t1
      exact ev (wS_48 (by omega) (by omega)) t1
theorem walk_c (hT : TB ξ) (f0 : 0 ≤ fr) (f1 : fr < ξ 23 11) : ∀ (m f : Nat) (j : Int) (ζ : Int → Int → Int), m < f → j < ξ 23 11 → j = fr + m → Cf ξ ζ → (∀ n, fr ≤ n → n < ξ 23 11 → ζ 48 n = lst ξ n + sf (chf ξ n (ζ 48)) (j + 1) (ξ 23 11 - (j + 1)).toNat) → ∃ ζ', F_X8_walk_L283 (b0 + 23) fr f j (S b0 σ ζ) = some (0, S b0 σ ζ') ∧ Ch (fun d _ => d = 48) ζ ζ' ∧ CT ξ fr ζ' := by
  intro m
  have n81 := hT.2.2.1
  induction m with
  | zero =>
    intro f j ζ hf j1 he h hl
    obtain ⟨f, rfl⟩ : ∃ g, f = g + 1 := ⟨f - 1, by omega⟩
    refine ⟨ζ, ?_, Ch.rf, fun n a b => ?_⟩
    · rw [F_X8_walk_L283]
      exact ev_bLe (by omega) (by omega) (by omega) (by omega) (fun hc => rfl) (fun hc => absurd hc (by omega))
    · rw [hl n a b]
      unfold chs
      rw [show (ξ 23 11 - (j + 1)).toNat = (n - j).toNat + (ξ 23 11 - (n + 1)).toNat by omega, sf_split, sf_zero (n - j).toNat (j + 1) (fun i p q => by
        have := hT.par (n := i) (by omega) (by omega)
        unfold chf
        rw [if_neg (by omega)]), Int.zero_add, show j + 1 + ((n - j).toNat : Int) = n + 1 by omega]
  | succ m ih =>
    intro f j ζ hf j1 he h hl
    obtain ⟨f, rfl⟩ : ∃ g, f = g + 1 := ⟨f - 1, by omega⟩
    have p := hT.par (n := j) (by omega) j1
    have p0 := p.2.2 (by omega)
    have e31 : ζ 31 = ξ 31 := h.1 31 (by omega)
    obtain ⟨ζ', t1, t2, t3⟩ := ih f (j + (-1)) (xu ζ 48 (ξ 31 j) (ζ 48 (ξ 31 j) + ζ 48 j)) (by omega) (by omega) (by omega) (h.trans (Cf.xu (by omega))) (fun n a b => by
      have es : sf (chf ξ n (xu ζ 48 (ξ 31 j) (ζ 48 (ξ 31 j) + ζ 48 j) 48)) (j + (-1) + 1) (ξ 23 11 - (j + (-1) + 1)).toNat = chf ξ n (ζ 48) j + sf (chf ξ n (ζ 48)) (j + 1) (ξ 23 11 - (j + 1)).toNat := by
        rw [show j + (-1) + 1 = j by omega, show (ξ 23 11 - j).toNat = (ξ 23 11 - (j + 1)).toNat + 1 by omega, sf]
        rw [sf_congr (g := chf ξ n (ζ 48)) _ (j + 1) (fun i p' q' => by unfold chf; rw [xu_ni (by omega)])]
        unfold chf
        rw [xu_ni (by omega)]
      rw [es]
      by_cases e : n = ξ 31 j
      · have := hl n a b
        rw [← e, xu_s, this]
        rw [show chf ξ n (ζ 48) j = ζ 48 j from if_pos e.symm]
        omega
      · rw [xu_ni e, hl n a b, show chf ξ n (ζ 48) j = 0 from if_neg (fun q => e q.symm)]
        omega)
    refine ⟨ζ', ?_, Ch.trans (fun d k q => xu_nd q) t2, t3⟩
    rw [F_X8_walk_L283]
    refine ev_bLe (by omega) (by omega) (by omega) (by omega) (fun hc => absurd hc (by omega)) (fun hc => ?_)
    refine ev rS_23_31 ?_
    refine ev rS_23_12 ?_
    refine ev (aS_31 (by omega) (by omega)) ?_
    rw [e31]
    refine ev (aS_48 (by omega) (by omega)) ?_
    refine ev rS_23_31 ?_
    refine ev (aS_48 (by omega) (by omega)) ?_
    exact ev (wS_48 (by omega) (by omega)) t1
theorem X8_walk (hB : LB ξ) (hT : TB ξ) (s0 : 0 ≤ st) (s1 : st < ZZ ξ) (f0 : 0 ≤ fr) (f1 : fr < ξ 23 11) (h : Cf ξ ζ) (hM : MB ζ) (hZ : TZ ζ) : ∃ ζ', F_X8_walk (b0 + 23) fr st (S b0 σ ζ) = some (0, S b0 σ ζ') ∧ Ch scrV ζ ζ' ∧ MB ζ' ∧ TZ ζ' ∧ WT ξ fr st ζ' (ξ 23 11) ∧ CT ξ fr ζ' := by
  have n81 := hT.2.2.1
  obtain ⟨ζ1, a1, a2, a3, a4, a5⟩ := walk_a (b0 := b0) (σ := σ) hB hT s0 s1 f0 f1 (ξ 23 11).toNat fu 0 ζ (fuN (by omega)) (Int.le_refl _) (by omega) h hM hZ (fun n a b => by omega)
  have h1 := h.trans (Cf_scrV a2)
  obtain ⟨ζ2, b1, b2, b3⟩ := walk_b (b0 := b0) (σ := σ) hT f0 f1 (ξ 23 11 - fr).toNat fu (ξ 23 11 - 1) ζ1 (fuN (by omega)) (by omega) (by omega) h1 (fun n a b => by omega)
  have h2 := h1.trans (Cf_scrV (b2.mono (fun d k q => by unfold scrV scr; omega)))
  obtain ⟨ζ3, c1, c2, c3⟩ := walk_c (b0 := b0) (σ := σ) hT f0 f1 (ξ 23 11 - 1 - fr).toNat fu (ξ 23 11 - 1) ζ2 (fuN (by omega)) (by omega) (by omega) h2 (fun n a b => by
    rw [show (ξ 23 11 - (ξ 23 11 - 1 + 1)).toNat = 0 by omega, sf, b3 n a b]
    omega)
  have hc : Ch (fun d _ => d = 48) ζ1 ζ3 := b2.trans c2
  have o : ∀ d k, d ≠ 48 → ζ3 d k = ζ1 d k := fun d k q => hc d k q
  refine ⟨ζ3, ?_, a2.trans (hc.mono (fun d k q => by unfold scrV scr; omega)), fun l a b => by rw [o _ _ (by omega), o _ _ (by omega), o _ _ (by omega)]; exact a3 l a b, fun l a b hz => by rw [o _ _ (by omega)] at hz ⊢; exact a4 l a b hz, a5.ext hT (Int.le_refl _) (fun d k a b _ => o d k (by omega)), c3⟩
  rw [F_X8_walk, a1, b1, c1]
end W13
