set_option maxRecDepth 100000 in
theorem sr_fin : ∀ L : Fin 4096, shrI ((L.val : Nat) : Int) 8 = ((L.val / 256 : Nat) : Int) ∧ andI ((L.val : Nat) : Int) 15 = ((L.val % 16 : Nat) : Int) := by decide +kernel
theorem sr_bits {L : Int} (h0 : 0 ≤ L) (h1 : L < 4096) : shrI L 8 = dg L 0 ∧ andI (shrI L 4) 15 = dg L 1 ∧ andI L 15 = dg L 2 := by
  have q := sr_fin ⟨L.toNat, by omega⟩
  have r := dg_bits h0 h1
  have e : ((L.toNat : Nat) : Int) = L := by omega
  simp only at q
  rw [e] at q
  refine ⟨?_, r.2.1, ?_⟩
  · rw [q.1]; unfold dg; simp; omega
  · rw [q.2]; unfold dg; simp; omega
section W8
variable {b0 : Int} {σ : Hp} {ξ ζ η : Int → Int → Int} {i m s t L n : Int}
theorem prep_b : ∀ (m f : Nat) (j : Int) (ζ : Int → Int → Int), m < f → 0 ≤ j → j + m = 81000 → (∀ k, 0 ≤ k → k < j → ζ 37 k = 0) → ∃ ζ', F_X8_prepare_L36 (b0 + 23) f j (S b0 σ ζ) = some (0, S b0 σ ζ') ∧ Ch (fun d _ => d = 37) ζ ζ' ∧ ∀ k, 0 ≤ k → k < 81000 → ζ' 37 k = 0 := by
  intro m
  induction m with
  | zero =>
    intro f j ζ hf j0 he hz
    obtain ⟨f, rfl⟩ : ∃ g, f = g + 1 := ⟨f - 1, by omega⟩
    refine ⟨ζ, ?_, Ch.rf, fun k a b => hz k a (by omega)⟩
    rw [F_X8_prepare_L36]
    exact ev_bLt (by omega) (by omega) (by omega) (by omega) (fun hc => absurd hc (by omega)) (fun hc => rfl)
  | succ m ih =>
    intro f j ζ hf j0 he hz
    obtain ⟨f, rfl⟩ : ∃ g, f = g + 1 := ⟨f - 1, by omega⟩
    obtain ⟨ζ', r1, r2, r3⟩ := ih f (j + 1) (xu ζ 37 j 0) (by omega) (by omega) (by omega) (fun k a b => by
      by_cases e : k = j
      · subst e; exact xu_s
      · rw [xu_ni e]; exact hz k a (by omega))
    refine ⟨ζ', ?_, Ch.trans (fun d k q => xu_nd q) r2, r3⟩
    rw [F_X8_prepare_L36]
    refine ev_bLt (by omega) (by omega) (by omega) (by omega) (fun hc => ?_) (fun hc => absurd hc (by omega))
    refine ev rS_23_20 ?_
    exact ev (wS_37 (by omega) (by omega) (by omega)) r1
theorem prep_a : ∀ (m f : Nat) (j : Int) (ζ : Int → Int → Int), m < f → 0 ≤ j → j + m = 81000 → (∀ k, 0 ≤ k → k < j → ζ 38 k = 0) → ∃ f' ζ', F_X8_prepare_L2 (b0 + 23) f j (S b0 σ ζ) = F_X8_prepare_L2 (b0 + 23) (f' + 1) 81000 (S b0 σ ζ') ∧ Ch (fun d _ => d = 38) ζ ζ' ∧ ∀ k, 0 ≤ k → k < 81000 → ζ' 38 k = 0 := by
  intro m
  induction m with
  | zero =>
    intro f j ζ hf j0 he hz
    refine ⟨f - 1, ζ, ?_, Ch.rf, fun k a b => hz k a (by omega)⟩
    rw [show f - 1 + 1 = f by omega, show j = 81000 by omega]
  | succ m ih =>
    intro f j ζ hf j0 he hz
    obtain ⟨f, rfl⟩ : ∃ g, f = g + 1 := ⟨f - 1, by omega⟩
    obtain ⟨f', ζ', r1, r2, r3⟩ := ih f (j + 1) (xu ζ 38 j 0) (by omega) (by omega) (by omega) (fun k a b => by
      by_cases e : k = j
      · subst e; exact xu_s
      · rw [xu_ni e]; exact hz k a (by omega))
    refine ⟨f', ζ', ?_, Ch.trans (fun d k q => xu_nd q) r2, r3⟩
    refine Eq.trans ?_ r1
    rw [F_X8_prepare_L2]
    refine ev_bLt (by omega) (by omega) (by omega) (by omega) (fun hc => ?_) (fun hc => absurd hc (by omega))
    refine ev rS_23_21 ?_
    exact ev (wS_38 (by omega) (by omega) (by omega)) rfl
/-- what the model's memo keeps -/
def MK (ξ ζ : Int → Int → Int) : Prop := WS ξ ζ ∧ (ζ 23 19 = 0 ∨ ζ 23 19 = 1) ∧ (ζ 23 19 = 1 → MM ξ ζ)
def scrP (d k : Int) : Prop := scr d k ∨ (37 ≤ d ∧ d ≤ 40) ∨ (d = 23 ∧ k = 19)
theorem Cf_scrP (h : Ch scrP ξ ζ) : Cf ξ ζ := Cf_ch (fun d k q => by unfold scrP scr at q; omega) h
theorem X8_prepare (hB : LB ξ) (hT : TB ξ) (hK : MK ξ ζ) : ∃ ζ', F_X8_prepare (b0 + 23) (S b0 σ ζ) = some (0, S b0 σ ζ') ∧ WS ξ ζ' ∧ MM ξ ζ' ∧ ζ' 23 19 = 1 ∧ Ch scrP ζ ζ' ∧ ∀ j, 0 ≤ j → j < 81000 → ζ' 38 j = 0 := by
  obtain ⟨hw, hk, hm⟩ := hK
  obtain ⟨f', ζ1, r1, r2, r3⟩ := prep_a (b0 := b0) (σ := σ) 81000 fu 0 ζ (fuN (by omega)) (by omega) (by omega) (fun k a b => by omega)
  have o : ∀ d k, d ≠ 38 → ζ1 d k = ζ d k := fun d k h => r2 d k h
  have c1 : Ch scrP ζ ζ1 := r2.mono (fun d k q => by unfold scrP scr; omega)
  have w1 : WS ξ ζ1 := ⟨hw.1.trans (Cf_scrP c1), fun l a b => by rw [o 35 _ (by omega), o 25 _ (by omega), o 23 _ (by omega)]; exact hw.2.1 l a b, fun l a b hz => by rw [o 23 _ (by omega)] at hz; rw [o 36 _ (by omega)]; exact hw.2.2.1 l a b hz, fun j a b => by rw [o 37 _ (by omega)]; exact hw.2.2.2.1 j a b, fun j a b => Or.inl (r3 j a b)⟩
  by_cases h19 : ζ 23 19 = 1
  · refine ⟨ζ1, ?_, w1, ?_, by rw [o 23 _ (by omega)]; exact h19, c1, r3⟩
    · rw [F_X8_prepare, r1, F_X8_prepare_L2]
      refine ev_bLt (by omega) (by omega) (by omega) (by omega) (fun hc => absurd hc (by omega)) (fun hc => ?_)
      refine ev rS_23_19 ?_
      rw [o 23 _ (by omega), h19]
      exact ev_bEq (by omega) (by omega) (by omega) (by omega) (fun hc => absurd hc (by omega)) (fun hc => rfl)
    · intro n s a b c d h37
      rw [o 37 _ (by omega)] at h37
      exact (hm h19 n s a b c d h37).congr (o 39 _ (by omega)) (o 40 _ (by omega))
  · obtain ⟨ζ2, t1, t2, t3⟩ := prep_b (b0 := b0) (σ := σ) 81000 fu 0 (xu ζ1 23 19 1) (fuN (by omega)) (by omega) (by omega) (fun k a b => by omega)
    have o2 : ∀ d k, d ≠ 37 → (d = 23 → k ≠ 19) → ζ2 d k = ζ1 d k := fun d k h h' => (t2 d k h).trans (by
      by_cases e : d = 23
      · exact xu_ni (h' e)
      · exact xu_nd e)
    have c2 : Ch scrP ζ ζ2 := c1.trans ((Ch_xu (Or.inr (Or.inr ⟨rfl, rfl⟩)) Ch.rf).trans (t2.mono (fun d k q => by unfold scrP scr; omega)))
    refine ⟨ζ2, ?_, ⟨hw.1.trans (Cf_scrP c2), ?_, ?_, fun j a b => Or.inl (t3 j a b), ?_⟩, ?_, by rw [t2 23 _ (by omega)]; exact xu_s, c2, fun j a b => by rw [o2 38 _ (by omega) (by omega)]; exact r3 j a b⟩
    · rw [F_X8_prepare, r1, F_X8_prepare_L2]
      refine ev_bLt (by omega) (by omega) (by omega) (by omega) (fun hc => absurd hc (by omega)) (fun hc => ?_)
      refine ev rS_23_19 ?_
      rw [o 23 _ (by omega)]
      refine ev_bEq (by omega) (by omega) (by omega) (by omega) (fun hc => ?_) (fun hc => absurd (by omega) hc)
      exact ev (pS_23_19 (by omega)) t1
    · intro l a b
      rw [o2 35 _ (by omega) (by omega), o2 25 _ (by omega) (by omega), o2 23 _ (by omega) (by omega)]
      exact w1.2.1 l a b
    · intro l a b hz
      rw [o2 23 _ (by omega) (by omega)] at hz
      rw [o2 36 _ (by omega) (by omega)]
      exact w1.2.2.1 l a b hz
    · intro j a b
      rw [o2 38 _ (by omega) (by omega)]
      exact Or.inl (r3 j a b)
    · intro n s a b c d h37
      have := ZZ_le hB
      have := hT.2.2.1
      rw [t3 _ (by omega) (by omega)] at h37; omega
theorem X8_worthOf (hB : LB ξ) (hT : TB ξ) (hW : WH ξ) (n0 : 0 ≤ n) (n1 : n < ξ 23 11) (s0 : 0 ≤ s) (s1 : s < ZZ ξ) (hK : MK ξ ζ) : ∃ ζ', F_X8_worthOf (b0 + 23) n s (S b0 σ ζ) = some (VV ξ (lft ξ n) n s, S b0 σ ζ') ∧ MK ξ ζ' ∧ Ch scrP ζ ζ' ∧ KW ξ ζ' n s := by
  have hz := ZZ_le hB
  have n81 := hT.2.2.1
  obtain ⟨ζ1, q1, q2, q3, q4, q5, q6⟩ := X8_prepare (b0 := b0) (σ := σ) hB hT hK
  have c2 : Ch scrP ζ1 (xu ζ1 38 (1000 * n + s) 1) := Ch_xu (by unfold scrP; omega) Ch.rf
  have w2 : WS ξ (xu ζ1 38 (1000 * n + s) 1) := ⟨q2.1.trans (Cf_scrP c2), fun l a b => by rw [xu_nd (by omega), xu_nd (by omega), xu_nd (by omega)]; exact q2.2.1 l a b, fun l a b hz => by rw [xu_nd (by omega)] at hz ⊢; exact q2.2.2.1 l a b hz, fun j a b => by rw [xu_nd (by omega)]; exact q2.2.2.2.1 j a b, fun j a b => by
    by_cases e : j = 1000 * n + s
    · subst e; exact Or.inr xu_s
    · rw [xu_ni e]; exact q2.2.2.2.2 j a b⟩
  obtain ⟨ζ', t1, t2, t3, t4, t5⟩ := X8_work (b0 := b0) (σ := σ) hB hT hW n0 n1 w2 (fun n' s' a b c d h37 => by
    rw [xu_nd (by omega)] at h37
    exact (q3 n' s' a b c d h37).congr (xu_nd (by omega)) (xu_nd (by omega)))
  have kw := t5 n s (Int.le_refl _) n1 s0 s1 xu_s
  refine ⟨ζ', ?_, ⟨t2, ?_, fun _ => t3⟩, q5.trans (c2.trans (t4.mono (fun d k q => by unfold scrW scr at q; unfold scrP scr; omega))), kw⟩
  · rw [F_X8_worthOf]
    refine evd (iS_23.trans q1) ?_
    refine ev rS_23_21 ?_
    refine ev (wS_38 (by omega) (by omega) (by omega)) ?_
    refine evd (iS_23.trans t1) ?_
    refine ev rS_23_22 ?_
    refine ev (aS_39 (by omega) (by omega)) ?_
    rw [kw.1]
  · rw [t4 23 19 (by unfold scrW scr; omega), xu_nd (by omega), q4]
    exact Or.inr rfl
theorem X8_bestLet {k : Nat} (hB : LB ξ) (hT : TB ξ) (hW : WH ξ) (n0 : 0 ≤ n) (n1 : n < ξ 23 11) (s0 : 0 ≤ s) (s1 : s < ZZ ξ) (hk : lft ξ n = k + 1) (hK : MK ξ ζ) : ∃ ζ' L, F_X8_bestLet (b0 + 23) n s (S b0 σ ζ) = some (0, S b0 σ ζ') ∧ MK ξ ζ' ∧ Ch scrP ζ ζ' ∧ IB (vL ξ (VV ξ k) k n s) (bx ξ s) (VV ξ (k + 1) n s) L ∧ ∀ l, 0 ≤ l → l < 3 → ζ' 36 l = dg L l := by
  have hz := ZZ_le hB
  have n81 := hT.2.2.1
  obtain ⟨ζ1, q1, q2, q3, q4⟩ := X8_worthOf (b0 := b0) (σ := σ) hB hT hW n0 n1 s0 s1 hK
  have ib := q4.2 k hk
  have hb := ib.1
  have bits := sr_bits hb.1.1 hb.1.2
  refine ⟨lts ζ1 (dg (ζ1 40 (1000 * n + s)) 0) (dg (ζ1 40 (1000 * n + s)) 1) (dg (ζ1 40 (1000 * n + s)) 2), ζ1 40 (1000 * n + s), ?_, ⟨⟨q2.1.1.trans Cf.lts, q2.1.2.1.lts, ?_, ?_, ?_⟩, ?_, ?_⟩, Ch_lts (fun k => Or.inl (Or.inr (Or.inr rfl))) q3, ?_, ?_⟩
  · rw [F_X8_bestLet]
    refine evd (iS_23.trans q1) ?_
    refine ev rS_23_23 ?_
    refine ev (aS_40 (by omega) (by omega)) ?_
    refine ev rS_23_17 ?_
    refine ev (wS_36 (by omega) (by omega)) ?_
    refine ev rS_23_17 ?_
    refine ev (wS_36 (by omega) (by omega)) ?_
    refine ev rS_23_17 ?_
    refine ev (wS_36 (by omega) (by omega)) ?_
    rw [bits.1, bits.2.1, bits.2.2]
    rfl
  · intro l a b hl
    rw [lts_d (by omega), q2.1.1.2 1 (by omega)] at hl
    have := (bx_t hB hb a b).2.2.2 hl
    rcases lake3 a b with rfl | rfl | rfl
    · rw [lts_0]; exact this
    · rw [lts_1]; exact this
    · rw [lts_2]; exact this
  · intro j a b
    rw [lts_d (by omega)]
    exact q2.1.2.2.2.1 j a b
  · intro j a b
    rw [lts_d (by omega)]
    exact q2.1.2.2.2.2 j a b
  · rw [lts_d (by omega)]; exact q2.2.1
  · intro h19
    rw [lts_d (by omega)] at h19
    intro n' s' a b c d h37
    rw [lts_d (by omega)] at h37
    exact (q2.2.2 h19 n' s' a b c d h37).congr (lts_d (by omega)) (lts_d (by omega))
  · rw [VV_of ib]; exact ib
  · intro l a b
    rcases lake3 a b with rfl | rfl | rfl
    · exact lts_0
    · exact lts_1
    · exact lts_2
end W8
