theorem ev_if {γ : Type} {P : Prop} {_ : Decidable P} {T E z : Option γ} (kT : ¬ P → T = z) (kE : P → E = z) : bEq (if P then (1 : Int) else 0) 0 T E = z := by
  by_cases h : P
  · rw [if_pos h]; exact ev_bEq (by omega) (by omega) (by omega) (by omega) (fun hc => absurd hc (by omega)) (fun _ => kE h)
  · rw [if_neg h]; exact ev_bEq (by omega) (by omega) (by omega) (by omega) (fun _ => kT h) (fun hc => absurd rfl hc)
section W9
variable {b0 : Int} {σ : Hp} {ξ ζ η : Int → Int → Int} {i m s t L n l : Int}
theorem K_isNode (hT : TB ξ) (h : Cf ξ ζ) (hr : R3 l) : F_X8_isNode (b0 + 23) l (S b0 σ ζ) = some (if 0 ≤ l ∧ l ≤ ξ 23 11 - 1 then 1 else 0, S b0 σ ζ) := by
  rw [X8_isNode (hT.cf h) hr, h.2 11 (by omega)]
theorem K_isState (hB : LB ξ) (h : Cf ξ ζ) (hr : R3 l) : F_X8_isState (b0 + 23) l (S b0 σ ζ) = some (if 0 ≤ l ∧ l ≤ ZZ ξ - 1 then 1 else 0, S b0 σ ζ) := by
  rw [X8_isState (hB.cf h) hr, ZZ_cf h]
theorem K_isLake (hB : LB ξ) (h : Cf ξ ζ) (hr : R3 l) : F_X8_isLake (b0 + 23) l (S b0 σ ζ) = some (if 0 ≤ l ∧ l ≤ ξ 23 1 - 1 then 1 else 0, S b0 σ ζ) := by
  rw [X8_isLake (hB.cf h) hr, h.2 1 (by omega)]
theorem Cf.symm (h : Cf ξ ζ) : Cf ζ ξ := ⟨fun d hd => (h.1 d hd).symm, fun k hk => (h.2 k hk).symm⟩
theorem K_isWhole (hB : LB ξ) (hT : TB ξ) (h : Cf ξ ζ) : F_X8_isWhole (b0 + 23) (S b0 σ ζ) = some (@ite Int (WH ξ) (Classical.propDecidable _) 1 0, S b0 σ ζ) := by
  obtain ⟨v, e, q⟩ := X8_isWhole (b0 := b0) (σ := σ) (hB.cf h) (hT.cf h)
  rw [e]
  by_cases hw : WH ξ
  · rw [if_pos hw]
    rcases q with ⟨rfl, _⟩ | ⟨_, q⟩
    · rfl
    · exact absurd (hw.cf h) q
  · rw [if_neg hw]
    rcases q with ⟨_, q⟩ | ⟨rfl, _⟩
    · exact absurd (q.cf h.symm) hw
    · rfl
theorem MK_ch (h : MK ξ ζ) (hc : Ch scr ζ η) (hM : MB η) (hZ : TZ η) : MK ξ η := by
  obtain ⟨hw, hk, hm⟩ := h
  have o : ∀ d k, (37 ≤ d ∧ d ≤ 40) ∨ (d = 23 ∧ k = 19) → η d k = ζ d k := fun d k q => hc d k (by unfold scr; omega)
  refine ⟨⟨hw.1.trans (Cf_ch (fun d k q => by unfold scr at q; omega) hc), hM, hZ, fun j a b => by rw [o 37 j (by omega)]; exact hw.2.2.2.1 j a b, fun j a b => by rw [o 38 j (by omega)]; exact hw.2.2.2.2 j a b⟩, by rw [o 23 19 (by omega)]; exact hk, fun q n s a b c d h37 => ?_⟩
  rw [o 23 19 (by omega)] at q
  rw [o 37 _ (by omega)] at h37
  exact (hm q n s a b c d h37).congr (o 39 _ (by omega)) (o 40 _ (by omega))
theorem MK_unf (hB : LB ξ) (h : MK ξ ζ) : MK ξ (unf ζ s) := MK_ch h (Ch_unf (fun _ => Or.inr (Or.inl rfl)) Ch.rf) (h.1.2.1.unf (hB.cf h.1.1)) (fun l a b hz => by rw [unf_d (by omega)] at hz ⊢; exact h.1.2.2.1 l a b hz)
def okNS (ξ : Int → Int → Int) (n s : Int) : Prop := (0 ≤ n ∧ n ≤ ξ 23 11 - 1) ∧ (0 ≤ s ∧ s ≤ ZZ ξ - 1)
def A_worth (ξ : Int → Int → Int) (n s r : Int) : Prop := (okNS ξ n s ∧ WH ξ → r = VV ξ (lft ξ n) n s) ∧ (¬ (okNS ξ n s ∧ WH ξ) → r = -9000000000000000000)
theorem Y8_worth (hB : LB ξ) (hT : TB ξ) (hK : MK ξ ζ) (hn : R3 n) (hs : R3 s) : ∃ r ζ', F_X8_worth (b0 + 23) n s (S b0 σ ζ) = some (r, S b0 σ ζ') ∧ A_worth ξ n s r ∧ MK ξ ζ' ∧ Ch scrP ζ ζ' := by
  by_cases ok : okNS ξ n s ∧ WH ξ
  · obtain ⟨ζ1, q1, q2, q3, q4⟩ := X8_worthOf (b0 := b0) (σ := σ) hB hT ok.2 ok.1.1.1 (by have := ok.1.1.2; omega) ok.1.2.1 (by have := ok.1.2.2; omega) hK
    refine ⟨_, ζ1, ?_, ⟨fun _ => rfl, fun h => absurd ok h⟩, q2, q3⟩
    rw [F_X8_worth]
    refine evd (iS_23.trans (K_isNode hT hK.1.1 hn)) (ev_if (fun h => absurd ok.1.1 h) (fun _ => ?_))
    refine evd (iS_23.trans (K_isState hB hK.1.1 hs)) (ev_if (fun h => absurd ok.1.2 h) (fun _ => ?_))
    refine evd (iS_23.trans (K_isWhole hB hT hK.1.1)) (ev_if (fun h => absurd ok.2 h) (fun _ => ?_))
    exact evd (iS_23.trans q1) rfl
  · refine ⟨_, ζ, ?_, ⟨fun h => absurd h ok, fun _ => rfl⟩, hK, Ch.rf⟩
    rw [F_X8_worth]
    refine evd (iS_23.trans (K_isNode hT hK.1.1 hn)) (ev_if (fun h => rfl) (fun h1 => ?_))
    refine evd (iS_23.trans (K_isState hB hK.1.1 hs)) (ev_if (fun h => rfl) (fun h2 => ?_))
    exact evd (iS_23.trans (K_isWhole hB hT hK.1.1)) (ev_if (fun h => rfl) (fun h3 => absurd ⟨⟨h1, h2⟩, h3⟩ ok))
def A_policy (ξ : Int → Int → Int) (n s l r : Int) : Prop := (okNS ξ n s ∧ (0 ≤ l ∧ l ≤ ξ 23 1 - 1) → (WH ξ → (ξ 33 n = ξ 23 8 - 1 → r = -4) ∧ (∀ k, lft ξ n = k + 1 → ∃ L, IB (vL ξ (VV ξ k) k n s) (bx ξ s) (VV ξ (k + 1) n s) L ∧ r = dg L l)) ∧ (¬ WH ξ → r = -3)) ∧ (¬ (okNS ξ n s ∧ (0 ≤ l ∧ l ≤ ξ 23 1 - 1)) → r = -1)
theorem Y8_policy (hB : LB ξ) (hT : TB ξ) (hK : MK ξ ζ) (hn : R3 n) (hs : R3 s) (hl : R3 l) : ∃ r ζ', F_X8_policy (b0 + 23) n s l (S b0 σ ζ) = some (r, S b0 σ ζ') ∧ A_policy ξ n s l r ∧ MK ξ ζ' ∧ Ch scrP ζ ζ' := by
  have n81 := hT.2.2.1
  have nl := hB.1
  have w10 := hT.1
  have pre : ∀ z, (¬ (okNS ξ n s ∧ (0 ≤ l ∧ l ≤ ξ 23 1 - 1)) → some (-1, S b0 σ ζ) = z) → (okNS ξ n s ∧ (0 ≤ l ∧ l ≤ ξ 23 1 - 1) → ¬ WH ξ → some (-3, S b0 σ ζ) = z) → (okNS ξ n s ∧ (0 ≤ l ∧ l ≤ ξ 23 1 - 1) → WH ξ → ξ 33 n = ξ 23 8 - 1 → some (-4, S b0 σ ζ) = z) → (okNS ξ n s ∧ (0 ≤ l ∧ l ≤ ξ 23 1 - 1) → WH ξ → ¬ ξ 33 n = ξ 23 8 - 1 → bd (iv 9 (S b0 σ ζ) (b0 + 23) (F_X8_bestLet (b0 + 23) n s (S b0 σ ζ))) (fun jv12 σ13 => (rd 9 σ13 (b0 + 23) 17).bind fun jv14 => (ar 11 σ13 jv14 l).bind fun jv15 => some (jv15, σ13)) = z) → F_X8_policy (b0 + 23) n s l (S b0 σ ζ) = z := by
    intro z z1 z2 z3 z4
    rw [F_X8_policy]
    refine evd (iS_23.trans (K_isNode hT hK.1.1 hn)) (ev_if (fun h => z1 (fun q => h q.1.1)) (fun h1 => ?_))
    refine evd (iS_23.trans (K_isState hB hK.1.1 hs)) (ev_if (fun h => z1 (fun q => h q.1.2)) (fun h2 => ?_))
    refine evd (iS_23.trans (K_isLake hB hK.1.1 hl)) (ev_if (fun h => z1 (fun q => h q.2)) (fun h3 => ?_))
    refine evd (iS_23.trans (K_isWhole hB hT hK.1.1)) (ev_if (fun h => z2 ⟨⟨h1, h2⟩, h3⟩ h) (fun h4 => ?_))
    have wk := hT.week h1.1 (by omega)
    refine ev rS_23_14 ?_
    refine ev (aS_33 (by omega) (by omega)) ?_
    refine ev rS_23_8 ?_
    rw [hK.1.1.1 33 (by omega), hK.1.1.2 8 (by omega)]
    exact ev_bEq (by omega) (by omega) (by omega) (by omega) (fun h => z3 ⟨⟨h1, h2⟩, h3⟩ h4 h) (fun h => z4 ⟨⟨h1, h2⟩, h3⟩ h4 h)
  by_cases ok : okNS ξ n s ∧ (0 ≤ l ∧ l ≤ ξ 23 1 - 1)
  · by_cases hw : WH ξ
    · have wk := hT.week ok.1.1.1 (by have := ok.1.1.2; omega)
      by_cases e : ξ 33 n = ξ 23 8 - 1
      · exact ⟨-4, ζ, pre _ (fun h => absurd ok h) (fun _ h => absurd hw h) (fun _ _ _ => rfl) (fun _ _ h => absurd e h), ⟨fun _ => ⟨fun _ => ⟨fun _ => rfl, fun k hk => by unfold lft at hk; omega⟩, fun h => absurd hw h⟩, fun h => absurd ok h⟩, hK, Ch.rf⟩
      · obtain ⟨k, hk⟩ : ∃ k, lft ξ n = k + 1 := ⟨lft ξ n - 1, by unfold lft; omega⟩
        obtain ⟨ζ1, L, q1, q2, q3, q4, q5⟩ := X8_bestLet (b0 := b0) (σ := σ) hB hT hw ok.1.1.1 (by have := ok.1.1.2; omega) ok.1.2.1 (by have := ok.1.2.2; omega) hk hK
        refine ⟨dg L l, ζ1, pre _ (fun h => absurd ok h) (fun _ h => absurd hw h) (fun _ _ h => absurd h e) (fun _ _ _ => ?_), ⟨fun _ => ⟨fun _ => ⟨fun h => absurd h e, fun k' hk' => ⟨L, ?_, rfl⟩⟩, fun h => absurd hw h⟩, fun h => absurd ok h⟩, q2, q3⟩
        · refine evd (iS_23.trans q1) ?_
          refine ev rS_23_17 ?_
          have := ok.2
          refine ev (aS_36 (by omega) (by omega)) ?_
          rw [q5 l (by omega) (by omega)]
        · have : k' = k := by omega
          subst this
          exact q4
    · exact ⟨-3, ζ, pre _ (fun h => absurd ok h) (fun _ _ => rfl) (fun _ h => absurd h hw) (fun _ h => absurd h hw), ⟨fun _ => ⟨fun h => absurd h hw, fun _ => rfl⟩, fun h => absurd ok h⟩, hK, Ch.rf⟩
  · exact ⟨-1, ζ, pre _ (fun _ => rfl) (fun h => absurd h ok) (fun h => absurd h ok) (fun h => absurd h ok), ⟨fun h => absurd h ok, fun _ => rfl⟩, hK, Ch.rf⟩
theorem X8_unit (hB : LB ξ) (l0 : 0 ≤ l) (l1 : l < ξ 23 1) : F_X8_unit (b0 + 23) l (S b0 σ ξ) = some (sd ξ l, S b0 σ ξ) := by
  unfold F_X8_unit
  have n0 := hB.1
  obtain ⟨k, hk⟩ := fu4
  rw [hk]
  have e2 : ξ 23 1 ≤ 2 → ξ 25 2 = 0 := hB.no (by omega) (by omega)
  have e1 : ξ 23 1 ≤ 1 → ξ 25 1 = 0 := hB.no (by omega) (by omega)
  have st : ∀ (f : Nat) (v j : Int), 0 ≤ j → j < 3 → j < ξ 23 1 → F_X8_unit_L6 (b0 + 23) (f + 1) v j (S b0 σ ξ) = F_X8_unit_L6 (b0 + 23) f (v * (ξ 25 j + 1)) (j + 1) (S b0 σ ξ) := by
    intro f v j j0 j3 jl
    rw [F_X8_unit_L6]
    refine ev rS_23_1 ?_
    refine ev_bLt (by omega) (by omega) (by omega) (by omega) (fun hc => ?_) (fun hc => absurd jl hc)
    refine ev rS_23_3 ?_
    exact ev (aS_25 (by omega) (by omega)) rfl
  have en : ∀ (f : Nat) (v j : Int), 0 ≤ j → j ≤ 3 → ξ 23 1 ≤ j → F_X8_unit_L6 (b0 + 23) (f + 1) v j (S b0 σ ξ) = some (v, S b0 σ ξ) := by
    intro f v j j0 j3 jl
    rw [F_X8_unit_L6]
    refine ev rS_23_1 ?_
    exact ev_bLt (by omega) (by omega) (by omega) (by omega) (fun hc => absurd hc (by omega)) (fun hc => rfl)
  unfold sd
  rcases (show l = 0 ∨ l = 1 ∨ l = 2 by omega) with rfl | rfl | rfl
  · rcases (show ξ 23 1 = 1 ∨ ξ 23 1 = 2 ∨ ξ 23 1 = 3 by omega) with h | h | h
    · rw [en _ _ _ (by omega) (by omega) (by omega), if_pos rfl, e1 (by omega), e2 (by omega)]; rfl
    · rw [st _ _ _ (by omega) (by omega) (by omega), en _ _ _ (by omega) (by omega) (by omega), if_pos rfl, e2 (by omega)]
      exact ev_end (by simp) rfl
    · rw [st _ _ _ (by omega) (by omega) (by omega), st _ _ _ (by omega) (by omega) (by omega), en _ _ _ (by omega) (by omega) (by omega), if_pos rfl]
      exact ev_end (by simp) rfl
  · rcases (show ξ 23 1 = 2 ∨ ξ 23 1 = 3 by omega) with h | h
    · rw [en _ _ _ (by omega) (by omega) (by omega), if_neg (by omega), if_pos rfl, e2 (by omega)]; rfl
    · rw [st _ _ _ (by omega) (by omega) (by omega), en _ _ _ (by omega) (by omega) (by omega), if_neg (by omega), if_pos rfl]
      exact ev_end (by simp) rfl
  · rw [en _ _ _ (by omega) (by omega) (by omega), if_neg (by omega), if_neg (by omega)]
theorem sd_cf (h : Cf ξ ζ) : sd ζ = sd ξ := by
  funext i
  unfold sd
  rw [h.1 25 (by omega)]
/-- one measure more is a state, too -/
theorem sd_st (hB : LB ξ) (s0 : 0 ≤ s) (s1 : s < ZZ ξ) (l0 : 0 ≤ l) (l3 : l < 3) (hm : ms ξ s l < ξ 25 l) : 0 ≤ s + sd ξ l ∧ s + sd ξ l < ZZ ξ := by
  have e := enc_ms hB s0 s1
  have m0 := ms_bd (s := s) (i := 0) hB (by omega) (by omega)
  have m1 := ms_bd (s := s) (i := 1) hB (by omega) (by omega)
  have m2 := ms_bd (s := s) (i := 2) hB (by omega) (by omega)
  rcases lake3 l0 l3 with rfl | rfl | rfl
  · have q := enc_bd (a := ms ξ s 0 + 1) (b := ms ξ s 1) (c := ms ξ s 2) hB (by omega) (by omega) (by omega) (by omega) (by omega) (by omega)
    rw [show enc ξ (ms ξ s 0 + 1) (ms ξ s 1) (ms ξ s 2) = s + sd ξ 0 by
      rw [← e]; simp only [show enc ξ (ms ξ s 0) (ms ξ s 1) (ms ξ s 2) = s from e]
      have : enc ξ (ms ξ s 0 + 1) (ms ξ s 1) (ms ξ s 2) = enc ξ (ms ξ s 0) (ms ξ s 1) (ms ξ s 2) + sd ξ 0 := by
        unfold enc sd; simp only [if_pos]; simp only [Int.add_mul, Int.one_mul]; omega
      rw [this, e]] at q
    exact q
  · have q := enc_bd (a := ms ξ s 0) (b := ms ξ s 1 + 1) (c := ms ξ s 2) hB (by omega) (by omega) (by omega) (by omega) (by omega) (by omega)
    have : enc ξ (ms ξ s 0) (ms ξ s 1 + 1) (ms ξ s 2) = enc ξ (ms ξ s 0) (ms ξ s 1) (ms ξ s 2) + sd ξ 1 := by
      unfold enc sd; simp only [Int.reduceEq, if_false, if_true, Int.add_mul, Int.one_mul]; omega
    rw [this, e] at q
    exact q
  · have q := enc_bd (a := ms ξ s 0) (b := ms ξ s 1) (c := ms ξ s 2 + 1) hB (by omega) (by omega) (by omega) (by omega) (by omega) (by omega)
    have : enc ξ (ms ξ s 0) (ms ξ s 1) (ms ξ s 2 + 1) = enc ξ (ms ξ s 0) (ms ξ s 1) (ms ξ s 2) + sd ξ 2 := by
      unfold enc sd; simp only [Int.reduceEq, if_false]; omega
    rw [this, e] at q
    exact q
end W9
