section P8
variable {b0 : Int} {σ τ σ' : Hp} {ξ ζ η ζc ζm ζ1 ξ' : Int → Int → Int} {a b c i k l m n v j w s L p q le r x t t' mm fr st g e u d lim fi : Int}
def okK (ξ : Int → Int → Int) (le g lim fi : Int) : Prop := (0 ≤ g ∧ g ≤ 30) ∧ (0 ≤ le ∧ le ≤ g) ∧ (0 ≤ lim ∧ lim ≤ 10) ∧ (0 ≤ fi ∧ fi ≤ 5) ∧ (ξ 23 1 < 3 → ZZ ξ * (g + 1) ≤ 1000)
theorem T_lake (h : INV b0 ξ σ t) (ht : t + 1 ≤ t') (tb : t' ≤ 100000) (hle : R3 le) (hg : R3 g) (hlim : R3 lim) (hfi : R3 fi) : Step b0 σ ξ t' (F_X7_lake b0 le g lim fi) (F_X8_lake (b0 + 23) le g lim fi) R3 := by
  obtain ⟨hI, hM, hX, hR, hv⟩ := id h
  obtain ⟨r1, r2, r3, r4⟩ := id hR
  obtain ⟨hB, hT, hV, hC, hS, hN⟩ := id hI.1
  have nl := hB.1
  have n81 := hT.2.2.1
  have hz := ZZ_le hB
  have zb : 0 ≤ g → g ≤ 30 → 0 ≤ ZZ ξ * (g + 1) ∧ ZZ ξ * (g + 1) ≤ 31000 := fun a b => ⟨Int.mul_nonneg (by omega) (by omega), by
    have := Int.mul_le_mul (a := ZZ ξ) (b := g + 1) (c := 1000) (d := 31) hz.2 (by omega) (by omega) (by omega)
    omega⟩
  have top : ∀ z, (¬ okK ξ le g lim fi → some (-1, S b0 σ ξ) = z) → (okK ξ le g lim fi → ξ 23 32 ≠ 0 → some (-2, S b0 σ ξ) = z) → (okK ξ le g lim fi → ξ 23 32 = 0 → (ξ 23 1 = 3 ∨ 1 < ξ 23 11) → some (-5, S b0 σ ξ) = z) → (okK ξ le g lim fi → ξ 23 32 = 0 → ξ 23 1 < 3 → ξ 23 11 ≤ 1 → (bd (iv 5 (S b0 σ (xu ξ 15 2 (ξ 15 2 + 1))) (b0 + 1) (F_X4_addLake (b0 + 1) le g lim fi (S b0 σ (xu ξ 15 2 (ξ 15 2 + 1))))) fun jv21 σ22 => some (jv21, σ22)) = z) → F_X7_lake b0 le g lim fi (S b0 σ ξ) = z := by
    intro z z1 z2 z3 z4
    have B81 : ∀ js, (js = 0 ∧ ξ 23 1 < 3) ∨ (js = 1 ∧ ξ 23 1 = 3) → okK ξ le g lim fi → F_X7_lake_B81 b0 le g lim fi js (S b0 σ ξ) = z := by
      intro js hj ok
      rw [F_X7_lake_B81]
      refine ev rS_0_4 ?_
      refine ev rS_17_5 ?_
      rw [r2]
      refine ev_bEq (by omega) (by omega) (by omega) (by omega) (fun q1 => ?_) (fun q1 => z2 ok q1)
      refine ev_bEq (by omega) (by omega) (by omega) (by omega) (fun q2 => ?_) (fun q2 => z3 ok q1 (by omega))
      refine ev rS_0_1 ?_
      refine ev rS_9_2 ?_
      rw [hC.1]
      refine ev_bLe (by omega) (by omega) (by omega) (by omega) (fun q3 => ?_) (fun q3 => z3 ok q1 (by omega))
      refine ev rS_0_2 ?_
      refine evd (iS_15.trans X6_forget) ?_
      refine ev rS_0_0 ?_
      exact z4 ok q1 (by omega) q3
    rw [F_X7_lake]
    refine evd (X7_isWithin hg ⟨by omega, by omega⟩) (ev_if (fun q => z1 (fun y => q y.1)) (fun q1 => ?_))
    refine evd (X7_isWithin hle hg) (ev_if (fun q => z1 (fun y => q y.2.1)) (fun q2 => ?_))
    refine evd (X7_isWithin hlim ⟨by omega, by omega⟩) (ev_if (fun q => z1 (fun y => q y.2.2.1)) (fun q3 => ?_))
    refine evd (X7_isWithin hfi ⟨by omega, by omega⟩) (ev_if (fun q => z1 (fun y => q y.2.2.2.1)) (fun q4 => ?_))
    have zz := zb q1.1 q1.2
    refine ev rS_0_0 ?_
    refine ev rS_1_1 ?_
    rw [hV.1]
    refine ev_bLt (by omega) (by omega) (by omega) (by omega) (fun q5 => ?_) (fun q5 => ?_)
    · rw [F_X7_lake_B55]
      refine ev_bEq (by omega) (by omega) (by omega) (by omega) (fun _ => ?_) (fun q => by omega)
      refine ev rS_0_0 ?_
      refine ev rS_1_2 ?_
      rw [hV.2.1]
      exact ev_bLe (by omega) (by omega) (by omega) (by omega) (fun q6 => B81 0 (by omega) ⟨q1, q2, q3, q4, fun _ => q6⟩) (fun q6 => z1 (fun y => q6 (y.2.2.2.2 q5)))
    · rw [F_X7_lake_B55]
      exact ev_bEq (by omega) (by omega) (by omega) (by omega) (fun q => by omega) (fun _ => B81 1 (by omega) ⟨q1, q2, q3, q4, fun q => absurd q q5⟩)
  have mtop : ∀ (ζ : Int → Int → Int) z, Cf ξ ζ → ζ 23 32 = ξ 23 32 → (¬ okK ξ le g lim fi → some (-1, S b0 σ ζ) = z) → (okK ξ le g lim fi → ξ 23 32 ≠ 0 → some (-2, S b0 σ ζ) = z) → (okK ξ le g lim fi → ξ 23 32 = 0 → (ξ 23 1 = 3 ∨ 1 < ξ 23 11) → some (-5, S b0 σ ζ) = z) → (okK ξ le g lim fi → ξ 23 32 = 0 → ξ 23 1 < 3 → ξ 23 11 ≤ 1 → ((rd 9 (S b0 σ ζ) (b0 + 23) 1).bind fun jv15 => (rd 9 (S b0 σ ζ) (b0 + 23) 2).bind fun jv16 => (aw 11 (S b0 σ ζ) jv16 jv15 le).bind fun σ17 => (rd 9 σ17 (b0 + 23) 3).bind fun jv18 => (aw 11 σ17 jv18 jv15 g).bind fun σ19 => (rd 9 σ19 (b0 + 23) 4).bind fun jv20 => (aw 11 σ19 jv20 jv15 lim).bind fun σ21 => (rd 9 σ21 (b0 + 23) 5).bind fun jv22 => (aw 11 σ21 jv22 jv15 fi).bind fun σ23 => F_X8_lake_L134 (b0 + 23) g jv15 fu 0 σ23) = z) → F_X8_lake (b0 + 23) le g lim fi (S b0 σ ζ) = z := by
    intro ζ z cf e32 z1 z2 z3 z4
    have B63 : okK ξ le g lim fi → F_X8_lake_B63 (b0 + 23) le g lim fi (S b0 σ ζ) = z := by
      intro ok
      rw [F_X8_lake_B63]
      refine ev rS_23_32 ?_
      rw [e32]
      refine ev_bEq (by omega) (by omega) (by omega) (by omega) (fun q1 => ?_) (fun q1 => z2 ok q1)
      refine ev rS_23_1 ?_
      rw [cf.2 1 (by omega)]
      refine ev_bEq (by omega) (by omega) (by omega) (by omega) (fun q2 => z3 ok q1 (Or.inl q2)) (fun q2 => ?_)
      refine ev rS_23_11 ?_
      rw [cf.2 11 (by omega)]
      exact ev_bLe (by omega) (by omega) (by omega) (by omega) (fun q3 => z4 ok q1 (by omega) q3) (fun q3 => z3 ok q1 (by omega))
    rw [F_X8_lake]
    refine evd (X8_in _ hg ⟨by omega, by omega⟩ ⟨by omega, by omega⟩) (ev_if (fun q => z1 (fun y => q y.1)) (fun q1 => ?_))
    refine evd (X8_in _ hle ⟨by omega, by omega⟩ hg) (ev_if (fun q => z1 (fun y => q y.2.1)) (fun q2 => ?_))
    refine evd (X8_in _ hlim ⟨by omega, by omega⟩ ⟨by omega, by omega⟩) (ev_if (fun q => z1 (fun y => q y.2.2.1)) (fun q3 => ?_))
    refine evd (X8_in _ hfi ⟨by omega, by omega⟩ ⟨by omega, by omega⟩) (ev_if (fun q => z1 (fun y => q y.2.2.2.1)) (fun q4 => ?_))
    have zz := zb q1.1 q1.2
    have st := X8_states (b0 := b0) (σ := σ) (hB.cf cf)
    rw [ZZ_cf cf] at st
    refine ev rS_23_1 ?_
    rw [cf.2 1 (by omega)]
    refine ev_bLt (by omega) (by omega) (by omega) (by omega) (fun q5 => ?_) (fun q5 => B63 ⟨q1, q2, q3, q4, fun q => absurd q q5⟩)
    refine evd (iS_23.trans st) ?_
    exact ev_bLe (by omega) (by omega) (by omega) (by omega) (fun q6 => B63 ⟨q1, q2, q3, q4, fun _ => q6⟩) (fun q6 => z1 (fun y => q6 (y.2.2.2.2 q5)))
  by_cases ok : okK ξ le g lim fi
  · by_cases off : ξ 23 32 = 0
    · by_cases full : ξ 23 1 = 3 ∨ 1 < ξ 23 11
      · exact Step_s h (by omega) (top _ (fun q => absurd ok q) (fun _ q => absurd off q) (fun _ _ _ => rfl) (fun _ _ a b => by omega)) (mtop ξ _ Cf.rfl' rfl (fun q => absurd ok q) (fun _ q => absurd off q) (fun _ _ _ => rfl) (fun _ _ a b => by omega)) ⟨by decide, by decide⟩
      · obtain ⟨n, hn⟩ : ∃ n, n = ξ 23 1 := ⟨_, rfl⟩
        have n0 : 0 ≤ n := by omega
        have n3 : n < 3 := by omega
        obtain ⟨ok1, ok2, ok3, ok4, ok5⟩ := id ok
        obtain ⟨ζ1, c1, c2, ⟨c3, c4, c5, c6, c7, c8⟩, c9⟩ := X4_addLake (b0 := b0) (σ := σ) (le := le) (g := g) (lim := lim) (fi := fi) (ζ := xu ξ 15 2 (ξ 15 2 + 1)) n0 n3 (by rw [xu_nd (by omega), hV.1, hn])
        have o1 : ∀ d k, ¬ ((d = 1 ∧ (k = 1 ∨ k = 2)) ∨ (k = 8 ∧ 3 ≤ d ∧ d < 3 + 2 * n ∧ d % 2 = 1) ∨ (d = 3 + 2 * n ∧ 1 ≤ k ∧ k ≤ 4)) → ¬ (d = 15 ∧ k = 2) → ζ1 d k = ξ d k := fun d k a b => by rw [c2 d k a]; exact if_neg b
        have cf1 : Cf ξ ζ1 := ⟨fun d hd => funext fun k => o1 d k (by omega) (by omega), fun k hk => o1 23 k (by omega) (by omega)⟩
        obtain ⟨ξ', m1, m2, ⟨m3, m4, m5, m6, m7, m8, m9, m10, m11⟩, m12⟩ := X8_lakeAdd (b0 := b0) (σ := σ) (le := le) (lim := lim) (fi := fi) (ζ := ζ1) n0 n3 ok1.1 ok1.2 (by rw [cf1.2 1 (by omega), hn])
        refine ⟨n, σ, ζ1, σ, ξ', top _ (fun q => absurd ok q) (fun _ q => absurd off q) (fun _ _ q => absurd q full) (fun _ _ _ _ => evd (iS_1.trans c1) rfl), mtop ζ1 _ cf1 (o1 23 32 (by omega) (by omega)) (fun q => absurd ok q) (fun _ q => absurd off q) (fun _ _ q => absurd q full) (fun _ _ _ _ => m1), ?_, ⟨by omega, by omega⟩⟩
        -- what stands now
        have o : ∀ d k, ¬ ((k = n ∧ ((24 ≤ d ∧ d ≤ 27) ∨ d = 29 ∨ d = 41 ∨ d = 42)) ∨ (d = 28 ∧ 31 * n ≤ k ∧ k ≤ 31 * n + g) ∨ (d = 23 ∧ (k = 1 ∨ k = 19)) ∨ (d = 1 ∧ (k = 1 ∨ k = 2)) ∨ (k = 8 ∧ 3 ≤ d ∧ d < 3 + 2 * n ∧ d % 2 = 1) ∨ (d = 3 + 2 * n ∧ 1 ≤ k ∧ k ≤ 4) ∨ (d = 15 ∧ k = 2)) → ξ' d k = ξ d k := fun d k q => by rw [m2 d k (by omega), o1 d k (by omega) (by omega)]
        have f : ∀ d, (d = 9 ∨ d = 10 ∨ d = 11 ∨ (16 ≤ d ∧ d ≤ 22) ∨ (30 ≤ d ∧ d ≤ 40) ∨ 43 ≤ d) → ξ' d = ξ d := fun d q => funext fun k => o d k (by omega)
        have o23 : ∀ k, k ≠ 1 → k ≠ 19 → ξ' 23 k = ξ 23 k := fun k a b => o 23 k (by omega)
        have v15 : ξ' 15 2 = ξ 15 2 + 1 := by rw [m2 15 2 (by omega), c2 15 2 (by omega), xu_s]
        have e25 : ∀ i, 0 ≤ i → i < 3 → ξ' 25 i = if i = n then g else ξ 25 i := fun i a b => by
          by_cases e : i = n
          · rw [if_pos e, e, m4]
          · rw [if_neg e]; exact o 25 i (by omega)
        obtain ⟨za, sa⟩ := ZZ_add (g := g) hB hn.symm n0 n3 e25
        have ok5' := ok5 (by omega)
        have hB' : LB ξ' := by
          obtain ⟨b1, b2, b3, b4⟩ := id hB
          refine ⟨by rw [m10]; omega, fun i i0 i3 => ?_, fun i i0 i93 => ?_, ?_⟩
          · have q := b2 i i0 i3
            by_cases ei : i = n
            · subst ei
              rw [m3, m4, m5, m6, m7, m8, m9, m10]
              exact ⟨⟨by omega, by omega, by omega, by omega, by omega, by omega, by omega, by omega, by omega, by omega, by omega, by omega, by omega⟩, fun y => by omega⟩
            · rw [o 24 i (by omega), o 25 i (by omega), o 26 i (by omega), o 27 i (by omega), o 29 i (by omega), o 41 i (by omega), o 42 i (by omega), m10]
              exact ⟨q.1, fun y => q.2 (by omega)⟩
          · by_cases e : 31 * n ≤ i ∧ i ≤ 31 * n + g
            · have := m12 (i - 31 * n) (by omega) (by omega)
              rw [show 31 * n + (i - 31 * n) = i by omega] at this
              rw [this]; omega
            · rw [o 28 i (by omega)]
              exact b3 i i0 i93
          · have : ZZ ξ' ≤ 1000 := by rw [za]; exact ok5'
            exact this
        have hT' : TB ξ' := by
          unfold TB IFB at *
          rw [o23 8 (by omega) (by omega), o23 9 (by omega) (by omega), o23 11 (by omega) (by omega), f 30 (by omega), f 31 (by omega), f 32 (by omega), f 33 (by omega), f 34 (by omega)]
          exact hT
        have hV' : CV ξ' := by
          obtain ⟨a1, a2, a3⟩ := hV
          refine ⟨?_, ?_, fun i i0 i3 => ?_⟩
          · rw [m2 1 1 (by omega), c3, m10]
          · rw [m2 1 2 (by omega), c4, za, xu_nd (by omega), a2]
          · obtain ⟨a4, a5⟩ := a3 i i0 i3
            have s8 : ξ' (3 + 2 * i) 8 = sd ξ' i := by
              rw [sa i i0 i3, m2 _ _ (by omega)]
              by_cases e : i < n
              · rw [if_pos e, c9 i i0 e, xu_nd (by omega), a4.2.2.2.2.2.2.2]
              · rw [if_neg e, o1 _ _ (by omega) (by omega)]
                exact a4.2.2.2.2.2.2.2
            refine ⟨?_, fun m m0 m1' => ?_⟩
            · by_cases ei : i = n
              · subst ei
                have q := (hB.2.1 i i0 i3).2 (by omega)
                have x4 := hX.2.2.2 i (by omega) i3
                have a7 := a4.2.2.2.2.2.2.1
                rw [if_neg (by omega)] at a7
                rw [m3, m4, m5, m6, m7, m8, m9, m10, if_pos (by omega)]
                refine ⟨by rw [m2 _ _ (by omega), c5], by rw [m2 _ _ (by omega), c6], by rw [m2 _ _ (by omega), c7], by rw [m2 _ _ (by omega), c8], ?_, ?_, ?_, s8⟩
                · rw [o _ 5 (by omega), a4.2.2.2.2.1]; exact q.2.2.2.2
                · rw [o _ 6 (by omega), a4.2.2.2.2.2.1]; exact x4
                · rw [o _ 7 (by omega)]; exact a7
              · have a7 := a4.2.2.2.2.2.2.1
                rw [o 24 i (by omega), o 25 i (by omega), o 26 i (by omega), o 27 i (by omega), o 29 i (by omega), o 41 i (by omega), o 42 i (by omega), m10, o (3 + 2 * i) 1 (by omega), o (3 + 2 * i) 2 (by omega), o (3 + 2 * i) 3 (by omega), o (3 + 2 * i) 4 (by omega), o (3 + 2 * i) 5 (by omega), o (3 + 2 * i) 6 (by omega), o (3 + 2 * i) 7 (by omega)]
                refine ⟨a4.1, a4.2.1, a4.2.2.1, a4.2.2.2.1, a4.2.2.2.2.1, a4.2.2.2.2.2.1, ?_, s8⟩
                rw [a7]
                by_cases e : i < ξ 23 1
                · rw [if_pos e, if_pos (by omega)]
                · rw [if_neg e, if_neg (by omega)]
            · rw [o (4 + 2 * i) m (by omega), a5 m m0 m1']
              unfold hd
              rw [m10]
              by_cases ei : i = n
              · subst ei
                rw [if_neg (by omega), m4]
                by_cases e : m ≤ g
                · rw [if_pos ⟨by omega, e⟩, m12 m m0 e]
                · rw [if_neg (fun y => e y.2)]
              · rw [o 25 i (by omega), o 28 (31 * i + m) (by omega)]
                by_cases e : i < ξ 23 1 ∧ m ≤ ξ 25 i
                · rw [if_pos e, if_pos (by omega)]
                · rw [if_neg e, if_neg (by omega)]
        have hC' : CR ξ' := by
          unfold CR at hC ⊢
          rw [f 9 (by omega), f 11 (by omega), f 30 (by omega), o23 11 (by omega) (by omega), o23 8 (by omega) (by omega), o23 9 (by omega) (by omega)]
          exact hC
        have e10 : ξ' 10 = ξ 10 := f 10 (by omega)
        have hR' : RM b0 ξ' σ := by
          obtain ⟨cn, d1, d2, d3⟩ := hI.2.2
          have el : liv ξ' = liv ξ := by
            funext n
            unfold liv
            rw [e10]
          refine ⟨cn, fun k k0 k81 => ?_, by rw [el]; exact d2, by rw [el]; exact d3⟩
          obtain ⟨q1, q2, q3⟩ := d1 k k0 k81
          unfold RMn
          rw [e10, m10]
          exact ⟨by omega, fun _ => Or.inr (Or.inl (by omega)), q3⟩
        refine INV_e h off ⟨⟨hB', hT', hV', hC', NS_e10 e10 hS, NL_e e10 (o23 11 (by omega) (by omega)) (f 31 (by omega)) (f 32 (by omega)) (f 33 (by omega)) (f 34 (by omega)) hN⟩, CM_bump hI.2.1 e10 v15 (by omega), hR'⟩ ?_ ?_ ?_ m11 (f 37 (by omega)) (f 38 (by omega)) (o23 32 (by omega) (by omega)) (by rw [f 17 (by omega)]) (fun d a b => by rw [f d (by omega)]) (by rw [v15]; omega)
        · obtain ⟨x1, x2, x3, x4⟩ := hX
          refine ⟨fun i x y i0 i1 xx xy yy => ?_, fun k i k0 k1 i0 i1 => ?_, fun i i0 i1 => ?_, fun i i0 i1 => ?_⟩
          · rw [m10] at i1
            rw [e25 i i0 (by omega)] at yy
            by_cases ei : i = n
            · subst ei
              rw [if_pos rfl] at yy
              rw [m12 x xx (by omega), m12 y (by omega) yy]
              exact Int.le_refl _
            · rw [if_neg ei] at yy
              have gi := hB.gr i0 (show i < 3 by omega)
              rw [o 28 (31 * i + x) (by omega), o 28 (31 * i + y) (by omega)]
              exact x1 i x y i0 (by omega) xx xy yy
          · rw [m10] at i0
            rw [f 34 (by omega)]
            exact x2 k i k0 k1 (by omega) i1
          · rw [f 34 (by omega)]
            exact x3 i i0 i1
          · rw [m10] at i0
            rw [o 41 i (by omega)]
            exact x4 i (by omega) i1
        · intro i i0 i3
          have q := hM.1.2.1 i i0 i3
          rw [f 35 (by omega), m10, e25 i i0 i3]
          by_cases ei : i = n
          · subst ei
            rw [if_pos rfl]
            have := q.2 (by omega)
            exact ⟨by omega, fun y => by omega⟩
          · rw [if_neg ei]
            exact ⟨q.1, fun y => q.2 (by omega)⟩
        · intro i i0 i3 y
          rw [m10] at y
          rw [f 36 (by omega)]
          exact hM.1.2.2.1 i i0 i3 (by omega)
    · exact Step_s h (by omega) (top _ (fun q => absurd ok q) (fun _ _ => rfl) (fun _ q => absurd q off) (fun _ q => absurd q off)) (mtop ξ _ Cf.rfl' rfl (fun q => absurd ok q) (fun _ _ => rfl) (fun _ q => absurd q off) (fun _ q => absurd q off)) ⟨by decide, by decide⟩
  · exact Step_s h (by omega) (top _ (fun _ => rfl) (fun q => absurd q ok) (fun q => absurd q ok) (fun q => absurd q ok)) (mtop ξ _ Cf.rfl' rfl (fun _ => rfl) (fun q => absurd q ok) (fun q => absurd q ok) (fun q => absurd q ok)) ⟨by decide, by decide⟩
end P8
