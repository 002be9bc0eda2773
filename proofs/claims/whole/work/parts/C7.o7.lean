section O7
variable {b0 : Int} {σ τ σ' : Hp} {ξ ζ η : Int → Int → Int} {a b c i k l m n v j w s L p q le r x t t' mm fr st g : Int}
theorem X8_child (hT : TB ξ) (cf : Cf ξ ζ) (n0 : 0 ≤ n) (n1 : n < ξ 23 11) (hk : R3 k) : ∃ c, F_X8_child (b0 + 23) n k (S b0 σ ζ) = some (c, S b0 σ ζ) ∧ ((c = -1 ∧ ¬ (0 ≤ k ∧ k < rk ξ n (ξ 23 11))) ∨ ((n < c ∧ c < ξ 23 11) ∧ ξ 31 c = n ∧ rk ξ n c = k ∧ (0 ≤ k ∧ k < rk ξ n (ξ 23 11)))) := by
  have n81 := hT.2.2.1
  have key : 0 ≤ k → ∀ (m f : Nat) (u j : Int), m < f → n + 1 ≤ j → j + m = ξ 23 11 → u = k - rk ξ n j → 0 ≤ u → ∃ c, F_X8_child_L7 (b0 + 23) n k f u j (S b0 σ ζ) = some (c, S b0 σ ζ) ∧ ((c = -1 ∧ ¬ (0 ≤ k ∧ k < rk ξ n (ξ 23 11))) ∨ ((n < c ∧ c < ξ 23 11) ∧ ξ 31 c = n ∧ rk ξ n c = k ∧ (0 ≤ k ∧ k < rk ξ n (ξ 23 11)))) := by
    intro k0 m
    induction m with
    | zero =>
      intro f u j hf j0 he hu u0
      obtain ⟨f, rfl⟩ : ∃ g, f = g + 1 := ⟨f - 1, by omega⟩
      have e : j = ξ 23 11 := by omega
      subst e
      refine ⟨-1, ?_, Or.inl ⟨rfl, by omega⟩⟩
      rw [F_X8_child_L7]
      refine ev rS_23_11 ?_
      rw [cf.2 11 (by omega)]
      exact ev_bLt (by omega) (by omega) (by omega) (by omega) (fun q => by omega) (fun _ => rfl)
    | succ m ih =>
      intro f u j hf j0 he hu u0
      obtain ⟨f, rfl⟩ : ∃ g, f = g + 1 := ⟨f - 1, by omega⟩
      have p := hT.2.2.2.2.2.1 j (by omega) (by omega)
      have rs := rk_s (ξ := ξ) (n := n) (p := j) j0
      have rm := rk_mono (ξ := ξ) (n := n) (p := j + 1) (q := ξ 23 11) (by omega) (by omega)
      have r0 := rk_mono (ξ := ξ) (n := n) (p := n + 1) (q := j) (by omega) j0
      rw [rk_0] at r0
      have top : ∀ z, (ξ 31 j = n → u = 0 → some (j, S b0 σ ζ) = z) → (ξ 31 j = n → u ≠ 0 → F_X8_child_L7 (b0 + 23) n k f (u + (-1)) (j + 1) (S b0 σ ζ) = z) → (ξ 31 j ≠ n → F_X8_child_L7 (b0 + 23) n k f u (j + 1) (S b0 σ ζ) = z) → F_X8_child_L7 (b0 + 23) n k (f + 1) u j (S b0 σ ζ) = z := by
        intro z z1 z2 z3
        rw [F_X8_child_L7]
        refine ev rS_23_11 ?_
        rw [cf.2 11 (by omega)]
        refine ev_bLt (by omega) (by omega) (by omega) (by omega) (fun _ => ?_) (fun q => by omega)
        refine ev_bLt hk.1 hk.2 (by omega) (by omega) (fun q => by omega) (fun _ => ?_)
        refine ev rS_23_12 ?_
        refine ev (aS_31 (by omega) (by omega)) ?_
        rw [cf.1 31 (by omega)]
        have hk2 := hk.2
        refine ev_bEq (by omega) (by omega) (by omega) (by omega) (fun q1 => ?_) (fun q1 => z3 q1)
        exact ev_bEq (by omega) (by omega) (by omega) (by omega) (fun q2 => z1 q1 q2) (fun q2 => z2 q1 q2)
      by_cases e : ξ 31 j = n
      · have rf1 : rkf ξ n j = 1 := if_pos e
        by_cases eu : u = 0
        · exact ⟨j, top _ (fun _ _ => rfl) (fun _ x => absurd eu x) (fun x => absurd e x), Or.inr ⟨by omega, e, by omega, by omega⟩⟩
        · obtain ⟨c, c1, c2⟩ := ih f (u + (-1)) (j + 1) (by omega) (by omega) (by omega) (by omega) (by omega)
          exact ⟨c, top _ (fun _ x => absurd x eu) (fun _ _ => c1) (fun x => absurd e x), c2⟩
      · have rf1 : rkf ξ n j = 0 := if_neg e
        obtain ⟨c, c1, c2⟩ := ih f u (j + 1) (by omega) (by omega) (by omega) (by omega) u0
        exact ⟨c, top _ (fun x => absurd x e) (fun x => absurd x e) (fun _ => c1), c2⟩
  by_cases k0 : 0 ≤ k
  · rw [F_X8_child]
    exact key k0 (ξ 23 11 - (n + 1)).toNat fu k (n + 1) (fuN (by omega)) (Int.le_refl _) (by omega) (by rw [rk_0]; omega) k0
  · refine ⟨-1, ?_, Or.inl ⟨rfl, by omega⟩⟩
    rw [F_X8_child]
    obtain ⟨f, hf⟩ := fu4
    rw [hf, F_X8_child_L7]
    refine ev rS_23_11 ?_
    rw [cf.2 11 (by omega)]
    refine ev_bLt (by omega) (by omega) (by omega) (by omega) (fun _ => ?_) (fun _ => rfl)
    exact ev_bLt hk.1 hk.2 (by omega) (by omega) (fun _ => rfl) (fun q => by omega)
def goC (ζ : Int → Int → Int) (g p s' e sp lo ci : Int) : Int → Int → Int := xu (xu (xu (xu (xu (xu (xu ζ 17 6 (g + 1)) 17 7 p) 18 (g + 1) s') 19 (g + 1) e) 20 (g + 1) sp) 21 (g + 1) lo) 22 (g + 1) ci
theorem X2_goOn {s' e sp lo : Int} (K : KB b0 ξ σ) (n0 : 0 ≤ c) (n1 : c < ξ 23 11) (g0 : 0 ≤ g) (g1 : g < 10) (z6 : ζ 17 6 = g) : F_X2_goOn (b0 + 17) (ξ 10 c) s' e sp lo (S b0 σ ζ) = some (0, S b0 σ (goC ζ g (ξ 10 c) s' (ζ 19 g + e) (ζ 20 g + sp) (ζ 21 g + lo) (ζ 22 g + (ξ 34 (3 * c) + ξ 34 (3 * c + 1) + ξ 34 (3 * c + 2))))) := by
  rw [F_X2_goOn]
  refine ev rS_17_6 ?_
  rw [z6]
  refine ev_bLt (by omega) (by omega) (by omega) (by omega) (fun _ => ?_) (fun q => by omega)
  refine ev rS_17_6 ?_
  refine ev rS_17_6 ?_
  rw [z6]
  refine ev pS_17_6 ?_
  refine ev pS_17_7 ?_
  refine ev rS_17_0 ?_
  refine ev rS_17_6 ?_
  rw [xu_ni (by omega), xu_s]
  refine ev (wS_18 (by omega) (by omega)) ?_
  refine ev rS_17_1 ?_
  refine ev rS_17_6 ?_
  rw [xu_nd (by omega), xu_ni (by omega), xu_s]
  refine ev rS_17_1 ?_
  refine ev (aS_19 (by omega) (by omega)) ?_
  rw [xu_nd (by omega), xu_nd (by omega), xu_nd (by omega)]
  refine ev (wS_19 (by omega) (by omega)) ?_
  refine ev rS_17_2 ?_
  refine ev rS_17_6 ?_
  rw [xu_nd (by omega), xu_nd (by omega), xu_ni (by omega), xu_s]
  refine ev rS_17_2 ?_
  refine ev (aS_20 (by omega) (by omega)) ?_
  rw [xu_nd (by omega), xu_nd (by omega), xu_nd (by omega), xu_nd (by omega)]
  refine ev (wS_20 (by omega) (by omega)) ?_
  refine ev rS_17_3 ?_
  refine ev rS_17_6 ?_
  rw [xu_nd (by omega), xu_nd (by omega), xu_nd (by omega), xu_ni (by omega), xu_s]
  refine ev rS_17_3 ?_
  refine ev (aS_21 (by omega) (by omega)) ?_
  rw [xu_nd (by omega), xu_nd (by omega), xu_nd (by omega), xu_nd (by omega), xu_nd (by omega)]
  refine ev (wS_21 (by omega) (by omega)) ?_
  refine ev rS_17_4 ?_
  refine ev rS_17_6 ?_
  rw [xu_nd (by omega), xu_nd (by omega), xu_nd (by omega), xu_nd (by omega), xu_ni (by omega), xu_s]
  refine ev rS_17_4 ?_
  refine ev (aS_22 (by omega) (by omega)) ?_
  rw [xu_nd (by omega), xu_nd (by omega), xu_nd (by omega), xu_nd (by omega), xu_nd (by omega), xu_nd (by omega)]
  refine evd ((iv_o (K.nd n0 n1)).trans (X1_sumIn K n0 n1)) ?_
  exact ev (wS_22 (by omega) (by omega)) rfl
theorem rk_lt (hT : TB ξ) (n0 : 0 ≤ n) (c0 : n < c) (c1 : c < ξ 23 11) (hp : ξ 31 c = n) : 0 ≤ rk ξ n c ∧ rk ξ n c < rk ξ n (ξ 23 11) := by
  have rs := rk_s (ξ := ξ) (n := n) (p := c) (by omega)
  have rf1 : rkf ξ n c = 1 := if_pos hp
  have rm := rk_mono (ξ := ξ) (n := n) (p := c + 1) (q := ξ 23 11) (by omega) (by omega)
  have r0 := rk_mono (ξ := ξ) (n := n) (p := n + 1) (q := c) (by omega) (by omega)
  rw [rk_0] at r0
  omega
theorem X7_letWeek (K : KI b0 ξ σ) (hc : Ch scrC ξ ζ) (g0 : 0 ≤ g) (g1 : g < 10) (z6 : ζ 17 6 = g) (z7 : ζ 17 7 = ξ 10 n) (z18 : ζ 18 g = s) (n0 : 0 ≤ n) (c0 : n < c) (c1 : c < ξ 23 11) (hp : ξ 31 c = n) (hk : rk ξ n c = k) (r6 : rk ξ n (ξ 23 11) ≤ 6) (hl : 0 < ξ 23 1) (s0 : 0 ≤ s) (s1 : s < ZZ ξ) (hb : bx ξ s L) : F_X7_letWeek b0 L k (S b0 σ ζ) = some (ernS ξ (ξ 33 c) s L, S b0 σ (goC (xu ζ 1 3 (spS ξ c s L)) g (ξ 10 c) (flS ξ c s L) (ζ 19 g + ernS ξ (ξ 33 c) s L) (ζ 20 g + spS ξ c s L) (ζ 21 g + dg L (ξ 23 1 - 1)) (ζ 22 g + (ξ 34 (3 * c) + ξ 34 (3 * c + 1) + ξ 34 (3 * c + 2))))) := by
  obtain ⟨hB, hT, hV, hC, hS, hN⟩ := id K.1
  have nl := hB.1
  have hz := ZZ_le hB
  have cf := Cf_scrC hc
  have hV' := CV_ch hc hV
  have tc := hT.2.2.2.2.2.1 c (by omega) c1
  rw [hp] at tc
  have rl := rk_lt hT n0 c0 c1 hp
  have lc := K.1.lv (n := c) (by omega) c1
  have lc2 := lc.2
  have ln2 := (K.1.lv (n := n) n0 (by omega)).2
  have hNn := hN.2.2 n n0 (by omega)
  have sn := X2_stateNow (b0 := b0) (σ := σ) g0 (by omega) z6 z18
  have hht := X4_headsTimesLets (b0 := b0) (σ := σ) (s := s) (L := L) (hB.cf cf) hV' s0 (by omega) (LZ_cf cf (bx_LZ hB hb))
  rw [hts_cf cf] at hht
  have hfl := C_flow (s := s) (L := L) K.1 hc (n := c) (by omega) c1 s0 (by omega) hb.1.1 hb.1.2
  have e11 : ζ 1 1 = ξ 23 1 := by rw [hc 1 1 (by unfold scrC; omega)]; exact hV.1
  have bt := dg_bd (j := ξ 23 1 - 1) hb.1.1 hb.1.2
  have go := X2_goOn (b0 := b0) (s' := flS ξ c s L) (e := ernS ξ (ξ 33 c) s L) (sp := spS ξ c s L) (lo := dg L (ξ 23 1 - 1)) (ζ := xu ζ 1 3 (spS ξ c s L)) (c := c) K.1 (by omega) c1 g0 g1 ((xu_nd (by omega)).trans z6)
  rw [xu_nd (show (19 : Int) ≠ 1 by omega), xu_nd (show (20 : Int) ≠ 1 by omega), xu_nd (show (21 : Int) ≠ 1 by omega), xu_nd (show (22 : Int) ≠ 1 by omega)] at go
  rw [F_X7_letWeek]
  refine ev rS_0_4 ?_
  refine ev rS_17_7 ?_
  rw [z7]
  refine ev_bN (fun x => by omega) (fun _ => ?_)
  refine ev rS_0_4 ?_
  refine ev rS_17_7 ?_
  rw [z7]
  refine evd ((iv_o (K.1.nd n0 (by omega))).trans (X1_childAt K.1 n0 (by omega) r6 ⟨by omega, by omega⟩)) ?_
  rw [if_pos (by omega), ← hk, hNn.2.2.2.2.2.2 c c0 c1 hp, F_X7_letWeek_B25]
  refine ev_bN (fun x => by omega) (fun _ => ?_)
  refine ev rS_0_1 ?_
  refine ev rS_0_4 ?_
  refine ev rS_17_7 ?_
  rw [z7]
  refine evd (iS_9.trans (X3_priceFrom K.1 hc n0 (by omega) (by omega))) ?_
  refine ev rS_0_0 ?_
  refine ev rS_0_4 ?_
  refine evd (iS_17.trans sn) ?_
  refine evd (iS_1.trans hht) ?_
  refine evn ?_
  rw [hts_ern hB hb, ← tc.2.2.1]
  refine ev rS_0_0 ?_
  refine ev rS_0_4 ?_
  refine evd (iS_17.trans sn) ?_
  refine ev (rd_o (K.1.nd (by omega) c1)) ?_
  refine evd (iS_1.trans hfl) ?_
  refine ev rS_0_4 ?_
  refine ev rS_0_0 ?_
  refine ev rS_1_3 ?_
  rw [xu_s]
  refine ev rS_0_0 ?_
  refine ev rS_1_1 ?_
  rw [xu_ni (by omega), e11]
  refine evd (X4_letOf hb.1.1 hb.1.2 (by omega) (by omega)) ?_
  exact evd (iS_17.trans go) rfl
end O7
