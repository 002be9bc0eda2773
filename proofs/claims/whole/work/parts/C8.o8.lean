section O8
variable {b0 : Int} {σ τ σ' : Hp} {ξ ζ η ζc ζm : Int → Int → Int} {a b c i k l m n v j w s L p q le r x t t' mm fr st g : Int}
def goM (ζ : Int → Int → Int) (g c s' e sp lo ci : Int) : Int → Int → Int := xu (xu (xu (xu (xu (xu (xu ζ 49 (g + 1) c) 50 (g + 1) s') 51 (g + 1) e) 52 (g + 1) sp) 53 (g + 1) lo) 54 (g + 1) ci) 23 33 (g + 1)
theorem ifs_eq (hB : LB ξ) (hX : XT ξ) (c0 : 0 ≤ c) (c1 : c < 81) : sf (fun l => ξ 34 (3 * c + l)) 0 (ξ 23 1).toNat = ξ 34 (3 * c) + ξ 34 (3 * c + 1) + ξ 34 (3 * c + 2) := by
  have nl := hB.1
  have z := hX.2.1 c
  have e0 : ξ 34 (3 * c + 0) = ξ 34 (3 * c) := by rw [Int.add_zero]
  rcases (by omega : ξ 23 1 = 0 ∨ ξ 23 1 = 1 ∨ ξ 23 1 = 2 ∨ ξ 23 1 = 3) with e | e | e | e
  · have a0 := z 0 c0 c1 (by omega) (by omega)
    have a1 := z 1 c0 c1 (by omega) (by omega)
    have a2 := z 2 c0 c1 (by omega) (by omega)
    rw [e, show (0 : Int).toNat = 0 from rfl, sf]
    omega
  · have a1 := z 1 c0 c1 (by omega) (by omega)
    have a2 := z 2 c0 c1 (by omega) (by omega)
    rw [e, show (1 : Int).toNat = 0 + 1 from rfl, sf, sf]
    show ξ 34 (3 * c + 0) + 0 = _
    omega
  · have a2 := z 2 c0 c1 (by omega) (by omega)
    rw [e, show (2 : Int).toNat = 0 + 1 + 1 from rfl, sf, sf, sf]
    show ξ 34 (3 * c + 0) + (ξ 34 (3 * c + (0 + 1)) + 0) = _
    rw [show 3 * c + (0 + 1) = 3 * c + 1 by omega]
    omega
  · rw [e, show (3 : Int).toNat = 0 + 1 + 1 + 1 from rfl, sf, sf, sf, sf]
    show ξ 34 (3 * c + 0) + (ξ 34 (3 * c + (0 + 1)) + (ξ 34 (3 * c + (0 + 1 + 1)) + 0)) = _
    rw [show 3 * c + (0 + 1) = 3 * c + 1 by omega, show 3 * c + (0 + 1 + 1) = 3 * c + 2 by omega]
    omega
def scrG (g d k : Int) : Prop := 49 ≤ d ∧ d ≤ 54 ∧ k = g + 1
theorem Y8_goes (hB : LB ξ) (hT : TB ξ) (hX : XT ξ) (cf : Cf ξ ζ) (hM : MB ζ) (h36 : ∀ l, 0 ≤ l → l < 3 → ζ 36 l = dg L l) (hb : bx ξ s L) (g0 : 0 ≤ g) (g1 : g < 10) (z33 : ζ 23 33 = g) (z50 : ζ 50 g = s) (c0 : 1 ≤ c) (c1 : c < ξ 23 11) (hl : 0 < ξ 23 1) (s0 : 0 ≤ s) (s1 : s < ZZ ξ) : F_X8_goes (b0 + 23) c (S b0 σ ζ) = some (ernS ξ (ξ 33 c) s L, S b0 σ (goM (xu (unf ζ s) 23 18 (spS ξ c s L)) g c (flS ξ c s L) (ζ 51 g + ernS ξ (ξ 33 c) s L) (ζ 52 g + spS ξ c s L) (ζ 53 g + dg L (ξ 23 1 - 1)) (ζ 54 g + (ξ 34 (3 * c) + ξ 34 (3 * c + 1) + ξ 34 (3 * c + 2))))) := by
  have hz := ZZ_le hB
  have n81 := hT.2.2.1
  have nl := hB.1
  have w10 := hT.1
  have wk := hT.week (n := c) (by omega) c1
  have tc := hT.2.2.2.2.2.1 c (by omega) c1
  have wp := hT.week (n := ξ 31 c) tc.1 (by omega)
  have hA := At_unf (s := s) hB cf hM h36
  have hea := At_earns (b0 := b0) (σ := σ) (w := ξ 33 c) hB hA hb (by omega) (by omega)
  have hco := At_comes (b0 := b0) (σ := σ) (c := c) hB hT hA hb (by omega) (by omega)
  rw [F_X8_goes]
  refine ev rS_23_35 ?_
  refine ev rS_23_33 ?_
  rw [z33]
  refine ev (aS_50 g0 (by omega)) ?_
  rw [z50]
  refine evd (iS_23.trans (X8_unfold (hB.cf cf) s0 (by omega))) ?_
  refine ev rS_23_14 ?_
  refine ev (aS_33 (by omega) (by omega)) ?_
  rw [hA.1.1 33 (by omega)]
  refine evd (iS_23.trans hea) ?_
  refine evd (iS_23.trans hco) ?_
  have a33 : xu (unf ζ s) 23 18 (spS ξ c s L) 23 33 = g := by rw [xu_ni (by omega), unf_d (by omega)]; exact z33
  have a18 : xu (unf ζ s) 23 18 (spS ξ c s L) 23 18 = spS ξ c s L := xu_s
  have ao : ∀ d k, d ≠ 23 → d ≠ 35 → xu (unf ζ s) 23 18 (spS ξ c s L) d k = ζ d k := fun d k h1 h2 => by rw [xu_nd h1, unf_d h2]
  have cfa : Cf ξ (xu (unf ζ s) 23 18 (spS ξ c s L)) := (At_xu hA (by omega)).1
  generalize hζa : xu (unf ζ s) 23 18 (spS ξ c s L) = ζa at *
  have key : ∀ (m f : Nat) (a j : Int), m < f → 0 ≤ j → j + m = ξ 23 1 → ∃ f', F_X8_goes_L36 (b0 + 23) c (ernS ξ (ξ 33 c) s L) (flS ξ c s L) f a j (S b0 σ ζa) = F_X8_goes_L36 (b0 + 23) c (ernS ξ (ξ 33 c) s L) (flS ξ c s L) (f' + 1) (a + sf (fun l => ξ 34 (3 * c + l)) j m) (ξ 23 1) (S b0 σ ζa) := by
    intro m
    induction m with
    | zero =>
      intro f a j hf j0 he
      refine ⟨f - 1, ?_⟩
      rw [sf, Int.add_zero, show f - 1 + 1 = f by omega, show j = ξ 23 1 by omega]
    | succ m ih =>
      intro f a j hf j0 he
      obtain ⟨f, rfl⟩ : ∃ g, f = g + 1 := ⟨f - 1, by omega⟩
      obtain ⟨f', e⟩ := ih f (a + ξ 34 (3 * c + j)) (j + 1) (by omega) (by omega) (by omega)
      refine ⟨f', ?_⟩
      rw [sf, ← Int.add_assoc]
      refine Eq.trans ?_ e
      rw [F_X8_goes_L36]
      refine ev rS_23_1 ?_
      rw [cfa.2 1 (by omega)]
      refine ev_bLt (by omega) (by omega) (by omega) (by omega) (fun _ => ?_) (fun q => by omega)
      refine ev rS_23_15 ?_
      refine ev (aS_34 (by omega) (by omega)) ?_
      rw [cfa.1 34 (by omega)]
  obtain ⟨f', e⟩ := key (ξ 23 1).toNat fu 0 0 (fuN (by omega)) (Int.le_refl _) (by omega)
  rw [e, ifs_eq hB hX (by omega) (by omega), Int.zero_add, F_X8_goes_L36]
  have k1 : Ch (scrG g) ζa (xu ζa 49 (g + 1) c) := Ch_xu (by unfold scrG; omega) Ch.rf
  have k2 : Ch (scrG g) ζa (xu (xu ζa 49 (g + 1) c) 50 (g + 1) (flS ξ c s L)) := Ch_xu (by unfold scrG; omega) k1
  have k3 : Ch (scrG g) ζa (xu (xu (xu ζa 49 (g + 1) c) 50 (g + 1) (flS ξ c s L)) 51 (g + 1) (ζ 51 g + ernS ξ (ξ 33 c) s L)) := Ch_xu (by unfold scrG; omega) k2
  have k4 : Ch (scrG g) ζa (xu (xu (xu (xu ζa 49 (g + 1) c) 50 (g + 1) (flS ξ c s L)) 51 (g + 1) (ζ 51 g + ernS ξ (ξ 33 c) s L)) 52 (g + 1) (ζ 52 g + spS ξ c s L)) := Ch_xu (by unfold scrG; omega) k3
  have k5 : Ch (scrG g) ζa (xu (xu (xu (xu (xu ζa 49 (g + 1) c) 50 (g + 1) (flS ξ c s L)) 51 (g + 1) (ζ 51 g + ernS ξ (ξ 33 c) s L)) 52 (g + 1) (ζ 52 g + spS ξ c s L)) 53 (g + 1) (ζ 53 g + dg L (ξ 23 1 - 1))) := Ch_xu (by unfold scrG; omega) k4
  have k6 : Ch (scrG g) ζa (xu (xu (xu (xu (xu (xu ζa 49 (g + 1) c) 50 (g + 1) (flS ξ c s L)) 51 (g + 1) (ζ 51 g + ernS ξ (ξ 33 c) s L)) 52 (g + 1) (ζ 52 g + spS ξ c s L)) 53 (g + 1) (ζ 53 g + dg L (ξ 23 1 - 1))) 54 (g + 1) (ζ 54 g + (ξ 34 (3 * c) + ξ 34 (3 * c + 1) + ξ 34 (3 * c + 2)))) := Ch_xu (by unfold scrG; omega) k5
  refine ev rS_23_1 ?_
  rw [cfa.2 1 (by omega)]
  refine ev_bLt (by omega) (by omega) (by omega) (by omega) (fun q => by omega) (fun _ => ?_)
  refine ev rS_23_34 ?_
  refine ev rS_23_33 ?_
  rw [a33]
  refine ev (wS_49 (by omega) (by omega)) ?_
  refine ev rS_23_35 ?_
  refine ev rS_23_33 ?_
  rw [k1 23 33 (by unfold scrG; omega), a33]
  refine ev (wS_50 (by omega) (by omega)) ?_
  refine ev rS_23_36 ?_
  refine ev rS_23_33 ?_
  refine ev rS_23_36 ?_
  refine ev rS_23_33 ?_
  rw [k2 23 33 (by unfold scrG; omega), a33]
  refine ev (aS_51 (by omega) (by omega)) ?_
  rw [k2 51 g (by unfold scrG; omega), ao 51 g (by omega) (by omega)]
  refine ev (wS_51 (by omega) (by omega)) ?_
  refine ev rS_23_37 ?_
  refine ev rS_23_33 ?_
  refine ev rS_23_37 ?_
  refine ev rS_23_33 ?_
  rw [k3 23 33 (by unfold scrG; omega), a33]
  refine ev (aS_52 (by omega) (by omega)) ?_
  rw [k3 52 g (by unfold scrG; omega), ao 52 g (by omega) (by omega)]
  refine ev rS_23_18 ?_
  rw [k3 23 18 (by unfold scrG; omega), a18]
  refine ev (wS_52 (by omega) (by omega)) ?_
  refine ev rS_23_38 ?_
  refine ev rS_23_33 ?_
  refine ev rS_23_38 ?_
  refine ev rS_23_33 ?_
  rw [k4 23 33 (by unfold scrG; omega), a33]
  refine ev (aS_53 (by omega) (by omega)) ?_
  rw [k4 53 g (by unfold scrG; omega), ao 53 g (by omega) (by omega)]
  refine ev rS_23_17 ?_
  refine ev rS_23_1 ?_
  rw [k4 23 1 (by unfold scrG; omega), cfa.2 1 (by omega)]
  refine ev (aS_36 (by omega) (by omega)) ?_
  rw [k4 36 _ (by unfold scrG; omega), ao 36 _ (by omega) (by omega), h36 _ (by omega) (by omega)]
  refine ev (wS_53 (by omega) (by omega)) ?_
  refine ev rS_23_39 ?_
  refine ev rS_23_33 ?_
  refine ev rS_23_39 ?_
  refine ev rS_23_33 ?_
  rw [k5 23 33 (by unfold scrG; omega), a33]
  refine ev (aS_54 (by omega) (by omega)) ?_
  rw [k5 54 g (by unfold scrG; omega), ao 54 g (by omega) (by omega)]
  refine ev (wS_54 (by omega) (by omega)) ?_
  refine ev rS_23_33 ?_
  rw [k6 23 33 (by unfold scrG; omega), a33]
  exact ev pS_23_33 rfl
theorem spS_bd (hB : LB ξ) (hT : TB ξ) (hb : bx ξ s L) (c0 : 0 ≤ c) (c1 : c < 81) : 0 ≤ spS ξ c s L ∧ spS ξ c s L ≤ 10000 := by
  have hI := hT.2.2.2.2.2.2
  have i0 := hI (3 * c) (by omega) (by omega)
  have i1 := hI (3 * c + 1) (by omega) (by omega)
  have i2 := hI (3 * c + 2) (by omega) (by omega)
  have t0 := bx_t (i := 0) hB hb (by omega) (by omega)
  have t1 := bx_t (i := 1) hB hb (by omega) (by omega)
  have t2 := bx_t (i := 2) hB hb (by omega) (by omega)
  have m0 := ms_bd (s := s) (i := 0) hB (by omega) (by omega)
  have m1 := ms_bd (s := s) (i := 1) hB (by omega) (by omega)
  have m2 := ms_bd (s := s) (i := 2) hB (by omega) (by omega)
  have g0 := hB.gr (l := 0) (by omega) (by omega)
  have g1 := hB.gr (l := 1) (by omega) (by omega)
  have g2 := hB.gr (l := 2) (by omega) (by omega)
  have ov : ∀ x g, 0 ≤ g → 0 ≤ x → 0 ≤ ovf x g ∧ ovf x g ≤ x := fun x g a b => by unfold ovf; omega
  have f0 : 0 ≤ fo0 ξ c (ms ξ s 0) (dg L 0) ∧ fo0 ξ c (ms ξ s 0) (dg L 0) ≤ 100 := by
    unfold fo0
    have := ov (fx0 ξ c (ms ξ s 0) (dg L 0)) (ξ 25 0) (by omega) (by unfold fx0; omega)
    unfold fx0 at this ⊢
    omega
  have f1 : 0 ≤ fo1 ξ c (ms ξ s 0) (ms ξ s 1) (dg L 0) (dg L 1) ∧ fo1 ξ c (ms ξ s 0) (ms ξ s 1) (dg L 0) (dg L 1) ≤ 200 := by
    unfold fo1
    have := ov (fx1 ξ c (ms ξ s 0) (ms ξ s 1) (dg L 0) (dg L 1)) (ξ 25 1) (by omega) (by unfold fx1; omega)
    unfold fx1 at this ⊢
    omega
  have f2 : 0 ≤ fo2 ξ c (ms ξ s 0) (ms ξ s 1) (ms ξ s 2) (dg L 0) (dg L 1) (dg L 2) ∧ fo2 ξ c (ms ξ s 0) (ms ξ s 1) (ms ξ s 2) (dg L 0) (dg L 1) (dg L 2) ≤ 300 := by
    unfold fo2
    have := ov (fx2 ξ c (ms ξ s 0) (ms ξ s 1) (ms ξ s 2) (dg L 0) (dg L 1) (dg L 2)) (ξ 25 2) (by omega) (by unfold fx2; omega)
    unfold fx2 at this ⊢
    omega
  unfold spS spl
  have q : ∀ (P : Prop) (_ : Decidable P) (x : Int), 0 ≤ x → 0 ≤ (if P then x else 0) ∧ (if P then x else 0) ≤ x := fun P _ x hx => by split <;> omega
  have q0 := q (0 < ξ 23 1) inferInstance _ f0.1
  have q1 := q (1 < ξ 23 1) inferInstance _ f1.1
  have q2 := q (2 < ξ 23 1) inferInstance _ f2.1
  omega
end O8
