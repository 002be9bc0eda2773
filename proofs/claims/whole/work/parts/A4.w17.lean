section W17
variable {b0 : Int} {σ : Hp} {ξ ζ η T : Int → Int → Int} {i m s t L n l v fr st N w mm : Int}
theorem all_reached (hT : TB ξ) (hw : WT ξ 0 st T (ξ 23 11)) : ∀ (k : Nat) (n : Int), n = k → n < ξ 23 11 → T 43 n = 1 := by
  intro k
  induction k using Nat.strongRecOn with
  | ind k ih =>
    intro n hk n1
    have p := hT.par (n := n) (by omega) n1
    by_cases e : n = 0
    · exact (hw n (by omega) n1).2.1.mpr (Or.inl e)
    · have q := p.2.2 (by omega)
      have r := ih (ξ 31 n).toNat (by omega) (ξ 31 n) (by omega) (by omega)
      exact (hw n (by omega) n1).2.1.mpr (Or.inr ⟨by omega, r⟩)
def flv (ξ ζ : Int → Int → Int) (l mm w n : Int) : Int := if ξ 33 n = w then (if ms ξ (ζ 44 n) l ≤ mm then 0 else ζ 48 n) else 0
theorem flood_loop (hB : LB ξ) (hT : TB ξ) (l0 : 0 ≤ l) (l1 : l < 3) (hmm : R3 mm) (hw' : R3 w) : ∀ (m f : Nat) (a j : Int) (ζ : Int → Int → Int), m < f → 1 ≤ j → j + m = ξ 23 11 → Cf ξ ζ → MB ζ → TZ ζ → (∀ n, 0 ≤ n → n < ξ 23 11 → 0 ≤ ζ 44 n ∧ ζ 44 n < ZZ ξ) → ∃ ζ', F_X8_flood_L69 (b0 + 23) l mm w f a j (S b0 σ ζ) = some (a + sf (flv ξ ζ l mm w) j m, S b0 σ ζ') ∧ Ch scr ζ ζ' ∧ MB ζ' ∧ TZ ζ' := by
  intro m
  have n81 := hT.2.2.1
  have w10 := hT.1
  have hz := ZZ_le hB
  induction m with
  | zero =>
    intro f a j ζ hf j0 he h hM hZ h44
    obtain ⟨f, rfl⟩ : ∃ g, f = g + 1 := ⟨f - 1, by omega⟩
    refine ⟨ζ, ?_, Ch.rf, hM, hZ⟩
    rw [F_X8_flood_L69]
    refine ev rS_23_11 ?_
    rw [h.2 11 (by omega)]
    exact ev_bLt (by omega) (by omega) (by omega) (by omega) (fun hc => absurd hc (by omega)) (fun hc => ev_end (by simp [sf]) rfl)
  | succ m ih =>
    intro f a j ζ hf j0 he h hM hZ h44
    obtain ⟨f, rfl⟩ : ∃ g, f = g + 1 := ⟨f - 1, by omega⟩
    have wk := hT.week (n := j) (by omega) (by omega)
    have h4 := h44 j (by omega) (by omega)
    have top : ∀ z, (¬ ξ 33 j = w → F_X8_flood_L69 (b0 + 23) l mm w f a (j + 1) (S b0 σ ζ) = z) → (ξ 33 j = w → F_X8_flood_L69 (b0 + 23) l mm w f (a + flv ξ ζ l mm w j) (j + 1) (S b0 σ (unf ζ (ζ 44 j))) = z) → F_X8_flood_L69 (b0 + 23) l mm w (f + 1) a j (S b0 σ ζ) = z := by
      intro z z1 z2
      have mb := ms_bd (s := ζ 44 j) hB l0 l1
      have gb := hB.gr l0 l1
      rw [F_X8_flood_L69]
      refine ev rS_23_11 ?_
      rw [h.2 11 (by omega)]
      refine ev_bLt (by omega) (by omega) (by omega) (by omega) (fun hc => ?_) (fun hc => absurd hc (by omega))
      refine ev rS_23_14 ?_
      refine ev (aS_33 (by omega) (by omega)) ?_
      rw [h.1 33 (by omega)]
      refine ev_bEq (by omega) (by omega) hw'.1 hw'.2 (fun hc => ?_) (fun hc => z1 hc)
      refine ev rS_23_27 ?_
      refine ev (aS_44 (by omega) (by omega)) ?_
      refine evd (iS_23.trans (X8_unfold (hB.cf h) h4.1 (by omega))) ?_
      refine ev rS_23_16 ?_
      refine ev (aS_35 (by omega) (by omega)) ?_
      rw [unf_m (hB.cf h) hM l0 l1, ms_cf h]
      have z2 := z2 hc
      unfold flv at z2
      rw [if_pos hc] at z2
      refine ev_bLe (by omega) (by omega) hmm.1 hmm.2 (fun hc2 => ?_) (fun hc2 => ?_)
      · rw [if_pos hc2] at z2
        exact z2
      · rw [if_neg hc2] at z2
        refine ev rS_23_31 ?_
        refine ev (aS_48 (by omega) (by omega)) ?_
        rw [unf_d (by omega)]
        exact z2
    by_cases e : ξ 33 j = w
    · have ou : ∀ d k, d ≠ 35 → unf ζ (ζ 44 j) d k = ζ d k := fun d k h => unf_d h
      obtain ⟨ζ', t1, t2, t3, t4⟩ := ih f (a + flv ξ ζ l mm w j) (j + 1) (unf ζ (ζ 44 j)) (by omega) (by omega) (by omega) (h.trans Cf.unf) (hM.unf (hB.cf h)) (fun l a b hz => by rw [ou _ _ (by omega)] at hz ⊢; exact hZ l a b hz) (fun n a b => by rw [ou _ _ (by omega)]; exact h44 n a b)
      refine ⟨ζ', ?_, (Ch_unf (fun _ => Or.inr (Or.inl rfl)) Ch.rf).trans t2, t3, t4⟩
      refine top _ (fun x => absurd e x) (fun _ => ?_)
      rw [t1, sf, ← Int.add_assoc]
      rw [sf_congr (g := flv ξ ζ l mm w) m (j + 1) (fun i p q => by unfold flv; rw [ou _ _ (by omega), ou _ _ (by omega)])]
    · obtain ⟨ζ', t1, t2⟩ := ih f a (j + 1) ζ (by omega) (by omega) (by omega) h hM hZ h44
      refine ⟨ζ', top _ (fun _ => ?_) (fun x => absurd x e), t2⟩
      rw [t1, sf, show flv ξ ζ l mm w j = 0 from if_neg e, Int.zero_add]
/-- by node: does the lake stand above the measure in the told week of its way? -/
def FLD (ξ : Int → Int → Int) (l mm w : Int) (T : Int → Int → Int) : Prop := ∀ n, 0 ≤ n → n < ξ 23 11 → (ξ 33 n = w → T 98 n = if mm < ms ξ (T 44 n) l then 1 else 0) ∧ (w < ξ 33 n → T 98 n = T 98 (ξ 31 n))
theorem flood_eq (hT : TB ξ) (w0 : 0 ≤ w) (w1 : w ≤ ξ 23 8 - 1) (hw : WT ξ 0 st T (ξ 23 11)) (hw' : WT ξ 0 st ζ (ξ 23 11)) (hc : CT ξ 0 ζ) (hf : FLD ξ l mm w T) : sf (flv ξ ζ l mm w) 1 (ξ 23 11 - 1).toNat = lfs ξ T (T 98) := by
  have n81 := hT.2.2.1
  have hr := all_reached hT hw
  have wf := hT.2.2.2.2.1.2
  have e1 : lfs ξ T (T 98) = lev ξ T (w + ((ξ 23 8 - 1 - w).toNat : Int)) (fun n => T 98 n * ζ 48 n) := by
    rw [show w + ((ξ 23 8 - 1 - w).toNat : Int) = ξ 23 8 - 1 by omega]
    exact lfs_congr (h' := fun n => T 98 n * ζ 48 n) (fun n a b c d => by
      show T 98 n = T 98 n * ζ 48 n
      rw [(hc.leaf hT (Int.le_refl _) a b).1 d, Int.mul_one])
  rw [e1, ← lev_go hT (Int.le_refl _) (by omega) hw (by omega) _ (fun n a b c d e => by
    show T 98 n * ζ 48 n = _
    rw [(hc.leaf hT (Int.le_refl _) a b).2 (by omega)]
    unfold chs
    rw [← sf_mull]
    refine sf_congr _ _ (fun i p q => ?_)
    unfold chf
    by_cases hp : ξ 31 i = n
    · rw [if_pos hp, if_pos hp]
      have h6 := hT.2.2.2.2.2.1 i (by omega) (by omega)
      rw [hp] at h6
      have := (hf i (by omega) (by omega)).2 (by omega)
      rw [hp] at this
      show _ = T 98 i * ζ 48 i
      rw [this]
    · rw [if_neg hp, if_neg hp, Int.mul_zero])]
  unfold lev
  rw [show (ξ 23 11).toNat = (ξ 23 11 - 1).toNat + 1 by omega, sf, if_neg (by omega), Int.zero_add]
  refine sf_congr _ _ (fun n a b => ?_)
  have r1 := hr n.toNat n (by omega) (by omega)
  have u := hw.uniq hT (Int.le_refl _) hw' n.toNat n (by omega) (by omega)
  unfold flv
  by_cases e : ξ 33 n = w
  · have q1 : (if T 43 n = 1 ∧ ξ 33 n = w then (fun n => T 98 n * ζ 48 n) n else 0) = T 98 n * ζ 48 n := if_pos ⟨r1, e⟩
    rw [if_pos e, q1, (hf n (by omega) (by omega)).1 e, (u.2 r1).1]
    by_cases c : ms ξ (ζ 44 n) l ≤ mm
    · rw [if_pos c, if_neg (by omega), Int.zero_mul]
    · rw [if_neg c, if_pos (by omega), Int.one_mul]
  · rw [if_neg e, if_neg (fun x => e x.2)]
def okF (ξ : Int → Int → Int) (s l mm w : Int) : Prop := ((0 ≤ s ∧ s ≤ ZZ ξ - 1) ∧ (0 ≤ l ∧ l ≤ ξ 23 1 - 1)) ∧ (0 ≤ mm ∧ mm ≤ ξ 25 l) ∧ (0 ≤ w ∧ w ≤ ξ 23 8 - 1)
def A_flood (ξ : Int → Int → Int) (s l mm w r : Int) : Prop := (okF ξ s l mm w → (WH ξ → ∀ T, WT ξ 0 s T (ξ 23 11) → FLD ξ l mm w T → r = lfs ξ T (T 98)) ∧ (¬ WH ξ → r = -3)) ∧ (¬ okF ξ s l mm w → r = -1)
theorem Y8_flood (hB : LB ξ) (hT : TB ξ) (hK : MK ξ ζ) (hs : R3 s) (hl : R3 l) (hm : R3 mm) (hw : R3 w) : ∃ r ζ', F_X8_flood (b0 + 23) s l mm w (S b0 σ ζ) = some (r, S b0 σ ζ') ∧ A_flood ξ s l mm w r ∧ MK ξ ζ' ∧ Ch scrV ζ ζ' := by
  have n81 := hT.2.2.1
  have nl := hB.1
  have w10 := hT.1
  have pre : ∀ z, (¬ okF ξ s l mm w → some (-1, S b0 σ ζ) = z) → (okF ξ s l mm w → ¬ WH ξ → some (-3, S b0 σ ζ) = z) → (okF ξ s l mm w → WH ξ → bd (iv 9 (S b0 σ ζ) (b0 + 23) (F_X8_walk (b0 + 23) 0 s (S b0 σ ζ))) (fun jv14 σ15 => F_X8_flood_L69 (b0 + 23) l mm w fu 0 1 σ15) = z) → F_X8_flood (b0 + 23) s l mm w (S b0 σ ζ) = z := by
    intro z z1 z2 z3
    rw [F_X8_flood]
    refine evd (iS_23.trans (K_isState hB hK.1.1 hs)) (ev_if (fun h => z1 (fun q => h q.1.1)) (fun h1 => ?_))
    refine evd (iS_23.trans (K_isLake hB hK.1.1 hl)) (ev_if (fun h => z1 (fun q => h q.1.2)) (fun h2 => ?_))
    have gb := hB.gr (l := l) (by omega) (by omega)
    refine ev rS_23_3 ?_
    refine ev (aS_25 (by omega) (by omega)) ?_
    rw [hK.1.1.1 25 (by omega)]
    refine evd (X8_in _ hm ⟨by omega, by omega⟩ ⟨by omega, by omega⟩) (ev_if (fun h => z1 (fun q => h q.2.1)) (fun h3 => ?_))
    refine ev rS_23_8 ?_
    rw [hK.1.1.2 8 (by omega)]
    refine evd (X8_in _ hw ⟨by omega, by omega⟩ ⟨by omega, by omega⟩) (ev_if (fun h => z1 (fun q => h q.2.2)) (fun h4 => ?_))
    exact evd (iS_23.trans (K_isWhole hB hT hK.1.1)) (ev_if (fun h => z2 ⟨⟨h1, h2⟩, h3, h4⟩ h) (fun h5 => z3 ⟨⟨h1, h2⟩, h3, h4⟩ h5))
  by_cases ok : okF ξ s l mm w
  · by_cases hW : WH ξ
    · obtain ⟨⟨⟨o1, o2⟩, ⟨o3, o4⟩⟩, o5, ⟨o6, o7⟩⟩ := id ok
      obtain ⟨ζ1, q1, q2, q3, q4, q5, q6⟩ := X8_walk (b0 := b0) (σ := σ) (st := s) (fr := 0) hB hT o1 (by omega) (Int.le_refl _) (by omega) hK.1.1 hK.1.2.1 hK.1.2.2.1
      obtain ⟨ζ2, t1, t2, t3, t4⟩ := flood_loop (b0 := b0) (σ := σ) (l := l) (mm := mm) (w := w) hB hT o3 (by omega) hm hw (ξ 23 11 - 1).toNat fu 0 1 ζ1 (fuN (by omega)) (Int.le_refl _) (by omega) (hK.1.1.trans (Cf_scrV q2)) q3 q4 (fun n a b => (q5.bd hB hT (Int.le_refl _) o1 (by omega) (Int.le_refl _) n.toNat n (by omega) b (all_reached hT q5 n.toNat n (by omega) b)).2.1)
      have c2 : Ch scrV ζ ζ2 := q2.trans (t2.mono (fun d k q => Or.inl q))
      refine ⟨_, ζ2, pre _ (fun h => absurd ok h) (fun _ h => absurd hW h) (fun _ _ => evd (iS_23.trans q1) t1), ⟨fun _ => ⟨fun _ T hT' hF => ?_, fun h => absurd hW h⟩, fun h => absurd ok h⟩, MK_chM hK (c2.mono scrVM) t3 t4, c2⟩
      rw [Int.zero_add]
      exact flood_eq hT o6 o7 hT' q5 q6 hF
    · exact ⟨-3, ζ, pre _ (fun h => absurd ok h) (fun _ _ => rfl) (fun _ h => absurd h hW), ⟨fun _ => ⟨fun h => absurd h hW, fun _ => rfl⟩, fun h => absurd ok h⟩, hK, Ch.rf⟩
  · exact ⟨-1, ζ, pre _ (fun _ => rfl) (fun h => absurd h ok) (fun h => absurd h ok), ⟨fun h => absurd h ok, fun _ => rfl⟩, hK, Ch.rf⟩
end W17
