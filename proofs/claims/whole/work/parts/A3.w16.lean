theorem sf_mull {f : Int → Int} {M : Int} : ∀ (n : Nat) (a : Int), sf (fun i => M * f i) a n = M * sf f a n
  | 0, a => by simp [sf]
  | n + 1, a => by rw [sf, sf, sf_mull n (a + 1), Int.mul_add]
section W16
variable {b0 : Int} {σ : Hp} {ξ ζ η T : Int → Int → Int} {i m s t L n l v fr st N w : Int}
theorem mean_in {k40 : Int → Hp → Option (Int × Hp)} {j : Int} (hT : TB ξ) (j0 : 0 ≤ j) (j1 : j < ξ 23 11) : ∀ (m f : Nat) (c : Int) (ζ : Int → Int → Int), m < f → j < c → c + m = ξ 23 11 → Cf ξ ζ → F_X8_mean_L155 k40 (b0 + 23) fr j f c (S b0 σ ζ) = k40 (j + (-1)) (S b0 σ (xu ζ 47 j (ζ 47 j + sf (cof ξ j (ζ 47)) c m))) := by
  intro m
  have n81 := hT.2.2.1
  have d6 := hT.2.1
  induction m with
  | zero =>
    intro f c ζ hf hc he h
    obtain ⟨f, rfl⟩ : ∃ g, f = g + 1 := ⟨f - 1, by omega⟩
    rw [F_X8_mean_L155]
    refine ev rS_23_11 ?_
    rw [h.2 11 (by omega)]
    refine ev_bLt (by omega) (by omega) (by omega) (by omega) (fun hc => absurd hc (by omega)) (fun hc => ?_)
    rw [sf, Int.add_zero, xu_self]
    rfl
  | succ m ih =>
    intro f c ζ hf hc he h
    obtain ⟨f, rfl⟩ : ∃ g, f = g + 1 := ⟨f - 1, by omega⟩
    have h6 := hT.2.2.2.2.2.1 c (by omega) (by omega)
    have go : ∀ x, cof ξ j (ζ 47) c = x → F_X8_mean_L155 k40 (b0 + 23) fr j f (c + 1) (S b0 σ (xu ζ 47 j (ζ 47 j + x))) = k40 (j + (-1)) (S b0 σ (xu ζ 47 j (ζ 47 j + sf (cof ξ j (ζ 47)) c (m + 1)))) := by
      intro x hx
      rw [ih f (c + 1) _ (by omega) (by omega) (by omega) (h.trans (Cf.xu (by omega))), xu_xu, xu_s, sf, hx, Int.add_assoc]
      rw [sf_congr (g := cof ξ j (ζ 47)) _ (c + 1) (fun i p q => by unfold cof; rw [xu_ni (by omega)])]
    rw [F_X8_mean_L155]
    refine ev rS_23_11 ?_
    rw [h.2 11 (by omega)]
    refine ev_bLt (by omega) (by omega) (by omega) (by omega) (fun hc => ?_) (fun hc => absurd hc (by omega))
    refine ev rS_23_30 ?_
    refine ev (aS_47 (by omega) (by omega)) ?_
    refine ev rS_23_12 ?_
    refine ev (aS_31 (by omega) (by omega)) ?_
    rw [h.1 31 (by omega)]
    refine ev_bEq (by omega) (by omega) (by omega) (by omega) (fun hc1 => ?_) (fun hc1 => ?_)
    · refine ev rS_23_13 ?_
      refine ev (aS_32 (by omega) (by omega)) ?_
      rw [h.1 32 (by omega)]
      refine ev_g3 (by omega) (by omega) ?_
      refine ev rS_23_30 ?_
      refine ev (aS_47 (by omega) (by omega)) ?_
      exact ev (wS_47 (by omega) (by omega)) (go _ (if_pos hc1))
    · exact ev (wS_47 (by omega) (by omega)) (go _ (if_neg hc1))
/-- a mean by the means behind it -/
def mvl (ξ T : Int → Int → Int) (n : Int) : Int := if ξ 33 n = ξ 23 8 - 1 then endv ξ (T 44 n) else ξ 23 9 ^ lft ξ n * ernS ξ (ξ 33 n + 1) (T 44 n) (rls ξ (T 44 n)) + csm ξ n (T 47)
theorem mvl_congr (h44 : η 44 n = ζ 44 n) (h47 : ∀ c, n < c → c < ξ 23 11 → η 47 c = ζ 47 c) : mvl ξ η n = mvl ξ ζ n := by
  unfold mvl csm
  rw [h44]
  rw [sf_congr (f := cof ξ n (η 47)) (g := cof ξ n (ζ 47)) _ _ (fun i p q => by unfold cof; rw [h47 i (by omega) (by omega)])]
def scrT (d k : Int) : Prop := scr d k ∨ d = 47
theorem mean_loop (hB : LB ξ) (hT : TB ξ) (f0 : 0 ≤ fr) (f1 : fr < ξ 23 11) (s0 : 0 ≤ st) (s1 : st < ZZ ξ) : ∀ (m f : Nat) (j : Int) (ζ : Int → Int → Int), m < f → j < ξ 23 11 → j + 1 = fr + m → Cf ξ ζ → MB ζ → TZ ζ → WT ξ fr st ζ (ξ 23 11) → (∀ n, j < n → n < ξ 23 11 → ζ 43 n = 1 → ζ 47 n = mvl ξ ζ n) → ∃ ζ', F_X8_mean_L40 (b0 + 23) fr f j (S b0 σ ζ) = some (ζ' 47 fr, S b0 σ ζ') ∧ Ch scrT ζ ζ' ∧ MB ζ' ∧ TZ ζ' ∧ ∀ n, fr ≤ n → n < ξ 23 11 → ζ' 43 n = 1 → ζ' 47 n = mvl ξ ζ' n := by
  intro m
  have n81 := hT.2.2.1
  have w10 := hT.1
  have hz := ZZ_le hB
  induction m with
  | zero =>
    intro f j ζ hf j1 he h hM hZ hw hi
    obtain ⟨f, rfl⟩ : ∃ g, f = g + 1 := ⟨f - 1, by omega⟩
    refine ⟨ζ, ?_, Ch.rf, hM, hZ, fun n a b => hi n (by omega) b⟩
    rw [F_X8_mean_L40]
    refine ev_bLt (by omega) (by omega) (by omega) (by omega) (fun hc => ?_) (fun hc => absurd hc (by omega))
    refine ev rS_23_30 ?_
    exact ev (aS_47 (by omega) (by omega)) rfl
  | succ m ih =>
    intro f j ζ hf j1 he h hM hZ hw hi
    obtain ⟨f, rfl⟩ : ∃ g, f = g + 1 := ⟨f - 1, by omega⟩
    have wk := hT.week (n := j) (by omega) (by omega)
    have b43 := (hw j (by omega) (by omega)).1
    have go : ∀ ζ1, Ch (fun d k => scr d k ∨ (d = 47 ∧ k = j)) ζ ζ1 → MB ζ1 → TZ ζ1 → (ζ 43 j = 1 → ζ1 47 j = mvl ξ ζ1 j) → ∃ ζ', F_X8_mean_L40 (b0 + 23) fr f (j + (-1)) (S b0 σ ζ1) = some (ζ' 47 fr, S b0 σ ζ') ∧ Ch scrT ζ ζ' ∧ MB ζ' ∧ TZ ζ' ∧ ∀ n, fr ≤ n → n < ξ 23 11 → ζ' 43 n = 1 → ζ' 47 n = mvl ξ ζ' n := by
      intro ζ1 hc hM1 hZ1 hv
      have o : ∀ d k, (43 ≤ d ∧ d ≤ 46) ∨ (d = 47 ∧ k ≠ j) → ζ1 d k = ζ d k := fun d k q => hc d k (by unfold scr; omega)
      have c1 : Ch scrT ζ ζ1 := hc.mono (fun d k q => by unfold scr at q; unfold scrT scr; omega)
      obtain ⟨ζ', t1, t2, t3⟩ := ih f (j + (-1)) ζ1 (by omega) (by omega) (by omega) (h.trans (Cf_ch (fun d k q => by unfold scrT scr at q; omega) c1)) hM1 hZ1 (hw.ext hT (Int.le_refl _) (fun d k a b _ => o d k (by omega))) (fun n a b c => by
        by_cases e : n = j
        · subst e
          rw [o 43 n (by omega)] at c
          exact hv c
        · rw [o 43 n (by omega)] at c
          rw [o 47 n (by omega), hi n (by omega) b c]
          exact (mvl_congr (o 44 n (by omega)) (fun c' x y => o 47 c' (by omega))).symm)
      exact ⟨ζ', t1, c1.trans t2, t3⟩
    have top : ∀ z, (ζ 43 j = 0 → F_X8_mean_L40 (b0 + 23) fr f (j + (-1)) (S b0 σ ζ) = z) → (ζ 43 j = 1 → ξ 33 j = ξ 23 8 - 1 → F_X8_mean_B92 (F_X8_mean_L40 (b0 + 23) fr f) (b0 + 23) fr j (endv ξ (ζ 44 j)) j (b0 + 47) (S b0 σ (unf ζ (ζ 44 j))) = z) → (ζ 43 j = 1 → ¬ ξ 33 j = ξ 23 8 - 1 → F_X8_mean_B92 (F_X8_mean_L40 (b0 + 23) fr f) (b0 + 23) fr j 0 j (b0 + 47) (S b0 σ ζ) = z) → F_X8_mean_L40 (b0 + 23) fr (f + 1) j (S b0 σ ζ) = z := by
      intro z z1 z2 z3
      rw [F_X8_mean_L40]
      refine ev_bLt (by omega) (by omega) (by omega) (by omega) (fun hc => absurd hc (by omega)) (fun hc => ?_)
      refine ev rS_23_26 ?_
      refine ev (aS_43 (by omega) (by omega)) ?_
      refine ev_bEq (by omega) (by omega) (by omega) (by omega) (fun hc1 => z1 hc1) (fun hc1 => ?_)
      have x1 : ζ 43 j = 1 := by omega
      obtain ⟨c0, ⟨c1, c2⟩, _, _⟩ := hw.bd hB hT (Int.le_refl _) s0 s1 f0 j.toNat j (by omega) (by omega) x1
      have eb := endv_bd (s := ζ 44 j) hB
      refine ev rS_23_30 ?_
      refine ev rS_23_14 ?_
      refine ev (aS_33 (by omega) (by omega)) ?_
      refine ev rS_23_8 ?_
      rw [h.1 33 (by omega), h.2 8 (by omega)]
      refine ev_bEq (by omega) (by omega) (by omega) (by omega) (fun hc2 => ?_) (fun hc2 => z3 x1 hc2)
      refine ev rS_23_27 ?_
      refine ev (aS_44 (by omega) (by omega)) ?_
      refine evd (iS_23.trans (X8_endOf (hB.cf h) hM c1 (by omega))) ?_
      rw [endv_cf h]
      refine ev_g3 (by omega) (by omega) ?_
      exact z2 x1 hc2
    by_cases q : ζ 43 j = 1
    · obtain ⟨c0, ⟨c1, c2⟩, _, _⟩ := hw.bd hB hT (Int.le_refl _) s0 s1 f0 j.toNat j (by omega) (by omega) q
      by_cases e : ξ 33 j = ξ 23 8 - 1
      · have ou : ∀ d k, d ≠ 35 → unf ζ (ζ 44 j) d k = ζ d k := fun d k h => unf_d h
        have hMu := hM.unf (s := ζ 44 j) (hB.cf h)
        obtain ⟨ζ', t1, t2⟩ := go (xu (unf ζ (ζ 44 j)) 47 j (endv ξ (ζ 44 j))) (Ch_xu (Or.inr ⟨rfl, rfl⟩) (Ch_unf (fun _ => Or.inl (Or.inr (Or.inl rfl))) Ch.rf)) (fun l a b => by rw [xu_nd (by omega), xu_nd (by omega), xu_nd (by omega)]; exact hMu l a b) (fun l a b hz => by rw [xu_nd (by omega), ou _ _ (by omega)] at hz ⊢; exact hZ l a b hz) (fun _ => by
          unfold mvl
          rw [xu_s, if_pos e, xu_nd (by omega), ou _ _ (by omega)])
        refine ⟨ζ', top _ (fun x => by omega) (fun _ _ => ?_) (fun _ x => absurd e x), t2⟩
        rw [F_X8_mean_B92]
        refine ev (wS_47 (by omega) (by omega)) ?_
        refine ev rS_23_14 ?_
        refine ev (aS_33 (by omega) (by omega)) ?_
        refine ev rS_23_8 ?_
        rw [xu_nd (by omega), ou _ _ (by omega), xu_nd (by omega), ou _ _ (by omega), h.1 33 (by omega), h.2 8 (by omega)]
        exact ev_bEq (by omega) (by omega) (by omega) (by omega) (fun _ => t1) (fun x => absurd e x)
      · let ζ1 := xu ζ 47 j 0
        have h1 : Cf ξ ζ1 := h.trans (Cf.xu (by omega))
        have hM1 : MB ζ1 := fun l a b => by
          show (0 ≤ xu ζ 47 j 0 35 l ∧ xu ζ 47 j 0 35 l ≤ xu ζ 47 j 0 25 l) ∧ (xu ζ 47 j 0 23 1 ≤ l → xu ζ 47 j 0 35 l = 0)
          rw [xu_nd (by omega), xu_nd (by omega), xu_nd (by omega)]
          exact hM l a b
        have hZ1 : TZ ζ1 := fun l a b hz => (xu_nd (by omega)).trans (hZ l a b (by rw [show ζ1 23 1 = ζ 23 1 from xu_nd (by omega)] at hz; exact hz))
        have g44 : ζ1 44 j = ζ 44 j := xu_nd (by omega)
        obtain ⟨r1, hA⟩ := At_unf_ruled (b0 := b0) (σ := σ) (s := ζ 44 j) hB h1 hM1 hZ1
        have hbx := bx_rls (s := ζ 44 j) hB
        let ζ2 := setL (unf ζ1 (ζ 44 j)) (rls ξ (ζ 44 j))
        have o2 : ∀ d k, d ≠ 35 → d ≠ 36 → ζ2 d k = ζ1 d k := fun d k a b => (lts_d b).trans (unf_d a)
        have eb := ernS_bd (w := ξ 33 j + 1) hB hT (by omega) (by omega) hbx
        let ζ3 := xu ζ2 47 j (ξ 23 9 ^ lft ξ j * ernS ξ (ξ 33 j + 1) (ζ 44 j) (rls ξ (ζ 44 j)))
        have h3 : Cf ξ ζ3 := hA.1.trans (Cf.xu (by omega))
        have hA3 : At ξ ζ3 (ζ 44 j) (rls ξ (ζ 44 j)) := At_xu hA (by omega)
        have hin := mean_in (b0 := b0) (σ := σ) (fr := fr) (k40 := F_X8_mean_L40 (b0 + 23) fr f) (j := j) hT (by omega) j1 (ξ 23 11 - (j + 1)).toNat fu (j + 1) ζ3 (fuN (by omega)) (by omega) (by omega) h3
        let ζ4 := xu ζ3 47 j (ζ3 47 j + sf (cof ξ j (ζ3 47)) (j + 1) (ξ 23 11 - (j + 1)).toNat)
        have hA4 : At ξ ζ4 (ζ 44 j) (rls ξ (ζ 44 j)) := At_xu hA3 (by omega)
        have hc4 : Ch (fun d k => scr d k ∨ (d = 47 ∧ k = j)) ζ ζ4 := Ch_xu (Or.inr ⟨rfl, rfl⟩) (Ch_xu (Or.inr ⟨rfl, rfl⟩) (Ch_lts (fun _ => Or.inl (Or.inr (Or.inr rfl))) (Ch_unf (fun _ => Or.inl (Or.inr (Or.inl rfl))) (Ch_xu (Or.inr ⟨rfl, rfl⟩) Ch.rf))))
        have g3j : ζ3 47 j = ξ 23 9 ^ lft ξ j * ernS ξ (ξ 33 j + 1) (ζ 44 j) (rls ξ (ζ 44 j)) := xu_s
        have g4j : ζ4 47 j = ζ3 47 j + sf (cof ξ j (ζ3 47)) (j + 1) (ξ 23 11 - (j + 1)).toNat := xu_s
        have g4c : ∀ c, c ≠ j → ζ4 47 c = ζ3 47 c := fun c hc => xu_ni hc
        have g444 : ζ4 44 j = ζ 44 j := hc4 44 j (by unfold scr; omega)
        obtain ⟨ζ', t1, t2⟩ := go ζ4 hc4 (At_MB hB hA4) (TZ_At hB hA4 hbx) (fun _ => by
          unfold mvl csm
          rw [if_neg e, g4j, g3j, g444]
          rw [sf_congr (f := cof ξ j (ζ4 47)) (g := cof ξ j (ζ3 47)) _ _ (fun i p q => by unfold cof; rw [g4c i (by omega)])])
        refine ⟨ζ', top _ (fun x => by omega) (fun _ x => absurd x e) (fun _ _ => ?_), t2⟩
        rw [F_X8_mean_B92]
        refine ev (wS_47 (by omega) (by omega)) ?_
        refine ev rS_23_14 ?_
        refine ev (aS_33 (by omega) (by omega)) ?_
        refine ev rS_23_8 ?_
        rw [xu_nd (by omega), xu_nd (by omega), h.1 33 (by omega), h.2 8 (by omega)]
        refine ev_bEq (by omega) (by omega) (by omega) (by omega) (fun x => absurd x e) (fun _ => ?_)
        refine ev rS_23_27 ?_
        refine ev (aS_44 (by omega) (by omega)) ?_
        rw [xu_nd (by omega)]
        refine evd (iS_23.trans (X8_unfold (hB.cf h1) c1 (by omega))) ?_
        refine evd (iS_23.trans r1) ?_
        refine ev rS_23_30 ?_
        have hsc := X8_scale (b0 := b0) (σ := σ) (n := j) (hT.cf hA.1) (by omega) (by rw [hA.1.2 11 (by omega)]; exact j1)
        rw [hA.1.2 9 (by omega), lft_cf hA.1] at hsc
        refine evd (iS_23.trans hsc) ?_
        refine ev rS_23_14 ?_
        refine ev (aS_33 (by omega) (by omega)) ?_
        rw [hA.1.1 33 (by omega)]
        refine evd (iS_23.trans (At_earns hB hA hbx (by omega) (by omega))) ?_
        refine ev_g3 (by omega) (by omega) ?_
        exact ev (wS_47 (by omega) (by omega)) (hin.trans t1)
    · obtain ⟨ζ', t1, t2⟩ := go ζ Ch.rf hM hZ (fun x => absurd x q)
      exact ⟨ζ', top _ (fun _ => t1) (fun x => absurd x q) (fun x => absurd x q), t2⟩
/-- how often a case's weights come in -/
def SH (ξ : Int → Int → Int) (fr : Int) (T : Int → Int → Int) : Prop := T 99 fr = 1 ∧ ∀ n, fr < n → n < ξ 23 11 → T 43 (ξ 31 n) = 1 → T 99 n = T 99 (ξ 31 n) * ξ 32 n
theorem mean_eq (hB : LB ξ) (hT : TB ξ) (hW : WH ξ) (f0 : 0 ≤ fr) (f1 : fr < ξ 23 11) (hw : WT ξ fr st T (ξ 23 11)) (hw' : WT ξ fr st ζ (ξ 23 11)) (hs : SH ξ fr T) (hv : ∀ n, fr ≤ n → n < ξ 23 11 → ζ 43 n = 1 → ζ 47 n = mvl ξ ζ n) : ζ 47 fr = lfs ξ T (fun n => T 99 n * tot ξ T n) := by
  have up := lfs_up (T := T) (h := fun n => T 99 n * (ζ 47 n + ξ 23 9 ^ lft ξ n * T 45 n)) hT f0 f1 hw (fun n a b c d => by
    have n0 := (hw.wk hT f0 n.toNat n (by omega) b c).1
    have u := hw.uniq hT f0 hw' n.toNat n (by omega) b
    have e := hv n n0 b (by rw [← u.1]; exact c)
    have wk := hT.week a b
    obtain ⟨k, hk⟩ : ∃ k, lft ξ n = k + 1 := ⟨lft ξ n - 1, by unfold lft; omega⟩
    unfold mvl at e
    rw [if_neg (by omega), ← (u.2 c).1, hk] at e
    have hws := hW.2 n a b d
    rw [wsm_from hT a b] at hws
    unfold chs
    generalize hE : ernS ξ (ξ 33 n + 1) (T 44 n) (rls ξ (T 44 n)) = E at e
    rw [sf_congr (g := fun c => T 99 n * cof ξ n (ζ 47) c + (T 99 n * ξ 23 9 ^ k * (T 45 n + E)) * wof ξ n c) _ _ (fun i p q => by
      unfold chf cof wof
      by_cases hp : ξ 31 i = n
      · rw [if_pos hp, if_pos hp, if_pos hp]
        have hl := lft_child hT (by omega) (by omega) hp
        have s2 := hs.2 i (by omega) (by omega) (by rw [hp]; exact c)
        have t2 := ((hw i (by omega) (by omega)).2.2.2 (by omega) (by rw [hp]; exact c)).2.1
        have h6 := (hT.2.2.2.2.2.1 i (by omega) (by omega)).2.2.1
        rw [hp] at s2 t2 h6
        rw [h6, hE] at t2
        show T 99 i * (ζ 47 i + ξ 23 9 ^ lft ξ i * T 45 i) = _
        rw [s2, t2, show lft ξ i = k by omega]
        simp only [Int.mul_add, Int.add_mul, Int.mul_assoc, Int.mul_comm, Int.mul_left_comm]
      · rw [if_neg hp, if_neg hp, if_neg hp]
        simp), sf_add, sf_mull, sf_mull, hws, e, hk]
    unfold csm
    rw [Int.pow_succ]
    simp only [Int.mul_add, Int.add_mul, Int.mul_assoc, Int.mul_comm, Int.mul_left_comm]
    omega)
  have hf : T 45 fr = 0 := ((hw fr f0 f1).2.2.1 rfl).2.1
  rw [hs.1, hf, Int.mul_zero, Int.add_zero, Int.one_mul] at up
  rw [← up]
  refine lfs_congr (fun n a b c d => ?_)
  have n0 := (hw.wk hT f0 n.toNat n (by omega) b c).1
  have u := hw.uniq hT f0 hw' n.toNat n (by omega) b
  have e := hv n n0 b (by rw [← u.1]; exact c)
  unfold mvl at e
  rw [if_pos d, ← (u.2 c).1] at e
  unfold tot
  rw [e, show lft ξ n = 0 by unfold lft; omega, Int.pow_zero, Int.one_mul, Int.add_comm]
def A_mean (ξ : Int → Int → Int) (n s r : Int) : Prop := (okNS ξ n s ∧ WH ξ → ∀ T, WT ξ n s T (ξ 23 11) → SH ξ n T → r = lfs ξ T (fun m => T 99 m * tot ξ T m)) ∧ (¬ (okNS ξ n s ∧ WH ξ) → r = -9000000000000000000)
theorem mvl_bd (hB : LB ξ) (hT : TB ξ) (hW : WH ξ) (f0 : 0 ≤ fr) (hw : WT ξ fr st ζ (ξ 23 11)) (hv : ∀ n, fr ≤ n → n < ξ 23 11 → ζ 43 n = 1 → ζ 47 n = mvl ξ ζ n) : ∀ (k : Nat) (n : Int), fr ≤ n → n < ξ 23 11 → lft ξ n = k → ζ 43 n = 1 → 0 ≤ ζ 47 n ∧ ζ 47 n ≤ BD k := by
  intro k
  induction k with
  | zero =>
    intro n a b c d
    have wk := hT.week (n := n) (by omega) b
    have e := hv n a b d
    unfold mvl at e
    rw [if_pos (by unfold lft at c; omega)] at e
    have eb := endv_bd (s := ζ 44 n) hB
    have : BD 0 = 8910 := by decide
    omega
  | succ k ih =>
    intro n a b c d
    have wk := hT.week (n := n) (by omega) b
    have e := hv n a b d
    unfold mvl at e
    rw [if_neg (by unfold lft at c; omega), c] at e
    rw [e]
    exact vL_bd (V := fun c _ => ζ 47 c) (s := ζ 44 n) hB hT hW (by omega) b c (bx_rls hB) (fun m x y z => by
      have lc := lft_child hT (c := m) (by omega) y z
      have q := hw m (by omega) y
      exact ih m (by omega) y (by omega) (q.2.1.mpr (Or.inr ⟨by omega, by rw [z]; exact d⟩)))
theorem Y8_mean (hB : LB ξ) (hT : TB ξ) (hK : MK ξ ζ) (hn : R3 n) (hs : R3 s) : ∃ r ζ', F_X8_mean (b0 + 23) n s (S b0 σ ζ) = some (r, S b0 σ ζ') ∧ A_mean ξ n s r ∧ MK ξ ζ' ∧ Ch scrV ζ ζ' ∧ R6 r := by
  have n81 := hT.2.2.1
  by_cases ok : okNS ξ n s ∧ WH ξ
  · have o1 := ok.1.1.1
    have o2 := ok.1.1.2
    have o3 := ok.1.2.1
    have o4 := ok.1.2.2
    obtain ⟨ζ1, q1, q2, q3, q4, q5, q6⟩ := X8_walk (b0 := b0) (σ := σ) (st := s) (fr := n) hB hT o3 (by omega) o1 (by omega) hK.1.1 hK.1.2.1 hK.1.2.2.1
    have h1 := hK.1.1.trans (Cf_scrV q2)
    obtain ⟨ζ2, t1, t2, t3, t4, t5⟩ := mean_loop (b0 := b0) (σ := σ) hB hT o1 (by omega) o3 (by omega) (ξ 23 11 - n).toNat fu (ξ 23 11 - 1) ζ1 (fuN (by omega)) (by omega) (by omega) h1 q3 q4 q5 (fun m a b => by omega)
    have c2 : Ch scrV ζ ζ2 := q2.trans (t2.mono (fun d k q => by unfold scrT scr at q; unfold scrV scr; omega))
    have w2 : WT ξ n s ζ2 (ξ 23 11) := q5.ext hT (Int.le_refl _) (fun d k a b _ => t2 d k (by unfold scrT scr; omega))
    have mb := mvl_bd hB hT ok.2 o1 w2 t5 (lft ξ n) n (Int.le_refl _) (by omega) rfl ((w2 n o1 (by omega)).2.1.mpr (Or.inl rfl))
    have m1 := BD_mono (lft_le hT o1 (by omega))
    have b10 := BD_10
    refine ⟨ζ2 47 n, ζ2, ?_, ⟨fun _ T hT' hS => mean_eq hB hT ok.2 o1 (by omega) hT' w2 hS t5, fun h => absurd ok h⟩, MK_chM hK (c2.mono scrVM) t3 t4, c2, ⟨by omega, by omega⟩⟩
    rw [F_X8_mean]
    refine evd (iS_23.trans (K_isNode hT hK.1.1 hn)) (ev_if (fun h => absurd ok.1.1 h) (fun _ => ?_))
    refine evd (iS_23.trans (K_isState hB hK.1.1 hs)) (ev_if (fun h => absurd ok.1.2 h) (fun _ => ?_))
    refine evd (iS_23.trans (K_isWhole hB hT hK.1.1)) (ev_if (fun h => absurd ok.2 h) (fun _ => ?_))
    refine evd (iS_23.trans q1) ?_
    refine ev rS_23_11 ?_
    rw [h1.2 11 (by omega)]
    exact t1
  · refine ⟨_, ζ, ?_, ⟨fun h => absurd h ok, fun _ => rfl⟩, hK, Ch.rf, ⟨by decide, by decide⟩⟩
    rw [F_X8_mean]
    refine evd (iS_23.trans (K_isNode hT hK.1.1 hn)) (ev_if (fun h => rfl) (fun h1 => ?_))
    refine evd (iS_23.trans (K_isState hB hK.1.1 hs)) (ev_if (fun h => rfl) (fun h2 => ?_))
    exact evd (iS_23.trans (K_isWhole hB hT hK.1.1)) (ev_if (fun h => rfl) (fun h3 => absurd ⟨⟨h1, h2⟩, h3⟩ ok))
end W16
