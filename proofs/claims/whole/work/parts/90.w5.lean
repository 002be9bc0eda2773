section W5
variable {b0 : Int} {σ : Hp} {ξ ζ η : Int → Int → Int} {i m s t L n : Int}
theorem endv_cf (h : Cf ξ ζ) : endv ζ = endv ξ := by
  funext s
  unfold endv
  rw [ms_cf h, h.1 29 (by omega)]
theorem lft_cf (h : Cf ξ ζ) : lft ζ = lft ξ := by
  funext n
  unfold lft
  rw [h.2 8 (by omega), h.1 33 (by omega)]
theorem ZZ_cf (h : Cf ξ ζ) : ZZ ζ = ZZ ξ := by
  unfold ZZ
  rw [h.1 25 (by omega)]
theorem Cf_ch {P : Int → Int → Prop} (hP : ∀ d k, P d k → d = 35 ∨ d = 36 ∨ (d = 23 ∧ (k = 18 ∨ k = 19 ∨ k = 32 ∨ k = 33)) ∨ (37 ≤ d ∧ d ≤ 40) ∨ 43 ≤ d ∨ d < 23) (h : Ch P ξ ζ) : Cf ξ ζ :=
  ⟨fun d hd => funext fun k => h d k (fun q => by have := hP d k q; omega), fun k hk => h 23 k (fun q => by have := hP 23 k q; omega)⟩
def scrB (at' : Int) (d k : Int) : Prop := scr d k ∨ ((d = 37 ∨ d = 39 ∨ d = 40) ∧ k = at')
theorem scrAB {a : Int} : ∀ d k, scrA a d k → scrB a d k := fun d k q => by unfold scrA scr at q; unfold scrB scr; omega
theorem Cf_scrB {a : Int} (h : Ch (scrB a) ξ ζ) : Cf ξ ζ := Cf_ch (fun d k q => by unfold scrB scr at q; omega) h
/-- what is known of a state -/
def KW (ξ ζ : Int → Int → Int) (n s : Int) : Prop := ζ 39 (1000 * n + s) = VV ξ (lft ξ n) n s ∧ ∀ k, lft ξ n = k + 1 → IB (vL ξ (VV ξ k) k n s) (bx ξ s) (ζ 39 (1000 * n + s)) (ζ 40 (1000 * n + s))
theorem KW.congr (h : KW ξ ζ n s) (h1 : η 39 (1000 * n + s) = ζ 39 (1000 * n + s)) (h2 : η 40 (1000 * n + s) = ζ 40 (1000 * n + s)) : KW ξ η n s := by
  unfold KW at h ⊢
  rw [h1, h2]
  exact h
theorem TZ_At (hB : LB ξ) (h : At ξ ζ s L) (hb : bx ξ s L) : TZ ζ := by
  intro l a b hz
  rw [(h.2 l a b).2]
  rw [h.1.2 1 (by omega)] at hz
  exact (bx_t hB hb a b).2.2.2 hz
theorem fsL_dg (hB : LB ξ) (h0 : 0 ≤ i) (h3 : i < 3) : dg (fsL ξ s) i = lo ξ s i := by
  have l0 := lohi (s := s) (i := 0) hB (by omega) (by omega)
  have l1 := lohi (s := s) (i := 1) hB (by omega) (by omega)
  have l2 := lohi (s := s) (i := 2) hB (by omega) (by omega)
  have q := (bx_of (s := s) (a := lo ξ s 0) (b := lo ξ s 1) (c := lo ξ s 2) hB (by omega) (by omega) (by omega)).2
  unfold fsL
  rcases lake3 h0 h3 with rfl | rfl | rfl
  · exact q.1
  · exact q.2.1
  · exact q.2.2
theorem At_unf (hB : LB ξ) (h : Cf ξ ζ) (hM : MB ζ) {L : Int} (hL : ∀ l, 0 ≤ l → l < 3 → ζ 36 l = dg L l) : At ξ (unf ζ s) s L := by
  refine ⟨h.trans Cf.unf, fun l a b => ⟨?_, ?_⟩⟩
  · rw [unf_m (hB.cf h) hM a b, ms_cf h]
  · rw [unf_d (by omega)]; exact hL l a b
theorem At_first (hB : LB ξ) (h : Cf ξ ζ) (hM : MB ζ) (hZ : TZ ζ) : F_X8_firstLets (b0 + 23) (S b0 σ (unf ζ s)) = some (0, S b0 σ (setL (unf ζ s) (fsL ξ s))) ∧ At ξ (setL (unf ζ s) (fsL ξ s)) s (fsL ξ s) := by
  have hB' := hB.cf h
  have hM' : MB (unf ζ s) := hM.unf hB'
  have hc : Cf ξ (unf ζ s) := h.trans Cf.unf
  have e : ∀ l, 0 ≤ l → l < 3 → lw (unf ζ s) l = lo ξ s l := by
    intro l a b
    unfold lw lo
    rw [unf_m hB' hM a b, ms_cf h, hc.1 27 (by omega)]
  constructor
  · rw [X8_firstLets (hB.cf hc) hM' (fun l a b hz => by rw [unf_d (by omega)]; rw [unf_d (by omega)] at hz; exact hZ l a b hz)]
    unfold setL
    rw [e 0 (by omega) (by omega), e 1 (by omega) (by omega), e 2 (by omega) (by omega), fsL_dg hB (by omega) (by omega), fsL_dg hB (by omega) (by omega), fsL_dg hB (by omega) (by omega)]
  · refine ⟨hc.trans Cf.lts, fun l a b => ⟨?_, ?_⟩⟩
    · unfold setL
      rw [lts_d (by omega), unf_m hB' hM a b, ms_cf h]
    · unfold setL
      rcases lake3 a b with rfl | rfl | rfl
      · exact lts_0
      · exact lts_1
      · exact lts_2
theorem X8_settle (hB : LB ξ) (hT : TB ξ) (hW : WH ξ) (n0 : 0 ≤ n) (n1 : n < ξ 23 11) (s0 : 0 ≤ s) (s1 : s < ZZ ξ) (h : Cf ξ ζ) (hM : MB ζ) (hZ : TZ ζ) (hC : ∀ c, n < c → c < ξ 23 11 → ξ 31 c = n → ∀ L', bx ξ s L' → KW ξ ζ c (flS ξ c s L')) : ∃ ζ', F_X8_settle (b0 + 23) n s (S b0 σ ζ) = some (0, S b0 σ ζ') ∧ Ch (scrB (1000 * n + s)) ζ ζ' ∧ ζ' 37 (1000 * n + s) = 1 ∧ KW ξ ζ' n s ∧ MB ζ' ∧ TZ ζ' := by
  have n81 := hT.2.2.1
  have hz := ZZ_le hB
  have wk := hT.week n0 n1
  have wk10 := hT.1
  generalize ha : 1000 * n + s = a
  have hc1 : Ch (scrB a) ζ (xu ζ 37 a 1) := Ch_xu (Or.inr ⟨by omega, rfl⟩) Ch.rf
  have h1 : Cf ξ (xu ζ 37 a 1) := h.trans (Cf_scrB hc1)
  have hM1 : MB (xu ζ 37 a 1) := fun l a' b' => by rw [xu_nd (by omega), xu_nd (by omega), xu_nd (by omega)]; exact hM l a' b'
  have hZ1 : TZ (xu ζ 37 a 1) := fun l a' b' hz => by rw [xu_nd (by omega)] at hz ⊢; exact hZ l a' b' hz
  have pre : ∀ z, (ξ 33 n = ξ 23 8 - 1 → ∀ X, bd (iv 9 (S b0 σ (xu ζ 37 a 1)) (b0 + 23) (F_X8_endOf (b0 + 23) s (S b0 σ (xu ζ 37 a 1)))) (fun jv8 σ9 => g3 jv8 ((aw 12 σ9 (b0 + 39) a jv8).bind fun σ10 => some (0, σ10))) = X → X = z) → (¬ ξ 33 n = ξ 23 8 - 1 → bd (iv 9 (S b0 σ (xu ζ 37 a 1)) (b0 + 23) (F_X8_unfold (b0 + 23) s (S b0 σ (xu ζ 37 a 1)))) (fun jv11 σ12 => bd (iv 9 σ12 (b0 + 23) (F_X8_firstLets (b0 + 23) σ12)) fun jv13 σ14 => bd (iv 9 σ14 (b0 + 23) (F_X8_scale (b0 + 23) n σ14)) fun jv15 σ16 => F_X8_settle_L65 (b0 + 23) n a jv15 fu 1 1 σ16) = z) → F_X8_settle (b0 + 23) n s (S b0 σ ζ) = z := by
    intro z z1 z2
    rw [F_X8_settle]
    refine evn ?_
    rw [ha]
    refine ev rS_23_20 ?_
    refine ev (wS_37 (by omega) (by omega) (by omega)) ?_
    refine ev rS_23_14 ?_
    refine ev (aS_33 (by omega) (by omega)) ?_
    refine ev rS_23_8 ?_
    rw [h1.1 33 (by omega), h1.2 8 (by omega)]
    refine ev_bEq (by omega) (by omega) (by omega) (by omega) (fun hc => ?_) (fun hc => z2 hc)
    exact ev rS_23_22 (z1 hc _ rfl)
  by_cases hl : ξ 33 n = ξ 23 8 - 1
  · have hlf : lft ξ n = 0 := by unfold lft; omega
    have he := endv_bd (s := s) hB
    have hu : MB (unf (xu ζ 37 a 1) s) := hM1.unf (hB.cf h1)
    refine ⟨xu (unf (xu ζ 37 a 1) s) 39 a (endv ξ s), pre _ (fun _ X hX => ?_) (fun q => absurd hl q), Ch_xu (Or.inr ⟨by omega, rfl⟩) (Ch_unf (fun _ => Or.inl (Or.inr (Or.inl rfl))) hc1), ?_, ?_, ?_, ?_⟩
    · rw [← hX]
      refine evd (iS_23.trans (X8_endOf (hB.cf h1) hM1 s0 (by omega))) ?_
      rw [endv_cf h1]
      refine ev_g3 (by omega) (by omega) ?_
      exact ev (wS_39 (by omega) (by omega)) rfl
    · rw [xu_nd (by omega), unf_d (by omega), xu_s]
    · unfold KW
      rw [ha, xu_s, hlf]
      exact ⟨rfl, fun k hk => absurd hk (by omega)⟩
    · intro l a' b'
      rw [xu_nd (by omega), xu_nd (by omega), xu_nd (by omega)]
      exact hu l a' b'
    · intro l a' b' hz
      rw [xu_nd (by omega), unf_d (by omega)] at hz ⊢
      exact hZ1 l a' b' hz
  · obtain ⟨k, hk⟩ : ∃ k, lft ξ n = k + 1 := ⟨lft ξ n - 1, by unfold lft; omega⟩
    obtain ⟨e1, hA⟩ := At_first (b0 := b0) (σ := σ) (s := s) hB h1 hM1 hZ1
    have hb := fsL_bx (s := s) hB
    have hc2 : Ch (scrB a) ζ (setL (unf (xu ζ 37 a 1) s) (fsL ξ s)) := Ch_lts (fun _ => Or.inl (Or.inr (Or.inr rfl))) (Ch_unf (fun _ => Or.inl (Or.inr (Or.inl rfl))) hc1)
    have hk9 : ξ 23 9 ^ lft ξ n = ξ 23 9 ^ (k + 1) := by rw [hk]
    obtain ⟨ζ', r1, r2, r3, r4⟩ := settle_out (b0 := b0) (σ := σ) hB hT hW n0 n1 hk s0 s1 ha.symm 4096 fu (fsL ξ s) 1 _ (by have := hb.1.1; omega) (fuN (by omega)) hA hb.1 (fun c c0 c1 hp L' hL => by
      have hfl := flS_bd (c := c) hB hT (by omega) (by omega) hL
      rw [hc2 39 _ (by unfold scrB scr; omega), (hC c c0 c1 hp L' hL).1]
      have := lft_child hT (by omega) c1 hp
      rw [show lft ξ c = k by omega]) (Or.inl ⟨rfl, hb.2⟩)
    refine ⟨ζ', pre _ (fun q => absurd q hl) (fun _ => ?_), hc2.trans (r2.mono scrAB), ?_, ?_, At_MB hB r4, TZ_At hB r4 hb.1⟩
    · refine evd (iS_23.trans (X8_unfold (hB.cf h1) s0 (by omega))) ?_
      refine evd (iS_23.trans e1) ?_
      have hsc := X8_scale (b0 := b0) (σ := σ) (n := n) (hT.cf hA.1) n0 (by rw [hA.1.2 11 (by omega)]; exact n1)
      rw [hA.1.2 9 (by omega), lft_cf hA.1, hk9] at hsc
      exact evd (iS_23.trans hsc) r1
    · rw [r2 37 _ ?_]
      · exact (lts_d (by omega)).trans ((unf_d (by omega)).trans xu_s)
      · unfold scrA scr; omega
    · unfold KW
      rw [ha]
      rw [hk]
      refine ⟨(VV_of r3).symm, fun k' hk' => ?_⟩
      have : k' = k := by omega
      subst this
      exact r3
end W5
