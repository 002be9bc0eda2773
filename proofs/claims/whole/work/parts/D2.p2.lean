section P2
variable {b0 : Int} {σ τ σ' : Hp} {ξ ζ η ζc ζm ζ1 : Int → Int → Int} {a b c i k l m n v j w s L p q le r x t t' mm fr st g e sp lo' ci f1 f2 f3 f4 s' : Int}
theorem MB_ms (hB : LB ξ) (cf : Cf ξ ζ) (h35 : ∀ i, 0 ≤ i → i < 3 → ζ 35 i = ms ξ s i) : MB ζ := by
  intro l l0 l3
  rw [h35 l l0 l3, cf.1 25 (by omega), cf.2 1 (by omega)]
  exact ⟨ms_bd hB l0 l3, fun q => ms_no hB l0 l3 q⟩
def okL (ξ : Int → Int → Int) (s L i : Int) : Prop := lo ξ s i ≤ dg L i ∧ dg L i ≤ hi ξ s i
theorem week_loop (hB : LB ξ) (hl : 0 < ξ 23 1) (x0 : 0 ≤ x) (x1 : x < pL (ξ 23 1)) : ∀ (m f : Nat) (l : Int) (ζ : Int → Int → Int), m < f → 0 ≤ l → l + m = ξ 23 1 → Cf ξ ζ → TZ ζ → (∀ i, 0 ≤ i → i < 3 → ζ 35 i = ms ξ s i) → (∀ i, 0 ≤ i → i < l → ζ 36 i = dg (aL (ξ 23 1) x) i ∧ okL ξ s (aL (ξ 23 1) x) i) → ∃ ζ', Ch scr ζ ζ' ∧ TZ ζ' ∧ (∀ i, 0 ≤ i → i < 3 → ζ' 35 i = ms ξ s i) ∧ ((F_X8_week_L65 (b0 + 23) x c f l (S b0 σ ζ) = bd (iv 9 (S b0 σ ζ') (b0 + 23) (F_X8_goes (b0 + 23) c (S b0 σ ζ'))) (fun jv26 σ27 => some (jv26, σ27)) ∧ ∀ i, 0 ≤ i → i < ξ 23 1 → ζ' 36 i = dg (aL (ξ 23 1) x) i ∧ okL ξ s (aL (ξ 23 1) x) i) ∨ (F_X8_week_L65 (b0 + 23) x c f l (S b0 σ ζ) = some (-1, S b0 σ ζ') ∧ ∃ i, (0 ≤ i ∧ i < ξ 23 1) ∧ ¬ okL ξ s (aL (ξ 23 1) x) i)) := by
  have nl := hB.1
  intro m
  induction m with
  | zero =>
    intro f l ζ hf l0 he cf hz h35 h36
    obtain ⟨f, rfl⟩ : ∃ g, f = g + 1 := ⟨f - 1, by omega⟩
    refine ⟨ζ, Ch.rf, hz, h35, Or.inl ⟨?_, fun i a b => h36 i a (by omega)⟩⟩
    rw [F_X8_week_L65]
    refine ev rS_23_1 ?_
    rw [cf.2 1 (by omega)]
    exact ev_bLt (by omega) (by omega) (by omega) (by omega) (fun q => by omega) (fun _ => rfl)
  | succ m ih =>
    intro f l ζ hf l0 he cf hz h35 h36
    obtain ⟨f, rfl⟩ : ∃ g, f = g + 1 := ⟨f - 1, by omega⟩
    have ab := aL_bd (n := ξ 23 1) (by omega) nl.2 x0 x1
    have db := dg_bd (j := l) ab.1.1 ab.1.2
    have lh := lohi (s := s) (i := l) hB l0 (by omega)
    have cf' : Cf ξ (xu ζ 36 l (dg (aL (ξ 23 1) x) l)) := cf.trans (Cf.xu (by omega))
    have m35 : xu ζ 36 l (dg (aL (ξ 23 1) x) l) 35 l = ms ξ s l := by rw [xu_nd (by omega)]; exact h35 l l0 (by omega)
    have mb := ms_bd (s := s) hB l0 (show l < 3 by omega)
    have gb := hB.gr l0 (show l < 3 by omega)
    have low := X8_lowest (b0 := b0) (σ := σ) (l := l) (hB.cf cf') l0 (by omega) (by rw [m35]; omega)
    rw [m35, cf'.1 27 (by omega)] at low
    have hig := X8_highest (b0 := b0) (σ := σ) (l := l) (hB.cf cf') l0 (by omega) (by rw [m35]; omega)
    rw [m35, cf'.1 27 (by omega), cf'.1 26 (by omega), cf'.1 24 (by omega)] at hig
    have c1 : Ch scr ζ (xu ζ 36 l (dg (aL (ξ 23 1) x) l)) := Ch_xu (by unfold scr; omega) Ch.rf
    have hz' : TZ (xu ζ 36 l (dg (aL (ξ 23 1) x) l)) := by
      intro i i0 i3 q
      rw [xu_nd (by omega), cf.2 1 (by omega)] at q
      rw [xu_ni (by omega)]
      exact hz i i0 i3 (by rw [cf.2 1 (by omega)]; exact q)
    have h35' : ∀ i, 0 ≤ i → i < 3 → xu ζ 36 l (dg (aL (ξ 23 1) x) l) 35 i = ms ξ s i := fun i a b => by rw [xu_nd (by omega)]; exact h35 i a b
    have top : ∀ z, (okL ξ s (aL (ξ 23 1) x) l → F_X8_week_L65 (b0 + 23) x c f (l + 1) (S b0 σ (xu ζ 36 l (dg (aL (ξ 23 1) x) l))) = z) → (¬ okL ξ s (aL (ξ 23 1) x) l → some (-1, S b0 σ (xu ζ 36 l (dg (aL (ξ 23 1) x) l))) = z) → F_X8_week_L65 (b0 + 23) x c (f + 1) l (S b0 σ ζ) = z := by
      intro z z1 z2
      rw [F_X8_week_L65]
      refine ev rS_23_1 ?_
      rw [cf.2 1 (by omega)]
      refine ev_bLt (by omega) (by omega) (by omega) (by omega) (fun _ => ?_) (fun q => by omega)
      refine ev rS_23_17 ?_
      refine ev rS_23_1 ?_
      rw [cf.2 1 (by omega), aL_dg (by omega) nl.2 x0 x1 l0 (by omega)]
      refine ev (wS_36 l0 (by omega)) ?_
      refine ev rS_23_17 ?_
      refine ev (aS_36 l0 (by omega)) ?_
      rw [xu_s]
      refine evd (iS_23.trans low) ?_
      refine evd (iS_23.trans hig) ?_
      refine evd (X8_in _ ⟨by omega, by omega⟩ (show R3 (lo ξ s l) from ⟨by omega, by omega⟩) (show R3 (hi ξ s l) from ⟨by omega, by omega⟩)) ?_
      exact ev_if (fun q => z2 q) (fun q => z1 q)
    by_cases ok : okL ξ s (aL (ξ 23 1) x) l
    · obtain ⟨ζ', e1, e2, e3, e4⟩ := ih f (l + 1) _ (by omega) (by omega) (by omega) cf' hz' h35' (fun i a b => by
        by_cases q : i = l
        · subst q
          exact ⟨xu_s, ok⟩
        · rw [xu_ni q]
          exact h36 i a (by omega))
      refine ⟨ζ', c1.trans e1, e2, e3, ?_⟩
      rcases e4 with ⟨y1, y2⟩ | ⟨y1, y2⟩
      · exact Or.inl ⟨top _ (fun _ => y1) (fun q => absurd ok q), y2⟩
      · exact Or.inr ⟨top _ (fun _ => y1) (fun q => absurd ok q), y2⟩
    · exact ⟨_, c1, hz', h35', Or.inr ⟨top _ (fun q => absurd q ok) (fun _ => rfl), l, ⟨l0, by omega⟩, ok⟩⟩
theorem T_week (h : INV b0 ξ σ t) (ht : t ≤ t') (hx : R3 x) (hk : R3 k) : Step b0 σ ξ t' (F_X7_week b0 x k) (F_X8_week (b0 + 23) x k) R3 := by
  refine Step_w h ht hk (fun _ => rfl) (fun _ => rfl) ?_
  intro g n s c on hg hn hs g0 g1 hW n0 n1 wl r6 c0 c1 hp hrk s0 s1
  obtain ⟨hI, hM, hX, hR, hv⟩ := id h
  obtain ⟨g2, g3, g4, g5, g6⟩ := hR.2.2.2 on
  rw [hg] at g3 g5 g6
  obtain ⟨m1, m2, m3, m4, m5, _⟩ := g6 g g0 (Int.le_refl _)
  have hB := hI.1.1
  have hT := hI.1.2.1
  have hV := hI.1.2.2.1
  have hz := ZZ_le hB
  have n81 := hT.2.2.1
  have w10 := hT.1
  have nl := hB.1
  have hl := hW.1
  have pe := pL_eq (n := ξ 23 1) (by omega) nl.2
  -- the class as far as the lets
  have top : ∀ z, (¬ (0 ≤ x ∧ x < pL (ξ 23 1)) → some (-1, S b0 σ ξ) = z) → (0 ≤ x ∧ x < pL (ξ 23 1) → (bd (iv 5 (S b0 σ ξ) (b0 + 1) (F_X4_mayLet (b0 + 1) s (aL (ξ 23 1) x) (S b0 σ ξ))) fun jv15 σ16 => bEq jv15 0 (some ((-1), σ16)) (bd (iv 8 σ16 b0 (F_X7_letWeek b0 (aL (ξ 23 1) x) k σ16)) fun jv17 σ18 => some (jv17, σ18))) = z) → ((rd 8 (S b0 σ ξ) b0 0).bind fun jv3 => bd (iv 5 (S b0 σ ξ) jv3 (F_X4_mostLets jv3 (S b0 σ ξ))) fun jv4 σ5 => bd (F_X7_isWithin x jv4 σ5) fun jv6 σ7 => bEq jv6 0 (some ((-1), σ7)) ((rd 8 σ7 b0 0).bind fun jv8 => bd (iv 5 σ7 jv8 (F_X4_allLets jv8 x σ7)) fun jv9 σ10 => (rd 8 σ10 b0 0).bind fun jv11 => (rd 8 σ10 b0 4).bind fun jv12 => bd (iv 3 σ10 jv12 (F_X2_stateNow jv12 σ10)) fun jv13 σ14 => bd (iv 5 σ14 jv11 (F_X4_mayLet jv11 jv13 jv9 σ14)) fun jv15 σ16 => bEq jv15 0 (some ((-1), σ16)) (bd (iv 8 σ16 b0 (F_X7_letWeek b0 jv9 k σ16)) fun jv17 σ18 => some (jv17, σ18)))) = z := by
    intro z z1 z2
    refine ev rS_0_0 ?_
    refine evd (iS_1.trans (show F_X4_mostLets (b0 + 1) (S b0 σ ξ) = some (pL (ξ 23 1) - 1, S b0 σ ξ) from ?_)) ?_
    · rw [F_X4_mostLets]
      refine ev rS_1_1 ?_
      rw [hV.1, pe.1]
    refine evd (X7_isWithin hx ⟨by omega, by omega⟩) ?_
    refine ev_if (fun q => z1 (by omega)) (fun q => ?_)
    refine ev rS_0_0 ?_
    refine evd (iS_1.trans (show F_X4_allLets (b0 + 1) x (S b0 σ ξ) = some (aL (ξ 23 1) x, S b0 σ ξ) from ?_)) ?_
    · rw [F_X4_allLets]
      refine ev rS_1_1 ?_
      rw [hV.1, aL_eq (by omega) nl.2 q.1 (by omega)]
    refine ev rS_0_0 ?_
    refine ev rS_0_4 ?_
    refine evd (iS_17.trans (X2_stateNow g0 (by omega) g3 (by rw [m5.1, hs]))) ?_
    exact z2 (by omega)
  -- the model as far as the lets
  have mtop : ∀ (σ : Hp) (ζ : Int → Int → Int) z, Cf ξ ζ → ζ 23 33 = g → ζ 50 g = s → (¬ (0 ≤ x ∧ x < pL (ξ 23 1)) → some (-1, S b0 σ ζ) = z) → (0 ≤ x ∧ x < pL (ξ 23 1) → F_X8_week_L65 (b0 + 23) x c fu 0 (S b0 σ (unf ζ s)) = z) → (bLt x 0 (some ((-1), S b0 σ ζ)) ((rd 9 (S b0 σ ζ) (b0 + 23) 1).bind fun jv8 => bEq (shrI x (4 * jv8)) 0 ((rd 9 (S b0 σ ζ) (b0 + 23) 35).bind fun jv9 => (rd 9 (S b0 σ ζ) (b0 + 23) 33).bind fun jv10 => (ar 11 (S b0 σ ζ) jv9 jv10).bind fun jv11 => bd (iv 9 (S b0 σ ζ) (b0 + 23) (F_X8_unfold (b0 + 23) jv11 (S b0 σ ζ))) fun jv12 σ13 => F_X8_week_L65 (b0 + 23) x c fu 0 σ13) (some ((-1), S b0 σ ζ)))) = z := by
    intro σ ζ z cf z33 z50 z1 z2
    refine ev_bLt hx.1 hx.2 (by omega) (by omega) (fun q => z1 (by omega)) (fun q => ?_)
    have ps := pL_shr (n := ξ 23 1) (x := x) (by omega) nl.2 (by omega) hx.2
    refine ev rS_23_1 ?_
    rw [cf.2 1 (by omega)]
    refine ev_bEq (by omega) (by omega) (by omega) (by omega) (fun q2 => ?_) (fun q2 => z1 (fun y => q2 (ps.1.mpr y.2)))
    have q3 := ps.1.mp q2
    refine ev rS_23_35 ?_
    refine ev rS_23_33 ?_
    rw [z33]
    refine ev (aS_50 g0 (by omega)) ?_
    rw [z50]
    exact evd (iS_23.trans (X8_unfold (hB.cf cf) s0 (by omega))) (z2 ⟨by omega, q3⟩)
  by_cases xo : 0 ≤ x ∧ x < pL (ξ 23 1)
  · have ab := aL_bd (n := ξ 23 1) (by omega) nl.2 xo.1 xo.2
    obtain ⟨v, v1, v2⟩ := X4_mayLet (b0 := b0) (σ := σ) (s := s) (L := aL (ξ 23 1) x) hB hV s0 (by omega) ab.1.1 ab.1.2
    have wl' : ∀ (σ : Hp) (ζ : Int → Int → Int), Cf ξ ζ → MB ζ → TZ ζ → ∃ ζ', Ch scr ζ ζ' ∧ TZ ζ' ∧ (∀ i, 0 ≤ i → i < 3 → ζ' 35 i = ms ξ s i) ∧ ((F_X8_week_L65 (b0 + 23) x c fu 0 (S b0 σ (unf ζ s)) = bd (iv 9 (S b0 σ ζ') (b0 + 23) (F_X8_goes (b0 + 23) c (S b0 σ ζ'))) (fun jv26 σ27 => some (jv26, σ27)) ∧ ∀ i, 0 ≤ i → i < ξ 23 1 → ζ' 36 i = dg (aL (ξ 23 1) x) i ∧ okL ξ s (aL (ξ 23 1) x) i) ∨ (F_X8_week_L65 (b0 + 23) x c fu 0 (S b0 σ (unf ζ s)) = some (-1, S b0 σ ζ') ∧ ∃ i, (0 ≤ i ∧ i < ξ 23 1) ∧ ¬ okL ξ s (aL (ξ 23 1) x) i)) := by
      intro σ ζ cf hMB hTZ
      obtain ⟨ζ', e1, e2⟩ := week_loop (b0 := b0) (σ := σ) (c := c) (s := s) hB hl xo.1 xo.2 (ξ 23 1).toNat fu 0 (unf ζ s) (fuN (by omega)) (Int.le_refl _) (by omega) (cf.trans Cf.unf) (fun l l0 l3 q => by
        rw [unf_d (by omega)] at q ⊢
        exact hTZ l l0 l3 q) (fun i a b => by rw [unf_m (hB.cf cf) hMB a b, ms_cf cf]) (fun i a b => by omega)
      exact ⟨ζ', (Ch_unf (fun _ => by unfold scr; omega) Ch.rf).trans e1, e2⟩
    by_cases may : mayL ξ s (aL (ξ 23 1) x)
    · have ve : v = 1 := by
        rcases v2 with y | y
        · exact y.1
        · exact absurd may y.2
      subst ve
      have hb : bx ξ s (aL (ξ 23 1) x) := by
        have q : ∀ i, 0 ≤ i → i < 3 → lo ξ s i ≤ dg (aL (ξ 23 1) x) i ∧ dg (aL (ξ 23 1) x) i ≤ hi ξ s i := by
          intro i i0 i3
          by_cases e : i < ξ 23 1
          · exact may i i0 e
          · have lh := lohi (s := s) (i := i) hB i0 i3
            have := lh.2.2.2.2 (by omega)
            rw [ab.2 i (by omega) i3]
            omega
        exact ⟨ab.1, q 0 (by omega) (by omega), q 1 (by omega) (by omega), q 2 (by omega) (by omega)⟩
      have lw := X7_letWeek (k := k) (L := aL (ξ 23 1) x) hI Ch.rf g0 g1 g3 (by rw [g5, hn]) (by rw [m5.1, hs]) n0 c0 c1 hp hrk r6 hW.1 s0 s1 hb
      have cc : Ch scrZ ξ (xu ξ 1 3 (spS ξ c s (aL (ξ 23 1) x))) := Ch_xu (by unfold scrZ; omega) Ch.rf
      generalize hLL : aL (ξ 23 1) x = LL at *
      generalize hζ1 : goC (xu ξ 1 3 (spS ξ c s LL)) g (ξ 10 c) (flS ξ c s LL) (ξ 19 g + ernS ξ (ξ 33 c) s LL) (ξ 20 g + spS ξ c s LL) (ξ 21 g + dg LL (ξ 23 1 - 1)) (ξ 22 g + (ξ 34 (3 * c) + ξ 34 (3 * c + 1) + ξ 34 (3 * c + 2))) = ζ1 at *
      have y1 : Ch scrY ξ ζ1 := by rw [← hζ1]; exact (cc.mono scrZY).trans (goC_ch.mono scrUY)
      have v2 : ∀ d k, 23 ≤ d → ζ1 d k = ξ d k := fun d k q => by
        rw [← hζ1, goC_o (by omega), xu_nd (by omega)]
      have cf1 := Cf_scrY y1
      have mk1 : MK ξ ζ1 := by
        rw [← hζ1]
        exact MK_u (MK_c hM (Ch_xu (Or.inl ⟨rfl, rfl⟩) Ch.rf)) goC_ch
      obtain ⟨ζm, e1, e2, e3, e4⟩ := wl' σ ζ1 cf1 mk1.1.2.1 mk1.1.2.2.1
      have cfm : Cf ξ ζm := cf1.trans (Cf_ch (fun d k q => by unfold scr at q; omega) e1)
      rcases e4 with ⟨e5, e6⟩ | ⟨_, i, i1, i2⟩
      · have mkm : MK ξ ζm := MK_ch mk1 e1 (MB_ms hB cfm e3) e2
        have d36 : ∀ l, 0 ≤ l → l < 3 → ζm 36 l = dg LL l := by
          intro l l0 l3
          by_cases e : l < ξ 23 1
          · exact (e6 l l0 e).1
          · rw [ab.2 l (by omega) l3]
            exact e2 l l0 l3 (by rw [cfm.2 1 (by omega)]; omega)
        have u33 : ζm 23 33 = g := by rw [e1 23 33 (by unfold scr; omega), v2 23 33 (by omega)]; exact hg
        have u50 : ζm 50 g = s := by rw [e1 50 g (by unfold scr; omega), v2 50 g (by omega)]; exact hs
        have gm := Y8_goes (b0 := b0) (σ := σ) (c := c) hB hT hX mkm.1.1 mkm.1.2.1 d36 hb g0 g1 u33 u50 (by omega) c1 hW.1 s0 s1
        have eb := ernS_bd (w := ξ 33 c) hB hT (by have := hT.week n0 n1; have := hT.2.2.2.2.2.1 c (by omega) c1; rw [hp] at this; omega) (by have := hT.week (n := c) (by omega) c1; omega) hb
        refine ⟨ernS ξ (ξ 33 c) s LL, σ, ζ1, σ, _, ?_, y1, ⟨by rw [v2 _ _ (by omega)]; exact on, by rw [v2 _ _ (by omega)]; exact hg, by rw [v2 _ _ (by omega)]; exact hn⟩, ?_, INV_go h ht on hI Ch.rf hg hn hs g1 c0 c1 hp hb hζ1.symm (e1.mono (fun d k q => by unfold scr at q; unfold scrZ; omega)) mkm d36, ⟨by omega, by omega⟩⟩
        · refine top _ (fun q => absurd xo q) (fun _ => ?_)
          refine evd (iS_1.trans v1) ?_
          refine ev_bEq (by omega) (by omega) (by omega) (by omega) (fun q => by omega) (fun _ => ?_)
          exact evd (iS_0.trans lw) rfl
        · refine mtop σ ζ1 _ cf1 (by rw [v2 _ _ (by omega)]; exact hg) (by rw [v2 _ _ (by omega)]; exact hs) (fun q => absurd xo q) (fun _ => ?_)
          rw [e5]
          exact evd (iS_23.trans gm) rfl
      · exact absurd (may i i1.1 i1.2) i2
    · have ve : v = 0 := by
        rcases v2 with y | y
        · exact absurd y.2 may
        · exact y.1
      subst ve
      obtain ⟨ζm, e1, e2, e3, e4⟩ := wl' σ ξ Cf.rfl' hM.1.2.1 hM.1.2.2.1
      have cfm : Cf ξ ζm := Cf_ch (fun d k q => by unfold scr at q; omega) e1
      rcases e4 with ⟨e5, e6⟩ | ⟨e5, _⟩
      · exact absurd (fun i a b => (e6 i a b).2) may
      · have mkm : MK ξ ζm := MK_ch hM e1 (MB_ms hB cfm e3) e2
        refine ⟨-1, σ, ξ, σ, ζm, ?_, Ch.rf, ⟨on, hg, hn⟩, ?_, INV_q h hI mkm (e1.mono (fun d k q => by unfold scr at q; unfold scrZ; omega)) ht, ⟨by decide, by decide⟩⟩
        · refine top _ (fun q => absurd xo q) (fun _ => ?_)
          refine evd (iS_1.trans v1) ?_
          exact ev_bEq (by omega) (by omega) (by omega) (by omega) (fun _ => rfl) (fun q => by omega)
        · exact mtop σ ξ _ Cf.rfl' hg hs (fun q => absurd xo q) (fun _ => e5)
  · exact ⟨-1, σ, ξ, σ, ξ, top _ (fun _ => rfl) (fun q => absurd q xo), Ch.rf, ⟨on, hg, hn⟩, mtop σ ξ _ Cf.rfl' hg hs (fun _ => rfl) (fun q => absurd q xo), INV_q h hI hM Ch.rf ht, ⟨by decide, by decide⟩⟩
end P2
