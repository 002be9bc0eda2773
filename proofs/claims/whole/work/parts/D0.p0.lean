section P0
variable {b0 : Int} {σ τ σ' : Hp} {ξ ζ η ζc ζm ζ1 : Int → Int → Int} {a b c i k l m n v j w s L p q le r x t t' mm fr st g e sp lo ci f1 f2 f3 f4 s' : Int}
theorem X8_refused (hT : TB ξ) (cf : Cf ξ ζ) (z32 : ζ 23 32 = 1) (g0 : 0 ≤ g) (g1 : g ≤ 10) (z33 : ζ 23 33 = g) (z49 : ζ 49 g = n) (n0 : 0 ≤ n) (n1 : n < ξ 23 11) : F_X8_refused (b0 + 23) (S b0 σ ζ) = some (if ξ 33 n = ξ 23 8 - 1 then -4 else 0, S b0 σ ζ) := by
  have w10 := hT.1
  have n81 := hT.2.2.1
  have wk := hT.week n0 n1
  rw [F_X8_refused]
  refine ev rS_23_32 ?_
  rw [z32]
  refine ev_bEq (by omega) (by omega) (by omega) (by omega) (fun x => by omega) (fun _ => ?_)
  refine ev rS_23_14 ?_
  refine ev rS_23_34 ?_
  refine ev rS_23_33 ?_
  rw [z33]
  refine ev (aS_49 g0 (by omega)) ?_
  rw [z49]
  refine ev (aS_33 n0 (by omega)) ?_
  refine ev rS_23_8 ?_
  rw [cf.1 33 (by omega), cf.2 8 (by omega)]
  refine ev_bEq (by omega) (by omega) (by omega) (by omega) (fun q => ?_) (fun q => ?_)
  · rw [if_pos q]
  · rw [if_neg q]
theorem rk6 (hT : TB ξ) (hW : WH ξ) (n0 : 0 ≤ n) (n1 : n < ξ 23 11) (wl : ¬ ξ 33 n = ξ 23 8 - 1) : rk ξ n (ξ 23 11) ≤ 6 := by
  have wk := hT.week n0 n1
  have := rk_wsm hT n0 n1
  rw [hW.2 n n0 n1 (by omega)] at this
  have := hT.2.1
  omega
/-- what a call that lets a week needs, once it is not refused -/
def Go (b0 : Int) (σ : Hp) (ξ : Int → Int → Int) (t k : Int) (B : Hp → Option (Int × Hp)) (M : Int → Hp → Option (Int × Hp)) : Prop := ∀ g n s c, ξ 23 32 = 1 → ξ 23 33 = g → ξ 49 g = n → ξ 50 g = s → 0 ≤ g → g < 10 → WH ξ → 0 ≤ n → n < ξ 23 11 → ξ 33 n < ξ 23 8 - 1 → rk ξ n (ξ 23 11) ≤ 6 → n < c → c < ξ 23 11 → ξ 31 c = n → rk ξ n c = k → 0 ≤ s → s < ZZ ξ → ∃ r σ1 ζ1 σ2 ζ2, B (S b0 σ ξ) = some (r, S b0 σ1 ζ1) ∧ Ch scrY ξ ζ1 ∧ (ζ1 23 32 = 1 ∧ ζ1 23 33 = g ∧ ζ1 49 g = n) ∧ M c (S b0 σ1 ζ1) = some (r, S b0 σ2 ζ2) ∧ INV b0 ζ2 σ2 t ∧ R3 r
theorem Step_w {cls mod : Hp → Option (Int × Hp)} {B : Hp → Option (Int × Hp)} {M : Int → Hp → Option (Int × Hp)} (h : INV b0 ξ σ t) (ht : t ≤ t') (hk : R3 k) (ec : ∀ σ, cls σ = bd (iv 8 σ b0 (F_X7_refusalOfWeek b0 k σ)) fun jv1 σ2 => bEq jv1 0 (B σ2) (some (jv1, σ2))) (em : ∀ σ, mod σ = bd (iv 9 σ (b0 + 23) (F_X8_refused (b0 + 23) σ)) fun jv1 σ2 => bLt jv1 0 (some (jv1, σ2)) ((rd 9 σ2 (b0 + 23) 34).bind fun jv3 => (rd 9 σ2 (b0 + 23) 33).bind fun jv4 => (ar 11 σ2 jv3 jv4).bind fun jv5 => bd (iv 9 σ2 (b0 + 23) (F_X8_child (b0 + 23) jv5 k σ2)) fun jv6 σ7 => bLt jv6 0 (some ((-1), σ7)) (M jv6 σ7))) (go : Go b0 σ ξ t' k B M) : Step b0 σ ξ t' cls mod R3 := by
  obtain ⟨hI, hM, hX, hR, hv⟩ := id h
  obtain ⟨r1, r2, r3, r4⟩ := id hR
  have hT := hI.1.2.1
  have n81 := hT.2.2.1
  have w10 := hT.1
  by_cases on : ξ 23 32 = 0
  · refine Step_s (r := -6) h ht ?_ ?_ ⟨by decide, by decide⟩
    · rw [ec]
      refine evd (iS_0.trans (show F_X7_refusalOfWeek b0 k (S b0 σ ξ) = some (-6, S b0 σ ξ) from ?_)) ?_
      · rw [F_X7_refusalOfWeek]
        refine ev rS_0_4 ?_
        refine ev rS_17_5 ?_
        rw [r2]
        exact ev_bEq (by omega) (by omega) (by omega) (by omega) (fun _ => rfl) (fun x => absurd on x)
      · exact ev_bEq (by omega) (by omega) (by omega) (by omega) (fun x => by omega) (fun _ => rfl)
    · rw [em]
      refine evd (iS_23.trans (show F_X8_refused (b0 + 23) (S b0 σ ξ) = some (-6, S b0 σ ξ) from ?_)) ?_
      · rw [F_X8_refused]
        refine ev rS_23_32 ?_
        exact ev_bEq (by omega) (by omega) (by omega) (by omega) (fun _ => rfl) (fun x => absurd on x)
      · exact ev_bLt (by omega) (by omega) (by omega) (by omega) (fun _ => rfl) (fun x => by omega)
  · obtain ⟨g2, g3, g4, g5, g6⟩ := r4 (by omega)
    obtain ⟨n1, n2, n3, n4, n5, n6, n7, n8, n9⟩ := g6 _ g4.1 (Int.le_refl _)
    have ln' := hI.1.lv n1.1 n1.2
    have lp2 := ln'.2
    have wk := hT.week n1.1 n1.2
    have hNn := hI.1.2.2.2.2.2.2.2 _ n1.1 n1.2
    have rt : ∀ z, (ξ 33 (ξ 49 (ξ 23 33)) = ξ 23 8 - 1 → some (-4, S b0 σ ξ) = z) → (¬ ξ 33 (ξ 49 (ξ 23 33)) = ξ 23 8 - 1 → (bd (iv 2 (S b0 σ ξ) (ξ 10 (ξ 49 (ξ 23 33))) (F_X1_childAt (ξ 10 (ξ 49 (ξ 23 33))) k (S b0 σ ξ))) fun jv12 σ13 => bN jv12 (some ((-1), σ13)) (some (0, σ13))) = z) → F_X7_refusalOfWeek b0 k (S b0 σ ξ) = z := by
      intro z z1 z2
      rw [F_X7_refusalOfWeek]
      refine ev rS_0_4 ?_
      refine ev rS_17_5 ?_
      rw [r2]
      refine ev_bEq (by omega) (by omega) (by omega) (by omega) (fun x => absurd x on) (fun _ => ?_)
      refine ev rS_0_4 ?_
      refine ev rS_17_7 ?_
      rw [g5]
      refine ev_bN (fun x => by omega) (fun _ => ?_)
      refine ev rS_0_1 ?_
      refine ev rS_0_4 ?_
      refine ev rS_17_7 ?_
      rw [g5]
      refine evd (iS_9.trans (X3_isLast hI.1 Ch.rf n1.1 n1.2)) ?_
      unfold lst
      refine ev_if (fun q => ?_) (fun q => z1 q)
      refine ev rS_0_4 ?_
      refine ev rS_17_7 ?_
      rw [g5]
      exact z2 q
    have rfm : ∀ (σ' : Hp) (ζ : Int → Int → Int), Cf ξ ζ → ζ 23 32 = 1 → ζ 23 33 = ξ 23 33 → ζ 49 (ξ 23 33) = ξ 49 (ξ 23 33) → F_X8_refused (b0 + 23) (S b0 σ' ζ) = some (if ξ 33 (ξ 49 (ξ 23 33)) = ξ 23 8 - 1 then -4 else 0, S b0 σ' ζ) := fun σ' ζ cf a b c => X8_refused hT cf a g4.1 g4.2 b c n1.1 n1.2
    by_cases la : ξ 33 (ξ 49 (ξ 23 33)) = ξ 23 8 - 1
    · refine Step_s (r := -4) h ht ?_ ?_ ⟨by decide, by decide⟩
      · rw [ec]
        refine evd (iS_0.trans (rt (some (-4, S b0 σ ξ)) (fun _ => rfl) (fun x => absurd la x))) ?_
        exact ev_bEq (by omega) (by omega) (by omega) (by omega) (fun x => by omega) (fun _ => rfl)
      · rw [em]
        have := rfm σ ξ Cf.rfl' (by omega) rfl rfl
        rw [if_pos la] at this
        refine evd (iS_23.trans this) ?_
        exact ev_bLt (by omega) (by omega) (by omega) (by omega) (fun _ => rfl) (fun x => by omega)
    · have r6 := rk6 hT g2 n1.1 n1.2 la
      have ca := X1_childAt (b0 := b0) (ζ := ξ) hI.1 n1.1 n1.2 r6 hk
      have ch : ∀ (σ' : Hp) (ζ : Int → Int → Int), Cf ξ ζ → ∃ c, F_X8_child (b0 + 23) (ξ 49 (ξ 23 33)) k (S b0 σ' ζ) = some (c, S b0 σ' ζ) ∧ ((c = -1 ∧ ¬ (0 ≤ k ∧ k < rk ξ (ξ 49 (ξ 23 33)) (ξ 23 11))) ∨ ((ξ 49 (ξ 23 33) < c ∧ c < ξ 23 11) ∧ ξ 31 c = ξ 49 (ξ 23 33) ∧ rk ξ (ξ 49 (ξ 23 33)) c = k ∧ (0 ≤ k ∧ k < rk ξ (ξ 49 (ξ 23 33)) (ξ 23 11)))) := fun σ' ζ cf => X8_child hT cf n1.1 n1.2 hk
      by_cases kk : 0 ≤ k ∧ k < rk ξ (ξ 49 (ξ 23 33)) (ξ 23 11)
      · obtain ⟨c, d1, d2⟩ := ch σ ξ Cf.rfl'
        have d3 : (ξ 49 (ξ 23 33) < c ∧ c < ξ 23 11) ∧ ξ 31 c = ξ 49 (ξ 23 33) ∧ rk ξ (ξ 49 (ξ 23 33)) c = k := by
          rcases d2 with x | x
          · exact absurd kk x.2
          · exact ⟨x.1, x.2.1, x.2.2.1⟩
        obtain ⟨r, σ1, ζ1, σ2, ζ2, e1, e2, e3, e4, e5, e6⟩ := go _ _ _ c (by omega) rfl rfl rfl g4.1 (by omega) g2 n1.1 n1.2 (by omega) r6 d3.1.1 d3.1.2 d3.2.1 d3.2.2 n4.1 n4.2
        refine ⟨r, σ1, ζ1, σ2, ζ2, ?_, ?_, e5, e6⟩
        · rw [ec]
          refine evd (iS_0.trans (rt (some (0, S b0 σ ξ)) (fun x => absurd x la) (fun _ => ?_))) ?_
          · refine evd ((iv_o (hI.1.nd n1.1 n1.2)).trans ca) ?_
            rw [if_pos kk, ← d3.2.2, hNn.2.2.2.2.2.2 c d3.1.1 d3.1.2 d3.2.1]
            have := (hI.1.lv (n := c) (by omega) d3.1.2).2
            exact ev_bN (fun x => by omega) (fun _ => rfl)
          · exact ev_bEq (by omega) (by omega) (by omega) (by omega) (fun _ => e1) (fun x => absurd rfl x)
        · rw [em]
          have cf1 := Cf_scrY e2
          have rf1 := rfm σ1 ζ1 cf1 e3.1 e3.2.1 e3.2.2
          rw [if_neg la] at rf1
          refine evd (iS_23.trans rf1) ?_
          refine ev_bLt (by omega) (by omega) (by omega) (by omega) (fun x => by omega) (fun _ => ?_)
          refine ev rS_23_34 ?_
          refine ev rS_23_33 ?_
          rw [e3.2.1]
          refine ev (aS_49 g4.1 (by omega)) ?_
          rw [e3.2.2]
          obtain ⟨c', d1', d2'⟩ := ch σ1 ζ1 cf1
          have ecc : c' = c := by
            have q : ∀ σ' ζ, Cf ξ ζ → ∀ c, F_X8_child (b0 + 23) (ξ 49 (ξ 23 33)) k (S b0 σ' ζ) = some (c, S b0 σ' ζ) → True := fun _ _ _ _ _ => trivial
            rcases d2' with x | x
            · exact absurd kk x.2
            · have r1 := rk_lt hT n1.1 d3.1.1 d3.1.2 d3.2.1
              have f1 : rkf ξ (ξ 49 (ξ 23 33)) c = 1 := if_pos d3.2.1
              have f2 : rkf ξ (ξ 49 (ξ 23 33)) c' = 1 := if_pos x.2.1
              have s1 := rk_s (ξ := ξ) (n := ξ 49 (ξ 23 33)) (p := c) (by omega)
              have s2 := rk_s (ξ := ξ) (n := ξ 49 (ξ 23 33)) (p := c') (by omega)
              rcases Int.lt_trichotomy c' c with y | y | y
              · have := rk_mono (ξ := ξ) (n := ξ 49 (ξ 23 33)) (p := c' + 1) (q := c) (by omega) (by omega)
                omega
              · exact y
              · have := rk_mono (ξ := ξ) (n := ξ 49 (ξ 23 33)) (p := c + 1) (q := c') (by omega) (by omega)
                omega
          subst ecc
          refine evd (iS_23.trans d1') ?_
          refine ev_bLt (by omega) (by omega) (by omega) (by omega) (fun x => by omega) (fun _ => e4)
      · refine Step_s (r := -1) h ht ?_ ?_ ⟨by decide, by decide⟩
        · rw [ec]
          refine evd (iS_0.trans (rt (some (-1, S b0 σ ξ)) (fun x => absurd x la) (fun _ => ?_))) ?_
          · refine evd ((iv_o (hI.1.nd n1.1 n1.2)).trans ca) ?_
            rw [if_neg kk]
            exact ev_bN (fun _ => rfl) (fun x => by omega)
          · exact ev_bEq (by omega) (by omega) (by omega) (by omega) (fun x => by omega) (fun _ => rfl)
        · rw [em]
          have rf1 := rfm σ ξ Cf.rfl' (by omega) rfl rfl
          rw [if_neg la] at rf1
          refine evd (iS_23.trans rf1) ?_
          refine ev_bLt (by omega) (by omega) (by omega) (by omega) (fun x => by omega) (fun _ => ?_)
          refine ev rS_23_34 ?_
          refine ev rS_23_33 ?_
          refine ev (aS_49 g4.1 (by omega)) ?_
          obtain ⟨c', d1', d2'⟩ := ch σ ξ Cf.rfl'
          have e : c' = -1 := by
            rcases d2' with x | x
            · exact x.1
            · exact absurd x.2.2.2 kk
          subst e
          refine evd (iS_23.trans d1') ?_
          exact ev_bLt (by omega) (by omega) (by omega) (by omega) (fun _ => rfl) (fun x => by omega)
theorem T_ruled (h : INV b0 ξ σ t) (ht : t ≤ t') (hk : R3 k) : Step b0 σ ξ t' (F_X7_ruled b0 k) (F_X8_ruled (b0 + 23) k) R3 := by
  refine Step_w h ht hk (fun _ => rfl) (fun _ => rfl) ?_
  intro g n s c on hg hn hs g0 g1 hW n0 n1 wl r6 c0 c1 hp hrk s0 s1
  obtain ⟨hI, hM, hX, hR, hv⟩ := id h
  obtain ⟨g2, g3, g4, g5, g6⟩ := hR.2.2.2 on
  rw [hg] at g3 g5 g6
  obtain ⟨m1, m2, m3, m4, m5, _⟩ := g6 g g0 (Int.le_refl _)
  have hB := hI.1.1
  have hT := hI.1.2.1
  have hz := ZZ_le hB
  have n81 := hT.2.2.1
  have w10 := hT.1
  have hb := bx_rls (s := s) hB
  have lw := X7_letWeek (k := k) (L := rls ξ s) hI Ch.rf g0 g1 g3 (by rw [g5, hn]) (by rw [m5.1, hs]) n0 c0 c1 hp hrk r6 hW.1 s0 s1 hb
  have hru := X4_ruleLets (b0 := b0) (σ := σ) (s := s) hB hI.1.2.2.1 s0 (by omega)
  have cc : Ch scrZ ξ (xu ξ 1 3 (spS ξ c s (rls ξ s))) := Ch_xu (by unfold scrZ; omega) Ch.rf
  generalize hζ1 : goC (xu ξ 1 3 (spS ξ c s (rls ξ s))) g (ξ 10 c) (flS ξ c s (rls ξ s)) (ξ 19 g + ernS ξ (ξ 33 c) s (rls ξ s)) (ξ 20 g + spS ξ c s (rls ξ s)) (ξ 21 g + dg (rls ξ s) (ξ 23 1 - 1)) (ξ 22 g + (ξ 34 (3 * c) + ξ 34 (3 * c + 1) + ξ 34 (3 * c + 2))) = ζ1 at *
  have y1 : Ch scrY ξ ζ1 := by rw [← hζ1]; exact (cc.mono scrZY).trans (goC_ch.mono scrUY)
  have v2 : ∀ d k, 23 ≤ d → ζ1 d k = ξ d k := fun d k q => by
    rw [← hζ1, goC_o (by omega), xu_nd (by omega)]
  have cf1 := Cf_scrY y1
  have mk1 : MK ξ ζ1 := by
    rw [← hζ1]
    exact MK_u (MK_c hM (Ch_xu (Or.inl ⟨rfl, rfl⟩) Ch.rf)) goC_ch
  obtain ⟨ra, rb⟩ := At_unf_ruled (b0 := b0) (σ := σ) (s := s) hB cf1 mk1.1.2.1 mk1.1.2.2.1
  have cm : Ch scr ζ1 (setL (unf ζ1 s) (rls ξ s)) := Ch_lts (fun _ => by unfold scr; omega) (Ch_unf (fun _ => by unfold scr; omega) Ch.rf)
  have mkm : MK ξ (setL (unf ζ1 s) (rls ξ s)) := MK_ch mk1 cm (At_MB hB rb) (TZ_At hB rb hb)
  have d36 : ∀ l, 0 ≤ l → l < 3 → setL (unf ζ1 s) (rls ξ s) 36 l = dg (rls ξ s) l := fun l a b => (rb.2 l a b).2
  have um : ∀ d k, d ≠ 23 → d ≠ 35 → d ≠ 36 → setL (unf ζ1 s) (rls ξ s) d k = ζ1 d k := fun d k a b c => cm d k (by unfold scr; omega)
  have u33 : setL (unf ζ1 s) (rls ξ s) 23 33 = g := by rw [cm 23 33 (by unfold scr; omega), v2 23 33 (by omega)]; exact hg
  have u50 : setL (unf ζ1 s) (rls ξ s) 50 g = s := by rw [um 50 g (by omega) (by omega) (by omega), v2 50 g (by omega)]; exact hs
  have gm := Y8_goes (b0 := b0) (σ := σ) (c := c) hB hT hX mkm.1.1 mkm.1.2.1 d36 hb g0 g1 u33 u50 (by omega) c1 hW.1 s0 s1
  have eb := ernS_bd (w := ξ 33 c) hB hT (by have := hT.week n0 n1; have := hT.2.2.2.2.2.1 c (by omega) c1; rw [hp] at this; omega) (by have := hT.week (n := c) (by omega) c1; omega) hb
  refine ⟨ernS ξ (ξ 33 c) s (rls ξ s), σ, ζ1, σ, _, ?_, y1, ⟨by rw [v2 _ _ (by omega)]; exact on, by rw [v2 _ _ (by omega)]; exact hg, by rw [v2 _ _ (by omega)]; exact hn⟩, ?_, INV_go h ht on hI Ch.rf hg hn hs g1 c0 c1 hp hb hζ1.symm (cm.mono (fun d k q => by unfold scr at q; unfold scrZ; omega)) mkm d36, ⟨by omega, by omega⟩⟩
  · refine ev rS_0_0 ?_
    refine ev rS_0_4 ?_
    refine evd (iS_17.trans (X2_stateNow g0 (by omega) g3 (by rw [m5.1, hs]))) ?_
    refine evd (iS_1.trans hru) ?_
    exact evd (iS_0.trans lw) rfl
  · refine ev rS_23_35 ?_
    refine ev rS_23_33 ?_
    rw [v2 23 33 (by omega), hg]
    refine ev (aS_50 g0 (by omega)) ?_
    rw [v2 50 g (by omega), hs]
    refine evd (iS_23.trans (X8_unfold (hB.cf cf1) s0 (by omega))) ?_
    refine evd (iS_23.trans ra) ?_
    exact evd (iS_23.trans gm) rfl
theorem T_best (h : INV b0 ξ σ t) (ht : t ≤ t') (hk : R3 k) : Step b0 σ ξ t' (F_X7_best b0 k) (F_X8_best (b0 + 23) k) R3 := by
  refine Step_w h ht hk (fun _ => rfl) (fun _ => rfl) ?_
  intro g n s c on hg hn hs g0 g1 hW n0 n1 wl r6 c0 c1 hp hrk s0 s1
  obtain ⟨hI, hM, hX, hR, hv⟩ := id h
  obtain ⟨g2, g3, g4, g5, g6⟩ := hR.2.2.2 on
  rw [hg] at g3 g5 g6
  obtain ⟨m1, m2, m3, m4, m5, _⟩ := g6 g g0 (Int.le_refl _)
  have hB := hI.1.1
  have hT := hI.1.2.1
  have hz := ZZ_le hB
  have n81 := hT.2.2.1
  have w10 := hT.1
  have lf : lft ξ n ≠ 0 := fun x => by have := (lft_0 hT n0 n1).mp x; omega
  obtain ⟨kk, hkk⟩ : ∃ kk, lft ξ n = kk + 1 := ⟨lft ξ n - 1, by omega⟩
  obtain ⟨σc, ζc, L, bl1, bl2, bl3, bl4⟩ := X6_bestLets (s := s) hI Ch.rf hW n0 n1 hkk s0 s1
  have hb := bl2.1
  have oc : ∀ d k, d ≠ 1 → d ≠ 15 → ζc d k = ξ d k := fun d k q r => bl4 d k (by unfold scrC; omega)
  have lw := X7_letWeek (k := k) (L := L) bl3 bl4 g0 g1 (by rw [oc 17 6 (by omega) (by omega)]; exact g3) (by rw [oc 17 7 (by omega) (by omega), g5, hn]) (by rw [oc 18 g (by omega) (by omega), m5.1, hs]) n0 c0 c1 hp hrk r6 hW.1 s0 s1 hb
  have cc : Ch scrZ ξ (xu ζc 1 3 (spS ξ c s L)) := Ch_xu (by unfold scrZ; omega) (bl4.mono scrCZ)
  generalize hζ1 : goC (xu ζc 1 3 (spS ξ c s L)) g (ξ 10 c) (flS ξ c s L) (ζc 19 g + ernS ξ (ξ 33 c) s L) (ζc 20 g + spS ξ c s L) (ζc 21 g + dg L (ξ 23 1 - 1)) (ζc 22 g + (ξ 34 (3 * c) + ξ 34 (3 * c + 1) + ξ 34 (3 * c + 2))) = ζ1 at *
  have y1 : Ch scrY ξ ζ1 := by rw [← hζ1]; exact (cc.mono scrZY).trans (goC_ch.mono scrUY)
  have v2 : ∀ d k, 23 ≤ d → ζ1 d k = ξ d k := fun d k q => by
    rw [← hζ1, goC_o (by omega), xu_nd (by omega)]
    exact oc d k (by omega) (by omega)
  have cf1 := Cf_scrY y1
  have mk1 : MK ξ ζ1 := by
    rw [← hζ1]
    exact MK_u (MK_c hM (Ch_xu (Or.inl ⟨rfl, rfl⟩) bl4)) goC_ch
  obtain ⟨ζm, L', e1, e2, e3, e4, e5⟩ := X8_bestLet (b0 := b0) (σ := σc) (s := s) hB hT hW n0 n1 s0 s1 hkk mk1
  have eL : L' = L := (e4.uniq bl2).2
  subst eL
  have u33 : ζm 23 33 = g := by rw [e3 23 33 (by unfold scrP scr; omega), v2 23 33 (by omega)]; exact hg
  have u50 : ζm 50 g = s := by rw [e3 50 g (by unfold scrP scr; omega), v2 50 g (by omega)]; exact hs
  have gm := Y8_goes (b0 := b0) (σ := σc) (c := c) hB hT hX e2.1.1 e2.1.2.1 e5 hb g0 g1 u33 u50 (by omega) c1 hW.1 s0 s1
  have eb := ernS_bd (w := ξ 33 c) hB hT (by have := hT.week n0 n1; have := hT.2.2.2.2.2.1 c (by omega) c1; rw [hp] at this; omega) (by have := hT.week (n := c) (by omega) c1; omega) hb
  refine ⟨ernS ξ (ξ 33 c) s L', σc, ζ1, σc, _, ?_, y1, ⟨by rw [v2 _ _ (by omega)]; exact on, by rw [v2 _ _ (by omega)]; exact hg, by rw [v2 _ _ (by omega)]; exact hn⟩, ?_, INV_go h ht on bl3 bl4 hg hn hs g1 c0 c1 hp hb hζ1.symm (e3.mono scrPZ) e2 e5, ⟨by omega, by omega⟩⟩
  · refine ev rS_0_2 ?_
    refine ev rS_0_4 ?_
    refine ev rS_17_7 ?_
    rw [g5, hn]
    refine ev rS_0_4 ?_
    refine evd (iS_17.trans (X2_stateNow g0 (by omega) g3 (by rw [m5.1, hs]))) ?_
    refine evd (iS_15.trans bl1) ?_
    exact evd (iS_0.trans lw) rfl
  · refine ev rS_23_34 ?_
    refine ev rS_23_33 ?_
    rw [v2 23 33 (by omega), hg]
    refine ev (aS_49 g0 (by omega)) ?_
    rw [v2 49 g (by omega), hn]
    refine ev rS_23_35 ?_
    refine ev rS_23_33 ?_
    rw [v2 23 33 (by omega), hg]
    refine ev (aS_50 g0 (by omega)) ?_
    rw [v2 50 g (by omega), hs]
    refine evd (iS_23.trans e1) ?_
    exact evd (iS_23.trans gm) rfl
end P0
