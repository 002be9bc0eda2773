section N5
variable {b0 : Int} {σ τ : Hp} {ξ ζ η : Int → Int → Int} {a b c i k l m n v j w s L fr st mm r x y : Int}
theorem ev_bN {γ : Type} {T E z : Option γ} (kT : a < 0 → T = z) (kE : ¬ a < 0 → E = z) : bN a T E = z := by
  unfold bN
  by_cases h : a < 0
  · rw [if_pos h]; exact kT h
  · rw [if_neg h]; exact kE h
theorem pre_N {K : Int → Hp → Option (Int × Hp)} {z : Option (Int × Hp)} (h : KB b0 ξ σ) (hc : Ch scrC ξ ζ) (hn : R3 n) (k1 : ¬ okN ξ n → some (x, S b0 σ ζ) = z) (k3 : okN ξ n → K (ξ 10 n) (S b0 σ ζ) = z) : ((rd 8 (S b0 σ ζ) b0 1).bind fun jv1 => bd (iv 4 (S b0 σ ζ) jv1 (F_X3_nodeAt jv1 n (S b0 σ ζ))) fun jv2 σ3 => bN jv2 (some (x, σ3)) (K jv2 σ3)) = z := by
  refine ev rS_0_1 ?_
  refine evd (iS_9.trans (X3_nodeAt h hc hn)) ?_
  by_cases e : 0 ≤ n ∧ n ≤ ξ 23 11 - 1
  · rw [if_pos e]
    have lp := (h.lv (n := n) e.1 (by omega)).2
    exact ev_bN (fun q => by omega) (fun q => k3 e)
  · rw [if_neg e]
    exact ev_bN (fun q => k1 e) (fun q => by omega)
theorem pre_NS {K : Int → Hp → Option (Int × Hp)} {z : Option (Int × Hp)} (h : KB b0 ξ σ) (hc : Ch scrC ξ ζ) (hn : R3 n) (hs : R3 s) (k1 : ¬ okNS ξ n s → some (x, S b0 σ ζ) = z) (k3 : okNS ξ n s → K (ξ 10 n) (S b0 σ ζ) = z) : ((rd 8 (S b0 σ ζ) b0 1).bind fun jv1 => bd (iv 4 (S b0 σ ζ) jv1 (F_X3_nodeAt jv1 n (S b0 σ ζ))) fun jv2 σ3 => bN jv2 (some (x, σ3)) ((rd 8 σ3 b0 0).bind fun jv4 => bd (iv 5 σ3 jv4 (F_X4_hasState jv4 s σ3)) fun jv5 σ6 => bEq jv5 0 (some (x, σ6)) (K jv2 σ6))) = z := by
  refine pre_N h hc hn (fun q => k1 (fun y => q y.1)) (fun q => ?_)
  have hf := Cf_scrC hc
  have e := X4_hasState (b0 := b0) (σ := σ) (h.1.cf hf) (CV_ch hc h.2.2.1) hs
  rw [ZZ_cf hf] at e
  refine ev rS_0_0 ?_
  refine evd (iS_1.trans e) ?_
  exact ev_if (fun q2 => k1 (fun y => by have := y.2; omega)) (fun q2 => k3 ⟨q, by omega⟩)
theorem pre_W {K : Hp → Option (Int × Hp)} {z : Option (Int × Hp)} (h : KB b0 ξ σ) (hc : Ch scrC ξ ζ) (k1 : ¬ WH ξ → some (x, S b0 σ ζ) = z) (k3 : WH ξ → K (S b0 σ ζ) = z) : (bd (iv 8 (S b0 σ ζ) b0 (F_X7_isWhole b0 (S b0 σ ζ))) fun jv7 σ8 => bEq jv7 0 (some (x, σ8)) (K σ8)) = z :=
  evd (iS_0.trans (X7_isWhole h hc)) (ev_if k1 k3)
theorem Z7_mean (h : KI b0 ξ σ) (hc : Ch scrC ξ ζ) (hn : R3 n) (hs : R3 s) (hA : A_mean ξ n s r) : ∃ σ' ζ', F_X7_mean b0 n s (S b0 σ ζ) = some (r, S b0 σ' ζ') ∧ KI b0 ξ σ' ∧ Ch scrC ξ ζ' := by
  by_cases q : okNS ξ n s ∧ WH ξ
  · obtain ⟨σ', ζ', r1, r2, r3, r4, r5⟩ := X5_go (st := s) h hc q.1.1.1 (by have := q.1.1.2; omega) q.1.2.1 (by have := q.1.2.2; omega)
    refine ⟨σ', ζ', ?_, r2, r3⟩
    rw [F_X7_mean]
    refine pre_NS h.1 hc hn hs (fun y => absurd q.1 y) (fun _ => ?_)
    refine pre_W h.1 hc (fun y => absurd q.2 y) (fun _ => ?_)
    refine ev rS_0_3 ?_
    refine evd (iS_16.trans r1) ?_
    refine ev rS_0_3 ?_
    refine evd (iS_16.trans (X5_mean r2.1 r3 q.1.1.1 (by have := q.1.1.2; omega) q.1.2.1 (by have := q.1.2.2; omega) r4)) ?_
    rw [hA.1 q _ r4 r5]
  · refine ⟨σ, ζ, ?_, h, hc⟩
    rw [F_X7_mean, hA.2 q]
    refine pre_NS h.1 hc hn hs (fun _ => rfl) (fun y => ?_)
    exact pre_W h.1 hc (fun _ => rfl) (fun y2 => absurd ⟨y, y2⟩ q)
theorem Z7_worst (h : KI b0 ξ σ) (hc : Ch scrC ξ ζ) (hn : R3 n) (hs : R3 s) (hA : A_worst ξ n s r) : ∃ σ' ζ', F_X7_worst b0 n s (S b0 σ ζ) = some (r, S b0 σ' ζ') ∧ KI b0 ξ σ' ∧ Ch scrC ξ ζ' := by
  by_cases q : okNS ξ n s ∧ WH ξ
  · obtain ⟨σ', ζ', r1, r2, r3, r4, r5⟩ := X5_go (st := s) h hc q.1.1.1 (by have := q.1.1.2; omega) q.1.2.1 (by have := q.1.2.2; omega)
    obtain ⟨r', t1, t2⟩ := X5_worst r2.1 r3 q.2 q.1.1.1 (by have := q.1.1.2; omega) q.1.2.1 (by have := q.1.2.2; omega) r4
    refine ⟨σ', ζ', ?_, r2, r3⟩
    rw [F_X7_worst]
    refine pre_NS h.1 hc hn hs (fun y => absurd q.1 y) (fun _ => ?_)
    refine pre_W h.1 hc (fun y => absurd q.2 y) (fun _ => ?_)
    refine ev rS_0_3 ?_
    refine evd (iS_16.trans r1) ?_
    refine ev rS_0_3 ?_
    refine evd (iS_16.trans t1) ?_
    rw [t2.uniq (hA.1 q _ r4)]
  · refine ⟨σ, ζ, ?_, h, hc⟩
    rw [F_X7_worst, hA.2 q]
    refine pre_NS h.1 hc hn hs (fun _ => rfl) (fun y => ?_)
    exact pre_W h.1 hc (fun _ => rfl) (fun y2 => absurd ⟨y, y2⟩ q)
theorem Z7_lack (h : KI b0 ξ σ) (hc : Ch scrC ξ ζ) (hn : R3 n) (hs : R3 s) (hA : A_lack ξ n s r) : ∃ σ' ζ', F_X7_lack b0 n s (S b0 σ ζ) = some (r, S b0 σ' ζ') ∧ KI b0 ξ σ' ∧ Ch scrC ξ ζ' := by
  by_cases q : okNS ξ n s
  · by_cases qw : WH ξ
    · obtain ⟨σ', ζ', r1, r2, r3, r4, r5⟩ := X5_go (st := s) h hc q.1.1 (by have := q.1.2; omega) q.2.1 (by have := q.2.2; omega)
      refine ⟨σ', ζ', ?_, r2, r3⟩
      rw [F_X7_lack]
      refine pre_NS h.1 hc hn hs (fun y => absurd q y) (fun _ => ?_)
      refine pre_W h.1 hc (fun y => absurd qw y) (fun _ => ?_)
      refine ev rS_0_3 ?_
      refine evd (iS_16.trans r1) ?_
      refine ev rS_0_3 ?_
      refine evd (iS_16.trans (X5_lack r2.1 r3 q.1.1 (by have := q.1.2; omega) q.2.1 (by have := q.2.2; omega) r4)) ?_
      rw [(hA.1 q).1 qw _ r4]
    · refine ⟨σ, ζ, ?_, h, hc⟩
      rw [F_X7_lack, (hA.1 q).2 qw]
      refine pre_NS h.1 hc hn hs (fun y => absurd q y) (fun y => ?_)
      exact pre_W h.1 hc (fun _ => rfl) (fun y2 => absurd y2 qw)
  · refine ⟨σ, ζ, ?_, h, hc⟩
    rw [F_X7_lack, hA.2 q]
    exact pre_NS h.1 hc hn hs (fun _ => rfl) (fun y => absurd y q)
theorem Z7_cases (h : KI b0 ξ σ) (hc : Ch scrC ξ ζ) (hn : R3 n) (hA : A_cases ξ n r) : ∃ σ' ζ', F_X7_cases b0 n (S b0 σ ζ) = some (r, S b0 σ' ζ') ∧ KI b0 ξ σ' ∧ Ch scrC ξ ζ' := by
  have hz := ZZ_le h.1.1
  by_cases q : okN ξ n
  · by_cases qw : WH ξ
    · obtain ⟨σ', ζ', r1, r2, r3, r4, r5⟩ := X5_go (st := 0) h hc q.1 (by have := q.2; omega) (by omega) (by omega)
      refine ⟨σ', ζ', ?_, r2, r3⟩
      rw [F_X7_cases]
      refine pre_N h.1 hc hn (fun y => absurd q y) (fun _ => ?_)
      refine pre_W h.1 hc (fun y => absurd qw y) (fun _ => ?_)
      refine ev rS_0_3 ?_
      refine evd (iS_16.trans r1) ?_
      refine ev rS_0_3 ?_
      refine evd (iS_16.trans (X5_all r2.1 r3 r4)) ?_
      rw [(hA.1 q).1 qw _ r4]
    · refine ⟨σ, ζ, ?_, h, hc⟩
      rw [F_X7_cases, (hA.1 q).2 qw]
      refine pre_N h.1 hc hn (fun y => absurd q y) (fun y => ?_)
      exact pre_W h.1 hc (fun _ => rfl) (fun y2 => absurd y2 qw)
  · refine ⟨σ, ζ, ?_, h, hc⟩
    rw [F_X7_cases, hA.2 q]
    exact pre_N h.1 hc hn (fun _ => rfl) (fun y => absurd y q)
theorem X7_isWithin {σ : Hp} (ha : R3 a) (hb : R3 b) : F_X7_isWithin a b σ = some (if 0 ≤ a ∧ a ≤ b then 1 else 0, σ) := by
  rw [F_X7_isWithin]
  refine ev_bLt ha.1 ha.2 (by omega) (by omega) (fun q => ?_) (fun q => ?_)
  · rw [if_neg (by omega)]; rfl
  · refine ev_bLe ha.1 ha.2 hb.1 hb.2 (fun q2 => ?_) (fun q2 => ?_)
    · rw [if_pos (by omega)]; rfl
    · rw [if_neg (by omega)]; rfl
/-- lake i's object stands at 3 + 2 i -/
theorem pre_L {K : Int → Hp → Option (Int × Hp)} {z : Option (Int × Hp)} (h : KB b0 ξ σ) (hc : Ch scrC ξ ζ) (hl : R3 l) (k1 : ¬ (0 ≤ l ∧ l ≤ ξ 23 1 - 1) → some (x, S b0 σ ζ) = z) (k3 : 0 ≤ l ∧ l ≤ ξ 23 1 - 1 → K (b0 + 3 + 2 * l) (S b0 σ ζ) = z) : ((rd 8 (S b0 σ ζ) b0 0).bind fun jv1 => bd (iv 5 (S b0 σ ζ) jv1 (F_X4_lakeAt jv1 l (S b0 σ ζ))) fun jv2 σ3 => bN jv2 (some (x, σ3)) (K jv2 σ3)) = z := by
  have hf := Cf_scrC hc
  have b00 := h.2.2.2.2.1.2.2.2.2
  have e := X4_lakeAt (b0 := b0) (σ := σ) (h.1.cf hf) (CV_ch hc h.2.2.1) hl
  rw [hf.2 1 (by omega)] at e
  refine ev rS_0_0 ?_
  refine evd (iS_1.trans e) ?_
  by_cases q : 0 ≤ l ∧ l < ξ 23 1
  · rw [if_pos q]
    exact ev_bN (fun x => by omega) (fun _ => k3 (by omega))
  · rw [if_neg q]
    exact ev_bN (fun _ => k1 (by omega)) (fun x => by omega)
theorem CV_gr (h : KB b0 ξ σ) (hc : Ch scrC ξ ζ) (l0 : 0 ≤ l) (l3 : l < 3) : rd 1 (S b0 σ ζ) (b0 + 3 + 2 * l) 2 = some (ξ 25 l) := by
  rw [rL_2 (CV_ch hc h.2.2.1) l0 l3, (Cf_scrC hc).1 25 (by omega)]
theorem Z7_flood (h : KI b0 ξ σ) (hc : Ch scrC ξ ζ) (hs : R3 s) (hl : R3 l) (hm : R3 mm) (hw : R3 w) (hA : A_flood ξ s l mm w r) : ∃ σ' ζ', F_X7_flood b0 s l mm w (S b0 σ ζ) = some (r, S b0 σ' ζ') ∧ KI b0 ξ σ' ∧ Ch scrC ξ ζ' := by
  have hf := Cf_scrC hc
  have hz := ZZ_le h.1.1
  have nl := h.1.1.1
  have w10 := h.1.2.1.1
  have n81 := h.1.2.1.2.2.1
  have hmd := h.1.made hc
  have eS := X4_hasState (b0 := b0) (σ := σ) (h.1.1.cf hf) (CV_ch hc h.1.2.2.1) hs
  rw [ZZ_cf hf] at eS
  have top : ∀ z, (¬ okF ξ s l mm w → some (-1, S b0 σ ζ) = z) → (okF ξ s l mm w → ¬ WH ξ → some (-3, S b0 σ ζ) = z) → (okF ξ s l mm w → WH ξ → (bd (iv 6 (S b0 σ ζ) (b0 + 16) (F_X5_go (b0 + 16) (ξ 10 0) s (S b0 σ ζ))) fun jv20 σ21 => (rd 8 σ21 b0 3).bind fun jv22 => bd (iv 6 σ21 jv22 (F_X5_casesOfFlood jv22 l mm w σ21)) fun jv23 σ24 => some (jv23, σ24)) = z) → F_X7_flood b0 s l mm w (S b0 σ ζ) = z := by
    intro z z1 z2 z3
    rw [F_X7_flood]
    refine pre_L h.1 hc hl (fun q => z1 (fun y => q y.1.2)) (fun q => ?_)
    refine ev rS_0_0 ?_
    refine evd (iS_1.trans eS) ?_
    refine ev_if (fun q2 => z1 (fun y => by have := y.1.1; omega)) (fun q2 => ?_)
    refine ev (CV_gr h.1 hc q.1 (by omega)) ?_
    have gb := h.1.1.gr q.1 (by omega)
    refine evd (X7_isWithin hm ⟨by omega, by omega⟩) ?_
    refine ev_if (fun q3 => z1 (fun y => by have := y.2.1; omega)) (fun q3 => ?_)
    refine ev rS_0_1 ?_
    refine ev rS_9_3 ?_
    rw [hmd.2.1]
    refine evd (X7_isWithin hw ⟨by omega, by omega⟩) ?_
    refine ev_if (fun q4 => z1 (fun y => by have := y.2.2; omega)) (fun q4 => ?_)
    have ok : okF ξ s l mm w := ⟨⟨by omega, q⟩, q3, by omega⟩
    refine pre_W h.1 hc (fun y => z2 ok y) (fun qw => ?_)
    refine ev rS_0_3 ?_
    refine ev rS_0_1 ?_
    refine evd (iS_9.trans (X3_nodeAt h.1 hc ⟨by omega, by omega⟩)) ?_
    rw [if_pos (by omega)]
    exact z3 ok qw
  by_cases q : okF ξ s l mm w
  · by_cases qw : WH ξ
    · obtain ⟨⟨q1, q2⟩, q3, q4⟩ := id q
      obtain ⟨σ', ζ', r1, r2, r3, r4, r5⟩ := X5_go (st := s) (fr := 0) h hc (by omega) (by omega) q1.1 (by omega)
      obtain ⟨T, t1, t2, t3⟩ := X5_flood r2.1 r3 q2.1 (by omega) hm q4.1 (by omega) q1.1 (by omega) r4
      refine ⟨σ', ζ', top _ (fun y => absurd q y) (fun _ y => absurd qw y) (fun _ _ => ?_), r2, r3⟩
      refine evd (iS_16.trans r1) ?_
      refine ev rS_0_3 ?_
      refine evd (iS_16.trans t3) ?_
      rw [(hA.1 q).1 qw T t1 t2]
    · exact ⟨σ, ζ, top _ (fun y => absurd q y) (fun _ _ => by rw [(hA.1 q).2 qw]) (fun _ y => absurd y qw), h, hc⟩
  · exact ⟨σ, ζ, top _ (fun _ => by rw [hA.2 q]) (fun y => absurd y q) (fun y => absurd y q), h, hc⟩
end N5
