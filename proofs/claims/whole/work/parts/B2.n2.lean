section N2
variable {b0 : Int} {σ τ : Hp} {ξ ζ η : Int → Int → Int} {a b c i k l m n v j w s L fr st : Int}
def fld (d : Int) : Int := if d = 43 then 11 else if d = 44 then 12 else if d = 45 then 13 else if d = 46 then 15 else 14
/-- the walk's table as the nodes bear it -/
def tab (σ : Hp) (ξ : Int → Int → Int) (d n : Int) : Int := gf σ (ξ 10 n) (fld d)
theorem hts_ern (hB : LB ξ) (hb : bx ξ s L) : ξ 30 w * hts ξ s L = ernS ξ w s L := by
  have key : ∀ i, 0 ≤ i → i < 3 → ξ 30 w * (hd ξ i (ms ξ s i) * dg L i) = ξ 30 w * ξ 28 (31 * i + ms ξ s i) * dg L i := by
    intro i a b
    have t := bx_t hB hb a b
    have m := ms_bd (s := s) hB a b
    by_cases e : i < ξ 23 1
    · rw [show hd ξ i (ms ξ s i) = ξ 28 (31 * i + ms ξ s i) from if_pos ⟨e, m.2⟩, Int.mul_assoc]
    · rw [t.2.2.2 (by omega), Int.mul_zero, Int.mul_zero, Int.mul_zero]
  unfold hts ernS ern
  rw [Int.mul_add, Int.mul_add, key 0 (by omega) (by omega), key 1 (by omega) (by omega), key 2 (by omega) (by omega)]
theorem bx_LZ (hB : LB ξ) (hb : bx ξ s L) : LZ ξ L := ⟨hb.1, fun i a b c => (bx_t hB hb a b).2.2.2 c⟩
theorem LZ_cf (h : Cf ξ ζ) (hL : LZ ξ L) : LZ ζ L := ⟨hL.1, fun i a b c => hL.2 i a b (by rw [h.2 1 (by omega)] at c; exact c)⟩
theorem hts_cf (h : Cf ξ ζ) : hts ζ = hts ξ := by
  funext s L
  unfold hts
  rw [hd_cf h, ms_cf h]
theorem KB.inA (h : KB b0 ξ σ) (n0 : 0 ≤ n) (n1 : n < ξ 23 11) : InA b0 σ (gf σ (ξ 10 n) 1) (fun l => ξ 34 (3 * n + l)) := by
  have hn := h.2.2.2.2.2.2.2 n n0 n1
  have ho := h.2.2.2.2.1.1 n (h.lv n0 n1)
  intro ζ
  refine ⟨al_o ho.2.1 (by omega), fun i a b => ?_⟩
  rw [ar_o ho.2.1 a b (by omega), hn.2.2.2.2.2.1 i a b]
/-- the class's flow to a node -/
theorem C_flow (h : KB b0 ξ σ) (hc : Ch scrC ξ ζ) (n0 : 0 ≤ n) (n1 : n < ξ 23 11) (s0 : 0 ≤ s) (s1 : s < 2147483648) (L0 : 0 ≤ L) (L1 : L < 4096) : F_X4_flow (b0 + 1) s L (gf σ (ξ 10 n) 1) (S b0 σ ζ) = some (flS ξ n s L, S b0 σ (xu ζ 1 3 (spS ξ n s L))) := by
  have hf := Cf_scrC hc
  have n81 := h.2.1.2.2.1
  have hI := h.2.1.2.2.2.2.2.2
  rw [X4_flow (h.1.cf hf) (CV_ch hc h.2.2.1) (h.inA n0 n1) (fun i a b => hI _ (by omega) (by omega)) L0 L1 s0 s1, gfl_cf hf, ms_cf hf]
  have e : gsp ζ = gsp ξ := by
    funext i0 i1 i2 m0 m1 m2 t0 t1 t2
    unfold gsp go2 gx2 go1 gx1 go0 gx0
    rw [hf.1 25 (by omega), hf.2 1 (by omega)]
  rw [e]
  unfold flS spS
  rw [flw_g, spl_g, show 3 * n + 0 = 3 * n by omega]
theorem tab_wr (h : KB b0 ξ σ) (hn : lv ξ n) (hm : lv ξ m) {d : Int} : tab (wr σ (ξ 10 n) k v) ξ d m = if m = n ∧ fld d = k then v else tab σ ξ d m := by
  unfold tab
  rw [gf_wr]
  by_cases e : m = n
  · subst e
    by_cases q : fld d = k
    · rw [if_pos ⟨rfl, q⟩, if_pos ⟨rfl, q⟩]
    · rw [if_neg (fun x => q x.2), if_neg (fun x => q x.2)]
  · rw [if_neg (fun x => (h.2.2.2.2.1.2.1 m n hm hn e).1 x.1), if_neg (fun x => e x.1)]
theorem X5_stepTo {p : Int} (h : KI b0 ξ σ) (hc : Ch scrC ξ ζ) (n0 : 1 ≤ n) (n1 : n < ξ 23 11) (hp : ξ 31 n = p) (s0 : 0 ≤ tab σ ξ 44 p) (s1 : tab σ ξ 44 p < ZZ ξ) (hl : tab σ ξ 46 p = 0 ∨ tab σ ξ 46 p = 1) : ∃ σ' ζ', F_X5_stepTo (b0 + 16) (ξ 10 n) (ξ 10 p) (S b0 σ ζ) = some (0, S b0 σ' ζ') ∧ KI b0 ξ σ' ∧ Ch scrC ξ ζ' ∧ (∀ m d, lv ξ m → m ≠ n → tab σ' ξ d m = tab σ ξ d m) ∧ tab σ' ξ 43 n = 1 ∧ tab σ' ξ 44 n = flS ξ n (tab σ ξ 44 p) (rls ξ (tab σ ξ 44 p)) ∧ tab σ' ξ 45 n = tab σ ξ 45 p + ernS ξ (ξ 33 n) (tab σ ξ 44 p) (rls ξ (tab σ ξ 44 p)) ∧ tab σ' ξ 99 n = tab σ ξ 99 p * ξ 32 n ∧ tab σ' ξ 46 n = (if tab σ ξ 46 p = 1 ∨ bel ξ (tab σ' ξ 44 n) = 1 then 1 else 0) := by
  have hK := h.1
  obtain ⟨hB, hT, hV, hR, hS, hN⟩ := id hK
  have n81 := hT.2.2.1
  have hz := ZZ_le hB
  have h6 := hT.2.2.2.2.2.1 n n0 n1
  rw [hp] at h6
  have lp : lv ξ p := hK.lv h6.1 (by omega)
  have ln' : lv ξ n := hK.lv (by omega) n1
  have op := hK.nd h6.1 (by omega)
  have on := hK.nd (n := n) (by omega) n1
  have hf := Cf_scrC hc
  have hNn := hN.2.2 n (by omega) n1
  have hne : ξ 10 p ≠ ξ 10 n := (hS.2.1 p n lp ln' (by omega)).1
  have d6 := hT.2.1
  generalize hsp : tab σ ξ 44 p = sp at *
  have gsp' : gf σ (ξ 10 p) 12 = sp := hsp
  have hbx := bx_rls (s := sp) hB
  have fb := flS_bd (c := n) hB hT (by omega) (by omega) hbx
  let σ1 := wr σ (ξ 10 n) 11 1
  have K1 : KI b0 ξ σ1 := KI_wr h on.1 (by omega)
  let σ2 := wr σ1 (ξ 10 n) 12 (flS ξ n sp (rls ξ sp))
  have K2 : KI b0 ξ σ2 := KI_wr K1 (kd_wr.trans on.1) (by omega)
  let ζ1 := xu ζ 1 3 (spS ξ n sp (rls ξ sp))
  have hc1 : Ch scrC ξ ζ1 := Ch_xu (Or.inl ⟨rfl, rfl⟩) hc
  have hf1 := Cf_scrC hc1
  let σ3 := wr σ2 (ξ 10 n) 13 (gf σ (ξ 10 p) 13 + ξ 30 (ξ 33 p + 1) * hts ξ sp (rls ξ sp))
  have K3 : KI b0 ξ σ3 := KI_wr K2 (kd_wr.trans (kd_wr.trans on.1)) (by omega)
  let σ4 := wr σ3 (ξ 10 n) 14 (gf σ (ξ 10 p) 14 * ξ 32 n)
  have K4 : KI b0 ξ σ4 := KI_wr K3 (kd_wr.trans (kd_wr.trans (kd_wr.trans on.1))) (by omega)
  have k4d : kd σ4 (ξ 10 n) = 2 := kd_wr.trans (kd_wr.trans (kd_wr.trans (kd_wr.trans on.1)))
  have gp : ∀ k, gf σ1 (ξ 10 p) k = gf σ (ξ 10 p) k ∧ gf σ2 (ξ 10 p) k = gf σ (ξ 10 p) k ∧ gf σ3 (ξ 10 p) k = gf σ (ξ 10 p) k ∧ gf σ4 (ξ 10 p) k = gf σ (ξ 10 p) k := by
    intro k
    have e1 : gf σ1 (ξ 10 p) k = gf σ (ξ 10 p) k := gf_wr_ne (Or.inl hne)
    have e2 : gf σ2 (ξ 10 p) k = gf σ1 (ξ 10 p) k := gf_wr_ne (Or.inl hne)
    have e3 : gf σ3 (ξ 10 p) k = gf σ2 (ξ 10 p) k := gf_wr_ne (Or.inl hne)
    have e4 : gf σ4 (ξ 10 p) k = gf σ3 (ξ 10 p) k := gf_wr_ne (Or.inl hne)
    exact ⟨e1, e2.trans e1, e3.trans (e2.trans e1), e4.trans (e3.trans (e2.trans e1))⟩
  have fin : ∀ u, (u = 0 ∨ u = 1) → (u = (if tab σ ξ 46 p = 1 ∨ bel ξ (flS ξ n sp (rls ξ sp)) = 1 then 1 else 0)) → KI b0 ξ (wr σ4 (ξ 10 n) 15 u) ∧ Ch scrC ξ ζ1 ∧ (∀ m d, lv ξ m → m ≠ n → tab (wr σ4 (ξ 10 n) 15 u) ξ d m = tab σ ξ d m) ∧ tab (wr σ4 (ξ 10 n) 15 u) ξ 43 n = 1 ∧ tab (wr σ4 (ξ 10 n) 15 u) ξ 44 n = flS ξ n sp (rls ξ sp) ∧ tab (wr σ4 (ξ 10 n) 15 u) ξ 45 n = tab σ ξ 45 p + ernS ξ (ξ 33 n) sp (rls ξ sp) ∧ tab (wr σ4 (ξ 10 n) 15 u) ξ 99 n = tab σ ξ 99 p * ξ 32 n ∧ tab (wr σ4 (ξ 10 n) 15 u) ξ 46 n = (if tab σ ξ 46 p = 1 ∨ bel ξ (tab (wr σ4 (ξ 10 n) 15 u) ξ 44 n) = 1 then 1 else 0) := by
    intro u hu he
    have g44 : tab (wr σ4 (ξ 10 n) 15 u) ξ 44 n = flS ξ n sp (rls ξ sp) := by
      show gf (wr σ4 (ξ 10 n) 15 u) (ξ 10 n) 12 = _
      rw [gf_wr_ne (Or.inr (by omega))]
      show gf (wr σ3 (ξ 10 n) 14 _) (ξ 10 n) 12 = _
      rw [gf_wr_ne (Or.inr (by omega))]
      show gf (wr σ2 (ξ 10 n) 13 _) (ξ 10 n) 12 = _
      rw [gf_wr_ne (Or.inr (by omega))]
      exact gf_wr_s
    refine ⟨KI_wr K4 k4d (by omega), hc1, fun m d hm hq => ?_, ?_, g44, ?_, ?_, ?_⟩
    · have hne' : ξ 10 m ≠ ξ 10 n := (hS.2.1 m n hm ln' hq).1
      show gf (wr σ4 (ξ 10 n) 15 u) (ξ 10 m) (fld d) = _
      rw [gf_wr_ne (Or.inl hne')]
      show gf (wr σ3 (ξ 10 n) 14 _) (ξ 10 m) (fld d) = _
      rw [gf_wr_ne (Or.inl hne')]
      show gf (wr σ2 (ξ 10 n) 13 _) (ξ 10 m) (fld d) = _
      rw [gf_wr_ne (Or.inl hne')]
      show gf (wr σ1 (ξ 10 n) 12 _) (ξ 10 m) (fld d) = _
      rw [gf_wr_ne (Or.inl hne')]
      exact gf_wr_ne (Or.inl hne')
    · show gf (wr σ4 (ξ 10 n) 15 u) (ξ 10 n) 11 = _
      rw [gf_wr_ne (Or.inr (by omega))]
      show gf (wr σ3 (ξ 10 n) 14 _) (ξ 10 n) 11 = _
      rw [gf_wr_ne (Or.inr (by omega))]
      show gf (wr σ2 (ξ 10 n) 13 _) (ξ 10 n) 11 = _
      rw [gf_wr_ne (Or.inr (by omega))]
      show gf (wr σ1 (ξ 10 n) 12 _) (ξ 10 n) 11 = _
      rw [gf_wr_ne (Or.inr (by omega))]
      exact gf_wr_s
    · show gf (wr σ4 (ξ 10 n) 15 u) (ξ 10 n) 13 = _
      rw [gf_wr_ne (Or.inr (by omega))]
      show gf (wr σ3 (ξ 10 n) 14 _) (ξ 10 n) 13 = _
      rw [gf_wr_ne (Or.inr (by omega))]
      refine gf_wr_s.trans ?_
      rw [hts_ern hB hbx, ← h6.2.2.1]
      rfl
    · show gf (wr σ4 (ξ 10 n) 15 u) (ξ 10 n) 14 = _
      rw [gf_wr_ne (Or.inr (by omega))]
      exact gf_wr_s
    · rw [g44, ← he]
      exact gf_wr_s
  have wp := hT.week (n := p) h6.1 (by omega)
  have hr := X4_ruleLets (b0 := b0) (σ := σ) (s := sp) (hB.cf hf) (CV_ch hc hV) s0 (by omega)
  rw [rls_cf hf] at hr
  have hfl := C_flow (s := sp) (L := rls ξ sp) K1.1 hc (by omega) n1 s0 (by omega) hbx.1.1 hbx.1.2
  have hpr := X3_priceFrom (n := p) K2.1 hc1 h6.1 (by omega) (by omega)
  have hht := X4_headsTimesLets (b0 := b0) (σ := σ2) (s := sp) (L := rls ξ sp) (hB.cf hf1) (CV_ch hc1 hV) s0 (by omega) (LZ_cf hf1 (bx_LZ hB hbx))
  rw [hts_cf hf1] at hht
  have hbl := X4_isBelowLeast (b0 := b0) (σ := σ4) (s := flS ξ n sp (rls ξ sp)) (hB.cf hf1) (CV_ch hc1 hV) fb.1 (by omega)
  rw [bel_cf hf1] at hbl
  have g46 : tab σ ξ 46 p = gf σ (ξ 10 p) 15 := rfl
  have top : ∀ z, (tab σ ξ 46 p = 1 ∨ bel ξ (flS ξ n sp (rls ξ sp)) = 1 → some (0, S b0 (wr σ4 (ξ 10 n) 15 1) ζ1) = z) → (¬ (tab σ ξ 46 p = 1 ∨ bel ξ (flS ξ n sp (rls ξ sp)) = 1) → some (0, S b0 (wr σ4 (ξ 10 n) 15 0) ζ1) = z) → F_X5_stepTo (b0 + 16) (ξ 10 n) (ξ 10 p) (S b0 σ ζ) = z := by
    intro z z1 z2
    rw [F_X5_stepTo]
    refine ev rS_16_0 ?_
    refine ev (rd_o op) ?_
    rw [gsp']
    refine evd (iS_1.trans hr) ?_
    refine ev (pz_o on (by omega)) ?_
    refine ev rS_16_0 ?_
    refine ev (rd_o (ob_wr op)) ?_
    rw [(gp 12).1, gsp']
    refine ev (rd_o (ob_wr on)) ?_
    refine evd (iS_1.trans hfl) ?_
    refine ev (pw_o (ob_wr on)) ?_
    refine ev (rd_o (ob_wr (ob_wr op))) ?_
    rw [(gp 13).2.1]
    refine ev rS_16_1 ?_
    refine evd (iS_9.trans hpr) ?_
    refine ev rS_16_0 ?_
    refine ev (rd_o (ob_wr (ob_wr op))) ?_
    rw [(gp 12).2.1, gsp']
    refine evd (iS_1.trans hht) ?_
    refine ev (pw_o (ob_wr (ob_wr on))) ?_
    refine ev (rd_o (ob_wr (ob_wr (ob_wr op)))) ?_
    rw [(gp 14).2.2.1]
    refine ev (rd_o (ob_wr (ob_wr (ob_wr on)))) ?_
    have e4 : gf σ3 (ξ 10 n) 4 = ξ 32 n := by
      show gf (wr σ2 (ξ 10 n) 13 _) (ξ 10 n) 4 = _
      rw [gf_wr_ne (Or.inr (by omega))]
      show gf (wr σ1 (ξ 10 n) 12 _) (ξ 10 n) 4 = _
      rw [gf_wr_ne (Or.inr (by omega))]
      show gf (wr σ (ξ 10 n) 11 _) (ξ 10 n) 4 = _
      rw [gf_wr_ne (Or.inr (by omega))]
      exact hNn.2.1 n0
    rw [e4]
    refine ev_g3 (by omega) (by omega) ?_
    refine ev (pw_o (ob_wr (ob_wr (ob_wr on)))) ?_
    refine ev (rd_o (ob_wr (ob_wr (ob_wr (ob_wr op))))) ?_
    rw [(gp 15).2.2.2]
    have o4 : ob b0 σ4 (ξ 10 n) 2 0 := ob_wr (ob_wr (ob_wr (ob_wr on)))
    have hb01 : bel ξ (flS ξ n sp (rls ξ sp)) = 0 ∨ bel ξ (flS ξ n sp (rls ξ sp)) = 1 := by unfold bel; split <;> omega
    rw [g46] at hl
    refine ev_bEq (by omega) (by omega) (by omega) (by omega) (fun q => ?_) (fun q => ?_)
    · refine ev rS_16_0 ?_
      refine ev (rd_o o4) ?_
      have e12 : gf σ4 (ξ 10 n) 12 = flS ξ n sp (rls ξ sp) := by
        show gf (wr σ3 (ξ 10 n) 14 _) (ξ 10 n) 12 = _
        rw [gf_wr_ne (Or.inr (by omega))]
        show gf (wr σ2 (ξ 10 n) 13 _) (ξ 10 n) 12 = _
        rw [gf_wr_ne (Or.inr (by omega))]
        exact gf_wr_s
      rw [e12]
      refine evd (iS_1.trans hbl) ?_
      refine ev_bEq (by omega) (by omega) (by omega) (by omega) (fun q2 => ?_) (fun q2 => ?_)
      · exact ev (pz_o o4 (by omega)) (z2 (by rw [g46]; omega))
      · exact ev (pz_o o4 (by omega)) (z1 (by rw [g46]; omega))
    · exact ev (pz_o o4 (by omega)) (z1 (by rw [g46]; omega))
  by_cases c : tab σ ξ 46 p = 1 ∨ bel ξ (flS ξ n sp (rls ξ sp)) = 1
  · exact ⟨wr σ4 (ξ 10 n) 15 1, ζ1, top _ (fun _ => rfl) (fun x => absurd c x), fin 1 (by omega) (if_pos c).symm⟩
  · exact ⟨wr σ4 (ξ 10 n) 15 0, ζ1, top _ (fun x => absurd x c) (fun _ => rfl), fin 0 (by omega) (if_neg c).symm⟩
end N2
