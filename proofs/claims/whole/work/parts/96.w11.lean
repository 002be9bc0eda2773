section W11
variable {b0 : Int} {σ : Hp} {ξ ζ η : Int → Int → Int} {i m s t L n l v : Int}
theorem X8_ruledLet_end {l : Int} {n : Nat} (hB : LB ξ) (l0 : l = ξ 23 1) : F_X8_ruledLet_L2 (b0 + 23) (n + 1) l (S b0 σ ξ) = some (0, S b0 σ ξ) := by
  have n0 := hB.1
  subst l0
  rw [F_X8_ruledLet_L2]
  refine ev rS_23_1 ?_
  exact ev_bLt (by omega) (by omega) (by omega) (by omega) (fun hc => absurd hc (by omega)) (fun hc => rfl)
theorem rlv_xu {k w : Int} : rlv (xu ξ 36 k w) i m = rlv ξ i m := by
  unfold rlv
  simp only [xu_nd (show (27 : Int) ≠ 36 by omega), xu_nd (show (26 : Int) ≠ 36 by omega), xu_nd (show (24 : Int) ≠ 36 by omega), xu_nd (show (41 : Int) ≠ 36 by omega), xu_nd (show (42 : Int) ≠ 36 by omega), xu_nd (show (23 : Int) ≠ 36 by omega)]
theorem X8_ruledLet (hB : LB ξ) (hm : MB ξ) (hz : TZ ξ) : F_X8_ruledLet (b0 + 23) (S b0 σ ξ) = some (0, S b0 σ (lts ξ (rlv ξ 0 (ξ 35 0)) (rlv ξ 1 (ξ 35 1)) (rlv ξ 2 (ξ 35 2)))) := by
  unfold F_X8_ruledLet
  have n0 := hB.1
  obtain ⟨k, hk⟩ := fu4
  rw [hk]
  have w0 := (rlv_bd (i := 0) (m := ξ 35 0) hB (by omega) (by omega) (hm.le hB (by omega) (by omega)).1).2.2.2
  have w1 := (rlv_bd (i := 1) (m := ξ 35 1) hB (by omega) (by omega) (hm.le hB (by omega) (by omega)).1).2.2.2
  have w2 := (rlv_bd (i := 2) (m := ξ 35 2) hB (by omega) (by omega) (hm.le hB (by omega) (by omega)).1).2.2.2
  have t0 := hz 0 (by omega) (by omega)
  have t1 := hz 1 (by omega) (by omega)
  have t2 := hz 2 (by omega) (by omega)
  have B : ∀ {k v : Int} {ξ : Int → Int → Int}, LB ξ → LB (xu ξ 36 k v) := fun h => h.congr (cfgL.xu (by omega))
  have N : ∀ {k v : Int} {ξ : Int → Int → Int}, xu ξ 36 k v 23 1 = ξ 23 1 := xu_nd (by omega)
  have Q : ∀ {k v l : Int} {ξ : Int → Int → Int}, xu ξ 36 k v 35 l = ξ 35 l := xu_nd (by omega)
  rcases (show ξ 23 1 = 0 ∨ ξ 23 1 = 1 ∨ ξ 23 1 = 2 ∨ ξ 23 1 = 3 by omega) with h | h | h | h
  · rw [X8_ruledLet_end hB (by omega)]
    refine ev_end rfl (lts_of (fun d k hd => rfl) ?_ ?_ ?_ (fun k a b c => rfl))
    · rw [w0 (by omega), t0 (by omega)]
    · rw [w1 (by omega), t1 (by omega)]
    · rw [w2 (by omega), t2 (by omega)]
  · rw [X8_ruledLet_step hB hm (by omega) (by omega), X8_ruledLet_end (B hB) (by rw [N]; omega)]
    refine ev_end rfl (lts_of (fun d k hd => xu_nd hd) xu_s ?_ ?_ (fun k a b c => xu_ni a))
    · rw [xu_ni (by omega), w1 (by omega), t1 (by omega)]
    · rw [xu_ni (by omega), w2 (by omega), t2 (by omega)]
  · rw [X8_ruledLet_step hB hm (by omega) (by omega), X8_ruledLet_step (B hB) hm.xu (by omega) (by rw [N]; omega), X8_ruledLet_end (B (B hB)) (by rw [N, N]; omega), rlv_xu]
    simp only [Int.zero_add, Q]
    refine ev_end rfl (lts_of (fun d k hd => by rw [xu_nd hd, xu_nd hd]) ?_ xu_s ?_ (fun k a b c => by rw [xu_ni b, xu_ni a]))
    · rw [xu_ni (by omega), xu_s]
    · rw [xu_ni (by omega), xu_ni (by omega), w2 (by omega), t2 (by omega)]
  · rw [X8_ruledLet_step hB hm (by omega) (by omega), X8_ruledLet_step (B hB) hm.xu (by omega) (by rw [N]; omega), X8_ruledLet_step (B (B hB)) hm.xu.xu (by omega) (by rw [N, N]; omega), X8_ruledLet_end (B (B (B hB))) (by rw [N, N, N]; omega), rlv_xu, rlv_xu, rlv_xu]
    simp only [Q]
    exact ev_end rfl rfl
theorem rlv_cf (h : Cf ξ ζ) : rlv ζ = rlv ξ := by
  funext i m
  unfold rlv
  rw [h.1 27 (by omega), h.1 26 (by omega), h.1 24 (by omega), h.1 41 (by omega), h.1 42 (by omega), h.2 1 (by omega)]
theorem rls_cf (h : Cf ξ ζ) : rls ζ = rls ξ := by
  funext s
  unfold rls
  rw [rlv_cf h, ms_cf h]
theorem bel_cf (h : Cf ξ ζ) : bel ζ = bel ξ := by
  funext s
  unfold bel
  rw [ms_cf h, h.1 24 (by omega)]
theorem bx_rls (hB : LB ξ) : bx ξ s (rls ξ s) := by
  obtain ⟨r, d0, d1, d2⟩ := rls_dg (s := s) hB
  have k : ∀ i, 0 ≤ i → i < 3 → lo ξ s i ≤ rlv ξ i (ms ξ s i) ∧ rlv ξ i (ms ξ s i) ≤ hi ξ s i := by
    intro i a b
    have := lohi (s := s) hB a b
    unfold lo hi at *
    unfold rlv
    omega
  refine ⟨r, ?_, ?_, ?_⟩
  · rw [d0]; exact k 0 (by omega) (by omega)
  · rw [d1]; exact k 1 (by omega) (by omega)
  · rw [d2]; exact k 2 (by omega) (by omega)
theorem At_ruled (hB : LB ξ) (h : At ξ ζ s L) (hz : TZ ζ) : F_X8_ruledLet (b0 + 23) (S b0 σ ζ) = some (0, S b0 σ (setL ζ (rls ξ s))) := by
  obtain ⟨r, d0, d1, d2⟩ := rls_dg (s := s) hB
  rw [X8_ruledLet (hB.cf h.1) (At_MB hB h) hz, (h.2 0 (by omega) (by omega)).1, (h.2 1 (by omega) (by omega)).1, (h.2 2 (by omega) (by omega)).1, rlv_cf h.1]
  unfold setL
  rw [d0, d1, d2]
/-- lets that stand in the row, as one number -/
def ltN (ζ : Int → Int → Int) : Int := 256 * ζ 36 0 + 16 * ζ 36 1 + ζ 36 2
def TN (ζ : Int → Int → Int) : Prop := ∀ l, 0 ≤ l → l < 3 → 0 ≤ ζ 36 l ∧ ζ 36 l ≤ 15
/-- unfold, then the rule: the model stands at the state with the rule's lets -/
theorem At_unf_ruled (hB : LB ξ) (h : Cf ξ ζ) (hM : MB ζ) (hZ : TZ ζ) : F_X8_ruledLet (b0 + 23) (S b0 σ (unf ζ s)) = some (0, S b0 σ (setL (unf ζ s) (rls ξ s))) ∧ At ξ (setL (unf ζ s) (rls ξ s)) s (rls ξ s) := by
  have hB' := hB.cf h
  have hM' : MB (unf ζ s) := hM.unf hB'
  have hc : Cf ξ (unf ζ s) := h.trans Cf.unf
  obtain ⟨r, d0, d1, d2⟩ := rls_dg (s := s) hB
  have e : ∀ l, 0 ≤ l → l < 3 → unf ζ s 35 l = ms ξ s l := fun l a b => by rw [unf_m hB' hM a b, ms_cf h]
  constructor
  · rw [X8_ruledLet (hB.cf hc) hM' (fun l a b hz => by rw [unf_d (by omega)]; rw [unf_d (by omega)] at hz; exact hZ l a b hz), e 0 (by omega) (by omega), e 1 (by omega) (by omega), e 2 (by omega) (by omega), rlv_cf hc]
    unfold setL
    rw [d0, d1, d2]
  · refine ⟨hc.trans Cf.lts, fun l a b => ⟨?_, ?_⟩⟩
    · unfold setL
      rw [lts_d (by omega), e l a b]
    · unfold setL
      rcases lake3 a b with rfl | rfl | rfl
      · exact lts_0
      · exact lts_1
      · exact lts_2
def scrM (d k : Int) : Prop := scr d k ∨ 43 ≤ d
theorem Cf_scrM (h : Ch scrM ξ ζ) : Cf ξ ζ := Cf_ch (fun d k q => by unfold scrM scr at q; omega) h
theorem MK_chM (h : MK ξ ζ) (hc : Ch scrM ζ η) (hM : MB η) (hZ : TZ η) : MK ξ η := by
  obtain ⟨hw, hk, hm⟩ := h
  have o : ∀ d k, (37 ≤ d ∧ d ≤ 40) ∨ (d = 23 ∧ k = 19) → η d k = ζ d k := fun d k q => hc d k (by unfold scrM scr; omega)
  refine ⟨⟨hw.1.trans (Cf_scrM hc), hM, hZ, fun j a b => by rw [o 37 j (by omega)]; exact hw.2.2.2.1 j a b, fun j a b => by rw [o 38 j (by omega)]; exact hw.2.2.2.2 j a b⟩, by rw [o 23 19 (by omega)]; exact hk, fun q n s a b c d h37 => ?_⟩
  rw [o 23 19 (by omega)] at q
  rw [o 37 _ (by omega)] at h37
  exact (hm q n s a b c d h37).congr (o 39 _ (by omega)) (o 40 _ (by omega))
end W11
