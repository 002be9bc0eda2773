section W2
variable {b0 : Int} {σ : Hp} {ξ ζ : Int → Int → Int} {i m s t L n : Int}
theorem dg_eq (h0 : 0 ≤ L) (h1 : L < 4096) : L = 256 * dg L 0 + 16 * dg L 1 + dg L 2 := by
  unfold dg
  simp
  omega
/-- the lets behind the given ones, in their order -/
def nxL (ξ : Int → Int → Int) (s L : Int) : Int := if dg L 2 ≠ hi ξ s 2 then L + 1 else if dg L 1 ≠ hi ξ s 1 then 256 * dg L 0 + 16 * (dg L 1 + 1) + lo ξ s 2 else 256 * (dg L 0 + 1) + 16 * lo ξ s 1 + lo ξ s 2
def isL (ξ : Int → Int → Int) (s L : Int) : Prop := dg L 0 = hi ξ s 0 ∧ dg L 1 = hi ξ s 1 ∧ dg L 2 = hi ξ s 2
def fsL (ξ : Int → Int → Int) (s : Int) : Int := 256 * lo ξ s 0 + 16 * lo ξ s 1 + lo ξ s 2
theorem bx_of (hB : LB ξ) {a b c : Int} (h0 : lo ξ s 0 ≤ a ∧ a ≤ hi ξ s 0) (h1 : lo ξ s 1 ≤ b ∧ b ≤ hi ξ s 1) (h2 : lo ξ s 2 ≤ c ∧ c ≤ hi ξ s 2) : bx ξ s (256 * a + 16 * b + c) ∧ dg (256 * a + 16 * b + c) 0 = a ∧ dg (256 * a + 16 * b + c) 1 = b ∧ dg (256 * a + 16 * b + c) 2 = c := by
  have l0 := lohi (s := s) (i := 0) hB (by omega) (by omega)
  have l1 := lohi (s := s) (i := 1) hB (by omega) (by omega)
  have l2 := lohi (s := s) (i := 2) hB (by omega) (by omega)
  have e := dg_of (a := a) (b := b) (c := c) (by omega) (by omega) (by omega) (by omega) (by omega) (by omega)
  refine ⟨⟨by omega, ?_, ?_, ?_⟩, e⟩
  · rw [e.1]; exact h0
  · rw [e.2.1]; exact h1
  · rw [e.2.2]; exact h2
theorem fsL_bx (hB : LB ξ) : bx ξ s (fsL ξ s) ∧ ∀ L', bx ξ s L' → fsL ξ s ≤ L' := by
  have l0 := lohi (s := s) (i := 0) hB (by omega) (by omega)
  have l1 := lohi (s := s) (i := 1) hB (by omega) (by omega)
  have l2 := lohi (s := s) (i := 2) hB (by omega) (by omega)
  refine ⟨(bx_of hB (by omega) (by omega) (by omega)).1, fun L' h => ?_⟩
  have e := dg_eq h.1.1 h.1.2
  have a := h.2
  unfold fsL
  omega
theorem nxL_bx (hB : LB ξ) (h : bx ξ s L) (hn : ¬ isL ξ s L) : bx ξ s (nxL ξ s L) ∧ L < nxL ξ s L ∧ ∀ L', bx ξ s L' → L < L' → nxL ξ s L ≤ L' := by
  have l0 := lohi (s := s) (i := 0) hB (by omega) (by omega)
  have l1 := lohi (s := s) (i := 1) hB (by omega) (by omega)
  have l2 := lohi (s := s) (i := 2) hB (by omega) (by omega)
  have e := dg_eq h.1.1 h.1.2
  have a := h.2
  unfold isL at hn
  unfold nxL
  by_cases c2 : dg L 2 = hi ξ s 2
  · rw [if_neg (by omega)]
    by_cases c1 : dg L 1 = hi ξ s 1
    · rw [if_neg (by omega)]
      refine ⟨(bx_of hB (by omega) (by omega) (by omega)).1, by omega, fun L' h' hl => ?_⟩
      have e' := dg_eq h'.1.1 h'.1.2
      have a' := h'.2
      have b0' := dg_bd (j := 0) h'.1.1 h'.1.2
      omega
    · rw [if_pos (by omega)]
      refine ⟨(bx_of hB (by omega) (by omega) (by omega)).1, by omega, fun L' h' hl => ?_⟩
      have e' := dg_eq h'.1.1 h'.1.2
      have a' := h'.2
      omega
  · rw [if_pos (by omega)]
    have q := (bx_of (s := s) (a := dg L 0) (b := dg L 1) (c := dg L 2 + 1) hB (by omega) (by omega) (by omega)).1
    rw [show 256 * dg L 0 + 16 * dg L 1 + (dg L 2 + 1) = L + 1 by omega] at q
    exact ⟨q, by omega, fun L' h' hl => by omega⟩
theorem isL_max (hB : LB ξ) (h : bx ξ s L) (hn : isL ξ s L) : ∀ L', bx ξ s L' → L' ≤ L := by
  intro L' h'
  have e := dg_eq h.1.1 h.1.2
  have e' := dg_eq h'.1.1 h'.1.2
  have a' := h'.2
  unfold isL at hn
  omega
/-- the model stands at a state with lets -/
def At (ξ ζ : Int → Int → Int) (s L : Int) : Prop := Cf ξ ζ ∧ (∀ l, 0 ≤ l → l < 3 → ζ 35 l = ms ξ s l ∧ ζ 36 l = dg L l)
theorem At_xu (h : At ξ ζ s L) {d k v : Int} (hd : (d = 23 ∧ (k = 18 ∨ k = 19 ∨ k = 32 ∨ k = 33)) ∨ (37 ≤ d ∧ d ≤ 40) ∨ 43 ≤ d ∨ d < 23) : At ξ (xu ζ d k v) s L :=
  ⟨h.1.trans (Cf.xu (by omega)), fun l a b => by rw [xu_nd (by omega), xu_nd (by omega)]; exact h.2 l a b⟩
theorem At_SC (hB : LB ξ) (h : At ξ ζ s L) (hb : bx ξ s L) : SC ζ := by
  intro l a b
  obtain ⟨e1, e2⟩ := h.2 l a b
  rw [e1, e2, h.1.1 25 (by omega), h.1.2 1 (by omega)]
  have q := ms_bd (s := s) hB a b
  have r := lohi (s := s) hB a b
  have g := hb.2
  refine ⟨?_, fun hz => ⟨ms_no hB a b hz, ?_⟩⟩
  · rcases lake3 a b with rfl | rfl | rfl <;> omega
  · have r5 := r.2.2.2.2 hz
    rcases lake3 a b with rfl | rfl | rfl <;> omega
theorem At_MB (hB : LB ξ) (h : At ξ ζ s L) : MB ζ := by
  intro l a b
  rw [(h.2 l a b).1, h.1.1 25 (by omega), h.1.2 1 (by omega)]
  exact ⟨ms_bd hB a b, fun hz => ms_no hB a b hz⟩
theorem At_lh (h : At ξ ζ s L) (a : 0 ≤ i) (b : i < 3) : lw ζ i = lo ξ s i ∧ hg ζ i = hi ξ s i := by
  unfold lw hg lo hi
  rw [(h.2 i a b).1, h.1.1 24 (by omega), h.1.1 26 (by omega), h.1.1 27 (by omega)]
  exact ⟨rfl, rfl⟩
/-- what is spilled on the way to a child -/
def spS (ξ : Int → Int → Int) (c s L : Int) : Int := spl ξ c (ms ξ s 0) (ms ξ s 1) (ms ξ s 2) (dg L 0) (dg L 1) (dg L 2)
theorem spl_cf (h : Cf ξ ζ) : spl ζ = spl ξ := by
  funext c m0 m1 m2 t0 t1 t2
  unfold spl fo2 fx2 fo1 fx1 fo0 fx0
  rw [h.1 25 (by omega), h.1 34 (by omega), h.2 1 (by omega)]
theorem At_comes {c : Int} (hB : LB ξ) (hT : TB ξ) (h : At ξ ζ s L) (hb : bx ξ s L) (c0 : 0 ≤ c) (c1 : c < 81) : F_X8_comes (b0 + 23) c (S b0 σ ζ) = some (flS ξ c s L, S b0 σ (xu ζ 23 18 (spS ξ c s L))) := by
  rw [X8_comes (hB.cf h.1) (hT.cf h.1).2.2.2.2.2.2 (At_SC hB h hb) c0 c1]
  obtain ⟨p0, q0⟩ := h.2 0 (by omega) (by omega)
  obtain ⟨p1, q1⟩ := h.2 1 (by omega) (by omega)
  obtain ⟨p2, q2⟩ := h.2 2 (by omega) (by omega)
  unfold flS spS
  rw [p0, p1, p2, q0, q1, q2, flw_cf h.1, spl_cf h.1]
theorem At_earns {w : Int} (hB : LB ξ) (h : At ξ ζ s L) (hb : bx ξ s L) (c0 : 0 ≤ w) (c1 : w < 10) : F_X8_earns (b0 + 23) w (S b0 σ ζ) = some (ernS ξ w s L, S b0 σ ζ) := by
  rw [X8_earns (hB.cf h.1) (At_SC hB h hb) c0 c1]
  obtain ⟨p0, q0⟩ := h.2 0 (by omega) (by omega)
  obtain ⟨p1, q1⟩ := h.2 1 (by omega) (by omega)
  obtain ⟨p2, q2⟩ := h.2 2 (by omega) (by omega)
  unfold ernS
  rw [p0, p1, p2, q0, q1, q2, ern_cf h.1]
theorem lts_self : lts ξ (ξ 36 0) (ξ 36 1) (ξ 36 2) = ξ := by
  funext d k
  by_cases e : d = 36
  · subst e
    by_cases e0 : k = 0
    · subst e0; rw [lts_0]
    · by_cases e1 : k = 1
      · subst e1; rw [lts_1]
      · by_cases e2 : k = 2
        · subst e2; rw [lts_2]
        · rw [lts_k e0 e1 e2]
  · rw [lts_d e]
/-- lets told as one number, set in the model -/
def setL (ζ : Int → Int → Int) (L : Int) : Int → Int → Int := lts ζ (dg L 0) (dg L 1) (dg L 2)
theorem At_setL {L' : Int} (h : At ξ ζ s L) : At ξ (setL ζ L') s L' := by
  refine ⟨h.1.trans Cf.lts, fun l a b => ⟨(lts_d (by omega)).trans (h.2 l a b).1, ?_⟩⟩
  unfold setL
  rcases lake3 a b with rfl | rfl | rfl
  · exact lts_0
  · exact lts_1
  · exact lts_2
theorem At_next (hB : LB ξ) (h : At ξ ζ s L) (hb : bx ξ s L) : (isL ξ s L ∧ F_X8_nextLets (b0 + 23) (S b0 σ ζ) = some (0, S b0 σ (setL ζ (fsL ξ s)))) ∨ (¬ isL ξ s L ∧ F_X8_nextLets (b0 + 23) (S b0 σ ζ) = some (1, S b0 σ (setL ζ (nxL ξ s L)))) := by
  have q0 := (h.2 0 (by omega) (by omega)).2
  have q1 := (h.2 1 (by omega) (by omega)).2
  have q2 := (h.2 2 (by omega) (by omega)).2
  have r0 := At_lh (i := 0) h (by omega) (by omega)
  have r1 := At_lh (i := 1) h (by omega) (by omega)
  have r2 := At_lh (i := 2) h (by omega) (by omega)
  have l0 := lohi (s := s) (i := 0) hB (by omega) (by omega)
  have l1 := lohi (s := s) (i := 1) hB (by omega) (by omega)
  have l2 := lohi (s := s) (i := 2) hB (by omega) (by omega)
  have g := hb.2
  have e := dg_eq hb.1.1 hb.1.2
  have key := X8_nextLets (b0 := b0) (σ := σ) (ξ := ζ) (t0 := ζ 36 0) (t1 := ζ 36 1) (t2 := ζ 36 2) (hB.cf h.1) (At_MB hB h) (by omega) (by omega) (by omega)
  rw [lts_self] at key
  unfold nx at key
  rw [r0.1, r0.2, r1.1, r1.2, r2.1, r2.2, q0, q1, q2] at key
  have cc : ∀ a b c : Int, lo ξ s 0 ≤ a ∧ a ≤ hi ξ s 0 → lo ξ s 1 ≤ b ∧ b ≤ hi ξ s 1 → lo ξ s 2 ≤ c ∧ c ≤ hi ξ s 2 → lts ζ a b c = setL ζ (256 * a + 16 * b + c) := by
    intro a b c h1 h2 h3
    have d := (bx_of (s := s) hB h1 h2 h3).2
    unfold setL
    rw [d.1, d.2.1, d.2.2]
  unfold isL nxL
  by_cases c2 : dg L 2 = hi ξ s 2
  · rw [if_neg (by omega)] at key ⊢
    by_cases c1 : dg L 1 = hi ξ s 1
    · rw [if_neg (by omega)] at key ⊢
      by_cases c0 : dg L 0 = hi ξ s 0
      · rw [if_neg (by omega)] at key
        exact Or.inl ⟨⟨c0, c1, c2⟩, by (dsimp only at key); rw [key, cc _ _ _ (by omega) (by omega) (by omega)]; rfl⟩
      · rw [if_pos (by omega)] at key
        exact Or.inr ⟨fun q => c0 q.1, by (dsimp only at key); rw [key, cc _ _ _ (by omega) (by omega) (by omega)]⟩
    · rw [if_pos (by omega)] at key ⊢
      exact Or.inr ⟨fun q => c1 q.2.1, by (dsimp only at key); rw [key, cc _ _ _ (by omega) (by omega) (by omega)]⟩
  · rw [if_pos (by omega)] at key ⊢
    exact Or.inr ⟨fun q => c2 q.2.2, by (dsimp only at key); rw [key, cc _ _ _ (by omega) (by omega) (by omega), show 256 * dg L 0 + 16 * dg L 1 + (dg L 2 + 1) = L + 1 by omega]⟩
end W2
