section M4
variable {b0 : Int} {σ : Hp} {ξ ζ : Int → Int → Int}
/-- the least and the most let of a lake, by the measures' row -/
def lw (ξ : Int → Int → Int) (l : Int) : Int := min (ξ 27 l) (ξ 35 l)
def hg (ξ : Int → Int → Int) (l : Int) : Int := max (min (ξ 27 l) (ξ 35 l)) (min (ξ 26 l) (ξ 35 l - ξ 24 l))
/-- measures in their bounds -/
def MB (ξ : Int → Int → Int) : Prop := ∀ l, 0 ≤ l → l < 3 → (0 ≤ ξ 35 l ∧ ξ 35 l ≤ ξ 25 l) ∧ (ξ 23 1 ≤ l → ξ 35 l = 0)
theorem MB.le (hB : LB ξ) (hm : MB ξ) {l : Int} (h0 : 0 ≤ l) (h3 : l < 3) : 0 ≤ ξ 35 l ∧ ξ 35 l ≤ 30 := by
  have a := (hm l h0 h3).1
  have b := hB.gr h0 h3
  exact ⟨by omega, by omega⟩
theorem MB.xu {k v : Int} (hm : MB ξ) : MB (xu ξ 36 k v) := by
  intro l a b
  rw [xu_nd (by omega), xu_nd (by omega), xu_nd (by omega)]
  exact hm l a b
theorem lw_b (hB : LB ξ) (hm : MB ξ) {l : Int} (h0 : 0 ≤ l) (h3 : l < 3) : 0 ≤ lw ξ l ∧ lw ξ l ≤ hg ξ l ∧ hg ξ l ≤ 10 ∧ lw ξ l ≤ 5 ∧ hg ξ l ≤ ξ 35 l := by
  have a := (hB.2.1 l h0 h3).1
  have b := hm.le hB h0 h3
  unfold lw hg
  omega
theorem lw_no (hB : LB ξ) (hm : MB ξ) {l : Int} (h0 : 0 ≤ l) (h3 : l < 3) (h : ξ 23 1 ≤ l) : lw ξ l = 0 ∧ hg ξ l = 0 := by
  have a := (hB.2.1 l h0 h3).2 h
  have b := (hm l h0 h3).2 h
  unfold lw hg
  omega
/-- the lets' row set to three numbers -/
def lts (ξ : Int → Int → Int) (t0 t1 t2 : Int) : Int → Int → Int := xu (xu (xu ξ 36 0 t0) 36 1 t1) 36 2 t2
theorem lts_0 {t0 t1 t2 : Int} : lts ξ t0 t1 t2 36 0 = t0 := by unfold lts; rw [xu_ni (by omega), xu_ni (by omega), xu_s]
theorem lts_1 {t0 t1 t2 : Int} : lts ξ t0 t1 t2 36 1 = t1 := by unfold lts; rw [xu_ni (by omega), xu_s]
theorem lts_2 {t0 t1 t2 : Int} : lts ξ t0 t1 t2 36 2 = t2 := by unfold lts; rw [xu_s]
theorem lts_d {t0 t1 t2 d k : Int} (h : d ≠ 36) : lts ξ t0 t1 t2 d k = ξ d k := by unfold lts; rw [xu_nd h, xu_nd h, xu_nd h]
theorem lts_k {t0 t1 t2 k : Int} (h0 : k ≠ 0) (h1 : k ≠ 1) (h2 : k ≠ 2) : lts ξ t0 t1 t2 36 k = ξ 36 k := by unfold lts; rw [xu_ni h2, xu_ni h1, xu_ni h0]
theorem lts_of {t0 t1 t2 : Int} (hd : ∀ d k, d ≠ 36 → ζ d k = ξ d k) (h0 : ζ 36 0 = t0) (h1 : ζ 36 1 = t1) (h2 : ζ 36 2 = t2) (hk : ∀ k, k ≠ 0 → k ≠ 1 → k ≠ 2 → ζ 36 k = ξ 36 k) : S b0 σ ζ = S b0 σ (lts ξ t0 t1 t2) := by
  refine S_congr (fun d k => ?_)
  by_cases e : d = 36
  · subst e
    by_cases e0 : k = 0
    · subst e0; rw [lts_0, h0]
    · by_cases e1 : k = 1
      · subst e1; rw [lts_1, h1]
      · by_cases e2 : k = 2
        · subst e2; rw [lts_2, h2]
        · rw [lts_k e0 e1 e2, hk k e0 e1 e2]
  · rw [lts_d e, hd d k e]
theorem X8_firstLets_step {l : Int} {n : Nat} (hB : LB ξ) (hm : MB ξ) (l0 : 0 ≤ l) (l1 : l < ξ 23 1) : F_X8_firstLets_L2 (b0 + 23) (n + 1) l (S b0 σ ξ) = F_X8_firstLets_L2 (b0 + 23) n (l + 1) (S b0 σ (xu ξ 36 l (lw ξ l))) := by
  have n0 := hB.1
  have hlow := X8_lowest (b0 := b0) (σ := σ) hB l0 (by omega) (hm.le hB l0 (by omega))
  rw [F_X8_firstLets_L2]
  refine ev rS_23_1 ?_
  refine ev_bLt (by omega) (by omega) (by omega) (by omega) (fun hc => ?_) (fun hc => ?_)
  · first
    | exact absurd hc (by omega)
    | (
        refine ev rS_23_17 ?_
        refine evd (iS_23.trans (hlow)) ?_
        refine ev (wS_36 (by omega) (by omega)) ?_
        rfl)
  · first
    | exact absurd hc (by omega)
    | (
        rfl)
theorem X8_firstLets_end {l : Int} {n : Nat} (hB : LB ξ) (l0 : l = ξ 23 1) : F_X8_firstLets_L2 (b0 + 23) (n + 1) l (S b0 σ ξ) = some (0, S b0 σ ξ) := by
  have n0 := hB.1
  subst l0
  rw [F_X8_firstLets_L2]
  refine ev rS_23_1 ?_
  exact ev_bLt (by omega) (by omega) (by omega) (by omega) (fun hc => absurd hc (by omega)) (fun hc => rfl)
theorem lw_xu {l k v : Int} : lw (xu ξ 36 k v) l = lw ξ l := by unfold lw; rw [xu_nd (by omega), xu_nd (by omega)]
theorem hg_xu {l k v : Int} : hg (xu ξ 36 k v) l = hg ξ l := by unfold hg; rw [xu_nd (by omega), xu_nd (by omega), xu_nd (by omega), xu_nd (by omega)]
/-- lets of lakes that are not: none -/
def TZ (ξ : Int → Int → Int) : Prop := ∀ l, 0 ≤ l → l < 3 → ξ 23 1 ≤ l → ξ 36 l = 0
theorem X8_firstLets (hB : LB ξ) (hm : MB ξ) (hz : TZ ξ) : F_X8_firstLets (b0 + 23) (S b0 σ ξ) = some (0, S b0 σ (lts ξ (lw ξ 0) (lw ξ 1) (lw ξ 2))) := by
  unfold F_X8_firstLets
  have n0 := hB.1
  obtain ⟨k, hk⟩ := fu4
  rw [hk]
  have w0 := lw_no hB hm (l := 0) (by omega) (by omega)
  have w1 := lw_no hB hm (l := 1) (by omega) (by omega)
  have w2 := lw_no hB hm (l := 2) (by omega) (by omega)
  have t0 := hz 0 (by omega) (by omega)
  have t1 := hz 1 (by omega) (by omega)
  have t2 := hz 2 (by omega) (by omega)
  have B : ∀ {k v : Int} {ξ : Int → Int → Int}, LB ξ → LB (xu ξ 36 k v) := fun h => h.congr (cfgL.xu (by omega))
  have N : ∀ {k v : Int} {ξ : Int → Int → Int}, xu ξ 36 k v 23 1 = ξ 23 1 := xu_nd (by omega)
  rcases (show ξ 23 1 = 0 ∨ ξ 23 1 = 1 ∨ ξ 23 1 = 2 ∨ ξ 23 1 = 3 by omega) with h | h | h | h
  · rw [X8_firstLets_end hB (by omega)]
    refine ev_end rfl (lts_of (fun d k hd => rfl) ?_ ?_ ?_ (fun k a b c => rfl))
    · rw [(w0 (by omega)).1, t0 (by omega)]
    · rw [(w1 (by omega)).1, t1 (by omega)]
    · rw [(w2 (by omega)).1, t2 (by omega)]
  · rw [X8_firstLets_step hB hm (by omega) (by omega), X8_firstLets_end (B hB) (by rw [N]; omega)]
    refine ev_end rfl (lts_of (fun d k hd => xu_nd hd) xu_s ?_ ?_ (fun k a b c => xu_ni a))
    · rw [xu_ni (by omega), (w1 (by omega)).1, t1 (by omega)]
    · rw [xu_ni (by omega), (w2 (by omega)).1, t2 (by omega)]
  · rw [X8_firstLets_step hB hm (by omega) (by omega), X8_firstLets_step (B hB) hm.xu (by omega) (by rw [N]; omega), X8_firstLets_end (B (B hB)) (by rw [N, N]; omega), lw_xu]
    simp only [Int.zero_add]
    refine ev_end rfl (lts_of (fun d k hd => by rw [xu_nd hd, xu_nd hd]) ?_ xu_s ?_ (fun k a b c => by rw [xu_ni b, xu_ni a]))
    · rw [xu_ni (by omega), xu_s]
    · rw [xu_ni (by omega), xu_ni (by omega), (w2 (by omega)).1, t2 (by omega)]
  · rw [X8_firstLets_step hB hm (by omega) (by omega), X8_firstLets_step (B hB) hm.xu (by omega) (by rw [N]; omega), X8_firstLets_step (B (B hB)) hm.xu.xu (by omega) (by rw [N, N]; omega), X8_firstLets_end (B (B (B hB))) (by rw [N, N, N]; omega), lw_xu, lw_xu, lw_xu]
    exact ev_end rfl rfl
theorem X8_nextLets_step {l : Int} {n : Nat} (hB : LB ξ) (hm : MB ξ) (l0 : 0 ≤ l) (l1 : l < 3) (ht : 0 ≤ ξ 36 l ∧ ξ 36 l ≤ 15) : F_X8_nextLets_L7 (b0 + 23) (n + 1) l (S b0 σ ξ) = if ξ 36 l = hg ξ l then F_X8_nextLets_L7 (b0 + 23) n (l + (-1)) (S b0 σ (xu ξ 36 l (lw ξ l))) else some (1, S b0 σ (xu ξ 36 l (ξ 36 l + 1))) := by
  have hlow := X8_lowest (b0 := b0) (σ := σ) hB l0 l1 (hm.le hB l0 l1)
  have hhigh := X8_highest (b0 := b0) (σ := σ) hB l0 l1 (hm.le hB l0 l1)
  have hb := lw_b hB hm l0 l1
  have e1 : max (min (ξ 27 l) (ξ 35 l)) (min (ξ 26 l) (ξ 35 l - ξ 24 l)) = hg ξ l := rfl
  have e2 : min (ξ 27 l) (ξ 35 l) = lw ξ l := rfl
  rw [e1] at hhigh
  rw [e2] at hlow
  clear e1 e2
  rw [F_X8_nextLets_L7]
  by_cases h : ξ 36 l = hg ξ l
  · rw [if_pos h]
    refine ev_bLt (by omega) (by omega) (by omega) (by omega) (fun hc => ?_) (fun hc => ?_)
    · first
      | exact absurd hc (by omega)
      | (
          rw [F_X8_nextLets_B42]
          refine ev_bLt (by omega) (by omega) (by omega) (by omega) (fun hc => ?_) (fun hc => ?_)
          · first
            | exact absurd hc (by omega)
            | (
                rfl)
          · first
            | exact absurd hc (by omega)
            | (
                refine ev rS_23_17 ?_
                refine ev (aS_36 (by omega) (by omega)) ?_
                refine ev (wS_36 (by omega) (by omega)) ?_
                rfl))
    · first
      | exact absurd hc (by omega)
      | (
          refine ev rS_23_17 ?_
          refine ev (aS_36 (by omega) (by omega)) ?_
          refine evd (iS_23.trans (hhigh)) ?_
          refine ev_bEq (by omega) (by omega) (by omega) (by omega) (fun hc => ?_) (fun hc => ?_)
          · first
            | exact absurd hc (by omega)
            | (
                refine ev rS_23_17 ?_
                refine evd (iS_23.trans (hlow)) ?_
                refine ev (wS_36 (by omega) (by omega)) ?_
                rfl)
          · first
            | exact absurd hc (by omega)
            | (
                rw [F_X8_nextLets_B42]
                refine ev_bLt (by omega) (by omega) (by omega) (by omega) (fun hc => ?_) (fun hc => ?_)
                · first
                  | exact absurd hc (by omega)
                  | (
                      rfl)
                · first
                  | exact absurd hc (by omega)
                  | (
                      refine ev rS_23_17 ?_
                      refine ev (aS_36 (by omega) (by omega)) ?_
                      refine ev (wS_36 (by omega) (by omega)) ?_
                      rfl)))
  · rw [if_neg h]
    refine ev_bLt (by omega) (by omega) (by omega) (by omega) (fun hc => ?_) (fun hc => ?_)
    · first
      | exact absurd hc (by omega)
      | (
          rw [F_X8_nextLets_B42]
          refine ev_bLt (by omega) (by omega) (by omega) (by omega) (fun hc => ?_) (fun hc => ?_)
          · first
            | exact absurd hc (by omega)
            | (
                exact rz_1)
          · first
            | exact absurd hc (by omega)
            | (
                refine ev rS_23_17 ?_
                refine ev (aS_36 (by omega) (by omega)) ?_
                refine ev (wS_36 (by omega) (by omega)) ?_
                exact rz_1))
    · first
      | exact absurd hc (by omega)
      | (
          refine ev rS_23_17 ?_
          refine ev (aS_36 (by omega) (by omega)) ?_
          refine evd (iS_23.trans (hhigh)) ?_
          refine ev_bEq (by omega) (by omega) (by omega) (by omega) (fun hc => ?_) (fun hc => ?_)
          · first
            | exact absurd hc (by omega)
            | (
                refine ev rS_23_17 ?_
                refine evd (iS_23.trans (hlow)) ?_
                refine ev (wS_36 (by omega) (by omega)) ?_
                rfl)
          · first
            | exact absurd hc (by omega)
            | (
                rw [F_X8_nextLets_B42]
                refine ev_bLt (by omega) (by omega) (by omega) (by omega) (fun hc => ?_) (fun hc => ?_)
                · first
                  | exact absurd hc (by omega)
                  | (
                      exact rz_1)
                · first
                  | exact absurd hc (by omega)
                  | (
                      refine ev rS_23_17 ?_
                      refine ev (aS_36 (by omega) (by omega)) ?_
                      refine ev (wS_36 (by omega) (by omega)) ?_
                      exact rz_1)))
theorem X8_nextLets_end {n : Nat} : F_X8_nextLets_L7 (b0 + 23) (n + 1) (-1) (S b0 σ ξ) = some (0, S b0 σ ξ) := by
  rw [F_X8_nextLets_L7]
  refine ev_bLt (by omega) (by omega) (by omega) (by omega) (fun hc => ?_) (fun hc => absurd hc (by omega))
  rw [F_X8_nextLets_B42]
  exact ev_bLt (by omega) (by omega) (by omega) (by omega) (fun hc => rz_0) (fun hc => absurd hc (by omega))
/-- the next lets: of which digit one more is let; the ones behind it begin anew -/
def nx (ξ : Int → Int → Int) (t0 t1 t2 : Int) : Int × Int × Int × Int := if t2 ≠ hg ξ 2 then (1, t0, t1, t2 + 1) else if t1 ≠ hg ξ 1 then (1, t0, t1 + 1, lw ξ 2) else if t0 ≠ hg ξ 0 then (1, t0 + 1, lw ξ 1, lw ξ 2) else (0, lw ξ 0, lw ξ 1, lw ξ 2)
theorem lts_x2 {a b c v : Int} : xu (lts ξ a b c) 36 2 v = lts ξ a b v := xu_xu
theorem lts_x1 {a b c v : Int} : xu (lts ξ a b c) 36 1 v = lts ξ a v c := by
  funext d k
  unfold lts xu
  by_cases h : d = 36
  · subst h
    by_cases h1 : k = 1
    · subst h1; simp
    · by_cases h2 : k = 2
      · subst h2; simp
      · simp [h1, h2]
  · simp [h]
theorem lts_x0 {a b c v : Int} : xu (lts ξ a b c) 36 0 v = lts ξ v b c := by
  funext d k
  unfold lts xu
  by_cases h : d = 36
  · subst h
    by_cases h0 : k = 0
    · subst h0; simp
    · by_cases h1 : k = 1
      · subst h1; simp
      · by_cases h2 : k = 2
        · subst h2; simp
        · simp [h0, h1, h2]
  · simp [h]
theorem lw_lts {a b c l : Int} : lw (lts ξ a b c) l = lw ξ l := by unfold lw; rw [lts_d (by omega), lts_d (by omega)]
theorem hg_lts {a b c l : Int} : hg (lts ξ a b c) l = hg ξ l := by unfold hg; rw [lts_d (by omega), lts_d (by omega), lts_d (by omega), lts_d (by omega)]
theorem LB.lts {a b c : Int} (hB : LB ξ) : LB (lts ξ a b c) := hB.congr ⟨lts_d (by omega), fun d hd k => lts_d (by omega)⟩
theorem MB.lts {a b c : Int} (hm : MB ξ) : MB (lts ξ a b c) := by
  intro l h0 h3
  rw [lts_d (by omega), lts_d (by omega), lts_d (by omega)]
  exact hm l h0 h3
theorem next2 {a b c : Int} {n : Nat} (hB : LB ξ) (hm : MB ξ) (h : lw ξ 2 ≤ c ∧ c ≤ hg ξ 2) : F_X8_nextLets_L7 (b0 + 23) (n + 1) 2 (S b0 σ (lts ξ a b c)) = if c = hg ξ 2 then F_X8_nextLets_L7 (b0 + 23) n 1 (S b0 σ (lts ξ a b (lw ξ 2))) else some (1, S b0 σ (lts ξ a b (c + 1))) := by
  have hb := lw_b hB hm (l := 2) (by omega) (by omega)
  have q := X8_nextLets_step (b0 := b0) (σ := σ) (n := n) (ξ := lts ξ a b c) (l := 2) hB.lts hm.lts (by omega) (by omega) (by rw [lts_2]; omega)
  rw [lts_2, hg_lts, lw_lts, lts_x2, lts_x2] at q
  exact q
theorem next1 {a b c : Int} {n : Nat} (hB : LB ξ) (hm : MB ξ) (h : lw ξ 1 ≤ b ∧ b ≤ hg ξ 1) : F_X8_nextLets_L7 (b0 + 23) (n + 1) 1 (S b0 σ (lts ξ a b c)) = if b = hg ξ 1 then F_X8_nextLets_L7 (b0 + 23) n 0 (S b0 σ (lts ξ a (lw ξ 1) c)) else some (1, S b0 σ (lts ξ a (b + 1) c)) := by
  have hb := lw_b hB hm (l := 1) (by omega) (by omega)
  have q := X8_nextLets_step (b0 := b0) (σ := σ) (n := n) (ξ := lts ξ a b c) (l := 1) hB.lts hm.lts (by omega) (by omega) (by rw [lts_1]; omega)
  rw [lts_1, hg_lts, lw_lts, lts_x1, lts_x1] at q
  exact q
theorem next0 {a b c : Int} {n : Nat} (hB : LB ξ) (hm : MB ξ) (h : lw ξ 0 ≤ a ∧ a ≤ hg ξ 0) : F_X8_nextLets_L7 (b0 + 23) (n + 1) 0 (S b0 σ (lts ξ a b c)) = if a = hg ξ 0 then F_X8_nextLets_L7 (b0 + 23) n (-1) (S b0 σ (lts ξ (lw ξ 0) b c)) else some (1, S b0 σ (lts ξ (a + 1) b c)) := by
  have hb := lw_b hB hm (l := 0) (by omega) (by omega)
  have q := X8_nextLets_step (b0 := b0) (σ := σ) (n := n) (ξ := lts ξ a b c) (l := 0) hB.lts hm.lts (by omega) (by omega) (by rw [lts_0]; omega)
  rw [lts_0, hg_lts, lw_lts, lts_x0, lts_x0] at q
  exact q
theorem X8_nextLets {t0 t1 t2 : Int} (hB : LB ξ) (hm : MB ξ) (h0 : lw ξ 0 ≤ t0 ∧ t0 ≤ hg ξ 0) (h1 : lw ξ 1 ≤ t1 ∧ t1 ≤ hg ξ 1) (h2 : lw ξ 2 ≤ t2 ∧ t2 ≤ hg ξ 2) : F_X8_nextLets (b0 + 23) (S b0 σ (lts ξ t0 t1 t2)) = some ((nx ξ t0 t1 t2).1, S b0 σ (lts ξ (nx ξ t0 t1 t2).2.1 (nx ξ t0 t1 t2).2.2.1 (nx ξ t0 t1 t2).2.2.2)) := by
  unfold F_X8_nextLets nx
  have n0 := hB.1
  obtain ⟨k, hk⟩ := fu4
  rw [hk]
  have w0 := lw_no hB hm (l := 0) (by omega) (by omega)
  have w1 := lw_no hB hm (l := 1) (by omega) (by omega)
  have w2 := lw_no hB hm (l := 2) (by omega) (by omega)
  refine ev rS_23_1 ?_
  rw [lts_d (by omega)]
  by_cases a2 : t2 = hg ξ 2
  · rw [if_neg (by omega)]
    by_cases a1 : t1 = hg ξ 1
    · rw [if_neg (by omega)]
      by_cases a0 : t0 = hg ξ 0
      · rw [if_neg (by omega)]
        rcases (show ξ 23 1 = 0 ∨ ξ 23 1 = 1 ∨ ξ 23 1 = 2 ∨ ξ 23 1 = 3 by omega) with h | h | h | h
        · rw [h, show t0 = lw ξ 0 by omega, show t1 = lw ξ 1 by omega, show t2 = lw ξ 2 by omega]
          exact X8_nextLets_end
        · rw [h, show t1 = lw ξ 1 by omega, show t2 = lw ξ 2 by omega]
          rw [show (1 : Int) - 1 = 0 from rfl, next0 hB hm h0, if_pos a0, X8_nextLets_end]
        · rw [h, show t2 = lw ξ 2 by omega]
          rw [show (2 : Int) - 1 = 1 from rfl, next1 hB hm h1, if_pos a1, next0 hB hm h0, if_pos a0, X8_nextLets_end]
        · rw [h]
          rw [show (3 : Int) - 1 = 2 from rfl, next2 hB hm h2, if_pos a2, next1 hB hm h1, if_pos a1, next0 hB hm h0, if_pos a0, X8_nextLets_end]
      · rw [if_pos (by omega)]
        rcases (show ξ 23 1 = 1 ∨ ξ 23 1 = 2 ∨ ξ 23 1 = 3 by omega) with h | h | h
        · rw [h, show t1 = lw ξ 1 by omega, show t2 = lw ξ 2 by omega]
          rw [show (1 : Int) - 1 = 0 from rfl, next0 hB hm h0, if_neg a0]
        · rw [h, show t2 = lw ξ 2 by omega]
          rw [show (2 : Int) - 1 = 1 from rfl, next1 hB hm h1, if_pos a1, next0 hB hm h0, if_neg a0]
        · rw [h]
          rw [show (3 : Int) - 1 = 2 from rfl, next2 hB hm h2, if_pos a2, next1 hB hm h1, if_pos a1, next0 hB hm h0, if_neg a0]
    · rw [if_pos (by omega)]
      rcases (show ξ 23 1 = 2 ∨ ξ 23 1 = 3 by omega) with h | h
      · rw [h, show t2 = lw ξ 2 by omega]
        rw [show (2 : Int) - 1 = 1 from rfl, next1 hB hm h1, if_neg a1]
      · rw [h]
        rw [show (3 : Int) - 1 = 2 from rfl, next2 hB hm h2, if_pos a2, next1 hB hm h1, if_neg a1]
  · rw [if_pos (by omega), show ξ 23 1 = 3 by omega]
    rw [show (3 : Int) - 1 = 2 from rfl, next2 hB hm h2, if_neg a2]
end M4
