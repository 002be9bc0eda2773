section M3
variable {b0 : Int} {σ : Hp} {ξ ζ : Int → Int → Int}
/-- the same lakes -/
def cfgL (ξ ζ : Int → Int → Int) : Prop := ζ 23 1 = ξ 23 1 ∧ ∀ d, (24 ≤ d ∧ d ≤ 29) ∨ d = 41 ∨ d = 42 → ∀ k, ζ d k = ξ d k
theorem LB.congr (h : cfgL ξ ζ) (hB : LB ξ) : LB ζ := by
  obtain ⟨h1, h2⟩ := h
  unfold LB
  rw [h1, h2 25 (by omega), h2 25 (by omega), h2 25 (by omega)]
  refine ⟨hB.1, fun l a b => ?_, fun i a b => ?_, hB.2.2.2⟩
  · rw [h2 24 (by omega), h2 25 (by omega), h2 26 (by omega), h2 27 (by omega), h2 29 (by omega), h2 41 (by omega), h2 42 (by omega)]
    exact hB.2.1 l a b
  · rw [h2 28 (by omega)]
    exact hB.2.2.1 i a b
theorem cfgL.xu {d k v : Int} (h : d = 35 ∨ d = 36 ∨ (23 = d ∧ k ≠ 1) ∨ (30 ≤ d ∧ d ≤ 40) ∨ 43 ≤ d) : cfgL ξ (xu ξ d k v) := by
  refine ⟨?_, fun d' hd k' => xu_nd (by omega)⟩
  by_cases e : (23 : Int) = d
  · exact xu_ni (by omega)
  · exact xu_nd e
theorem cfgL.unf {s : Int} : cfgL ξ (unf ξ s) := ⟨if_neg (by omega), fun d hd k => if_neg (by omega)⟩
theorem cfgL.trans {η : Int → Int → Int} (h : cfgL ξ ζ) (h2 : cfgL ζ η) : cfgL ξ η := ⟨h2.1.trans h.1, fun d hd k => (h2.2 d hd k).trans (h.2 d hd k)⟩
/-- inflows -/
def IFB (ξ : Int → Int → Int) : Prop := ∀ i, 0 ≤ i → i < 243 → 0 ≤ ξ 34 i ∧ ξ 34 i ≤ 9
/-- what is beyond -/
def ovf (x g : Int) : Int := max 0 (x - g)
theorem X8_comes_step {c st ov l x : Int} {n : Nat} (hB : LB ξ) (hI : IFB ξ) (hs : SC ξ) (c0 : 0 ≤ c) (c1 : c < 81) (l0 : 0 ≤ l) (l1 : l < ξ 23 1) (v0 : 0 ≤ ov) (v1 : ov ≤ 1000) (hx : x = ξ 35 l - ξ 36 l + (if l ≤ 0 then 0 else ξ 36 (l - 1)) + ξ 34 (3 * c + l) + ov) :
    F_X8_comes_L12 (b0 + 23) c (n + 1) st ov l (S b0 σ ξ) = F_X8_comes_L12 (b0 + 23) c n (st * (ξ 25 l + 1) + x - ovf x (ξ 25 l)) (ovf x (ξ 25 l)) (l + 1) (S b0 σ (xu ξ 23 18 (ξ 23 18 + ovf x (ξ 25 l)))) := by
  have n0 := hB.1
  have g := hB.gr (l := l) l0 (by omega)
  have s1 := (hs l l0 (by omega)).1
  have i1 := hI (3 * c + l) (by omega) (by omega)
  have s2 : 0 ≤ (if l ≤ 0 then 0 else ξ 36 (l - 1)) ∧ (if l ≤ 0 then 0 else ξ 36 (l - 1)) ≤ 15 := by
    split
    · omega
    · have := (hs (l - 1) (by omega) (by omega)).1
      omega
  unfold ovf
  rw [F_X8_comes_L12]
  by_cases hl : l ≤ 0
  · rw [if_pos hl] at hx s2
    subst hx
    by_cases hg : ξ 35 l - ξ 36 l + 0 + ξ 34 (3 * c + l) + ov ≤ ξ 25 l
    · rw [show max 0 (ξ 35 l - ξ 36 l + 0 + ξ 34 (3 * c + l) + ov - ξ 25 l) = 0 by omega]
      refine ev rS_23_1 ?_
      refine ev_bLt (by omega) (by omega) (by omega) (by omega) (fun hc => ?_) (fun hc => ?_)
      · first
        | exact absurd hc (by omega)
        | (
            refine ev rS_23_16 ?_
            refine ev (aS_35 (by omega) (by omega)) ?_
            refine ev rS_23_17 ?_
            refine ev (aS_36 (by omega) (by omega)) ?_
            refine ev_bLe (by omega) (by omega) (by omega) (by omega) (fun hc => ?_) (fun hc => ?_)
            · first
              | exact absurd hc (by omega)
              | (
                  rw [F_X8_comes_B54]
                  refine ev rS_23_15 ?_
                  refine ev (aS_34 (by omega) (by omega)) ?_
                  refine evn ?_
                  refine ev rS_23_3 ?_
                  refine ev (aS_25 (by omega) (by omega)) ?_
                  refine ev_bLe (by omega) (by omega) (by omega) (by omega) (fun hc => ?_) (fun hc => ?_)
                  · first
                    | exact absurd hc (by omega)
                    | (
                        rw [F_X8_comes_B97]
                        refine ev rS_23_18 ?_
                        refine ev (pS_23_18) ?_
                        refine ev rS_23_3 ?_
                        refine ev (aS_25 (by omega) (by omega)) ?_
                        try simp only [xu_nd, ne_eq, Int.reduceEq, not_false_eq_true]
                        refine evn ?_
                        rfl)
                  · first
                    | exact absurd hc (by omega)
                    | (
                        refine ev rS_23_3 ?_
                        refine ev (aS_25 (by omega) (by omega)) ?_
                        rw [F_X8_comes_B97]
                        refine ev rS_23_18 ?_
                        refine ev (pS_23_18) ?_
                        refine ev rS_23_3 ?_
                        refine ev (aS_25 (by omega) (by omega)) ?_
                        try simp only [xu_nd, ne_eq, Int.reduceEq, not_false_eq_true]
                        refine evn ?_
                        rfl))
            · first
              | exact absurd hc (by omega)
              | (
                  refine ev rS_23_17 ?_
                  refine ev (aS_36 (by omega) (by omega)) ?_
                  rw [F_X8_comes_B54]
                  refine ev rS_23_15 ?_
                  refine ev (aS_34 (by omega) (by omega)) ?_
                  refine evn ?_
                  refine ev rS_23_3 ?_
                  refine ev (aS_25 (by omega) (by omega)) ?_
                  refine ev_bLe (by omega) (by omega) (by omega) (by omega) (fun hc => ?_) (fun hc => ?_)
                  · first
                    | exact absurd hc (by omega)
                    | (
                        rw [F_X8_comes_B97]
                        refine ev rS_23_18 ?_
                        refine ev (pS_23_18) ?_
                        refine ev rS_23_3 ?_
                        refine ev (aS_25 (by omega) (by omega)) ?_
                        try simp only [xu_nd, ne_eq, Int.reduceEq, not_false_eq_true]
                        refine evn ?_
                        rfl)
                  · first
                    | exact absurd hc (by omega)
                    | (
                        refine ev rS_23_3 ?_
                        refine ev (aS_25 (by omega) (by omega)) ?_
                        rw [F_X8_comes_B97]
                        refine ev rS_23_18 ?_
                        refine ev (pS_23_18) ?_
                        refine ev rS_23_3 ?_
                        refine ev (aS_25 (by omega) (by omega)) ?_
                        try simp only [xu_nd, ne_eq, Int.reduceEq, not_false_eq_true]
                        refine evn ?_
                        rfl)))
      · first
        | exact absurd hc (by omega)
        | (
            first | exact ev_end (by omega) rfl | skip)
    · rw [show max 0 (ξ 35 l - ξ 36 l + 0 + ξ 34 (3 * c + l) + ov - ξ 25 l) = ξ 35 l - ξ 36 l + 0 + ξ 34 (3 * c + l) + ov - ξ 25 l by omega]
      refine ev rS_23_1 ?_
      refine ev_bLt (by omega) (by omega) (by omega) (by omega) (fun hc => ?_) (fun hc => ?_)
      · first
        | exact absurd hc (by omega)
        | (
            refine ev rS_23_16 ?_
            refine ev (aS_35 (by omega) (by omega)) ?_
            refine ev rS_23_17 ?_
            refine ev (aS_36 (by omega) (by omega)) ?_
            refine ev_bLe (by omega) (by omega) (by omega) (by omega) (fun hc => ?_) (fun hc => ?_)
            · first
              | exact absurd hc (by omega)
              | (
                  rw [F_X8_comes_B54]
                  refine ev rS_23_15 ?_
                  refine ev (aS_34 (by omega) (by omega)) ?_
                  refine evn ?_
                  refine ev rS_23_3 ?_
                  refine ev (aS_25 (by omega) (by omega)) ?_
                  refine ev_bLe (by omega) (by omega) (by omega) (by omega) (fun hc => ?_) (fun hc => ?_)
                  · first
                    | exact absurd hc (by omega)
                    | (
                        rw [F_X8_comes_B97]
                        refine ev rS_23_18 ?_
                        refine ev (pS_23_18) ?_
                        refine ev rS_23_3 ?_
                        refine ev (aS_25 (by omega) (by omega)) ?_
                        try simp only [xu_nd, ne_eq, Int.reduceEq, not_false_eq_true]
                        refine evn ?_
                        rfl)
                  · first
                    | exact absurd hc (by omega)
                    | (
                        refine ev rS_23_3 ?_
                        refine ev (aS_25 (by omega) (by omega)) ?_
                        rw [F_X8_comes_B97]
                        refine ev rS_23_18 ?_
                        refine ev (pS_23_18) ?_
                        refine ev rS_23_3 ?_
                        refine ev (aS_25 (by omega) (by omega)) ?_
                        try simp only [xu_nd, ne_eq, Int.reduceEq, not_false_eq_true]
                        refine evn ?_
                        rfl))
            · first
              | exact absurd hc (by omega)
              | (
                  refine ev rS_23_17 ?_
                  refine ev (aS_36 (by omega) (by omega)) ?_
                  rw [F_X8_comes_B54]
                  refine ev rS_23_15 ?_
                  refine ev (aS_34 (by omega) (by omega)) ?_
                  refine evn ?_
                  refine ev rS_23_3 ?_
                  refine ev (aS_25 (by omega) (by omega)) ?_
                  refine ev_bLe (by omega) (by omega) (by omega) (by omega) (fun hc => ?_) (fun hc => ?_)
                  · first
                    | exact absurd hc (by omega)
                    | (
                        rw [F_X8_comes_B97]
                        refine ev rS_23_18 ?_
                        refine ev (pS_23_18) ?_
                        refine ev rS_23_3 ?_
                        refine ev (aS_25 (by omega) (by omega)) ?_
                        try simp only [xu_nd, ne_eq, Int.reduceEq, not_false_eq_true]
                        refine evn ?_
                        rfl)
                  · first
                    | exact absurd hc (by omega)
                    | (
                        refine ev rS_23_3 ?_
                        refine ev (aS_25 (by omega) (by omega)) ?_
                        rw [F_X8_comes_B97]
                        refine ev rS_23_18 ?_
                        refine ev (pS_23_18) ?_
                        refine ev rS_23_3 ?_
                        refine ev (aS_25 (by omega) (by omega)) ?_
                        try simp only [xu_nd, ne_eq, Int.reduceEq, not_false_eq_true]
                        refine evn ?_
                        rfl)))
      · first
        | exact absurd hc (by omega)
        | (
            first | exact ev_end (by omega) rfl | skip)
  · rw [if_neg hl] at hx s2
    subst hx
    by_cases hg : ξ 35 l - ξ 36 l + ξ 36 (l - 1) + ξ 34 (3 * c + l) + ov ≤ ξ 25 l
    · rw [show max 0 (ξ 35 l - ξ 36 l + ξ 36 (l - 1) + ξ 34 (3 * c + l) + ov - ξ 25 l) = 0 by omega]
      refine ev rS_23_1 ?_
      refine ev_bLt (by omega) (by omega) (by omega) (by omega) (fun hc => ?_) (fun hc => ?_)
      · first
        | exact absurd hc (by omega)
        | (
            refine ev rS_23_16 ?_
            refine ev (aS_35 (by omega) (by omega)) ?_
            refine ev rS_23_17 ?_
            refine ev (aS_36 (by omega) (by omega)) ?_
            refine ev_bLe (by omega) (by omega) (by omega) (by omega) (fun hc => ?_) (fun hc => ?_)
            · first
              | exact absurd hc (by omega)
              | (
                  rw [F_X8_comes_B54]
                  refine ev rS_23_15 ?_
                  refine ev (aS_34 (by omega) (by omega)) ?_
                  refine evn ?_
                  refine ev rS_23_3 ?_
                  refine ev (aS_25 (by omega) (by omega)) ?_
                  refine ev_bLe (by omega) (by omega) (by omega) (by omega) (fun hc => ?_) (fun hc => ?_)
                  · first
                    | exact absurd hc (by omega)
                    | (
                        rw [F_X8_comes_B97]
                        refine ev rS_23_18 ?_
                        refine ev (pS_23_18) ?_
                        refine ev rS_23_3 ?_
                        refine ev (aS_25 (by omega) (by omega)) ?_
                        try simp only [xu_nd, ne_eq, Int.reduceEq, not_false_eq_true]
                        refine evn ?_
                        rfl)
                  · first
                    | exact absurd hc (by omega)
                    | (
                        refine ev rS_23_3 ?_
                        refine ev (aS_25 (by omega) (by omega)) ?_
                        rw [F_X8_comes_B97]
                        refine ev rS_23_18 ?_
                        refine ev (pS_23_18) ?_
                        refine ev rS_23_3 ?_
                        refine ev (aS_25 (by omega) (by omega)) ?_
                        try simp only [xu_nd, ne_eq, Int.reduceEq, not_false_eq_true]
                        refine evn ?_
                        rfl))
            · first
              | exact absurd hc (by omega)
              | (
                  refine ev rS_23_17 ?_
                  refine ev (aS_36 (by omega) (by omega)) ?_
                  rw [F_X8_comes_B54]
                  refine ev rS_23_15 ?_
                  refine ev (aS_34 (by omega) (by omega)) ?_
                  refine evn ?_
                  refine ev rS_23_3 ?_
                  refine ev (aS_25 (by omega) (by omega)) ?_
                  refine ev_bLe (by omega) (by omega) (by omega) (by omega) (fun hc => ?_) (fun hc => ?_)
                  · first
                    | exact absurd hc (by omega)
                    | (
                        rw [F_X8_comes_B97]
                        refine ev rS_23_18 ?_
                        refine ev (pS_23_18) ?_
                        refine ev rS_23_3 ?_
                        refine ev (aS_25 (by omega) (by omega)) ?_
                        try simp only [xu_nd, ne_eq, Int.reduceEq, not_false_eq_true]
                        refine evn ?_
                        rfl)
                  · first
                    | exact absurd hc (by omega)
                    | (
                        refine ev rS_23_3 ?_
                        refine ev (aS_25 (by omega) (by omega)) ?_
                        rw [F_X8_comes_B97]
                        refine ev rS_23_18 ?_
                        refine ev (pS_23_18) ?_
                        refine ev rS_23_3 ?_
                        refine ev (aS_25 (by omega) (by omega)) ?_
                        try simp only [xu_nd, ne_eq, Int.reduceEq, not_false_eq_true]
                        refine evn ?_
                        rfl)))
      · first
        | exact absurd hc (by omega)
        | (
            first | exact ev_end (by omega) rfl | skip)
    · rw [show max 0 (ξ 35 l - ξ 36 l + ξ 36 (l - 1) + ξ 34 (3 * c + l) + ov - ξ 25 l) = ξ 35 l - ξ 36 l + ξ 36 (l - 1) + ξ 34 (3 * c + l) + ov - ξ 25 l by omega]
      refine ev rS_23_1 ?_
      refine ev_bLt (by omega) (by omega) (by omega) (by omega) (fun hc => ?_) (fun hc => ?_)
      · first
        | exact absurd hc (by omega)
        | (
            refine ev rS_23_16 ?_
            refine ev (aS_35 (by omega) (by omega)) ?_
            refine ev rS_23_17 ?_
            refine ev (aS_36 (by omega) (by omega)) ?_
            refine ev_bLe (by omega) (by omega) (by omega) (by omega) (fun hc => ?_) (fun hc => ?_)
            · first
              | exact absurd hc (by omega)
              | (
                  rw [F_X8_comes_B54]
                  refine ev rS_23_15 ?_
                  refine ev (aS_34 (by omega) (by omega)) ?_
                  refine evn ?_
                  refine ev rS_23_3 ?_
                  refine ev (aS_25 (by omega) (by omega)) ?_
                  refine ev_bLe (by omega) (by omega) (by omega) (by omega) (fun hc => ?_) (fun hc => ?_)
                  · first
                    | exact absurd hc (by omega)
                    | (
                        rw [F_X8_comes_B97]
                        refine ev rS_23_18 ?_
                        refine ev (pS_23_18) ?_
                        refine ev rS_23_3 ?_
                        refine ev (aS_25 (by omega) (by omega)) ?_
                        try simp only [xu_nd, ne_eq, Int.reduceEq, not_false_eq_true]
                        refine evn ?_
                        rfl)
                  · first
                    | exact absurd hc (by omega)
                    | (
                        refine ev rS_23_3 ?_
                        refine ev (aS_25 (by omega) (by omega)) ?_
                        rw [F_X8_comes_B97]
                        refine ev rS_23_18 ?_
                        refine ev (pS_23_18) ?_
                        refine ev rS_23_3 ?_
                        refine ev (aS_25 (by omega) (by omega)) ?_
                        try simp only [xu_nd, ne_eq, Int.reduceEq, not_false_eq_true]
                        refine evn ?_
                        rfl))
            · first
              | exact absurd hc (by omega)
              | (
                  refine ev rS_23_17 ?_
                  refine ev (aS_36 (by omega) (by omega)) ?_
                  rw [F_X8_comes_B54]
                  refine ev rS_23_15 ?_
                  refine ev (aS_34 (by omega) (by omega)) ?_
                  refine evn ?_
                  refine ev rS_23_3 ?_
                  refine ev (aS_25 (by omega) (by omega)) ?_
                  refine ev_bLe (by omega) (by omega) (by omega) (by omega) (fun hc => ?_) (fun hc => ?_)
                  · first
                    | exact absurd hc (by omega)
                    | (
                        rw [F_X8_comes_B97]
                        refine ev rS_23_18 ?_
                        refine ev (pS_23_18) ?_
                        refine ev rS_23_3 ?_
                        refine ev (aS_25 (by omega) (by omega)) ?_
                        try simp only [xu_nd, ne_eq, Int.reduceEq, not_false_eq_true]
                        refine evn ?_
                        rfl)
                  · first
                    | exact absurd hc (by omega)
                    | (
                        refine ev rS_23_3 ?_
                        refine ev (aS_25 (by omega) (by omega)) ?_
                        rw [F_X8_comes_B97]
                        refine ev rS_23_18 ?_
                        refine ev (pS_23_18) ?_
                        refine ev rS_23_3 ?_
                        refine ev (aS_25 (by omega) (by omega)) ?_
                        try simp only [xu_nd, ne_eq, Int.reduceEq, not_false_eq_true]
                        refine evn ?_
                        rfl)))
      · first
        | exact absurd hc (by omega)
        | (
            first | exact ev_end (by omega) rfl | skip)
theorem X8_comes_end {c st ov l : Int} {n : Nat} (hB : LB ξ) (l0 : l = ξ 23 1) : F_X8_comes_L12 (b0 + 23) c (n + 1) st ov l (S b0 σ ξ) = some (st, S b0 σ ξ) := by
  have n0 := hB.1
  subst l0
  rw [F_X8_comes_L12]
  refine ev rS_23_1 ?_
  refine ev_bLt (by omega) (by omega) (by omega) (by omega) (fun hc => absurd hc (by omega)) (fun hc => rfl)
theorem xu_xu {d k v w : Int} : xu (xu ξ d k v) d k w = xu ξ d k w := by
  funext d' k'
  unfold xu
  split
  · rfl
  · rfl
theorem SC.xu {v : Int} {k : Int} (hk : k ≠ 1) (h : SC ξ) : SC (xu ξ 23 k v) := by
  intro l a b
  rw [xu_nd (by omega), xu_nd (by omega), xu_nd (by omega), xu_ni (by omega)]
  exact h l a b
theorem IFB.xu {d k v : Int} (hd : d ≠ 34) (h : IFB ξ) : IFB (xu ξ d k v) := by
  intro l a b
  rw [xu_nd (by omega)]
  exact h l a b
theorem X8_comes_step' {c st ov l x v : Int} {n : Nat} (hB : LB ξ) (hI : IFB ξ) (hs : SC ξ) (c0 : 0 ≤ c) (c1 : c < 81) (l0 : 0 ≤ l) (l1 : l < ξ 23 1) (v0 : 0 ≤ ov) (v1 : ov ≤ 1000) (hx : x = ξ 35 l - ξ 36 l + (if l ≤ 0 then 0 else ξ 36 (l - 1)) + ξ 34 (3 * c + l) + ov) :
    F_X8_comes_L12 (b0 + 23) c (n + 1) st ov l (S b0 σ (xu ξ 23 18 v)) = F_X8_comes_L12 (b0 + 23) c n (st * (ξ 25 l + 1) + x - ovf x (ξ 25 l)) (ovf x (ξ 25 l)) (l + 1) (S b0 σ (xu ξ 23 18 (v + ovf x (ξ 25 l)))) := by
  have h := X8_comes_step (b0 := b0) (σ := σ) (st := st) (n := n) (x := x) (hB.congr (ζ := xu ξ 23 18 v) (cfgL.xu (by omega))) (IFB.xu (by omega) hI) (SC.xu (by omega) hs) c0 c1 l0 (by rw [xu_ni (by omega)]; exact l1) v0 v1 (by rw [xu_nd (by omega), xu_nd (by omega), xu_nd (by omega), xu_nd (by omega)]; exact hx)
  rw [xu_xu, xu_s, xu_nd (show (25 : Int) ≠ 23 by omega)] at h
  exact h
/-- the week's water, of three lakes -/
def fx0 (ξ : Int → Int → Int) (c m0 t0 : Int) : Int := m0 - t0 + ξ 34 (3 * c)
def fo0 (ξ : Int → Int → Int) (c m0 t0 : Int) : Int := ovf (fx0 ξ c m0 t0) (ξ 25 0)
def fx1 (ξ : Int → Int → Int) (c m0 m1 t0 t1 : Int) : Int := m1 - t1 + t0 + ξ 34 (3 * c + 1) + fo0 ξ c m0 t0
def fo1 (ξ : Int → Int → Int) (c m0 m1 t0 t1 : Int) : Int := ovf (fx1 ξ c m0 m1 t0 t1) (ξ 25 1)
def fx2 (ξ : Int → Int → Int) (c m0 m1 m2 t0 t1 t2 : Int) : Int := m2 - t2 + t1 + ξ 34 (3 * c + 2) + fo1 ξ c m0 m1 t0 t1
def fo2 (ξ : Int → Int → Int) (c m0 m1 m2 t0 t1 t2 : Int) : Int := ovf (fx2 ξ c m0 m1 m2 t0 t1 t2) (ξ 25 2)
def enc (ξ : Int → Int → Int) (a b c : Int) : Int := (a * (ξ 25 1 + 1) + b) * (ξ 25 2 + 1) + c
def flw (ξ : Int → Int → Int) (c m0 m1 m2 t0 t1 t2 : Int) : Int := enc ξ (fx0 ξ c m0 t0 - fo0 ξ c m0 t0) (fx1 ξ c m0 m1 t0 t1 - fo1 ξ c m0 m1 t0 t1) (fx2 ξ c m0 m1 m2 t0 t1 t2 - fo2 ξ c m0 m1 m2 t0 t1 t2)
def spl (ξ : Int → Int → Int) (c m0 m1 m2 t0 t1 t2 : Int) : Int := (if 0 < ξ 23 1 then fo0 ξ c m0 t0 else 0) + (if 1 < ξ 23 1 then fo1 ξ c m0 m1 t0 t1 else 0) + (if 2 < ξ 23 1 then fo2 ξ c m0 m1 m2 t0 t1 t2 else 0)
theorem X8_comes {c : Int} (hB : LB ξ) (hI : IFB ξ) (hs : SC ξ) (c0 : 0 ≤ c) (c1 : c < 81) : F_X8_comes (b0 + 23) c (S b0 σ ξ) = some (flw ξ c (ξ 35 0) (ξ 35 1) (ξ 35 2) (ξ 36 0) (ξ 36 1) (ξ 36 2), S b0 σ (xu ξ 23 18 (spl ξ c (ξ 35 0) (ξ 35 1) (ξ 35 2) (ξ 36 0) (ξ 36 1) (ξ 36 2)))) := by
  unfold F_X8_comes
  refine ev pS_23_18 ?_
  have n0 := hB.1
  obtain ⟨k, hk⟩ := fu4
  rw [hk]
  have a0 := (hs 0 (by omega) (by omega)).1
  have a1 := (hs 1 (by omega) (by omega)).1
  have a2 := (hs 2 (by omega) (by omega)).1
  have z0 := (hs 0 (by omega) (by omega)).2
  have z1 := (hs 1 (by omega) (by omega)).2
  have z2 := (hs 2 (by omega) (by omega)).2
  have i0 := hI (3 * c) (by omega) (by omega)
  have i1 := hI (3 * c + 1) (by omega) (by omega)
  have i2 := hI (3 * c + 2) (by omega) (by omega)
  have g0 := hB.gr (l := 0) (by omega) (by omega)
  have g1 := hB.gr (l := 1) (by omega) (by omega)
  have g2 := hB.gr (l := 2) (by omega) (by omega)
  have e2 : ξ 23 1 ≤ 2 → ξ 25 2 = 0 := hB.no (by omega) (by omega)
  have e1 : ξ 23 1 ≤ 1 → ξ 25 1 = 0 := hB.no (by omega) (by omega)
  have e0 : ξ 23 1 ≤ 0 → ξ 25 0 = 0 := hB.no (by omega) (by omega)
  have f0 : 0 ≤ fo0 ξ c (ξ 35 0) (ξ 36 0) ∧ fo0 ξ c (ξ 35 0) (ξ 36 0) ≤ 100 := by unfold fo0 ovf fx0; omega
  have f1 : 0 ≤ fo1 ξ c (ξ 35 0) (ξ 35 1) (ξ 36 0) (ξ 36 1) ∧ fo1 ξ c (ξ 35 0) (ξ 35 1) (ξ 36 0) (ξ 36 1) ≤ 200 := by unfold fo1 ovf fx1; omega
  have hend : ∀ (st ov v : Int) (n : Nat) (l : Int), l = ξ 23 1 → F_X8_comes_L12 (b0 + 23) c (n + 1) st ov l (S b0 σ (xu ξ 23 18 v)) = some (st, S b0 σ (xu ξ 23 18 v)) := fun st ov v n l h => X8_comes_end (hB.congr (cfgL.xu (by omega))) (by rw [xu_ni (by omega)]; exact h)
  have hs0 : 0 < ξ 23 1 → ∀ n : Nat, F_X8_comes_L12 (b0 + 23) c (n + 1) 0 0 0 (S b0 σ (xu ξ 23 18 0)) = F_X8_comes_L12 (b0 + 23) c n (fx0 ξ c (ξ 35 0) (ξ 36 0) - fo0 ξ c (ξ 35 0) (ξ 36 0)) (fo0 ξ c (ξ 35 0) (ξ 36 0)) 1 (S b0 σ (xu ξ 23 18 (fo0 ξ c (ξ 35 0) (ξ 36 0)))) := by
    intro h n
    have q := X8_comes_step' (b0 := b0) (σ := σ) (c := c) (st := 0) (ov := 0) (l := 0) (v := 0) (x := fx0 ξ c (ξ 35 0) (ξ 36 0)) (n := n) hB hI hs c0 c1 (by omega) h (by omega) (by omega) (by unfold fx0; rw [if_pos (by omega), Int.add_zero (3 * c)]; omega)
    simp only [Int.zero_mul, Int.zero_add] at q
    exact q
  have hs1 : 1 < ξ 23 1 → ∀ (n : Nat) (st v : Int), F_X8_comes_L12 (b0 + 23) c (n + 1) st (fo0 ξ c (ξ 35 0) (ξ 36 0)) 1 (S b0 σ (xu ξ 23 18 v)) = F_X8_comes_L12 (b0 + 23) c n (st * (ξ 25 1 + 1) + (fx1 ξ c (ξ 35 0) (ξ 35 1) (ξ 36 0) (ξ 36 1) - fo1 ξ c (ξ 35 0) (ξ 35 1) (ξ 36 0) (ξ 36 1))) (fo1 ξ c (ξ 35 0) (ξ 35 1) (ξ 36 0) (ξ 36 1)) 2 (S b0 σ (xu ξ 23 18 (v + fo1 ξ c (ξ 35 0) (ξ 35 1) (ξ 36 0) (ξ 36 1)))) := by
    intro h n st v
    have q := X8_comes_step' (b0 := b0) (σ := σ) (c := c) (st := st) (ov := fo0 ξ c (ξ 35 0) (ξ 36 0)) (l := 1) (v := v) (x := fx1 ξ c (ξ 35 0) (ξ 35 1) (ξ 36 0) (ξ 36 1)) (n := n) hB hI hs c0 c1 (by omega) h f0.1 (by omega) (by unfold fx1; rw [if_neg (by omega)]; rfl)
    rw [Int.add_sub_assoc] at q
    exact q
  have hs2 : 2 < ξ 23 1 → ∀ (n : Nat) (st v : Int), F_X8_comes_L12 (b0 + 23) c (n + 1) st (fo1 ξ c (ξ 35 0) (ξ 35 1) (ξ 36 0) (ξ 36 1)) 2 (S b0 σ (xu ξ 23 18 v)) = F_X8_comes_L12 (b0 + 23) c n (st * (ξ 25 2 + 1) + (fx2 ξ c (ξ 35 0) (ξ 35 1) (ξ 35 2) (ξ 36 0) (ξ 36 1) (ξ 36 2) - fo2 ξ c (ξ 35 0) (ξ 35 1) (ξ 35 2) (ξ 36 0) (ξ 36 1) (ξ 36 2))) (fo2 ξ c (ξ 35 0) (ξ 35 1) (ξ 35 2) (ξ 36 0) (ξ 36 1) (ξ 36 2)) 3 (S b0 σ (xu ξ 23 18 (v + fo2 ξ c (ξ 35 0) (ξ 35 1) (ξ 35 2) (ξ 36 0) (ξ 36 1) (ξ 36 2)))) := by
    intro h n st v
    have q := X8_comes_step' (b0 := b0) (σ := σ) (c := c) (st := st) (ov := fo1 ξ c (ξ 35 0) (ξ 35 1) (ξ 36 0) (ξ 36 1)) (l := 2) (v := v) (x := fx2 ξ c (ξ 35 0) (ξ 35 1) (ξ 35 2) (ξ 36 0) (ξ 36 1) (ξ 36 2)) (n := n) hB hI hs c0 c1 (by omega) h f1.1 (by omega) (by unfold fx2; rw [if_neg (by omega)]; rfl)
    rw [Int.add_sub_assoc] at q
    exact q
  have m1 : ξ 23 1 ≤ 1 → fx1 ξ c (ξ 35 0) (ξ 35 1) (ξ 36 0) (ξ 36 1) - fo1 ξ c (ξ 35 0) (ξ 35 1) (ξ 36 0) (ξ 36 1) = 0 := by
    intro h
    have := z1 h
    have := e1 h
    unfold fo1 ovf fx1
    omega
  have m2 : ξ 23 1 ≤ 2 → fx2 ξ c (ξ 35 0) (ξ 35 1) (ξ 35 2) (ξ 36 0) (ξ 36 1) (ξ 36 2) - fo2 ξ c (ξ 35 0) (ξ 35 1) (ξ 35 2) (ξ 36 0) (ξ 36 1) (ξ 36 2) = 0 := by
    intro h
    have := z2 h
    have := e2 h
    unfold fo2 ovf fx2
    omega
  unfold flw spl enc
  rcases (show ξ 23 1 = 0 ∨ ξ 23 1 = 1 ∨ ξ 23 1 = 2 ∨ ξ 23 1 = 3 by omega) with h | h | h | h
  · rw [hend _ _ _ _ _ (by omega), if_neg (by omega), if_neg (by omega), if_neg (by omega), m1 (by omega), m2 (by omega), e1 (by omega), e2 (by omega)]
    have m0 : fx0 ξ c (ξ 35 0) (ξ 36 0) - fo0 ξ c (ξ 35 0) (ξ 36 0) = 0 := by
      have := z0 (by omega)
      have := e0 (by omega)
      unfold fo0 ovf fx0
      omega
    rw [m0]
    rfl
  · rw [hs0 (by omega), hend _ _ _ _ _ (by omega), if_pos (by omega), if_neg (by omega), if_neg (by omega), m1 (by omega), m2 (by omega), e1 (by omega), e2 (by omega)]
    simp only [Int.zero_add, Int.mul_one, Int.add_zero]
  · rw [hs0 (by omega), hs1 (by omega), hend _ _ _ _ _ (by omega), if_pos (by omega), if_pos (by omega), if_neg (by omega), m2 (by omega), e2 (by omega)]
    simp only [Int.zero_add, Int.mul_one, Int.add_zero]
  · rw [hs0 (by omega), hs1 (by omega), hs2 (by omega), hend _ _ _ _ _ (by omega), if_pos (by omega), if_pos (by omega), if_pos (by omega)]
end M3
