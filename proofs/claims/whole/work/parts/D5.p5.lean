section P5
variable {b0 : Int} {σ τ σ' : Hp} {ξ ζ η ζc ζm ζ1 ξ' : Int → Int → Int} {a b c i k l m n v j w s L p q le r x t t' mm fr st g e u d : Int}
theorem X0_takesHead (hB : LB ξ) (hV : CV ξ) (l0 : 0 ≤ l) (l3 : l < 3) (m0 : 0 ≤ m) (m1 : m ≤ ξ 25 l) (u0 : 0 ≤ u) (u9 : u ≤ 9) : F_X0_takesHead (b0 + 3 + 2 * l) m u (S b0 σ ξ) = some (if (m ≤ 0 ∨ hd ξ l (m - 1) ≤ u) ∧ (ξ 25 l ≤ m ∨ u ≤ hd ξ l (m + 1)) then 1 else 0, S b0 σ ξ) := by
  have gb := hB.gr l0 l3
  have B17 : F_X0_takesHead_B17 (b0 + 3 + 2 * l) m u (S b0 σ ξ) = some (if ξ 25 l ≤ m ∨ u ≤ hd ξ l (m + 1) then 1 else 0, S b0 σ ξ) := by
    rw [F_X0_takesHead_B17]
    refine ev (rL_2 hV l0 l3) ?_
    refine ev_bLt (by omega) (by omega) (by omega) (by omega) (fun q => ?_) (fun q => ?_)
    · refine evd ((iL l0 l3).trans (X0_headAt hV l0 l3 ⟨by omega, by omega⟩)) ?_
      rw [if_pos (show 0 ≤ m + 1 ∧ m + 1 < 31 by omega)]
      have hb := hd_bd (m := m + 1) hB l0 l3 (by omega) (by omega)
      refine ev_bLt (by omega) (by omega) (by omega) (by omega) (fun q2 => ?_) (fun q2 => ?_)
      · rw [if_neg (by omega)]; rfl
      · rw [if_pos (by omega)]; rfl
    · rw [if_pos (by omega)]; rfl
  rw [F_X0_takesHead]
  refine ev_bLe (by omega) (by omega) (by omega) (by omega) (fun q => ?_) (fun q => ?_)
  · rw [B17]
    by_cases y : ξ 25 l ≤ m ∨ u ≤ hd ξ l (m + 1)
    · rw [if_pos y, if_pos ⟨Or.inl q, y⟩]
    · rw [if_neg y, if_neg (fun z => y z.2)]
  · refine evd ((iL l0 l3).trans (X0_headAt hV l0 l3 ⟨by omega, by omega⟩)) ?_
    rw [if_pos (show 0 ≤ m - 1 ∧ m - 1 < 31 by omega)]
    have hb := hd_bd (m := m - 1) hB l0 l3 (by omega) (by omega)
    refine ev_bLe (by omega) (by omega) (by omega) (by omega) (fun q2 => ?_) (fun q2 => ?_)
    · rw [B17]
      by_cases y : ξ 25 l ≤ m ∨ u ≤ hd ξ l (m + 1)
      · rw [if_pos y, if_pos ⟨Or.inr q2, y⟩]
      · rw [if_neg y, if_neg (fun z => y z.2)]
    · rw [if_neg (by omega)]; rfl
/-- a head that fits in -/
def okH (ξ : Int → Int → Int) (l m u x : Int) : Prop := ∀ y, x ≤ y → y ≤ ξ 25 l → (y < m → ξ 28 (31 * l + y) ≤ u) ∧ (m < y → u ≤ ξ 28 (31 * l + y))
theorem head_loop (hB : LB ξ) (cf : Cf ξ ζ) (l0 : 0 ≤ l) (l3 : l < 3) (m0 : 0 ≤ m) (m1 : m ≤ ξ 25 l) (u0 : 0 ≤ u) (u9 : u ≤ 9) : ∀ (k f : Nat) (x : Int), k < f → 0 ≤ x → x + k = ξ 25 l + 1 → (okH ξ l m u x ∧ ∃ f' : Nat, F_X8_head_L37 (b0 + 23) l m u f x (S b0 σ ζ) = F_X8_head_L37 (b0 + 23) l m u (f' + 1) (ξ 25 l + 1) (S b0 σ ζ)) ∨ (¬ okH ξ l m u x ∧ F_X8_head_L37 (b0 + 23) l m u f x (S b0 σ ζ) = some (-1, S b0 σ ζ)) := by
  have gb := hB.gr l0 l3
  intro k
  induction k with
  | zero =>
    intro f x hf x0 he
    refine Or.inl ⟨fun y a b => by omega, f - 1, ?_⟩
    rw [show f - 1 + 1 = f by omega, show x = ξ 25 l + 1 by omega]
  | succ k ih =>
    intro f x hf x0 he
    obtain ⟨f, rfl⟩ : ∃ g, f = g + 1 := ⟨f - 1, by omega⟩
    have hb := hB.2.2.1 (31 * l + x) (by omega) (by omega)
    have top : ∀ z, (¬ ((x < m → ξ 28 (31 * l + x) ≤ u) ∧ (m < x → u ≤ ξ 28 (31 * l + x))) → some (-1, S b0 σ ζ) = z) → ((x < m → ξ 28 (31 * l + x) ≤ u) ∧ (m < x → u ≤ ξ 28 (31 * l + x)) → F_X8_head_L37 (b0 + 23) l m u f (x + 1) (S b0 σ ζ) = z) → F_X8_head_L37 (b0 + 23) l m u (f + 1) x (S b0 σ ζ) = z := by
      intro z z1 z2
      have B70 : (x < m → ξ 28 (31 * l + x) ≤ u) → F_X8_head_B70 (F_X8_head_L37 (b0 + 23) l m u f) (b0 + 23) l m u x (S b0 σ ζ) = z := by
        intro y
        rw [F_X8_head_B70]
        refine ev_bLe (by omega) (by omega) (by omega) (by omega) (fun q => z2 ⟨y, fun w => by omega⟩) (fun q => ?_)
        refine ev rS_23_6 ?_
        refine ev (aS_28 (by omega) (by omega)) ?_
        rw [cf.1 28 (by omega)]
        exact ev_bLt (by omega) (by omega) (by omega) (by omega) (fun q2 => z1 (fun w => by have := w.2 (by omega); omega)) (fun q2 => z2 ⟨y, fun _ => by omega⟩)
      rw [F_X8_head_L37]
      refine ev rS_23_3 ?_
      refine ev (aS_25 l0 (by omega)) ?_
      rw [cf.1 25 (by omega)]
      refine ev_bLe (by omega) (by omega) (by omega) (by omega) (fun _ => ?_) (fun q => by omega)
      refine ev_bLt (by omega) (by omega) (by omega) (by omega) (fun q => ?_) (fun q => B70 (fun w => absurd w q))
      refine ev rS_23_6 ?_
      refine ev (aS_28 (by omega) (by omega)) ?_
      rw [cf.1 28 (by omega)]
      exact ev_bLe (by omega) (by omega) (by omega) (by omega) (fun q2 => B70 (fun _ => q2)) (fun q2 => z1 (fun w => q2 (w.1 q)))
    by_cases y : (x < m → ξ 28 (31 * l + x) ≤ u) ∧ (m < x → u ≤ ξ 28 (31 * l + x))
    · rcases ih f (x + 1) (by omega) (by omega) (by omega) with ⟨p1, f', p2⟩ | ⟨p1, p2⟩
      · refine Or.inl ⟨fun w a b => ?_, f', top _ (fun q => absurd y q) (fun _ => p2)⟩
        by_cases e : w = x
        · subst e; exact y
        · exact p1 w (by omega) b
      · exact Or.inr ⟨fun w => p1 (fun z a b => w z (by omega) b), top _ (fun q => absurd y q) (fun _ => p2)⟩
    · exact Or.inr ⟨fun w => y (w x (Int.le_refl _) (by omega)), top _ (fun _ => rfl) (fun q => absurd q y)⟩
theorem okH_iff (hX : XT ξ) (l0 : 0 ≤ l) (l1 : l < ξ 23 1) (m0 : 0 ≤ m) (m1 : m ≤ ξ 25 l) : ((m ≤ 0 ∨ hd ξ l (m - 1) ≤ u) ∧ (ξ 25 l ≤ m ∨ u ≤ hd ξ l (m + 1))) ↔ okH ξ l m u 0 := by
  have hh : ∀ y, y ≤ ξ 25 l → hd ξ l y = ξ 28 (31 * l + y) := fun y a => if_pos ⟨l1, a⟩
  constructor
  · intro q y y0 y1
    refine ⟨fun a => ?_, fun a => ?_⟩
    · have h1 := hX.1 l y (m - 1) l0 l1 y0 (by omega) (by omega)
      have h2 := hh (m - 1) (by omega)
      rcases q.1 with z | z
      · omega
      · omega
    · have h1 := hX.1 l (m + 1) y l0 l1 (by omega) (by omega) y1
      have h2 := hh (m + 1) (by omega)
      rcases q.2 with z | z
      · omega
      · omega
  · intro q
    refine ⟨?_, ?_⟩
    · by_cases a : m ≤ 0
      · exact Or.inl a
      · right
        rw [hh (m - 1) (by omega)]
        exact (q (m - 1) (by omega) (by omega)).1 (by omega)
    · by_cases a : ξ 25 l ≤ m
      · exact Or.inl a
      · right
        rw [hh (m + 1) (by omega)]
        exact (q (m + 1) (by omega) (by omega)).2 (by omega)
def scrh (l m d k : Int) : Prop := (d = 4 + 2 * l ∧ k = m) ∨ (d = 15 ∧ k = 2) ∨ (d = 28 ∧ k = 31 * l + m) ∨ (d = 23 ∧ k = 19)
theorem T_head (h : INV b0 ξ σ t) (ht : t + 1 ≤ t') (tb : t' ≤ 100000) (hl : R3 l) (hm : R3 m) (hu : R3 u) : Step b0 σ ξ t' (F_X7_head b0 l m u) (F_X8_head (b0 + 23) l m u) R3 := by
  obtain ⟨hI, hM, hX, hR, hv⟩ := id h
  obtain ⟨r1, r2, r3, r4⟩ := id hR
  obtain ⟨hB, hT, hV, hC, hS, hN⟩ := id hI.1
  have nl := hB.1
  have top : ∀ z, (¬ (((0 ≤ l ∧ l ≤ ξ 23 1 - 1) ∧ (0 ≤ m ∧ m ≤ ξ 25 l) ∧ (0 ≤ u ∧ u ≤ 9)) ∧ okH ξ l m u 0) → some (-1, S b0 σ ξ) = z) → ((((0 ≤ l ∧ l ≤ ξ 23 1 - 1) ∧ (0 ≤ m ∧ m ≤ ξ 25 l) ∧ (0 ≤ u ∧ u ≤ 9)) ∧ okH ξ l m u 0) → ξ 23 32 ≠ 0 → some (-2, S b0 σ ξ) = z) → ((((0 ≤ l ∧ l ≤ ξ 23 1 - 1) ∧ (0 ≤ m ∧ m ≤ ξ 25 l) ∧ (0 ≤ u ∧ u ≤ 9)) ∧ okH ξ l m u 0) → ξ 23 32 = 0 → some (ξ 28 (31 * l + m), S b0 σ (xu (xu ξ (4 + 2 * l) m u) 15 2 (ξ 15 2 + 1))) = z) → F_X7_head b0 l m u (S b0 σ ξ) = z := by
    intro z z1 z2 z3
    rw [F_X7_head]
    refine pre_L hI.1 Ch.rf hl (fun q => z1 (fun y => q y.1.1)) (fun q1 => ?_)
    have gb := hB.gr q1.1 (show l < 3 by omega)
    refine ev (rL_2 hV q1.1 (by omega)) ?_
    refine evd (X7_isWithin hm ⟨by omega, by omega⟩) (ev_if (fun q => z1 (fun y => q y.1.2.1)) (fun q2 => ?_))
    refine evd (X7_isWithin hu ⟨by omega, by omega⟩) (ev_if (fun q => z1 (fun y => q y.1.2.2)) (fun q3 => ?_))
    refine evd ((iL q1.1 (by omega)).trans (X0_takesHead hB hV q1.1 (by omega) q2.1 q2.2 q3.1 q3.2)) ?_
    have eq := okH_iff (u := u) hX q1.1 (by omega) q2.1 q2.2
    refine ev_if (fun q => z1 (fun y => q (eq.mpr y.2))) (fun q4 => ?_)
    have ok : ((0 ≤ l ∧ l ≤ ξ 23 1 - 1) ∧ (0 ≤ m ∧ m ≤ ξ 25 l) ∧ (0 ≤ u ∧ u ≤ 9)) ∧ okH ξ l m u 0 := ⟨⟨q1, q2, q3⟩, eq.mp q4⟩
    refine ev rS_0_4 ?_
    refine ev rS_17_5 ?_
    rw [r2]
    refine ev_bEq (by omega) (by omega) (by omega) (by omega) (fun q => ?_) (fun q => z2 ok q)
    refine evd ((iL q1.1 (by omega)).trans (X0_headAt hV q1.1 (by omega) hm)) ?_
    rw [if_pos (show 0 ≤ m ∧ m < 31 by omega), show hd ξ l m = ξ 28 (31 * l + m) from if_pos ⟨by omega, q2.2⟩]
    refine ev (rL_0 hV q1.1 (by omega)) ?_
    refine ev (wHk q1.1 (by omega) q2.1 (by omega)) ?_
    refine ev rS_0_2 ?_
    refine evd (iS_15.trans X6_forget) ?_
    rw [xu_nd (show (15 : Int) ≠ 4 + 2 * l by omega)]
    exact z3 ok q
  have mtop : ∀ (ζ : Int → Int → Int) z, Cf ξ ζ → ζ 23 32 = ξ 23 32 → (¬ (((0 ≤ l ∧ l ≤ ξ 23 1 - 1) ∧ (0 ≤ m ∧ m ≤ ξ 25 l) ∧ (0 ≤ u ∧ u ≤ 9)) ∧ okH ξ l m u 0) → some (-1, S b0 σ ζ) = z) → ((((0 ≤ l ∧ l ≤ ξ 23 1 - 1) ∧ (0 ≤ m ∧ m ≤ ξ 25 l) ∧ (0 ≤ u ∧ u ≤ 9)) ∧ okH ξ l m u 0) → ξ 23 32 ≠ 0 → some (-2, S b0 σ ζ) = z) → ((((0 ≤ l ∧ l ≤ ξ 23 1 - 1) ∧ (0 ≤ m ∧ m ≤ ξ 25 l) ∧ (0 ≤ u ∧ u ≤ 9)) ∧ okH ξ l m u 0) → ξ 23 32 = 0 → some (ξ 28 (31 * l + m), S b0 σ (xu (xu ζ 28 (31 * l + m) u) 23 19 0)) = z) → F_X8_head (b0 + 23) l m u (S b0 σ ζ) = z := by
    intro ζ z cf e32 z1 z2 z3
    rw [F_X8_head]
    refine evd (iS_23.trans (K_isLake hB cf hl)) (ev_if (fun q => z1 (fun y => q y.1.1)) (fun q1 => ?_))
    have gb := hB.gr q1.1 (show l < 3 by omega)
    refine ev rS_23_3 ?_
    refine ev (aS_25 q1.1 (by omega)) ?_
    rw [cf.1 25 (by omega)]
    refine evd (X8_in _ hm ⟨by omega, by omega⟩ ⟨by omega, by omega⟩) (ev_if (fun q => z1 (fun y => q y.1.2.1)) (fun q2 => ?_))
    refine evd (X8_in _ hu ⟨by omega, by omega⟩ ⟨by omega, by omega⟩) (ev_if (fun q => z1 (fun y => q y.1.2.2)) (fun q3 => ?_))
    rcases head_loop (b0 := b0) (σ := σ) hB cf q1.1 (show l < 3 by omega) q2.1 q2.2 q3.1 q3.2 (ξ 25 l + 1).toNat fu 0 (fuN (by omega)) (Int.le_refl _) (by omega) with ⟨p1, f', p2⟩ | ⟨p1, p2⟩
    · have ok : ((0 ≤ l ∧ l ≤ ξ 23 1 - 1) ∧ (0 ≤ m ∧ m ≤ ξ 25 l) ∧ (0 ≤ u ∧ u ≤ 9)) ∧ okH ξ l m u 0 := ⟨⟨q1, q2, q3⟩, p1⟩
      rw [p2, F_X8_head_L37]
      refine ev rS_23_3 ?_
      refine ev (aS_25 q1.1 (by omega)) ?_
      rw [cf.1 25 (by omega)]
      refine ev_bLe (by omega) (by omega) (by omega) (by omega) (fun q => by omega) (fun _ => ?_)
      refine ev rS_23_32 ?_
      rw [e32]
      refine ev_bEq (by omega) (by omega) (by omega) (by omega) (fun q => ?_) (fun q => z2 ok q)
      refine ev rS_23_6 ?_
      refine ev (aS_28 (by omega) (by omega)) ?_
      rw [cf.1 28 (by omega)]
      refine ev rS_23_6 ?_
      refine ev (wS_28 (by omega) (by omega)) ?_
      exact evd (iS_23.trans X8_forget) (z3 ok q)
    · rw [p2]
      exact z1 (fun y => p1 y.2)
  by_cases ok : ((0 ≤ l ∧ l ≤ ξ 23 1 - 1) ∧ (0 ≤ m ∧ m ≤ ξ 25 l) ∧ (0 ≤ u ∧ u ≤ 9)) ∧ okH ξ l m u 0
  · by_cases off : ξ 23 32 = 0
    · have gb := hB.gr ok.1.1.1 (show l < 3 by omega)
      have c1 : Ch (scrh l m) ξ (xu (xu ξ (4 + 2 * l) m u) 15 2 (ξ 15 2 + 1)) := Ch_xu (by unfold scrh; omega) (Ch_xu (by unfold scrh; omega) Ch.rf)
      have ch : Ch (scrh l m) ξ (xu (xu (xu (xu ξ (4 + 2 * l) m u) 15 2 (ξ 15 2 + 1)) 28 (31 * l + m) u) 23 19 0) := Ch_xu (by unfold scrh; omega) (Ch_xu (by unfold scrh; omega) c1)
      have hb := hB.2.2.1 (31 * l + m) (by omega) (by omega)
      have cfc : Cf ξ (xu (xu ξ (4 + 2 * l) m u) 15 2 (ξ 15 2 + 1)) := (Cf.xu (by omega)).trans (Cf.xu (by omega))
      refine ⟨ξ 28 (31 * l + m), σ, _, σ, _, top _ (fun q => absurd ok q) (fun _ q => absurd off q) (fun _ _ => rfl), mtop _ _ cfc (by rw [xu_nd (by omega), xu_nd (by omega)]) (fun q => absurd ok q) (fun _ q => absurd off q) (fun _ _ => rfl), ?_, ⟨by omega, by omega⟩⟩
      have v4 : xu (xu (xu (xu ξ (4 + 2 * l) m u) 15 2 (ξ 15 2 + 1)) 28 (31 * l + m) u) 23 19 0 (4 + 2 * l) m = u := by rw [xu_nd (by omega), xu_nd (by omega), xu_nd (by omega), xu_s]
      have v28 : xu (xu (xu (xu ξ (4 + 2 * l) m u) 15 2 (ξ 15 2 + 1)) 28 (31 * l + m) u) 23 19 0 28 (31 * l + m) = u := by rw [xu_nd (by omega), xu_s]
      have v15 : xu (xu (xu (xu ξ (4 + 2 * l) m u) 15 2 (ξ 15 2 + 1)) 28 (31 * l + m) u) 23 19 0 15 2 = ξ 15 2 + 1 := by rw [xu_nd (by omega), xu_nd (by omega), xu_s]
      have v19 : xu (xu (xu (xu ξ (4 + 2 * l) m u) 15 2 (ξ 15 2 + 1)) 28 (31 * l + m) u) 23 19 0 23 19 = 0 := xu_s
      generalize xu (xu (xu (xu ξ (4 + 2 * l) m u) 15 2 (ξ 15 2 + 1)) 28 (31 * l + m) u) 23 19 0 = ξ' at *
      have o : ∀ d k, ¬ scrh l m d k → ξ' d k = ξ d k := ch
      have f : ∀ d, (d < 3 ∨ 8 < d) → d ≠ 15 → d ≠ 28 → d ≠ 23 → ξ' d = ξ d := fun d a b c e => funext fun k => o d k (by unfold scrh; omega)
      have o23 : ∀ k, k ≠ 19 → ξ' 23 k = ξ 23 k := fun k a => o 23 k (by unfold scrh; omega)
      have hB' : LB ξ' := by
        obtain ⟨b1, b2, b3, b4⟩ := hB
        unfold LB
        rw [o23 1 (by omega), f 24 (by omega) (by omega) (by omega) (by omega), f 25 (by omega) (by omega) (by omega) (by omega), f 26 (by omega) (by omega) (by omega) (by omega), f 27 (by omega) (by omega) (by omega) (by omega), f 29 (by omega) (by omega) (by omega) (by omega), f 41 (by omega) (by omega) (by omega) (by omega), f 42 (by omega) (by omega) (by omega) (by omega)]
        refine ⟨b1, b2, fun i i0 i3 => ?_, b4⟩
        by_cases ei : i = 31 * l + m
        · rw [ei, v28]; exact ok.1.2.2
        · rw [o 28 i (by unfold scrh; omega)]
          exact b3 i i0 i3
      have ez : ZZ ξ' = ZZ ξ := by unfold ZZ; rw [f 25 (by omega) (by omega) (by omega) (by omega)]
      have esd : sd ξ' = sd ξ := by funext i; unfold sd; rw [f 25 (by omega) (by omega) (by omega) (by omega)]
      have hT' : TB ξ' := by
        unfold TB IFB at *
        rw [o23 8 (by omega), o23 9 (by omega), o23 11 (by omega), f 30 (by omega) (by omega) (by omega) (by omega), f 31 (by omega) (by omega) (by omega) (by omega), f 32 (by omega) (by omega) (by omega) (by omega), f 33 (by omega) (by omega) (by omega) (by omega), f 34 (by omega) (by omega) (by omega) (by omega)]
        exact hT
      have hV' : CV ξ' := by
        obtain ⟨a1, a2, a3⟩ := hV
        refine ⟨by rw [f 1 (by omega) (by omega) (by omega) (by omega), o23 1 (by omega)]; exact a1, by rw [f 1 (by omega) (by omega) (by omega) (by omega), ez]; exact a2, fun i i0 i3 => ?_⟩
        obtain ⟨a4, a5⟩ := a3 i i0 i3
        refine ⟨?_, fun y y0 y1 => ?_⟩
        · have ok' : ∀ k, ξ' (3 + 2 * i) k = ξ (3 + 2 * i) k := fun k => o _ k (by unfold scrh; omega)
          rw [ok', ok', ok', ok', ok', ok', ok', ok', esd, o23 1 (by omega), f 24 (by omega) (by omega) (by omega) (by omega), f 25 (by omega) (by omega) (by omega) (by omega), f 26 (by omega) (by omega) (by omega) (by omega), f 27 (by omega) (by omega) (by omega) (by omega), f 29 (by omega) (by omega) (by omega) (by omega), f 41 (by omega) (by omega) (by omega) (by omega), f 42 (by omega) (by omega) (by omega) (by omega)]
          exact a4
        · unfold hd
          rw [f 25 (by omega) (by omega) (by omega) (by omega), o23 1 (by omega)]
          by_cases ei : i = l ∧ y = m
          · obtain ⟨rfl, rfl⟩ := ei
            rw [v4, if_pos (by omega), v28]
          · rw [o (4 + 2 * i) y (by unfold scrh; omega), o 28 (31 * i + y) (by unfold scrh; omega)]
            exact a5 y y0 y1
      have hC' : CR ξ' := by
        unfold CR at hC ⊢
        rw [f 9 (by omega) (by omega) (by omega) (by omega), f 11 (by omega) (by omega) (by omega) (by omega), f 30 (by omega) (by omega) (by omega) (by omega), o23 11 (by omega), o23 8 (by omega), o23 9 (by omega)]
        exact hC
      refine INV_e h off (KI_e hI hB' hT' hV' hC' (f 10 (by omega) (by omega) (by omega) (by omega)) (o23 11 (by omega)) (f 31 (by omega) (by omega) (by omega) (by omega)) (f 32 (by omega) (by omega) (by omega) (by omega)) (f 33 (by omega) (by omega) (by omega) (by omega)) (f 34 (by omega) (by omega) (by omega) (by omega)) (o23 1 (by omega)) ez v15 (by omega)) ?_ ?_ ?_ v19 (f 37 (by omega) (by omega) (by omega) (by omega)) (f 38 (by omega) (by omega) (by omega) (by omega)) (o23 32 (by omega)) (by rw [f 17 (by omega) (by omega) (by omega) (by omega)]) (fun d a b => by rw [f d (by omega) (by omega) (by omega) (by omega)]) (by rw [v15]; omega)
      · obtain ⟨x1, x2, x3, x4⟩ := hX
        unfold XT
        rw [o23 1 (by omega), f 25 (by omega) (by omega) (by omega) (by omega), f 34 (by omega) (by omega) (by omega) (by omega), f 41 (by omega) (by omega) (by omega) (by omega)]
        refine ⟨fun i x y i0 i1 xx xy yy => ?_, x2, x3, x4⟩
        have gi := hB.gr i0 (show i < 3 by omega)
        by_cases ei : i = l
        · subst ei
          by_cases ex : x = m
          · subst ex
            rw [v28]
            by_cases ey : y = x
            · rw [ey, v28]; exact Int.le_refl _
            · rw [o 28 (31 * i + y) (by unfold scrh; omega)]
              exact (ok.2 y (by omega) yy).2 (by omega)
          · rw [o 28 (31 * i + x) (by unfold scrh; omega)]
            by_cases ey : y = m
            · rw [ey, v28]
              exact (ok.2 x (by omega) (by omega)).1 (by omega)
            · rw [o 28 (31 * i + y) (by unfold scrh; omega)]
              exact x1 i x y i0 i1 xx xy yy
        · rw [o 28 (31 * i + x) (by unfold scrh; omega), o 28 (31 * i + y) (by unfold scrh; omega)]
          exact x1 i x y i0 i1 xx xy yy
      · have q := hM.1.2.1
        unfold MB at q ⊢
        rw [o23 1 (by omega), f 25 (by omega) (by omega) (by omega) (by omega), f 35 (by omega) (by omega) (by omega) (by omega)]
        exact q
      · have q := hM.1.2.2.1
        unfold TZ at q ⊢
        rw [o23 1 (by omega), f 36 (by omega) (by omega) (by omega) (by omega)]
        exact q
    · exact Step_s h (by omega) (top _ (fun q => absurd ok q) (fun _ _ => rfl) (fun _ q => absurd q off)) (mtop ξ _ Cf.rfl' rfl (fun q => absurd ok q) (fun _ _ => rfl) (fun _ q => absurd q off)) ⟨by decide, by decide⟩
  · exact Step_s h (by omega) (top _ (fun _ => rfl) (fun q => absurd q ok) (fun q => absurd q ok)) (mtop ξ _ Cf.rfl' rfl (fun _ => rfl) (fun q => absurd q ok) (fun q => absurd q ok)) ⟨by decide, by decide⟩
end P5
