section Q2
variable {b0 : Int} {σ τ σ' : Hp} {ξ ζ η ζc ζm ζ1 ξ' : Int → Int → Int} {a b c i k l m n v j w s L p q le r x t t' mm fr st g e u d N A wt nl ip : Int}
def tR2 (n x : Int) : Int := if 2 < n then x / 10 else x
def tR1 (n x : Int) : Int := if 1 < n then tR2 n x / 10 else tR2 n x
/-- the told digits -/
def tD (n x l : Int) : Int := if l = 2 then (if 2 < n then x % 10 else 0) else if l = 1 then (if 1 < n then tR2 n x % 10 else 0) else (if 0 < n then tR1 n x % 10 else 0)
theorem tD_bd : 0 ≤ tD nl x l ∧ tD nl x l ≤ 9 := by
  unfold tD
  split
  · split <;> omega
  · split
    · split <;> omega
    · split <;> omega
theorem tD_no (n0 : 0 ≤ nl) (l0 : nl ≤ l) (l3 : l < 3) : tD nl x l = 0 := by
  unfold tD
  split
  · rw [if_neg (by omega)]
  · split
    · rw [if_neg (by omega)]
    · rw [if_neg (by omega)]
theorem tell_step {f : Nat} (h1 : ζ 1 1 = nl) (n0 : 0 ≤ nl) (n3 : nl ≤ 3) (o : ob b0 σ ip 11 3) (i0 : 0 ≤ i) (i3 : i < 3) (x0 : 0 ≤ x) (x1 : x < 2147483648) : F_X4_tellIn_L8 (b0 + 1) ip (f + 1) x i (S b0 σ ζ) = F_X4_tellIn_L8 (b0 + 1) ip f (if i < nl then x / 10 else x) (i + (-1)) (S b0 (wr σ ip i (if i < nl then x % 10 else 0)) ζ) := by
  have tx := tq (s := x) (z := 10) x0 (by omega)
  rw [F_X4_tellIn_L8]
  refine ev_bLt (by omega) (by omega) (by omega) (by omega) (fun q => by omega) (fun _ => ?_)
  refine ev rS_1_1 ?_
  rw [h1]
  refine ev_bLt (by omega) (by omega) (by omega) (by omega) (fun q => ?_) (fun q => ?_)
  · rw [if_pos q, if_pos q]
    refine ev_gD (by omega) (by omega) (by omega) (by omega) (by omega) ?_
    rw [F_X4_tellIn_B33]
    refine ev (aw_o o i0 i3 (by omega)) ?_
    refine ev rS_1_1 ?_
    rw [h1]
    refine ev_bLt (by omega) (by omega) (by omega) (by omega) (fun _ => ?_) (fun y => absurd q y)
    refine ev_gD (by omega) (by omega) (by omega) (by omega) (by omega) ?_
    refine evn ?_
    rw [tx.1, tx.2.1]
    rfl
  · rw [if_neg q, if_neg q, F_X4_tellIn_B33]
    refine ev (aw_o o i0 i3 (by omega)) ?_
    refine ev rS_1_1 ?_
    rw [h1]
    exact ev_bLt (by omega) (by omega) (by omega) (by omega) (fun y => absurd y q) (fun _ => rfl)
theorem X4_tellIn (h1 : ζ 1 1 = nl) (n0 : 0 ≤ nl) (n3 : nl ≤ 3) (o : ob b0 σ ip 11 3) (x0 : 0 ≤ x) (x1 : x < 2147483648) : F_X4_tellIn (b0 + 1) x ip (S b0 σ ζ) = some (0, S b0 (wr (wr (wr σ ip 2 (tD nl x 2)) ip 1 (tD nl x 1)) ip 0 (tD nl x 0)) ζ) := by
  have r2 : 0 ≤ tR2 nl x ∧ tR2 nl x < 2147483648 := by unfold tR2; split <;> omega
  have r1 : 0 ≤ tR1 nl x ∧ tR1 nl x < 2147483648 := by unfold tR1; split <;> omega
  obtain ⟨f, hf⟩ := fu4
  rw [F_X4_tellIn]
  refine ev (al_o o (by omega)) ?_
  rw [hf]
  refine Eq.trans (tell_step h1 n0 n3 o (by omega) (by omega) x0 x1) ?_
  show F_X4_tellIn_L8 (b0 + 1) ip (f + 1 + 1 + 1) (tR2 nl x) 1 (S b0 (wr σ ip 2 (tD nl x 2)) ζ) = _
  refine Eq.trans (tell_step h1 n0 n3 (ob_wr o) (by omega) (by omega) r2.1 r2.2) ?_
  show F_X4_tellIn_L8 (b0 + 1) ip (f + 1 + 1) (tR1 nl x) 0 (S b0 (wr (wr σ ip 2 (tD nl x 2)) ip 1 (tD nl x 1)) ζ) = _
  refine Eq.trans (tell_step h1 n0 n3 (ob_wr (ob_wr o)) (by omega) (by omega) r1.1 r1.2) ?_
  rw [F_X4_tellIn_L8]
  exact ev_bLt (by omega) (by omega) (by omega) (by omega) (fun _ => rfl) (fun q => by omega)
def pI (n : Int) : Int := 10 ^ n.toNat
theorem pI_bd (n0 : 0 ≤ nl) (n3 : nl ≤ 3) : 1 ≤ pI nl ∧ pI nl ≤ 1000 := by
  rcases (by omega : nl = 0 ∨ nl = 1 ∨ nl = 2 ∨ nl = 3) with rfl | rfl | rfl | rfl <;> decide
theorem X4_mostIn (h1 : ζ 1 1 = nl) (n0 : 0 ≤ nl) (n3 : nl ≤ 3) : F_X4_mostIn (b0 + 1) (S b0 σ ζ) = some (pI nl - 1, S b0 σ ζ) := by
  have key : ∀ (m f : Nat) (a j : Int), m < f → 0 ≤ j → j + m = nl → F_X4_mostIn_L4 (b0 + 1) f a j (S b0 σ ζ) = some (a * 10 ^ m - 1, S b0 σ ζ) := by
    intro m
    induction m with
    | zero =>
      intro f a j hf j0 he
      obtain ⟨f, rfl⟩ : ∃ g, f = g + 1 := ⟨f - 1, by omega⟩
      rw [F_X4_mostIn_L4]
      refine ev rS_1_1 ?_
      rw [h1]
      exact ev_bLt (by omega) (by omega) (by omega) (by omega) (fun q => by omega) (fun q => ev_end (by simp) rfl)
    | succ m ih =>
      intro f a j hf j0 he
      obtain ⟨f, rfl⟩ : ∃ g, f = g + 1 := ⟨f - 1, by omega⟩
      rw [F_X4_mostIn_L4]
      refine ev rS_1_1 ?_
      rw [h1]
      refine ev_bLt (by omega) (by omega) (by omega) (by omega) (fun q => ?_) (fun q => by omega)
      refine evn ?_
      rw [ih f _ (j + 1) (by omega) (by omega) (by omega), Int.mul_assoc, Int.pow_succ, Int.mul_comm (10 ^ m)]
  rw [F_X4_mostIn, key nl.toNat fu 1 0 (fuN (by omega)) (by omega) (by omega), Int.one_mul]
  rfl
theorem node_head (h1 : ζ 23 1 = nl) (n0 : 0 ≤ nl) (n3 : nl ≤ 3) : ∃ f' : Nat, F_X8_node (b0 + 23) n wt x (S b0 σ ζ) = F_X8_node_L6 (b0 + 23) n wt x (f' + 1) (pI nl) nl (S b0 σ ζ) := by
  have key : ∀ (m f : Nat) (a j : Int), m < f → 0 ≤ j → j + m = nl → ∃ f' : Nat, F_X8_node_L6 (b0 + 23) n wt x f a j (S b0 σ ζ) = F_X8_node_L6 (b0 + 23) n wt x (f' + 1) (a * 10 ^ m) nl (S b0 σ ζ) := by
    intro m
    induction m with
    | zero =>
      intro f a j hf j0 he
      refine ⟨f - 1, ?_⟩
      rw [show f - 1 + 1 = f by omega, show j = nl by omega, Int.pow_zero, Int.mul_one]
    | succ m ih =>
      intro f a j hf j0 he
      obtain ⟨f, rfl⟩ : ∃ g, f = g + 1 := ⟨f - 1, by omega⟩
      obtain ⟨f', e⟩ := ih f (a * 10) (j + 1) (by omega) (by omega) (by omega)
      refine ⟨f', ?_⟩
      rw [Int.mul_assoc, Int.mul_comm 10, ← Int.pow_succ] at e
      refine Eq.trans ?_ e
      rw [F_X8_node_L6]
      refine ev rS_23_1 ?_
      rw [h1]
      refine ev_bLt (by omega) (by omega) (by omega) (by omega) (fun q => ?_) (fun q => by omega)
      exact evn rfl
  obtain ⟨f', e⟩ := key nl.toNat fu 1 0 (fuN (by omega)) (by omega) (by omega)
  rw [Int.one_mul] at e
  exact ⟨f', e⟩
theorem in_step {f : Nat} (N0 : 0 ≤ N) (N81 : N < 81) (l0 : 0 ≤ l) (l3 : l < 3) (x0 : 0 ≤ x) (x1 : x < 2147483648) : F_X8_node_L161 (b0 + 23) N (f + 1) x l (S b0 σ ζ) = F_X8_node_L161 (b0 + 23) N f (x / 10) (l + (-1)) (S b0 σ (xu ζ 34 (3 * N + l) (x % 10))) := by
  have tx := tq (s := x) (z := 10) x0 (by omega)
  rw [F_X8_node_L161]
  refine ev_bLt (by omega) (by omega) (by omega) (by omega) (fun q => by omega) (fun _ => ?_)
  refine ev rS_23_15 ?_
  refine ev_gD (by omega) (by omega) (by omega) (by omega) (by omega) ?_
  refine ev (wS_34 (by omega) (by omega)) ?_
  refine ev_gD (by omega) (by omega) (by omega) (by omega) (by omega) ?_
  refine evn ?_
  rw [tx.1, tx.2.1]
theorem in_end {f : Nat} : F_X8_node_L161 (b0 + 23) N (f + 1) x (-1) (S b0 σ ζ) = some (N, S b0 σ (xu (xu ζ 23 11 (ζ 23 11 + 1)) 23 19 0)) := by
  rw [F_X8_node_L161]
  refine ev_bLt (by omega) (by omega) (by omega) (by omega) (fun _ => ?_) (fun q => by omega)
  refine ev rS_23_11 ?_
  refine ev pS_23_11 ?_
  exact evd (iS_23.trans X8_forget) rfl
theorem node_in (n0 : 0 ≤ nl) (n3 : nl ≤ 3) (N0 : 0 ≤ N) (N81 : N < 81) (x0 : 0 ≤ x) (x1 : x < 2147483648) : ∃ ζ', F_X8_node_L161 (b0 + 23) N fu x (nl - 1) (S b0 σ ζ) = some (N, S b0 σ ζ') ∧ (∀ d k, ¬ ((d = 34 ∧ 3 * N ≤ k ∧ k < 3 * N + nl) ∨ (d = 23 ∧ (k = 11 ∨ k = 19))) → ζ' d k = ζ d k) ∧ ζ' 23 11 = ζ 23 11 + 1 ∧ ζ' 23 19 = 0 ∧ ∀ l, 0 ≤ l → l < nl → ζ' 34 (3 * N + l) = tD nl x l := by
  obtain ⟨f, hf⟩ := fu4
  have xx : ∀ (η : Int → Int → Int) (d' k' v d k : Int), ¬ (d = d' ∧ k = k') → xu η d' k' v d k = η d k := fun η d' k' v d k y => if_neg y
  rw [hf]
  rcases (by omega : nl = 0 ∨ nl = 1 ∨ nl = 2 ∨ nl = 3) with rfl | rfl | rfl | rfl
  · refine ⟨_, in_end, fun d k q => by rw [xx _ _ _ _ _ _ (by omega), xx _ _ _ _ _ _ (by omega)], by rw [xu_ni (by omega), xu_s], xu_s, fun l a b => by omega⟩
  · refine ⟨_, (in_step N0 N81 (l := 0) (by omega) (by omega) x0 x1).trans in_end, fun d k q => by rw [xx _ _ _ _ _ _ (by omega), xx _ _ _ _ _ _ (by omega), xx _ _ _ _ _ _ (by omega)], by rw [xu_ni (by omega), xu_s, xu_nd (by omega)], xu_s, fun l a b => ?_⟩
    have : l = 0 := by omega
    subst this
    rw [xu_nd (by omega), xu_nd (by omega), xu_s]
    rfl
  · refine ⟨_, (in_step N0 N81 (l := 1) (by omega) (by omega) x0 x1).trans ((in_step N0 N81 (l := 0) (by omega) (by omega) (by omega) (by omega)).trans in_end), fun d k q => by rw [xx _ _ _ _ _ _ (by omega), xx _ _ _ _ _ _ (by omega), xx _ _ _ _ _ _ (by omega), xx _ _ _ _ _ _ (by omega)], by rw [xu_ni (by omega), xu_s, xu_nd (by omega), xu_nd (by omega)], xu_s, fun l a b => ?_⟩
    rcases (by omega : l = 0 ∨ l = 1) with rfl | rfl
    · rw [xu_nd (by omega), xu_nd (by omega), xu_s]
      rfl
    · rw [xu_nd (by omega), xu_nd (by omega), xu_ni (by omega), xu_s]
      rfl
  · refine ⟨_, (in_step N0 N81 (l := 2) (by omega) (by omega) x0 x1).trans ((in_step N0 N81 (l := 1) (by omega) (by omega) (by omega) (by omega)).trans ((in_step N0 N81 (l := 0) (by omega) (by omega) (by omega) (by omega)).trans in_end)), fun d k q => by rw [xx _ _ _ _ _ _ (by omega), xx _ _ _ _ _ _ (by omega), xx _ _ _ _ _ _ (by omega), xx _ _ _ _ _ _ (by omega), xx _ _ _ _ _ _ (by omega)], by rw [xu_ni (by omega), xu_s, xu_nd (by omega), xu_nd (by omega), xu_nd (by omega)], xu_s, fun l a b => ?_⟩
    rcases (by omega : l = 0 ∨ l = 1 ∨ l = 2) with rfl | rfl | rfl
    · rw [xu_nd (by omega), xu_nd (by omega), xu_s]
      rfl
    · rw [xu_nd (by omega), xu_nd (by omega), xu_ni (by omega), xu_s]
      rfl
    · rw [xu_nd (by omega), xu_nd (by omega), xu_ni (by omega), xu_ni (by omega), xu_s]
      rfl
end Q2
