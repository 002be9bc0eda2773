section R5
variable {b0 : Int} {σ : Hp} {ξ : Int → Int → Int} {j L t : Int} {jxs : Int → Int}
theorem sr_at (h0 : 0 ≤ j) (h1 : j < L) : sr jxs L j = some (jxs j) := if_pos ⟨h0, h1⟩
theorem R3_andI {a b : Int} : R3 (andI a b) := ⟨Int32.le_toInt _, Int32.toInt_lt _⟩
theorem R6_orL {a b : Int} : R6 (orL a b) := ⟨Int64.le_toInt _, Int64.toInt_lt _⟩
/-- the rest of the law comes out well -/
def Fin (b0 : Int) (X : Option (Int × Hp)) : Prop := ∃ σE : Hp, X = some (1, σE) ∧ (σE.1 : Int) ≤ b0 + 600000 ∧ σE.2.1 ≤ 7302250

theorem RM_end (h : INV b0 ξ σ t) : ((S b0 σ ξ).1 : Int) ≤ b0 + 600000 ∧ (S b0 σ ξ).2.1 ≤ 7302250 := by
  obtain ⟨cn, r1, r2, r3⟩ := h.1.2.2
  have nl := h.1.1.1.1
  have s1 := sf_bd (f := liv ξ) (M := 1) 81 0 (fun i a b => by unfold liv; split <;> omega)
  have s2 := sf_bd (f := cn) (M := 3) 81 0 (fun i a b => by have := (r1 i a (by omega)).1; omega)
  have e1 : (S b0 σ ξ).1 = σ.1 := rfl
  have e2 : (S b0 σ ξ).2.1 = σ.2.1 := rfl
  rw [e1, e2]
  omega

theorem L_lake (h : INV b0 ξ σ (1 + j)) (j0 : 0 ≤ j) (j1 : j + 5 ≤ L) (hL : L ≤ 2560) (hx : ∀ j, R3 (jxs j)) {k18 : Int → Hp → Option (Int × Hp)} (ih : ∀ σ ξ, INV b0 ξ σ (1 + (j + 5)) → Fin b0 (k18 (j + 5) (S b0 σ ξ))) : Fin b0 (F_L_law_B148 jxs L k18 b0 (b0 + 23) j (S b0 σ ξ)) := by
  have ht : 1 + j + 1 ≤ 1 + (j + 5) := by omega
  obtain ⟨r, σ1, ζ1, σ2, ζ2, e1, e2, e3, e4⟩ := T_lake h ht (by omega) (hx _) (hx _) (hx _) (hx _)
  obtain ⟨σE, q1, q2⟩ := ih σ2 ζ2 e3
  refine ⟨σE, ?_, q2⟩
  rw [F_L_law_B148]
  refine ev (sr_at (by omega) (by omega)) ?_
  refine ev (sr_at (by omega) (by omega)) ?_
  refine ev (sr_at (by omega) (by omega)) ?_
  refine ev (sr_at (by omega) (by omega)) ?_
  refine evd (iS_0.trans e1) ?_
  refine ev (sr_at (by omega) (by omega)) ?_
  refine ev (sr_at (by omega) (by omega)) ?_
  refine ev (sr_at (by omega) (by omega)) ?_
  refine ev (sr_at (by omega) (by omega)) ?_
  refine evd (iS_23.trans e2) ?_
  exact ev_bEq e4.1 e4.2 e4.1 e4.2 (fun _ => q1) (fun y => absurd rfl y)
theorem L_head (h : INV b0 ξ σ (1 + j)) (j0 : 0 ≤ j) (j1 : j + 5 ≤ L) (hL : L ≤ 2560) (hx : ∀ j, R3 (jxs j)) {k18 : Int → Hp → Option (Int × Hp)} (ih : ∀ σ ξ, INV b0 ξ σ (1 + (j + 5)) → Fin b0 (k18 (j + 5) (S b0 σ ξ))) : Fin b0 (F_L_law_B201 jxs L k18 b0 (b0 + 23) j (S b0 σ ξ)) := by
  have ht : 1 + j + 1 ≤ 1 + (j + 5) := by omega
  obtain ⟨r, σ1, ζ1, σ2, ζ2, e1, e2, e3, e4⟩ := T_head h ht (by omega) (hx _) (hx _) (hx _)
  obtain ⟨σE, q1, q2⟩ := ih σ2 ζ2 e3
  refine ⟨σE, ?_, q2⟩
  rw [F_L_law_B201]
  refine ev (sr_at (by omega) (by omega)) ?_
  refine ev (sr_at (by omega) (by omega)) ?_
  refine ev (sr_at (by omega) (by omega)) ?_
  refine evd (iS_0.trans e1) ?_
  refine ev (sr_at (by omega) (by omega)) ?_
  refine ev (sr_at (by omega) (by omega)) ?_
  refine ev (sr_at (by omega) (by omega)) ?_
  refine evd (iS_23.trans e2) ?_
  exact ev_bEq e4.1 e4.2 e4.1 e4.2 (fun _ => q1) (fun y => absurd rfl y)
theorem L_end (h : INV b0 ξ σ (1 + j)) (j0 : 0 ≤ j) (j1 : j + 5 ≤ L) (hL : L ≤ 2560) (hx : ∀ j, R3 (jxs j)) {k18 : Int → Hp → Option (Int × Hp)} (ih : ∀ σ ξ, INV b0 ξ σ (1 + (j + 5)) → Fin b0 (k18 (j + 5) (S b0 σ ξ))) : Fin b0 (F_L_law_B244 jxs L k18 b0 (b0 + 23) j (S b0 σ ξ)) := by
  have ht : 1 + j + 1 ≤ 1 + (j + 5) := by omega
  obtain ⟨r, σ1, ζ1, σ2, ζ2, e1, e2, e3, e4⟩ := T_end h ht (by omega) (hx _) (hx _)
  obtain ⟨σE, q1, q2⟩ := ih σ2 ζ2 e3
  refine ⟨σE, ?_, q2⟩
  rw [F_L_law_B244]
  refine ev (sr_at (by omega) (by omega)) ?_
  refine ev (sr_at (by omega) (by omega)) ?_
  refine evd (iS_0.trans e1) ?_
  refine ev (sr_at (by omega) (by omega)) ?_
  refine ev (sr_at (by omega) (by omega)) ?_
  refine evd (iS_23.trans e2) ?_
  exact ev_bEq e4.1 e4.2 e4.1 e4.2 (fun _ => q1) (fun y => absurd rfl y)
theorem L_weeks (h : INV b0 ξ σ (1 + j)) (j0 : 0 ≤ j) (j1 : j + 5 ≤ L) (hL : L ≤ 2560) (hx : ∀ j, R3 (jxs j)) {k18 : Int → Hp → Option (Int × Hp)} (ih : ∀ σ ξ, INV b0 ξ σ (1 + (j + 5)) → Fin b0 (k18 (j + 5) (S b0 σ ξ))) : Fin b0 (F_L_law_B277 jxs L k18 b0 (b0 + 23) j (S b0 σ ξ)) := by
  have ht : 1 + j + 1 ≤ 1 + (j + 5) := by omega
  obtain ⟨r, σ1, ζ1, σ2, ζ2, e1, e2, e3, e4⟩ := T_weeks h ht (by omega) (hx _) (hx _)
  obtain ⟨σE, q1, q2⟩ := ih σ2 ζ2 e3
  refine ⟨σE, ?_, q2⟩
  rw [F_L_law_B277]
  refine ev (sr_at (by omega) (by omega)) ?_
  refine ev (sr_at (by omega) (by omega)) ?_
  refine evd (iS_0.trans e1) ?_
  refine ev (sr_at (by omega) (by omega)) ?_
  refine ev (sr_at (by omega) (by omega)) ?_
  refine evd (iS_23.trans e2) ?_
  exact ev_bEq e4.1 e4.2 e4.1 e4.2 (fun _ => q1) (fun y => absurd rfl y)
theorem L_price (h : INV b0 ξ σ (1 + j)) (j0 : 0 ≤ j) (j1 : j + 5 ≤ L) (hL : L ≤ 2560) (hx : ∀ j, R3 (jxs j)) {k18 : Int → Hp → Option (Int × Hp)} (ih : ∀ σ ξ, INV b0 ξ σ (1 + (j + 5)) → Fin b0 (k18 (j + 5) (S b0 σ ξ))) : Fin b0 (F_L_law_B310 jxs L k18 b0 (b0 + 23) j (S b0 σ ξ)) := by
  have ht : 1 + j + 1 ≤ 1 + (j + 5) := by omega
  obtain ⟨r, σ1, ζ1, σ2, ζ2, e1, e2, e3, e4⟩ := T_price h ht (by omega) (hx _) (hx _)
  obtain ⟨σE, q1, q2⟩ := ih σ2 ζ2 e3
  refine ⟨σE, ?_, q2⟩
  rw [F_L_law_B310]
  refine ev (sr_at (by omega) (by omega)) ?_
  refine ev (sr_at (by omega) (by omega)) ?_
  refine evd (iS_0.trans e1) ?_
  refine ev (sr_at (by omega) (by omega)) ?_
  refine ev (sr_at (by omega) (by omega)) ?_
  refine evd (iS_23.trans e2) ?_
  exact ev_bEq e4.1 e4.2 e4.1 e4.2 (fun _ => q1) (fun y => absurd rfl y)
theorem L_node (h : INV b0 ξ σ (1 + j)) (j0 : 0 ≤ j) (j1 : j + 5 ≤ L) (hL : L ≤ 2560) (hx : ∀ j, R3 (jxs j)) {k18 : Int → Hp → Option (Int × Hp)} (ih : ∀ σ ξ, INV b0 ξ σ (1 + (j + 5)) → Fin b0 (k18 (j + 5) (S b0 σ ξ))) : Fin b0 (F_L_law_B343 jxs L k18 b0 (b0 + 23) j (S b0 σ ξ)) := by
  have ht : 1 + j + 1 ≤ 1 + (j + 5) := by omega
  obtain ⟨r, σ1, ζ1, σ2, ζ2, e1, e2, e3, e4⟩ := T_node h ht (by omega) (hx _) (hx _) (hx _)
  obtain ⟨σE, q1, q2⟩ := ih σ2 ζ2 e3
  refine ⟨σE, ?_, q2⟩
  rw [F_L_law_B343]
  refine ev (sr_at (by omega) (by omega)) ?_
  refine ev (sr_at (by omega) (by omega)) ?_
  refine ev (sr_at (by omega) (by omega)) ?_
  refine evd (iS_0.trans e1) ?_
  refine ev (sr_at (by omega) (by omega)) ?_
  refine ev (sr_at (by omega) (by omega)) ?_
  refine ev (sr_at (by omega) (by omega)) ?_
  refine evd (iS_23.trans e2) ?_
  exact ev_bEq e4.1 e4.2 e4.1 e4.2 (fun _ => q1) (fun y => absurd rfl y)
theorem L_about (h : INV b0 ξ σ (1 + j)) (j0 : 0 ≤ j) (j1 : j + 5 ≤ L) (hL : L ≤ 2560) (hx : ∀ j, R3 (jxs j)) {k18 : Int → Hp → Option (Int × Hp)} (ih : ∀ σ ξ, INV b0 ξ σ (1 + (j + 5)) → Fin b0 (k18 (j + 5) (S b0 σ ξ))) : Fin b0 (F_L_law_B386 jxs L k18 b0 (b0 + 23) j (S b0 σ ξ)) := by
  have ht : 1 + j ≤ 1 + (j + 5) := by omega
  obtain ⟨r, σ1, ζ1, σ2, ζ2, e1, e2, e3, e4⟩ := T_about h ht (hx _) (hx _)
  obtain ⟨σE, q1, q2⟩ := ih σ2 ζ2 e3
  refine ⟨σE, ?_, q2⟩
  rw [F_L_law_B386]
  refine ev (sr_at (by omega) (by omega)) ?_
  refine ev (sr_at (by omega) (by omega)) ?_
  refine evd (iS_0.trans e1) ?_
  refine ev (sr_at (by omega) (by omega)) ?_
  refine ev (sr_at (by omega) (by omega)) ?_
  refine evd (iS_23.trans e2) ?_
  exact ev_bEq e4.1 e4.2 e4.1 e4.2 (fun _ => q1) (fun y => absurd rfl y)
theorem L_count (h : INV b0 ξ σ (1 + j)) (j0 : 0 ≤ j) (j1 : j + 5 ≤ L) (hL : L ≤ 2560) (hx : ∀ j, R3 (jxs j)) {k18 : Int → Hp → Option (Int × Hp)} (ih : ∀ σ ξ, INV b0 ξ σ (1 + (j + 5)) → Fin b0 (k18 (j + 5) (S b0 σ ξ))) : Fin b0 (F_L_law_B419 jxs L k18 b0 (b0 + 23) j (S b0 σ ξ)) := by
  have ht : 1 + j ≤ 1 + (j + 5) := by omega
  obtain ⟨r, σ1, ζ1, σ2, ζ2, e1, e2, e3, e4⟩ := T_count h ht (hx _)
  obtain ⟨σE, q1, q2⟩ := ih σ2 ζ2 e3
  refine ⟨σE, ?_, q2⟩
  rw [F_L_law_B419]
  refine ev (sr_at (by omega) (by omega)) ?_
  refine evd (iS_0.trans e1) ?_
  refine ev (sr_at (by omega) (by omega)) ?_
  refine evd (iS_23.trans e2) ?_
  exact ev_bEq e4.1 e4.2 e4.1 e4.2 (fun _ => q1) (fun y => absurd rfl y)
theorem L_worth (h : INV b0 ξ σ (1 + j)) (j0 : 0 ≤ j) (j1 : j + 5 ≤ L) (hL : L ≤ 2560) (hx : ∀ j, R3 (jxs j)) {k18 : Int → Hp → Option (Int × Hp)} (ih : ∀ σ ξ, INV b0 ξ σ (1 + (j + 5)) → Fin b0 (k18 (j + 5) (S b0 σ ξ))) : Fin b0 (F_L_law_B442 jxs L k18 b0 (b0 + 23) j (S b0 σ ξ)) := by
  have ht : 1 + j ≤ 1 + (j + 5) := by omega
  obtain ⟨r, σ1, ζ1, σ2, ζ2, e1, e2, e3, e4⟩ := T_worth h ht (hx _) (hx _)
  obtain ⟨σE, q1, q2⟩ := ih σ2 ζ2 e3
  refine ⟨σE, ?_, q2⟩
  rw [F_L_law_B442]
  refine ev (sr_at (by omega) (by omega)) ?_
  refine ev (sr_at (by omega) (by omega)) ?_
  refine evd (iS_0.trans e1) ?_
  refine ev (sr_at (by omega) (by omega)) ?_
  refine ev (sr_at (by omega) (by omega)) ?_
  refine evd (iS_23.trans e2) ?_
  refine ev_g66 e4.1 e4.2 e4.1 e4.2 ?_
  exact cmpL_eq (fun _ => q1) (fun y => absurd rfl y)
theorem L_policy (h : INV b0 ξ σ (1 + j)) (j0 : 0 ≤ j) (j1 : j + 5 ≤ L) (hL : L ≤ 2560) (hx : ∀ j, R3 (jxs j)) {k18 : Int → Hp → Option (Int × Hp)} (ih : ∀ σ ξ, INV b0 ξ σ (1 + (j + 5)) → Fin b0 (k18 (j + 5) (S b0 σ ξ))) : Fin b0 (F_L_law_B476 jxs L k18 b0 (b0 + 23) j (S b0 σ ξ)) := by
  have ht : 1 + j ≤ 1 + (j + 5) := by omega
  obtain ⟨r, σ1, ζ1, σ2, ζ2, e1, e2, e3, e4⟩ := T_policy h ht (hx _) (hx _) (hx _)
  obtain ⟨σE, q1, q2⟩ := ih σ2 ζ2 e3
  refine ⟨σE, ?_, q2⟩
  rw [F_L_law_B476]
  refine ev (sr_at (by omega) (by omega)) ?_
  refine ev (sr_at (by omega) (by omega)) ?_
  refine ev (sr_at (by omega) (by omega)) ?_
  refine evd (iS_0.trans e1) ?_
  refine ev (sr_at (by omega) (by omega)) ?_
  refine ev (sr_at (by omega) (by omega)) ?_
  refine ev (sr_at (by omega) (by omega)) ?_
  refine evd (iS_23.trans e2) ?_
  exact ev_bEq e4.1 e4.2 e4.1 e4.2 (fun _ => q1) (fun y => absurd rfl y)
theorem L_water (h : INV b0 ξ σ (1 + j)) (j0 : 0 ≤ j) (j1 : j + 5 ≤ L) (hL : L ≤ 2560) (hx : ∀ j, R3 (jxs j)) {k18 : Int → Hp → Option (Int × Hp)} (ih : ∀ σ ξ, INV b0 ξ σ (1 + (j + 5)) → Fin b0 (k18 (j + 5) (S b0 σ ξ))) : Fin b0 (F_L_law_B519 jxs L k18 b0 (b0 + 23) j (S b0 σ ξ)) := by
  have ht : 1 + j ≤ 1 + (j + 5) := by omega
  obtain ⟨r, σ1, ζ1, σ2, ζ2, e1, e2, e3, e4⟩ := T_water h ht (hx _) (hx _) (hx _)
  obtain ⟨σE, q1, q2⟩ := ih σ2 ζ2 e3
  refine ⟨σE, ?_, q2⟩
  rw [F_L_law_B519]
  refine ev (sr_at (by omega) (by omega)) ?_
  refine ev (sr_at (by omega) (by omega)) ?_
  refine ev (sr_at (by omega) (by omega)) ?_
  refine evd (iS_0.trans e1) ?_
  refine ev (sr_at (by omega) (by omega)) ?_
  refine ev (sr_at (by omega) (by omega)) ?_
  refine ev (sr_at (by omega) (by omega)) ?_
  refine evd (iS_23.trans e2) ?_
  refine ev_g66 e4.1 e4.2 e4.1 e4.2 ?_
  exact cmpL_eq (fun _ => q1) (fun y => absurd rfl y)
theorem L_needs (h : INV b0 ξ σ (1 + j)) (j0 : 0 ≤ j) (j1 : j + 5 ≤ L) (hL : L ≤ 2560) (hx : ∀ j, R3 (jxs j)) {k18 : Int → Hp → Option (Int × Hp)} (ih : ∀ σ ξ, INV b0 ξ σ (1 + (j + 5)) → Fin b0 (k18 (j + 5) (S b0 σ ξ))) : Fin b0 (F_L_law_B563 jxs L k18 b0 (b0 + 23) j (S b0 σ ξ)) := by
  have ht : 1 + j ≤ 1 + (j + 5) := by omega
  obtain ⟨r, σ1, ζ1, σ2, ζ2, e1, e2, e3, e4⟩ := T_needs h ht (hx _) R6_orL
  obtain ⟨σE, q1, q2⟩ := ih σ2 ζ2 e3
  refine ⟨σE, ?_, q2⟩
  rw [F_L_law_B563]
  refine ev (sr_at (by omega) (by omega)) ?_
  refine ev (sr_at (by omega) (by omega)) ?_
  refine ev_g3 (hx _).1 (hx _).2 ?_
  refine ev (sr_at (by omega) (by omega)) ?_
  refine ev_g3 (hx _).1 (hx _).2 ?_
  refine evd (iS_0.trans e1) ?_
  refine ev (sr_at (by omega) (by omega)) ?_
  refine ev (sr_at (by omega) (by omega)) ?_
  refine ev_g3 (hx _).1 (hx _).2 ?_
  refine ev (sr_at (by omega) (by omega)) ?_
  refine ev_g3 (hx _).1 (hx _).2 ?_
  refine evd (iS_23.trans e2) ?_
  exact ev_bEq e4.1 e4.2 e4.1 e4.2 (fun _ => q1) (fun y => absurd rfl y)
theorem L_rule (h : INV b0 ξ σ (1 + j)) (j0 : 0 ≤ j) (j1 : j + 5 ≤ L) (hL : L ≤ 2560) (hx : ∀ j, R3 (jxs j)) {k18 : Int → Hp → Option (Int × Hp)} (ih : ∀ σ ξ, INV b0 ξ σ (1 + (j + 5)) → Fin b0 (k18 (j + 5) (S b0 σ ξ))) : Fin b0 (F_L_law_B626 jxs L k18 b0 (b0 + 23) j (S b0 σ ξ)) := by
  have ht : 1 + j ≤ 1 + (j + 5) := by omega
  obtain ⟨r, σ1, ζ1, σ2, ζ2, e1, e2, e3, e4⟩ := T_rule h ht (hx _) (hx _) (hx _)
  obtain ⟨σE, q1, q2⟩ := ih σ2 ζ2 e3
  refine ⟨σE, ?_, q2⟩
  rw [F_L_law_B626]
  refine ev (sr_at (by omega) (by omega)) ?_
  refine ev (sr_at (by omega) (by omega)) ?_
  refine ev (sr_at (by omega) (by omega)) ?_
  refine evd (iS_0.trans e1) ?_
  refine ev (sr_at (by omega) (by omega)) ?_
  refine ev (sr_at (by omega) (by omega)) ?_
  refine ev (sr_at (by omega) (by omega)) ?_
  refine evd (iS_23.trans e2) ?_
  exact ev_bEq e4.1 e4.2 e4.1 e4.2 (fun _ => q1) (fun y => absurd rfl y)
theorem L_mean (h : INV b0 ξ σ (1 + j)) (j0 : 0 ≤ j) (j1 : j + 5 ≤ L) (hL : L ≤ 2560) (hx : ∀ j, R3 (jxs j)) {k18 : Int → Hp → Option (Int × Hp)} (ih : ∀ σ ξ, INV b0 ξ σ (1 + (j + 5)) → Fin b0 (k18 (j + 5) (S b0 σ ξ))) : Fin b0 (F_L_law_B669 jxs L k18 b0 (b0 + 23) j (S b0 σ ξ)) := by
  have ht : 1 + j ≤ 1 + (j + 5) := by omega
  obtain ⟨r, σ1, ζ1, σ2, ζ2, e1, e2, e3, e4⟩ := T_mean h ht (hx _) (hx _)
  obtain ⟨σE, q1, q2⟩ := ih σ2 ζ2 e3
  refine ⟨σE, ?_, q2⟩
  rw [F_L_law_B669]
  refine ev (sr_at (by omega) (by omega)) ?_
  refine ev (sr_at (by omega) (by omega)) ?_
  refine evd (iS_0.trans e1) ?_
  refine ev (sr_at (by omega) (by omega)) ?_
  refine ev (sr_at (by omega) (by omega)) ?_
  refine evd (iS_23.trans e2) ?_
  refine ev_g66 e4.1 e4.2 e4.1 e4.2 ?_
  exact cmpL_eq (fun _ => q1) (fun y => absurd rfl y)
theorem L_worst (h : INV b0 ξ σ (1 + j)) (j0 : 0 ≤ j) (j1 : j + 5 ≤ L) (hL : L ≤ 2560) (hx : ∀ j, R3 (jxs j)) {k18 : Int → Hp → Option (Int × Hp)} (ih : ∀ σ ξ, INV b0 ξ σ (1 + (j + 5)) → Fin b0 (k18 (j + 5) (S b0 σ ξ))) : Fin b0 (F_L_law_B703 jxs L k18 b0 (b0 + 23) j (S b0 σ ξ)) := by
  have ht : 1 + j ≤ 1 + (j + 5) := by omega
  obtain ⟨r, σ1, ζ1, σ2, ζ2, e1, e2, e3, e4⟩ := T_worst h ht (hx _) (hx _)
  obtain ⟨σE, q1, q2⟩ := ih σ2 ζ2 e3
  refine ⟨σE, ?_, q2⟩
  rw [F_L_law_B703]
  refine ev (sr_at (by omega) (by omega)) ?_
  refine ev (sr_at (by omega) (by omega)) ?_
  refine evd (iS_0.trans e1) ?_
  refine ev (sr_at (by omega) (by omega)) ?_
  refine ev (sr_at (by omega) (by omega)) ?_
  refine evd (iS_23.trans e2) ?_
  refine ev_g66 e4.1 e4.2 e4.1 e4.2 ?_
  exact cmpL_eq (fun _ => q1) (fun y => absurd rfl y)
theorem L_lack (h : INV b0 ξ σ (1 + j)) (j0 : 0 ≤ j) (j1 : j + 5 ≤ L) (hL : L ≤ 2560) (hx : ∀ j, R3 (jxs j)) {k18 : Int → Hp → Option (Int × Hp)} (ih : ∀ σ ξ, INV b0 ξ σ (1 + (j + 5)) → Fin b0 (k18 (j + 5) (S b0 σ ξ))) : Fin b0 (F_L_law_B737 jxs L k18 b0 (b0 + 23) j (S b0 σ ξ)) := by
  have ht : 1 + j ≤ 1 + (j + 5) := by omega
  obtain ⟨r, σ1, ζ1, σ2, ζ2, e1, e2, e3, e4⟩ := T_lack h ht (hx _) (hx _)
  obtain ⟨σE, q1, q2⟩ := ih σ2 ζ2 e3
  refine ⟨σE, ?_, q2⟩
  rw [F_L_law_B737]
  refine ev (sr_at (by omega) (by omega)) ?_
  refine ev (sr_at (by omega) (by omega)) ?_
  refine evd (iS_0.trans e1) ?_
  refine ev (sr_at (by omega) (by omega)) ?_
  refine ev (sr_at (by omega) (by omega)) ?_
  refine evd (iS_23.trans e2) ?_
  exact ev_bEq e4.1 e4.2 e4.1 e4.2 (fun _ => q1) (fun y => absurd rfl y)
theorem L_flood (h : INV b0 ξ σ (1 + j)) (j0 : 0 ≤ j) (j1 : j + 5 ≤ L) (hL : L ≤ 2560) (hx : ∀ j, R3 (jxs j)) {k18 : Int → Hp → Option (Int × Hp)} (ih : ∀ σ ξ, INV b0 ξ σ (1 + (j + 5)) → Fin b0 (k18 (j + 5) (S b0 σ ξ))) : Fin b0 (F_L_law_B770 jxs L k18 b0 (b0 + 23) j (S b0 σ ξ)) := by
  have ht : 1 + j ≤ 1 + (j + 5) := by omega
  obtain ⟨r, σ1, ζ1, σ2, ζ2, e1, e2, e3, e4⟩ := T_flood h ht (hx _) (hx _) (hx _) (hx _)
  obtain ⟨σE, q1, q2⟩ := ih σ2 ζ2 e3
  refine ⟨σE, ?_, q2⟩
  rw [F_L_law_B770]
  refine ev (sr_at (by omega) (by omega)) ?_
  refine ev (sr_at (by omega) (by omega)) ?_
  refine ev (sr_at (by omega) (by omega)) ?_
  refine ev (sr_at (by omega) (by omega)) ?_
  refine evd (iS_0.trans e1) ?_
  refine ev (sr_at (by omega) (by omega)) ?_
  refine ev (sr_at (by omega) (by omega)) ?_
  refine ev (sr_at (by omega) (by omega)) ?_
  refine ev (sr_at (by omega) (by omega)) ?_
  refine evd (iS_23.trans e2) ?_
  exact ev_bEq e4.1 e4.2 e4.1 e4.2 (fun _ => q1) (fun y => absurd rfl y)
theorem L_cases (h : INV b0 ξ σ (1 + j)) (j0 : 0 ≤ j) (j1 : j + 5 ≤ L) (hL : L ≤ 2560) (hx : ∀ j, R3 (jxs j)) {k18 : Int → Hp → Option (Int × Hp)} (ih : ∀ σ ξ, INV b0 ξ σ (1 + (j + 5)) → Fin b0 (k18 (j + 5) (S b0 σ ξ))) : Fin b0 (F_L_law_B823 jxs L k18 b0 (b0 + 23) j (S b0 σ ξ)) := by
  have ht : 1 + j ≤ 1 + (j + 5) := by omega
  obtain ⟨r, σ1, ζ1, σ2, ζ2, e1, e2, e3, e4⟩ := T_cases h ht (hx _)
  obtain ⟨σE, q1, q2⟩ := ih σ2 ζ2 e3
  refine ⟨σE, ?_, q2⟩
  rw [F_L_law_B823]
  refine ev (sr_at (by omega) (by omega)) ?_
  refine evd (iS_0.trans e1) ?_
  refine ev (sr_at (by omega) (by omega)) ?_
  refine evd (iS_23.trans e2) ?_
  exact ev_bEq e4.1 e4.2 e4.1 e4.2 (fun _ => q1) (fun y => absurd rfl y)
theorem L_begin (h : INV b0 ξ σ (1 + j)) (j0 : 0 ≤ j) (j1 : j + 5 ≤ L) (hL : L ≤ 2560) (hx : ∀ j, R3 (jxs j)) {k18 : Int → Hp → Option (Int × Hp)} (ih : ∀ σ ξ, INV b0 ξ σ (1 + (j + 5)) → Fin b0 (k18 (j + 5) (S b0 σ ξ))) : Fin b0 (F_L_law_B846 jxs L k18 b0 (b0 + 23) j (S b0 σ ξ)) := by
  have ht : 1 + j ≤ 1 + (j + 5) := by omega
  obtain ⟨r, σ1, ζ1, σ2, ζ2, e1, e2, e3, e4⟩ := T_begin h ht (hx _)
  obtain ⟨σE, q1, q2⟩ := ih σ2 ζ2 e3
  refine ⟨σE, ?_, q2⟩
  rw [F_L_law_B846]
  refine ev (sr_at (by omega) (by omega)) ?_
  refine evd (iS_0.trans e1) ?_
  refine ev (sr_at (by omega) (by omega)) ?_
  refine evd (iS_23.trans e2) ?_
  exact ev_bEq e4.1 e4.2 e4.1 e4.2 (fun _ => q1) (fun y => absurd rfl y)
theorem L_week (h : INV b0 ξ σ (1 + j)) (j0 : 0 ≤ j) (j1 : j + 5 ≤ L) (hL : L ≤ 2560) (hx : ∀ j, R3 (jxs j)) {k18 : Int → Hp → Option (Int × Hp)} (ih : ∀ σ ξ, INV b0 ξ σ (1 + (j + 5)) → Fin b0 (k18 (j + 5) (S b0 σ ξ))) : Fin b0 (F_L_law_B869 jxs L k18 b0 (b0 + 23) j (S b0 σ ξ)) := by
  have ht : 1 + j ≤ 1 + (j + 5) := by omega
  obtain ⟨r, σ1, ζ1, σ2, ζ2, e1, e2, e3, e4⟩ := T_week h ht (hx _) (hx _)
  obtain ⟨σE, q1, q2⟩ := ih σ2 ζ2 e3
  refine ⟨σE, ?_, q2⟩
  rw [F_L_law_B869]
  refine ev (sr_at (by omega) (by omega)) ?_
  refine ev (sr_at (by omega) (by omega)) ?_
  refine evd (iS_0.trans e1) ?_
  refine ev (sr_at (by omega) (by omega)) ?_
  refine ev (sr_at (by omega) (by omega)) ?_
  refine evd (iS_23.trans e2) ?_
  exact ev_bEq e4.1 e4.2 e4.1 e4.2 (fun _ => q1) (fun y => absurd rfl y)
theorem L_best (h : INV b0 ξ σ (1 + j)) (j0 : 0 ≤ j) (j1 : j + 5 ≤ L) (hL : L ≤ 2560) (hx : ∀ j, R3 (jxs j)) {k18 : Int → Hp → Option (Int × Hp)} (ih : ∀ σ ξ, INV b0 ξ σ (1 + (j + 5)) → Fin b0 (k18 (j + 5) (S b0 σ ξ))) : Fin b0 (F_L_law_B902 jxs L k18 b0 (b0 + 23) j (S b0 σ ξ)) := by
  have ht : 1 + j ≤ 1 + (j + 5) := by omega
  obtain ⟨r, σ1, ζ1, σ2, ζ2, e1, e2, e3, e4⟩ := T_best h ht (hx _)
  obtain ⟨σE, q1, q2⟩ := ih σ2 ζ2 e3
  refine ⟨σE, ?_, q2⟩
  rw [F_L_law_B902]
  refine ev (sr_at (by omega) (by omega)) ?_
  refine evd (iS_0.trans e1) ?_
  refine ev (sr_at (by omega) (by omega)) ?_
  refine evd (iS_23.trans e2) ?_
  exact ev_bEq e4.1 e4.2 e4.1 e4.2 (fun _ => q1) (fun y => absurd rfl y)
theorem L_ruled (h : INV b0 ξ σ (1 + j)) (j0 : 0 ≤ j) (j1 : j + 5 ≤ L) (hL : L ≤ 2560) (hx : ∀ j, R3 (jxs j)) {k18 : Int → Hp → Option (Int × Hp)} (ih : ∀ σ ξ, INV b0 ξ σ (1 + (j + 5)) → Fin b0 (k18 (j + 5) (S b0 σ ξ))) : Fin b0 (F_L_law_B925 jxs L k18 b0 (b0 + 23) j (S b0 σ ξ)) := by
  have ht : 1 + j ≤ 1 + (j + 5) := by omega
  obtain ⟨r, σ1, ζ1, σ2, ζ2, e1, e2, e3, e4⟩ := T_ruled h ht (hx _)
  obtain ⟨σE, q1, q2⟩ := ih σ2 ζ2 e3
  refine ⟨σE, ?_, q2⟩
  rw [F_L_law_B925]
  refine ev (sr_at (by omega) (by omega)) ?_
  refine evd (iS_0.trans e1) ?_
  refine ev (sr_at (by omega) (by omega)) ?_
  refine evd (iS_23.trans e2) ?_
  exact ev_bEq e4.1 e4.2 e4.1 e4.2 (fun _ => q1) (fun y => absurd rfl y)
theorem L_undo (h : INV b0 ξ σ (1 + j)) (j0 : 0 ≤ j) (j1 : j + 5 ≤ L) (hL : L ≤ 2560) (hx : ∀ j, R3 (jxs j)) {k18 : Int → Hp → Option (Int × Hp)} (ih : ∀ σ ξ, INV b0 ξ σ (1 + (j + 5)) → Fin b0 (k18 (j + 5) (S b0 σ ξ))) : Fin b0 (F_L_law_B948 jxs L k18 b0 (b0 + 23) j (S b0 σ ξ)) := by
  have ht : 1 + j ≤ 1 + (j + 5) := by omega
  obtain ⟨r, σ1, ζ1, σ2, ζ2, e1, e2, e3, e4⟩ := T_undo h ht
  obtain ⟨σE, q1, q2⟩ := ih σ2 ζ2 e3
  refine ⟨σE, ?_, q2⟩
  rw [F_L_law_B948]
  refine evd (iS_0.trans e1) ?_
  refine evd (iS_23.trans e2) ?_
  exact ev_bEq e4.1 e4.2 e4.1 e4.2 (fun _ => q1) (fun y => absurd rfl y)
theorem L_stop (h : INV b0 ξ σ (1 + j)) (j0 : 0 ≤ j) (j1 : j + 5 ≤ L) (hL : L ≤ 2560) (hx : ∀ j, R3 (jxs j)) {k18 : Int → Hp → Option (Int × Hp)} (ih : ∀ σ ξ, INV b0 ξ σ (1 + (j + 5)) → Fin b0 (k18 (j + 5) (S b0 σ ξ))) : Fin b0 (F_L_law_B961 jxs L k18 b0 (b0 + 23) j (S b0 σ ξ)) := by
  have ht : 1 + j ≤ 1 + (j + 5) := by omega
  obtain ⟨r, σ1, ζ1, σ2, ζ2, e1, e2, e3, e4⟩ := T_stop h ht
  obtain ⟨σE, q1, q2⟩ := ih σ2 ζ2 e3
  refine ⟨σE, ?_, q2⟩
  rw [F_L_law_B961]
  refine evd (iS_0.trans e1) ?_
  refine evd (iS_23.trans e2) ?_
  exact ev_bEq e4.1 e4.2 e4.1 e4.2 (fun _ => q1) (fun y => absurd rfl y)
theorem L_now (h : INV b0 ξ σ (1 + j)) (j0 : 0 ≤ j) (j1 : j + 5 ≤ L) (hL : L ≤ 2560) (hx : ∀ j, R3 (jxs j)) {k18 : Int → Hp → Option (Int × Hp)} (ih : ∀ σ ξ, INV b0 ξ σ (1 + (j + 5)) → Fin b0 (k18 (j + 5) (S b0 σ ξ))) : Fin b0 (F_L_law_B974 jxs L k18 b0 (b0 + 23) j (S b0 σ ξ)) := by
  have ht : 1 + j ≤ 1 + (j + 5) := by omega
  obtain ⟨r, σ1, ζ1, σ2, ζ2, e1, e2, e3, e4⟩ := T_now h ht (hx _)
  obtain ⟨σE, q1, q2⟩ := ih σ2 ζ2 e3
  refine ⟨σE, ?_, q2⟩
  rw [F_L_law_B974]
  refine ev (sr_at (by omega) (by omega)) ?_
  refine evd (iS_0.trans e1) ?_
  refine ev (sr_at (by omega) (by omega)) ?_
  refine evd (iS_23.trans e2) ?_
  exact ev_bEq e4.1 e4.2 e4.1 e4.2 (fun _ => q1) (fun y => absurd rfl y)
theorem Fin_bEq {a c : Int} {T E : Option (Int × Hp)} (ha : R3 a) (hc : R3 c) (h1 : a = c → Fin b0 T) (h2 : a ≠ c → Fin b0 E) : Fin b0 (bEq a c T E) := by
  by_cases q : a = c
  · obtain ⟨σE, q1, q2⟩ := h1 q
    exact ⟨σE, ev_bEq ha.1 ha.2 hc.1 hc.2 (fun _ => q1) (fun y => absurd q y), q2⟩
  · obtain ⟨σE, q1, q2⟩ := h2 q
    exact ⟨σE, ev_bEq ha.1 ha.2 hc.1 hc.2 (fun y => absurd y q) (fun _ => q1), q2⟩
theorem law_loop (hL0 : 0 ≤ L) (hL : L ≤ 2560) (hx : ∀ j, R3 (jxs j)) : ∀ (k f : Nat) (j : Int) (σ : Hp) (ξ : Int → Int → Int), k < f → 0 ≤ j → L - j ≤ 5 * k + 4 → j ≤ 2560 → INV b0 ξ σ (1 + j) → Fin b0 (F_L_law_L18 jxs L b0 (b0 + 23) f j (S b0 σ ξ)) := by
  intro k
  induction k with
  | zero =>
    intro f j σ ξ hf j0 hk jb h
    obtain ⟨f, rfl⟩ : ∃ g, f = g + 1 := ⟨f - 1, by omega⟩
    refine ⟨S b0 σ ξ, ?_, ?_⟩
    · rw [F_L_law_L18]
      exact ev_bLe (by omega) (by omega) (by omega) (by omega) (fun q => by omega) (fun _ => rfl)
    · exact RM_end h
  | succ k ih =>
    intro f j σ ξ hf j0 hk jb h
    obtain ⟨f, rfl⟩ : ∃ g, f = g + 1 := ⟨f - 1, by omega⟩
    by_cases q : j ≤ L - 5
    · have ih' : ∀ σ ξ, INV b0 ξ σ (1 + (j + 5)) → Fin b0 (F_L_law_L18 jxs L b0 (b0 + 23) f (j + 5) (S b0 σ ξ)) := fun σ ξ hi => ih f (j + 5) σ ξ (by omega) (by omega) (by omega) (by omega) hi
      have body : Fin b0 ((sr jxs L j).bind fun jv9 => bEq (andI jv9 31) 0 (F_L_law_B148 jxs L (F_L_law_L18 jxs L b0 (b0 + 23) f) b0 (b0 + 23) j (S b0 σ ξ)) (bEq (andI jv9 31) 1 (F_L_law_B201 jxs L (F_L_law_L18 jxs L b0 (b0 + 23) f) b0 (b0 + 23) j (S b0 σ ξ)) (bEq (andI jv9 31) 2 (F_L_law_B244 jxs L (F_L_law_L18 jxs L b0 (b0 + 23) f) b0 (b0 + 23) j (S b0 σ ξ)) (bEq (andI jv9 31) 3 (F_L_law_B277 jxs L (F_L_law_L18 jxs L b0 (b0 + 23) f) b0 (b0 + 23) j (S b0 σ ξ)) (bEq (andI jv9 31) 4 (F_L_law_B310 jxs L (F_L_law_L18 jxs L b0 (b0 + 23) f) b0 (b0 + 23) j (S b0 σ ξ)) (bEq (andI jv9 31) 5 (F_L_law_B343 jxs L (F_L_law_L18 jxs L b0 (b0 + 23) f) b0 (b0 + 23) j (S b0 σ ξ)) (bEq (andI jv9 31) 6 (F_L_law_B386 jxs L (F_L_law_L18 jxs L b0 (b0 + 23) f) b0 (b0 + 23) j (S b0 σ ξ)) (bEq (andI jv9 31) 7 (F_L_law_B419 jxs L (F_L_law_L18 jxs L b0 (b0 + 23) f) b0 (b0 + 23) j (S b0 σ ξ)) (bEq (andI jv9 31) 8 (F_L_law_B442 jxs L (F_L_law_L18 jxs L b0 (b0 + 23) f) b0 (b0 + 23) j (S b0 σ ξ)) (bEq (andI jv9 31) 9 (F_L_law_B476 jxs L (F_L_law_L18 jxs L b0 (b0 + 23) f) b0 (b0 + 23) j (S b0 σ ξ)) (bEq (andI jv9 31) 10 (F_L_law_B519 jxs L (F_L_law_L18 jxs L b0 (b0 + 23) f) b0 (b0 + 23) j (S b0 σ ξ)) (bEq (andI jv9 31) 11 (F_L_law_B563 jxs L (F_L_law_L18 jxs L b0 (b0 + 23) f) b0 (b0 + 23) j (S b0 σ ξ)) (bEq (andI jv9 31) 12 (F_L_law_B626 jxs L (F_L_law_L18 jxs L b0 (b0 + 23) f) b0 (b0 + 23) j (S b0 σ ξ)) (bEq (andI jv9 31) 13 (F_L_law_B669 jxs L (F_L_law_L18 jxs L b0 (b0 + 23) f) b0 (b0 + 23) j (S b0 σ ξ)) (bEq (andI jv9 31) 14 (F_L_law_B703 jxs L (F_L_law_L18 jxs L b0 (b0 + 23) f) b0 (b0 + 23) j (S b0 σ ξ)) (bEq (andI jv9 31) 15 (F_L_law_B737 jxs L (F_L_law_L18 jxs L b0 (b0 + 23) f) b0 (b0 + 23) j (S b0 σ ξ)) (bEq (andI jv9 31) 16 (F_L_law_B770 jxs L (F_L_law_L18 jxs L b0 (b0 + 23) f) b0 (b0 + 23) j (S b0 σ ξ)) (bEq (andI jv9 31) 17 (F_L_law_B823 jxs L (F_L_law_L18 jxs L b0 (b0 + 23) f) b0 (b0 + 23) j (S b0 σ ξ)) (bEq (andI jv9 31) 18 (F_L_law_B846 jxs L (F_L_law_L18 jxs L b0 (b0 + 23) f) b0 (b0 + 23) j (S b0 σ ξ)) (bEq (andI jv9 31) 19 (F_L_law_B869 jxs L (F_L_law_L18 jxs L b0 (b0 + 23) f) b0 (b0 + 23) j (S b0 σ ξ)) (bEq (andI jv9 31) 20 (F_L_law_B902 jxs L (F_L_law_L18 jxs L b0 (b0 + 23) f) b0 (b0 + 23) j (S b0 σ ξ)) (bEq (andI jv9 31) 21 (F_L_law_B925 jxs L (F_L_law_L18 jxs L b0 (b0 + 23) f) b0 (b0 + 23) j (S b0 σ ξ)) (bEq (andI jv9 31) 22 (F_L_law_B948 jxs L (F_L_law_L18 jxs L b0 (b0 + 23) f) b0 (b0 + 23) j (S b0 σ ξ)) (bEq (andI jv9 31) 23 (F_L_law_B961 jxs L (F_L_law_L18 jxs L b0 (b0 + 23) f) b0 (b0 + 23) j (S b0 σ ξ)) (bEq (andI jv9 31) 24 (F_L_law_B974 jxs L (F_L_law_L18 jxs L b0 (b0 + 23) f) b0 (b0 + 23) j (S b0 σ ξ)) (F_L_law_B997 jxs L (F_L_law_L18 jxs L b0 (b0 + 23) f) b0 (b0 + 23) j (S b0 σ ξ))))))))))))))))))))))))))) := by
        rw [sr_at j0 (by omega)]
        show Fin b0 (bEq (andI (jxs j) 31) 0 (F_L_law_B148 jxs L (F_L_law_L18 jxs L b0 (b0 + 23) f) b0 (b0 + 23) j (S b0 σ ξ)) (bEq (andI (jxs j) 31) 1 (F_L_law_B201 jxs L (F_L_law_L18 jxs L b0 (b0 + 23) f) b0 (b0 + 23) j (S b0 σ ξ)) (bEq (andI (jxs j) 31) 2 (F_L_law_B244 jxs L (F_L_law_L18 jxs L b0 (b0 + 23) f) b0 (b0 + 23) j (S b0 σ ξ)) (bEq (andI (jxs j) 31) 3 (F_L_law_B277 jxs L (F_L_law_L18 jxs L b0 (b0 + 23) f) b0 (b0 + 23) j (S b0 σ ξ)) (bEq (andI (jxs j) 31) 4 (F_L_law_B310 jxs L (F_L_law_L18 jxs L b0 (b0 + 23) f) b0 (b0 + 23) j (S b0 σ ξ)) (bEq (andI (jxs j) 31) 5 (F_L_law_B343 jxs L (F_L_law_L18 jxs L b0 (b0 + 23) f) b0 (b0 + 23) j (S b0 σ ξ)) (bEq (andI (jxs j) 31) 6 (F_L_law_B386 jxs L (F_L_law_L18 jxs L b0 (b0 + 23) f) b0 (b0 + 23) j (S b0 σ ξ)) (bEq (andI (jxs j) 31) 7 (F_L_law_B419 jxs L (F_L_law_L18 jxs L b0 (b0 + 23) f) b0 (b0 + 23) j (S b0 σ ξ)) (bEq (andI (jxs j) 31) 8 (F_L_law_B442 jxs L (F_L_law_L18 jxs L b0 (b0 + 23) f) b0 (b0 + 23) j (S b0 σ ξ)) (bEq (andI (jxs j) 31) 9 (F_L_law_B476 jxs L (F_L_law_L18 jxs L b0 (b0 + 23) f) b0 (b0 + 23) j (S b0 σ ξ)) (bEq (andI (jxs j) 31) 10 (F_L_law_B519 jxs L (F_L_law_L18 jxs L b0 (b0 + 23) f) b0 (b0 + 23) j (S b0 σ ξ)) (bEq (andI (jxs j) 31) 11 (F_L_law_B563 jxs L (F_L_law_L18 jxs L b0 (b0 + 23) f) b0 (b0 + 23) j (S b0 σ ξ)) (bEq (andI (jxs j) 31) 12 (F_L_law_B626 jxs L (F_L_law_L18 jxs L b0 (b0 + 23) f) b0 (b0 + 23) j (S b0 σ ξ)) (bEq (andI (jxs j) 31) 13 (F_L_law_B669 jxs L (F_L_law_L18 jxs L b0 (b0 + 23) f) b0 (b0 + 23) j (S b0 σ ξ)) (bEq (andI (jxs j) 31) 14 (F_L_law_B703 jxs L (F_L_law_L18 jxs L b0 (b0 + 23) f) b0 (b0 + 23) j (S b0 σ ξ)) (bEq (andI (jxs j) 31) 15 (F_L_law_B737 jxs L (F_L_law_L18 jxs L b0 (b0 + 23) f) b0 (b0 + 23) j (S b0 σ ξ)) (bEq (andI (jxs j) 31) 16 (F_L_law_B770 jxs L (F_L_law_L18 jxs L b0 (b0 + 23) f) b0 (b0 + 23) j (S b0 σ ξ)) (bEq (andI (jxs j) 31) 17 (F_L_law_B823 jxs L (F_L_law_L18 jxs L b0 (b0 + 23) f) b0 (b0 + 23) j (S b0 σ ξ)) (bEq (andI (jxs j) 31) 18 (F_L_law_B846 jxs L (F_L_law_L18 jxs L b0 (b0 + 23) f) b0 (b0 + 23) j (S b0 σ ξ)) (bEq (andI (jxs j) 31) 19 (F_L_law_B869 jxs L (F_L_law_L18 jxs L b0 (b0 + 23) f) b0 (b0 + 23) j (S b0 σ ξ)) (bEq (andI (jxs j) 31) 20 (F_L_law_B902 jxs L (F_L_law_L18 jxs L b0 (b0 + 23) f) b0 (b0 + 23) j (S b0 σ ξ)) (bEq (andI (jxs j) 31) 21 (F_L_law_B925 jxs L (F_L_law_L18 jxs L b0 (b0 + 23) f) b0 (b0 + 23) j (S b0 σ ξ)) (bEq (andI (jxs j) 31) 22 (F_L_law_B948 jxs L (F_L_law_L18 jxs L b0 (b0 + 23) f) b0 (b0 + 23) j (S b0 σ ξ)) (bEq (andI (jxs j) 31) 23 (F_L_law_B961 jxs L (F_L_law_L18 jxs L b0 (b0 + 23) f) b0 (b0 + 23) j (S b0 σ ξ)) (bEq (andI (jxs j) 31) 24 (F_L_law_B974 jxs L (F_L_law_L18 jxs L b0 (b0 + 23) f) b0 (b0 + 23) j (S b0 σ ξ)) (F_L_law_B997 jxs L (F_L_law_L18 jxs L b0 (b0 + 23) f) b0 (b0 + 23) j (S b0 σ ξ)))))))))))))))))))))))))))
        refine Fin_bEq R3_andI ⟨by omega, by omega⟩ (fun _ => L_lake h j0 (by omega) hL hx ih') (fun _ => ?_)
        refine Fin_bEq R3_andI ⟨by omega, by omega⟩ (fun _ => L_head h j0 (by omega) hL hx ih') (fun _ => ?_)
        refine Fin_bEq R3_andI ⟨by omega, by omega⟩ (fun _ => L_end h j0 (by omega) hL hx ih') (fun _ => ?_)
        refine Fin_bEq R3_andI ⟨by omega, by omega⟩ (fun _ => L_weeks h j0 (by omega) hL hx ih') (fun _ => ?_)
        refine Fin_bEq R3_andI ⟨by omega, by omega⟩ (fun _ => L_price h j0 (by omega) hL hx ih') (fun _ => ?_)
        refine Fin_bEq R3_andI ⟨by omega, by omega⟩ (fun _ => L_node h j0 (by omega) hL hx ih') (fun _ => ?_)
        refine Fin_bEq R3_andI ⟨by omega, by omega⟩ (fun _ => L_about h j0 (by omega) hL hx ih') (fun _ => ?_)
        refine Fin_bEq R3_andI ⟨by omega, by omega⟩ (fun _ => L_count h j0 (by omega) hL hx ih') (fun _ => ?_)
        refine Fin_bEq R3_andI ⟨by omega, by omega⟩ (fun _ => L_worth h j0 (by omega) hL hx ih') (fun _ => ?_)
        refine Fin_bEq R3_andI ⟨by omega, by omega⟩ (fun _ => L_policy h j0 (by omega) hL hx ih') (fun _ => ?_)
        refine Fin_bEq R3_andI ⟨by omega, by omega⟩ (fun _ => L_water h j0 (by omega) hL hx ih') (fun _ => ?_)
        refine Fin_bEq R3_andI ⟨by omega, by omega⟩ (fun _ => L_needs h j0 (by omega) hL hx ih') (fun _ => ?_)
        refine Fin_bEq R3_andI ⟨by omega, by omega⟩ (fun _ => L_rule h j0 (by omega) hL hx ih') (fun _ => ?_)
        refine Fin_bEq R3_andI ⟨by omega, by omega⟩ (fun _ => L_mean h j0 (by omega) hL hx ih') (fun _ => ?_)
        refine Fin_bEq R3_andI ⟨by omega, by omega⟩ (fun _ => L_worst h j0 (by omega) hL hx ih') (fun _ => ?_)
        refine Fin_bEq R3_andI ⟨by omega, by omega⟩ (fun _ => L_lack h j0 (by omega) hL hx ih') (fun _ => ?_)
        refine Fin_bEq R3_andI ⟨by omega, by omega⟩ (fun _ => L_flood h j0 (by omega) hL hx ih') (fun _ => ?_)
        refine Fin_bEq R3_andI ⟨by omega, by omega⟩ (fun _ => L_cases h j0 (by omega) hL hx ih') (fun _ => ?_)
        refine Fin_bEq R3_andI ⟨by omega, by omega⟩ (fun _ => L_begin h j0 (by omega) hL hx ih') (fun _ => ?_)
        refine Fin_bEq R3_andI ⟨by omega, by omega⟩ (fun _ => L_week h j0 (by omega) hL hx ih') (fun _ => ?_)
        refine Fin_bEq R3_andI ⟨by omega, by omega⟩ (fun _ => L_best h j0 (by omega) hL hx ih') (fun _ => ?_)
        refine Fin_bEq R3_andI ⟨by omega, by omega⟩ (fun _ => L_ruled h j0 (by omega) hL hx ih') (fun _ => ?_)
        refine Fin_bEq R3_andI ⟨by omega, by omega⟩ (fun _ => L_undo h j0 (by omega) hL hx ih') (fun _ => ?_)
        refine Fin_bEq R3_andI ⟨by omega, by omega⟩ (fun _ => L_stop h j0 (by omega) hL hx ih') (fun _ => ?_)
        refine Fin_bEq R3_andI ⟨by omega, by omega⟩ (fun _ => L_now h j0 (by omega) hL hx ih') (fun _ => ?_)
        exact ih' σ ξ (INV_q h h.1 h.2.1 Ch.rf (by omega))
      obtain ⟨σE, q1, q2⟩ := body
      refine ⟨σE, ?_, q2⟩
      rw [F_L_law_L18]
      exact ev_bLe (by omega) (by omega) (by omega) (by omega) (fun _ => q1) (fun y => absurd q y)
    · refine ⟨S b0 σ ξ, ?_, ?_⟩
      · rw [F_L_law_L18]
        exact ev_bLe (by omega) (by omega) (by omega) (by omega) (fun y => absurd y q) (fun _ => rfl)
      · exact RM_end h
theorem pure_law (jxs : Int → Int) (L : Nat) (hL : L ≤ 2560) (b0 : Nat) (hx : ∀ j, R3 (jxs j)) : ∃ σE : Hp, F_L_law jxs (L : Int) (σ0 b0) = some (1, σE) ∧ σE.1 ≤ b0 + 600000 ∧ σE.2.1 ≤ 7302250 := by
  have hD0 : Dd 0 xD := fun d k q => rfl
  obtain ⟨ξ1, z1, a1, a2, a3, a4⟩ := X7_mk (b0 := b0) (z := 0 + 5) (ξ := xD) (Dd_s hD0) (fun k => rfl)
  obtain ⟨ξ2, z2, c1, c2, c3, c4⟩ := X8_mk (b0 := b0) (z := z1 + 40) (ξ := ξ1) (Dd_s a3) (fun k => by rw [a3 23 k (by omega)]; rfl)
  have hc : CS b0 ξ2 := by
    have e : ∀ d, d < 23 → ξ2 d = ξ1 d := fun d q => funext fun k => c3 d k q
    obtain ⟨p1, p2, p3, p4, p5, p6, p7⟩ := a4
    refine ⟨?_, VS_cg p2 (fun d k x y => c3 d k (by omega)), TS_cg p3 (fun d k x y => c3 d k (by omega)), ?_, ?_, ?_, fun d k x y => by rw [c3 d k (by omega)]; exact p7 d k x y⟩
    · rw [e 0 (by omega)]; exact p1
    · rw [e 15 (by omega)]; exact p4
    · rw [e 16 (by omega)]; exact p5
    · rw [e 17 (by omega)]; exact p6
  have inv := INV_0 (z := z2) (by omega) hc c4
  obtain ⟨σE, q1, q2, q3⟩ := law_loop (jxs := jxs) (L := (L : Int)) (b0 := (b0 : Int)) (by omega) (by omega) hx 512 fu 0 (I b0 55 z2 ξ2) ξ2 (fuN (by omega)) (Int.le_refl _) (by omega) (by omega) inv
  rw [S_I hc c4] at q1
  refine ⟨σE, ?_, by omega, q3⟩
  rw [σ0_I, F_L_law]
  refine i_nwb 0 rfl hD0 rfl rfl (fun _ => rfl) (fun hD => ?_)
  refine evd a1 ?_
  refine i_nwb 23 rfl a3 rfl rfl (fun _ => rfl) (fun hD => ?_)
  refine evd c1 ?_
  rw [Int.add_zero]
  exact q1
end R5
