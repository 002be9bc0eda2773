/-- kinds, lengths and contents by the place in the window of fixed addresses (12, 13, 14: the first node, apart) -/
def kS (d : Int) : Int := if d = 0 then 8 else if d = 1 then 5 else if d = 2 then 14 else if d = 3 then 1 else if d = 5 then 1 else if d = 7 then 1 else if d = 9 then 4 else if d = 10 then 15 else if d = 15 then 7 else if d = 16 then 6 else if d = 17 then 3 else if d = 23 then 9 else if d = 37 then 13 else if d = 38 then 13 else if d = 39 then 12 else if d = 43 then 13 else if d = 46 then 13 else if d = 47 then 12 else 11
def lS (d : Int) : Int := if d = 0 then 0 else if d = 1 then 0 else if d = 2 then 3 else if d = 3 then 0 else if d = 4 then 31 else if d = 5 then 0 else if d = 6 then 31 else if d = 7 then 0 else if d = 8 then 31 else if d = 9 then 0 else if d = 10 then 81 else if d = 11 then 10 else if d = 15 then 0 else if d = 16 then 0 else if d = 17 then 0 else if d = 18 then 11 else if d = 19 then 11 else if d = 20 then 11 else if d = 21 then 11 else if d = 22 then 11 else if d = 23 then 0 else if d = 24 then 3 else if d = 25 then 3 else if d = 26 then 3 else if d = 27 then 3 else if d = 28 then 93 else if d = 29 then 3 else if d = 30 then 10 else if d = 31 then 81 else if d = 32 then 81 else if d = 33 then 81 else if d = 34 then 243 else if d = 35 then 3 else if d = 36 then 3 else if d = 37 then 81000 else if d = 38 then 81000 else if d = 39 then 81000 else if d = 40 then 81000 else if d = 41 then 3 else if d = 42 then 3 else if d = 43 then 81 else if d = 44 then 81 else if d = 45 then 81 else if d = 46 then 81 else if d = 47 then 81 else if d = 48 then 81 else if d = 49 then 11 else if d = 50 then 11 else if d = 51 then 11 else if d = 52 then 11 else if d = 53 then 11 else if d = 54 then 11 else 0
def cS (b0 : Int) (ξ : Int → Int → Int) (d k : Int) : Int := if d = 0 then (if k = 0 then b0 + 1 else if k = 1 then b0 + 9 else if k = 2 then b0 + 15 else if k = 3 then b0 + 16 else if k = 4 then b0 + 17 else ξ d k) else if d = 1 then (if k = 0 then b0 + 2 else ξ d k) else if d = 2 then (if 0 ≤ k ∧ k < 3 then b0 + 3 + 2 * k else ξ d k) else if d = 3 then (if k = 0 then b0 + 4 else ξ d k) else if d = 5 then (if k = 0 then b0 + 6 else ξ d k) else if d = 7 then (if k = 0 then b0 + 8 else ξ d k) else if d = 9 then (if k = 0 then b0 + 10 else if k = 1 then b0 + 11 else ξ d k) else if d = 15 then (if k = 0 then b0 + 1 else if k = 1 then b0 + 9 else ξ d k) else if d = 16 then (if k = 0 then b0 + 1 else if k = 1 then b0 + 9 else ξ d k) else if d = 17 then (if k = 0 then b0 + 18 else if k = 1 then b0 + 19 else if k = 2 then b0 + 20 else if k = 3 then b0 + 21 else if k = 4 then b0 + 22 else ξ d k) else if d = 23 then (if k = 2 then b0 + 24 else if k = 3 then b0 + 25 else if k = 4 then b0 + 26 else if k = 5 then b0 + 27 else if k = 6 then b0 + 28 else if k = 7 then b0 + 29 else if k = 10 then b0 + 30 else if k = 12 then b0 + 31 else if k = 13 then b0 + 32 else if k = 14 then b0 + 33 else if k = 15 then b0 + 34 else if k = 16 then b0 + 35 else if k = 17 then b0 + 36 else if k = 20 then b0 + 37 else if k = 21 then b0 + 38 else if k = 22 then b0 + 39 else if k = 23 then b0 + 40 else if k = 24 then b0 + 41 else if k = 25 then b0 + 42 else if k = 26 then b0 + 43 else if k = 27 then b0 + 44 else if k = 28 then b0 + 45 else if k = 29 then b0 + 46 else if k = 30 then b0 + 47 else if k = 31 then b0 + 48 else if k = 34 then b0 + 49 else if k = 35 then b0 + 50 else if k = 36 then b0 + 51 else if k = 37 then b0 + 52 else if k = 38 then b0 + 53 else if k = 39 then b0 + 54 else ξ d k) else ξ d k
def inS (d : Int) : Prop := (0 ≤ d ∧ d < 12) ∨ (15 ≤ d ∧ d < 55)
def S (b0 : Int) (σ : Hp) (ξ : Int → Int → Int) : Hp := (σ.1, σ.2.1, fun a => if ((0 ≤ a - b0 ∧ a - b0 < 12) ∨ (15 ≤ a - b0 ∧ a - b0 < 55)) then (kS (a - b0), lS (a - b0), cS b0 ξ (a - b0)) else σ.2.2 a)
/-- a number anew -/
def xu (ξ : Int → Int → Int) (d k v : Int) : Int → Int → Int := fun d' k' => if d' = d ∧ k' = k then v else ξ d' k'
section SL
variable {b0 : Int} {σ : Hp} {ξ : Int → Int → Int} {d k v i c : Int}
theorem S_at (h : inS d) : (S b0 σ ξ).2.2 (b0 + d) = (kS d, lS d, cS b0 ξ d) := by
  have e : b0 + d - b0 = d := by omega
  show (if ((0 ≤ b0 + d - b0 ∧ b0 + d - b0 < 12) ∨ (15 ≤ b0 + d - b0 ∧ b0 + d - b0 < 55)) then _ else _) = _
  rw [e]
  exact if_pos h
theorem S_off {a : Int} (h : ¬ inS (a - b0)) : (S b0 σ ξ).2.2 a = σ.2.2 a := if_neg h
theorem kd_S (h : inS d) : kd (S b0 σ ξ) (b0 + d) = kS d := by unfold kd; rw [S_at h]
theorem ln_S (h : inS d) : ln (S b0 σ ξ) (b0 + d) = lS d := by unfold ln; rw [S_at h]
theorem gf_S (h : inS d) : gf (S b0 σ ξ) (b0 + d) k = cS b0 ξ d k := by unfold gf; rw [S_at h]
theorem kd_So {a : Int} (h : ¬ inS (a - b0)) : kd (S b0 σ ξ) a = kd σ a := by unfold kd; rw [S_off h]
theorem ln_So {a : Int} (h : ¬ inS (a - b0)) : ln (S b0 σ ξ) a = ln σ a := by unfold ln; rw [S_off h]
theorem gf_So {a : Int} (h : ¬ inS (a - b0)) : gf (S b0 σ ξ) a k = gf σ a k := by unfold gf; rw [S_off h]
theorem rd_S (h : inS d) (hc : kS d = c) : rd c (S b0 σ ξ) (b0 + d) k = some (cS b0 ξ d k) := by
  unfold rd
  rw [kd_S h, if_pos hc, gf_S h]
theorem iv_S {γ : Type} {X : Option γ} (h : inS d) (hc : kS d = c) : iv c (S b0 σ ξ) (b0 + d) X = X := by
  unfold iv
  rw [kd_S h, if_pos hc]
theorem ar_S (h : inS d) (hc : kS d = c) (h0 : 0 ≤ i) (h1 : i < lS d) (h2 : i < 2147483648) : ar c (S b0 σ ξ) (b0 + d) i = some (cS b0 ξ d i) := by
  unfold ar
  rw [kd_S h, ln_S h, if_pos ⟨hc, h0, h1, h2⟩, gf_S h]
theorem al_S (h : inS d) (hc : kS d = c) (h1 : 0 ≤ lS d) : al c (S b0 σ ξ) (b0 + d) = some (lS d) := by
  unfold al
  rw [kd_S h, ln_S h, if_pos ⟨hc, h1⟩]
/-- a place that holds no fixed reference -/
def free (d k : Int) : Prop := ∀ (b0 : Int) (ξ ζ : Int → Int → Int), (∀ d' k', ¬ (d' = d ∧ k' = k) → ξ d' k' = ζ d' k') → cS b0 ξ d k = ξ d k ∧ ∀ d' k', ¬ (d' = d ∧ k' = k) → cS b0 ξ d' k' = cS b0 ζ d' k'
theorem cS_mono {b0 : Int} {ξ ζ : Int → Int → Int} {d k : Int} (h : ξ d k = ζ d k) : cS b0 ξ d k = cS b0 ζ d k := by
  unfold cS
  rw [h]
theorem wr_S (h : inS d) (hf : ∀ ζ : Int → Int → Int, cS b0 ζ d k = ζ d k) : wr (S b0 σ ξ) (b0 + d) k v = S b0 σ (xu ξ d k v) := by
  unfold wr
  show (σ.1, σ.2.1, _) = (σ.1, σ.2.1, _)
  congr 2
  funext a
  by_cases e : a = b0 + d
  · subst e
    rw [if_pos rfl, kd_S h, ln_S h]
    have e2 : (S b0 σ (xu ξ d k v)).2.2 (b0 + d) = (kS d, lS d, cS b0 (xu ξ d k v) d) := S_at h
    show _ = (S b0 σ (xu ξ d k v)).2.2 (b0 + d)
    rw [e2]
    congr 2
    funext j
    by_cases ej : j = k
    · subst ej
      rw [if_pos rfl, hf]
      show v = if d = d ∧ j = j then v else ξ d j
      rw [if_pos ⟨rfl, rfl⟩]
    · rw [if_neg ej, gf_S h]
      refine cS_mono ?_
      show ξ d j = if d = d ∧ j = k then v else ξ d j
      rw [if_neg (fun q => ej q.2)]
  · rw [if_neg e]
    show (S b0 σ ξ).2.2 a = (S b0 σ (xu ξ d k v)).2.2 a
    by_cases hi : inS (a - b0)
    · have e1 : a = b0 + (a - b0) := by omega
      rw [e1, S_at hi, S_at hi]
      congr 2
      funext j
      refine cS_mono ?_
      show ξ (a - b0) j = if a - b0 = d ∧ j = k then v else ξ (a - b0) j
      rw [if_neg (fun q => e (by omega))]
    · rw [S_off hi, S_off hi]
theorem pw_S (h : inS d) (hc : kS d = c) (hf : ∀ ζ : Int → Int → Int, cS b0 ζ d k = ζ d k) : pw c (S b0 σ ξ) (b0 + d) k v = some (S b0 σ (xu ξ d k v)) := by
  unfold pw
  rw [kd_S h, if_pos hc, wr_S h hf]
theorem pz_S (h : inS d) (hc : kS d = c) (hf : ∀ ζ : Int → Int → Int, cS b0 ζ d k = ζ d k) (hv : v = 0 ∨ v = 1) : pz c (S b0 σ ξ) (b0 + d) k v = some (S b0 σ (xu ξ d k v)) := by
  unfold pz
  rw [kd_S h, if_pos ⟨hc, hv⟩, wr_S h hf]
theorem aw_S (h : inS d) (hc : kS d = c) (h0 : 0 ≤ i) (h1 : i < lS d) (h2 : i < 2147483648) (hf : ∀ ζ : Int → Int → Int, cS b0 ζ d i = ζ d i) : aw c (S b0 σ ξ) (b0 + d) i v = some (S b0 σ (xu ξ d i v)) := by
  unfold aw
  rw [kd_S h, ln_S h, if_pos ⟨hc, h0, h1, h2⟩, wr_S h hf]
theorem az_S (h : inS d) (hc : kS d = c) (h0 : 0 ≤ i) (h1 : i < lS d) (h2 : i < 2147483648) (hf : ∀ ζ : Int → Int → Int, cS b0 ζ d i = ζ d i) (hv : v = 0 ∨ v = 1) : az c (S b0 σ ξ) (b0 + d) i v = some (S b0 σ (xu ξ d i v)) := by
  unfold az
  rw [kd_S h, ln_S h, if_pos ⟨hc, h0, h1, h2, hv⟩, wr_S h hf]
theorem bLt_go {γ : Type} {a b : Int} {T E : Option γ} (h1 : -2147483648 ≤ a) (h2 : a < 2147483648) (h3 : -2147483648 ≤ b) (h4 : b < 2147483648) : bLt a b T E = if a < b then T else E := if_pos ⟨⟨h1, h2⟩, ⟨h3, h4⟩⟩
theorem bLe_go {γ : Type} {a b : Int} {T E : Option γ} (h1 : -2147483648 ≤ a) (h2 : a < 2147483648) (h3 : -2147483648 ≤ b) (h4 : b < 2147483648) : bLe a b T E = if a ≤ b then T else E := if_pos ⟨⟨h1, h2⟩, ⟨h3, h4⟩⟩
theorem bEq_go {γ : Type} {a b : Int} {T E : Option γ} (h1 : -2147483648 ≤ a) (h2 : a < 2147483648) (h3 : -2147483648 ≤ b) (h4 : b < 2147483648) : bEq a b T E = if a = b then T else E := if_pos ⟨⟨h1, h2⟩, ⟨h3, h4⟩⟩
theorem gD_go {γ : Type} {a b : Int} {X : Option γ} (h1 : -2147483648 ≤ a) (h2 : a < 2147483648) (h3 : -2147483648 ≤ b) (h4 : b < 2147483648) (h5 : b ≠ 0) : gD a b X = X := if_pos ⟨⟨h1, h2⟩, ⟨h3, h4⟩, h5⟩
theorem g33_go {γ : Type} {a b : Int} {X : Option γ} (h1 : -2147483648 ≤ a) (h2 : a < 2147483648) (h3 : -2147483648 ≤ b) (h4 : b < 2147483648) : g33 a b X = X := if_pos ⟨⟨h1, h2⟩, ⟨h3, h4⟩⟩
theorem g3_go {γ : Type} {a : Int} {X : Option γ} (h1 : -2147483648 ≤ a) (h2 : a < 2147483648) : g3 a X = X := if_pos ⟨h1, h2⟩
theorem g66_go {γ : Type} {a b : Int} {X : Option γ} (h1 : -9223372036854775808 ≤ a) (h2 : a < 9223372036854775808) (h3 : -9223372036854775808 ≤ b) (h4 : b < 9223372036854775808) : g66 a b X = X := if_pos ⟨⟨h1, h2⟩, ⟨h3, h4⟩⟩
theorem rz_0 : rz 0 σ = some (0, σ) := rfl
theorem rz_1 : rz 1 σ = some (1, σ) := rfl
theorem iS_0 {γ : Type} {X : Option γ} : iv 8 (S b0 σ ξ) b0 X = X := by have h := iv_S (b0 := b0) (σ := σ) (ξ := ξ) (d := 0) (c := 8) (X := X) (by unfold inS; omega) rfl; rwa [show b0 + 0 = b0 by omega] at h
theorem rS_0_0 : rd 8 (S b0 σ ξ) b0 0 = some (b0 + 1) := by have h := rd_S (b0 := b0) (σ := σ) (ξ := ξ) (d := 0) (k := 0) (c := 8) (by unfold inS; omega) rfl; rw [show b0 + 0 = b0 by omega] at h; rw [h]; rfl
theorem rS_0_1 : rd 8 (S b0 σ ξ) b0 1 = some (b0 + 9) := by have h := rd_S (b0 := b0) (σ := σ) (ξ := ξ) (d := 0) (k := 1) (c := 8) (by unfold inS; omega) rfl; rw [show b0 + 0 = b0 by omega] at h; rw [h]; rfl
theorem rS_0_2 : rd 8 (S b0 σ ξ) b0 2 = some (b0 + 15) := by have h := rd_S (b0 := b0) (σ := σ) (ξ := ξ) (d := 0) (k := 2) (c := 8) (by unfold inS; omega) rfl; rw [show b0 + 0 = b0 by omega] at h; rw [h]; rfl
theorem rS_0_3 : rd 8 (S b0 σ ξ) b0 3 = some (b0 + 16) := by have h := rd_S (b0 := b0) (σ := σ) (ξ := ξ) (d := 0) (k := 3) (c := 8) (by unfold inS; omega) rfl; rw [show b0 + 0 = b0 by omega] at h; rw [h]; rfl
theorem rS_0_4 : rd 8 (S b0 σ ξ) b0 4 = some (b0 + 17) := by have h := rd_S (b0 := b0) (σ := σ) (ξ := ξ) (d := 0) (k := 4) (c := 8) (by unfold inS; omega) rfl; rw [show b0 + 0 = b0 by omega] at h; rw [h]; rfl
theorem iS_1 {γ : Type} {X : Option γ} : iv 5 (S b0 σ ξ) (b0 + 1) X = X := iv_S (by unfold inS; omega) rfl
theorem rS_1_0 : rd 5 (S b0 σ ξ) (b0 + 1) 0 = some (b0 + 2) := (rd_S (by unfold inS; omega) rfl).trans rfl
theorem rS_1_1 : rd 5 (S b0 σ ξ) (b0 + 1) 1 = some (ξ 1 1) := (rd_S (by unfold inS; omega) rfl).trans rfl
theorem pS_1_1 : pw 5 (S b0 σ ξ) (b0 + 1) 1 v = some (S b0 σ (xu ξ 1 1 v)) := pw_S (by unfold inS; omega) rfl (fun _ => rfl)
theorem rS_1_2 : rd 5 (S b0 σ ξ) (b0 + 1) 2 = some (ξ 1 2) := (rd_S (by unfold inS; omega) rfl).trans rfl
theorem pS_1_2 : pw 5 (S b0 σ ξ) (b0 + 1) 2 v = some (S b0 σ (xu ξ 1 2 v)) := pw_S (by unfold inS; omega) rfl (fun _ => rfl)
theorem rS_1_3 : rd 5 (S b0 σ ξ) (b0 + 1) 3 = some (ξ 1 3) := (rd_S (by unfold inS; omega) rfl).trans rfl
theorem pS_1_3 : pw 5 (S b0 σ ξ) (b0 + 1) 3 v = some (S b0 σ (xu ξ 1 3 v)) := pw_S (by unfold inS; omega) rfl (fun _ => rfl)
theorem aS_2 (h0 : 0 ≤ i) (h1 : i < 3) : ar 14 (S b0 σ ξ) (b0 + 2) i = some (b0 + 3 + 2 * i) := (ar_S (d := 2) (by unfold inS; omega) rfl h0 h1 (by omega)).trans (congrArg some ((show cS b0 ξ 2 i = (if 0 ≤ i ∧ i < 3 then b0 + 3 + 2 * i else ξ 2 i) from rfl).trans (if_pos ⟨h0, h1⟩)))
theorem lS_2 : al 14 (S b0 σ ξ) (b0 + 2) = some 3 := (al_S (d := 2) (by unfold inS; omega) rfl (by decide)).trans rfl
theorem iS_3 {γ : Type} {X : Option γ} : iv 1 (S b0 σ ξ) (b0 + 3) X = X := iv_S (by unfold inS; omega) rfl
theorem rS_3_0 : rd 1 (S b0 σ ξ) (b0 + 3) 0 = some (b0 + 4) := (rd_S (by unfold inS; omega) rfl).trans rfl
theorem rS_3_1 : rd 1 (S b0 σ ξ) (b0 + 3) 1 = some (ξ 3 1) := (rd_S (by unfold inS; omega) rfl).trans rfl
theorem pS_3_1 : pw 1 (S b0 σ ξ) (b0 + 3) 1 v = some (S b0 σ (xu ξ 3 1 v)) := pw_S (by unfold inS; omega) rfl (fun _ => rfl)
theorem rS_3_2 : rd 1 (S b0 σ ξ) (b0 + 3) 2 = some (ξ 3 2) := (rd_S (by unfold inS; omega) rfl).trans rfl
theorem pS_3_2 : pw 1 (S b0 σ ξ) (b0 + 3) 2 v = some (S b0 σ (xu ξ 3 2 v)) := pw_S (by unfold inS; omega) rfl (fun _ => rfl)
theorem rS_3_3 : rd 1 (S b0 σ ξ) (b0 + 3) 3 = some (ξ 3 3) := (rd_S (by unfold inS; omega) rfl).trans rfl
theorem pS_3_3 : pw 1 (S b0 σ ξ) (b0 + 3) 3 v = some (S b0 σ (xu ξ 3 3 v)) := pw_S (by unfold inS; omega) rfl (fun _ => rfl)
theorem rS_3_4 : rd 1 (S b0 σ ξ) (b0 + 3) 4 = some (ξ 3 4) := (rd_S (by unfold inS; omega) rfl).trans rfl
theorem pS_3_4 : pw 1 (S b0 σ ξ) (b0 + 3) 4 v = some (S b0 σ (xu ξ 3 4 v)) := pw_S (by unfold inS; omega) rfl (fun _ => rfl)
theorem rS_3_5 : rd 1 (S b0 σ ξ) (b0 + 3) 5 = some (ξ 3 5) := (rd_S (by unfold inS; omega) rfl).trans rfl
theorem pS_3_5 : pw 1 (S b0 σ ξ) (b0 + 3) 5 v = some (S b0 σ (xu ξ 3 5 v)) := pw_S (by unfold inS; omega) rfl (fun _ => rfl)
theorem rS_3_6 : rd 1 (S b0 σ ξ) (b0 + 3) 6 = some (ξ 3 6) := (rd_S (by unfold inS; omega) rfl).trans rfl
theorem pS_3_6 : pw 1 (S b0 σ ξ) (b0 + 3) 6 v = some (S b0 σ (xu ξ 3 6 v)) := pw_S (by unfold inS; omega) rfl (fun _ => rfl)
theorem rS_3_7 : rd 1 (S b0 σ ξ) (b0 + 3) 7 = some (ξ 3 7) := (rd_S (by unfold inS; omega) rfl).trans rfl
theorem pS_3_7 : pw 1 (S b0 σ ξ) (b0 + 3) 7 v = some (S b0 σ (xu ξ 3 7 v)) := pw_S (by unfold inS; omega) rfl (fun _ => rfl)
theorem rS_3_8 : rd 1 (S b0 σ ξ) (b0 + 3) 8 = some (ξ 3 8) := (rd_S (by unfold inS; omega) rfl).trans rfl
theorem pS_3_8 : pw 1 (S b0 σ ξ) (b0 + 3) 8 v = some (S b0 σ (xu ξ 3 8 v)) := pw_S (by unfold inS; omega) rfl (fun _ => rfl)
theorem aS_4 (h0 : 0 ≤ i) (h1 : i < 31) : ar 11 (S b0 σ ξ) (b0 + 4) i = some (ξ 4 i) := (ar_S (d := 4) (by unfold inS; omega) rfl h0 h1 (by omega)).trans rfl
theorem lS_4 : al 11 (S b0 σ ξ) (b0 + 4) = some 31 := (al_S (d := 4) (by unfold inS; omega) rfl (by decide)).trans rfl
theorem wS_4 (h0 : 0 ≤ i) (h1 : i < 31) : aw 11 (S b0 σ ξ) (b0 + 4) i v = some (S b0 σ (xu ξ 4 i v)) := aw_S (d := 4) (by unfold inS; omega) rfl h0 h1 (by omega) (fun _ => rfl)
theorem iS_5 {γ : Type} {X : Option γ} : iv 1 (S b0 σ ξ) (b0 + 5) X = X := iv_S (by unfold inS; omega) rfl
theorem rS_5_0 : rd 1 (S b0 σ ξ) (b0 + 5) 0 = some (b0 + 6) := (rd_S (by unfold inS; omega) rfl).trans rfl
theorem rS_5_1 : rd 1 (S b0 σ ξ) (b0 + 5) 1 = some (ξ 5 1) := (rd_S (by unfold inS; omega) rfl).trans rfl
theorem pS_5_1 : pw 1 (S b0 σ ξ) (b0 + 5) 1 v = some (S b0 σ (xu ξ 5 1 v)) := pw_S (by unfold inS; omega) rfl (fun _ => rfl)
theorem rS_5_2 : rd 1 (S b0 σ ξ) (b0 + 5) 2 = some (ξ 5 2) := (rd_S (by unfold inS; omega) rfl).trans rfl
theorem pS_5_2 : pw 1 (S b0 σ ξ) (b0 + 5) 2 v = some (S b0 σ (xu ξ 5 2 v)) := pw_S (by unfold inS; omega) rfl (fun _ => rfl)
theorem rS_5_3 : rd 1 (S b0 σ ξ) (b0 + 5) 3 = some (ξ 5 3) := (rd_S (by unfold inS; omega) rfl).trans rfl
theorem pS_5_3 : pw 1 (S b0 σ ξ) (b0 + 5) 3 v = some (S b0 σ (xu ξ 5 3 v)) := pw_S (by unfold inS; omega) rfl (fun _ => rfl)
theorem rS_5_4 : rd 1 (S b0 σ ξ) (b0 + 5) 4 = some (ξ 5 4) := (rd_S (by unfold inS; omega) rfl).trans rfl
theorem pS_5_4 : pw 1 (S b0 σ ξ) (b0 + 5) 4 v = some (S b0 σ (xu ξ 5 4 v)) := pw_S (by unfold inS; omega) rfl (fun _ => rfl)
theorem rS_5_5 : rd 1 (S b0 σ ξ) (b0 + 5) 5 = some (ξ 5 5) := (rd_S (by unfold inS; omega) rfl).trans rfl
theorem pS_5_5 : pw 1 (S b0 σ ξ) (b0 + 5) 5 v = some (S b0 σ (xu ξ 5 5 v)) := pw_S (by unfold inS; omega) rfl (fun _ => rfl)
theorem rS_5_6 : rd 1 (S b0 σ ξ) (b0 + 5) 6 = some (ξ 5 6) := (rd_S (by unfold inS; omega) rfl).trans rfl
theorem pS_5_6 : pw 1 (S b0 σ ξ) (b0 + 5) 6 v = some (S b0 σ (xu ξ 5 6 v)) := pw_S (by unfold inS; omega) rfl (fun _ => rfl)
theorem rS_5_7 : rd 1 (S b0 σ ξ) (b0 + 5) 7 = some (ξ 5 7) := (rd_S (by unfold inS; omega) rfl).trans rfl
theorem pS_5_7 : pw 1 (S b0 σ ξ) (b0 + 5) 7 v = some (S b0 σ (xu ξ 5 7 v)) := pw_S (by unfold inS; omega) rfl (fun _ => rfl)
theorem rS_5_8 : rd 1 (S b0 σ ξ) (b0 + 5) 8 = some (ξ 5 8) := (rd_S (by unfold inS; omega) rfl).trans rfl
theorem pS_5_8 : pw 1 (S b0 σ ξ) (b0 + 5) 8 v = some (S b0 σ (xu ξ 5 8 v)) := pw_S (by unfold inS; omega) rfl (fun _ => rfl)
theorem aS_6 (h0 : 0 ≤ i) (h1 : i < 31) : ar 11 (S b0 σ ξ) (b0 + 6) i = some (ξ 6 i) := (ar_S (d := 6) (by unfold inS; omega) rfl h0 h1 (by omega)).trans rfl
theorem lS_6 : al 11 (S b0 σ ξ) (b0 + 6) = some 31 := (al_S (d := 6) (by unfold inS; omega) rfl (by decide)).trans rfl
theorem wS_6 (h0 : 0 ≤ i) (h1 : i < 31) : aw 11 (S b0 σ ξ) (b0 + 6) i v = some (S b0 σ (xu ξ 6 i v)) := aw_S (d := 6) (by unfold inS; omega) rfl h0 h1 (by omega) (fun _ => rfl)
theorem iS_7 {γ : Type} {X : Option γ} : iv 1 (S b0 σ ξ) (b0 + 7) X = X := iv_S (by unfold inS; omega) rfl
theorem rS_7_0 : rd 1 (S b0 σ ξ) (b0 + 7) 0 = some (b0 + 8) := (rd_S (by unfold inS; omega) rfl).trans rfl
theorem rS_7_1 : rd 1 (S b0 σ ξ) (b0 + 7) 1 = some (ξ 7 1) := (rd_S (by unfold inS; omega) rfl).trans rfl
theorem pS_7_1 : pw 1 (S b0 σ ξ) (b0 + 7) 1 v = some (S b0 σ (xu ξ 7 1 v)) := pw_S (by unfold inS; omega) rfl (fun _ => rfl)
theorem rS_7_2 : rd 1 (S b0 σ ξ) (b0 + 7) 2 = some (ξ 7 2) := (rd_S (by unfold inS; omega) rfl).trans rfl
theorem pS_7_2 : pw 1 (S b0 σ ξ) (b0 + 7) 2 v = some (S b0 σ (xu ξ 7 2 v)) := pw_S (by unfold inS; omega) rfl (fun _ => rfl)
theorem rS_7_3 : rd 1 (S b0 σ ξ) (b0 + 7) 3 = some (ξ 7 3) := (rd_S (by unfold inS; omega) rfl).trans rfl
theorem pS_7_3 : pw 1 (S b0 σ ξ) (b0 + 7) 3 v = some (S b0 σ (xu ξ 7 3 v)) := pw_S (by unfold inS; omega) rfl (fun _ => rfl)
theorem rS_7_4 : rd 1 (S b0 σ ξ) (b0 + 7) 4 = some (ξ 7 4) := (rd_S (by unfold inS; omega) rfl).trans rfl
theorem pS_7_4 : pw 1 (S b0 σ ξ) (b0 + 7) 4 v = some (S b0 σ (xu ξ 7 4 v)) := pw_S (by unfold inS; omega) rfl (fun _ => rfl)
theorem rS_7_5 : rd 1 (S b0 σ ξ) (b0 + 7) 5 = some (ξ 7 5) := (rd_S (by unfold inS; omega) rfl).trans rfl
theorem pS_7_5 : pw 1 (S b0 σ ξ) (b0 + 7) 5 v = some (S b0 σ (xu ξ 7 5 v)) := pw_S (by unfold inS; omega) rfl (fun _ => rfl)
theorem rS_7_6 : rd 1 (S b0 σ ξ) (b0 + 7) 6 = some (ξ 7 6) := (rd_S (by unfold inS; omega) rfl).trans rfl
theorem pS_7_6 : pw 1 (S b0 σ ξ) (b0 + 7) 6 v = some (S b0 σ (xu ξ 7 6 v)) := pw_S (by unfold inS; omega) rfl (fun _ => rfl)
theorem rS_7_7 : rd 1 (S b0 σ ξ) (b0 + 7) 7 = some (ξ 7 7) := (rd_S (by unfold inS; omega) rfl).trans rfl
theorem pS_7_7 : pw 1 (S b0 σ ξ) (b0 + 7) 7 v = some (S b0 σ (xu ξ 7 7 v)) := pw_S (by unfold inS; omega) rfl (fun _ => rfl)
theorem rS_7_8 : rd 1 (S b0 σ ξ) (b0 + 7) 8 = some (ξ 7 8) := (rd_S (by unfold inS; omega) rfl).trans rfl
theorem pS_7_8 : pw 1 (S b0 σ ξ) (b0 + 7) 8 v = some (S b0 σ (xu ξ 7 8 v)) := pw_S (by unfold inS; omega) rfl (fun _ => rfl)
theorem aS_8 (h0 : 0 ≤ i) (h1 : i < 31) : ar 11 (S b0 σ ξ) (b0 + 8) i = some (ξ 8 i) := (ar_S (d := 8) (by unfold inS; omega) rfl h0 h1 (by omega)).trans rfl
theorem lS_8 : al 11 (S b0 σ ξ) (b0 + 8) = some 31 := (al_S (d := 8) (by unfold inS; omega) rfl (by decide)).trans rfl
theorem wS_8 (h0 : 0 ≤ i) (h1 : i < 31) : aw 11 (S b0 σ ξ) (b0 + 8) i v = some (S b0 σ (xu ξ 8 i v)) := aw_S (d := 8) (by unfold inS; omega) rfl h0 h1 (by omega) (fun _ => rfl)
theorem iS_9 {γ : Type} {X : Option γ} : iv 4 (S b0 σ ξ) (b0 + 9) X = X := iv_S (by unfold inS; omega) rfl
theorem rS_9_0 : rd 4 (S b0 σ ξ) (b0 + 9) 0 = some (b0 + 10) := (rd_S (by unfold inS; omega) rfl).trans rfl
theorem rS_9_1 : rd 4 (S b0 σ ξ) (b0 + 9) 1 = some (b0 + 11) := (rd_S (by unfold inS; omega) rfl).trans rfl
theorem rS_9_2 : rd 4 (S b0 σ ξ) (b0 + 9) 2 = some (ξ 9 2) := (rd_S (by unfold inS; omega) rfl).trans rfl
theorem pS_9_2 : pw 4 (S b0 σ ξ) (b0 + 9) 2 v = some (S b0 σ (xu ξ 9 2 v)) := pw_S (by unfold inS; omega) rfl (fun _ => rfl)
theorem rS_9_3 : rd 4 (S b0 σ ξ) (b0 + 9) 3 = some (ξ 9 3) := (rd_S (by unfold inS; omega) rfl).trans rfl
theorem pS_9_3 : pw 4 (S b0 σ ξ) (b0 + 9) 3 v = some (S b0 σ (xu ξ 9 3 v)) := pw_S (by unfold inS; omega) rfl (fun _ => rfl)
theorem rS_9_4 : rd 4 (S b0 σ ξ) (b0 + 9) 4 = some (ξ 9 4) := (rd_S (by unfold inS; omega) rfl).trans rfl
theorem pS_9_4 : pw 4 (S b0 σ ξ) (b0 + 9) 4 v = some (S b0 σ (xu ξ 9 4 v)) := pw_S (by unfold inS; omega) rfl (fun _ => rfl)
theorem aS_10 (h0 : 0 ≤ i) (h1 : i < 81) : ar 15 (S b0 σ ξ) (b0 + 10) i = some (ξ 10 i) := (ar_S (d := 10) (by unfold inS; omega) rfl h0 h1 (by omega)).trans rfl
theorem lS_10 : al 15 (S b0 σ ξ) (b0 + 10) = some 81 := (al_S (d := 10) (by unfold inS; omega) rfl (by decide)).trans rfl
theorem aS_11 (h0 : 0 ≤ i) (h1 : i < 10) : ar 11 (S b0 σ ξ) (b0 + 11) i = some (ξ 11 i) := (ar_S (d := 11) (by unfold inS; omega) rfl h0 h1 (by omega)).trans rfl
theorem lS_11 : al 11 (S b0 σ ξ) (b0 + 11) = some 10 := (al_S (d := 11) (by unfold inS; omega) rfl (by decide)).trans rfl
theorem wS_11 (h0 : 0 ≤ i) (h1 : i < 10) : aw 11 (S b0 σ ξ) (b0 + 11) i v = some (S b0 σ (xu ξ 11 i v)) := aw_S (d := 11) (by unfold inS; omega) rfl h0 h1 (by omega) (fun _ => rfl)
theorem iS_15 {γ : Type} {X : Option γ} : iv 7 (S b0 σ ξ) (b0 + 15) X = X := iv_S (by unfold inS; omega) rfl
theorem rS_15_0 : rd 7 (S b0 σ ξ) (b0 + 15) 0 = some (b0 + 1) := (rd_S (by unfold inS; omega) rfl).trans rfl
theorem rS_15_1 : rd 7 (S b0 σ ξ) (b0 + 15) 1 = some (b0 + 9) := (rd_S (by unfold inS; omega) rfl).trans rfl
theorem rS_15_2 : rd 7 (S b0 σ ξ) (b0 + 15) 2 = some (ξ 15 2) := (rd_S (by unfold inS; omega) rfl).trans rfl
theorem pS_15_2 : pw 7 (S b0 σ ξ) (b0 + 15) 2 v = some (S b0 σ (xu ξ 15 2 v)) := pw_S (by unfold inS; omega) rfl (fun _ => rfl)
theorem rS_15_3 : rd 7 (S b0 σ ξ) (b0 + 15) 3 = some (ξ 15 3) := (rd_S (by unfold inS; omega) rfl).trans rfl
theorem pS_15_3 : pw 7 (S b0 σ ξ) (b0 + 15) 3 v = some (S b0 σ (xu ξ 15 3 v)) := pw_S (by unfold inS; omega) rfl (fun _ => rfl)
theorem iS_16 {γ : Type} {X : Option γ} : iv 6 (S b0 σ ξ) (b0 + 16) X = X := iv_S (by unfold inS; omega) rfl
theorem rS_16_0 : rd 6 (S b0 σ ξ) (b0 + 16) 0 = some (b0 + 1) := (rd_S (by unfold inS; omega) rfl).trans rfl
theorem rS_16_1 : rd 6 (S b0 σ ξ) (b0 + 16) 1 = some (b0 + 9) := (rd_S (by unfold inS; omega) rfl).trans rfl
theorem iS_17 {γ : Type} {X : Option γ} : iv 3 (S b0 σ ξ) (b0 + 17) X = X := iv_S (by unfold inS; omega) rfl
theorem rS_17_0 : rd 3 (S b0 σ ξ) (b0 + 17) 0 = some (b0 + 18) := (rd_S (by unfold inS; omega) rfl).trans rfl
theorem rS_17_1 : rd 3 (S b0 σ ξ) (b0 + 17) 1 = some (b0 + 19) := (rd_S (by unfold inS; omega) rfl).trans rfl
theorem rS_17_2 : rd 3 (S b0 σ ξ) (b0 + 17) 2 = some (b0 + 20) := (rd_S (by unfold inS; omega) rfl).trans rfl
theorem rS_17_3 : rd 3 (S b0 σ ξ) (b0 + 17) 3 = some (b0 + 21) := (rd_S (by unfold inS; omega) rfl).trans rfl
theorem rS_17_4 : rd 3 (S b0 σ ξ) (b0 + 17) 4 = some (b0 + 22) := (rd_S (by unfold inS; omega) rfl).trans rfl
theorem rS_17_5 : rd 3 (S b0 σ ξ) (b0 + 17) 5 = some (ξ 17 5) := (rd_S (by unfold inS; omega) rfl).trans rfl
theorem pS_17_5 (hv : v = 0 ∨ v = 1) : pz 3 (S b0 σ ξ) (b0 + 17) 5 v = some (S b0 σ (xu ξ 17 5 v)) := pz_S (by unfold inS; omega) rfl (fun _ => rfl) hv
theorem rS_17_6 : rd 3 (S b0 σ ξ) (b0 + 17) 6 = some (ξ 17 6) := (rd_S (by unfold inS; omega) rfl).trans rfl
theorem pS_17_6 : pw 3 (S b0 σ ξ) (b0 + 17) 6 v = some (S b0 σ (xu ξ 17 6 v)) := pw_S (by unfold inS; omega) rfl (fun _ => rfl)
theorem rS_17_7 : rd 3 (S b0 σ ξ) (b0 + 17) 7 = some (ξ 17 7) := (rd_S (by unfold inS; omega) rfl).trans rfl
theorem pS_17_7 : pw 3 (S b0 σ ξ) (b0 + 17) 7 v = some (S b0 σ (xu ξ 17 7 v)) := pw_S (by unfold inS; omega) rfl (fun _ => rfl)
theorem aS_18 (h0 : 0 ≤ i) (h1 : i < 11) : ar 11 (S b0 σ ξ) (b0 + 18) i = some (ξ 18 i) := (ar_S (d := 18) (by unfold inS; omega) rfl h0 h1 (by omega)).trans rfl
theorem lS_18 : al 11 (S b0 σ ξ) (b0 + 18) = some 11 := (al_S (d := 18) (by unfold inS; omega) rfl (by decide)).trans rfl
theorem wS_18 (h0 : 0 ≤ i) (h1 : i < 11) : aw 11 (S b0 σ ξ) (b0 + 18) i v = some (S b0 σ (xu ξ 18 i v)) := aw_S (d := 18) (by unfold inS; omega) rfl h0 h1 (by omega) (fun _ => rfl)
theorem aS_19 (h0 : 0 ≤ i) (h1 : i < 11) : ar 11 (S b0 σ ξ) (b0 + 19) i = some (ξ 19 i) := (ar_S (d := 19) (by unfold inS; omega) rfl h0 h1 (by omega)).trans rfl
theorem lS_19 : al 11 (S b0 σ ξ) (b0 + 19) = some 11 := (al_S (d := 19) (by unfold inS; omega) rfl (by decide)).trans rfl
theorem wS_19 (h0 : 0 ≤ i) (h1 : i < 11) : aw 11 (S b0 σ ξ) (b0 + 19) i v = some (S b0 σ (xu ξ 19 i v)) := aw_S (d := 19) (by unfold inS; omega) rfl h0 h1 (by omega) (fun _ => rfl)
theorem aS_20 (h0 : 0 ≤ i) (h1 : i < 11) : ar 11 (S b0 σ ξ) (b0 + 20) i = some (ξ 20 i) := (ar_S (d := 20) (by unfold inS; omega) rfl h0 h1 (by omega)).trans rfl
theorem lS_20 : al 11 (S b0 σ ξ) (b0 + 20) = some 11 := (al_S (d := 20) (by unfold inS; omega) rfl (by decide)).trans rfl
theorem wS_20 (h0 : 0 ≤ i) (h1 : i < 11) : aw 11 (S b0 σ ξ) (b0 + 20) i v = some (S b0 σ (xu ξ 20 i v)) := aw_S (d := 20) (by unfold inS; omega) rfl h0 h1 (by omega) (fun _ => rfl)
theorem aS_21 (h0 : 0 ≤ i) (h1 : i < 11) : ar 11 (S b0 σ ξ) (b0 + 21) i = some (ξ 21 i) := (ar_S (d := 21) (by unfold inS; omega) rfl h0 h1 (by omega)).trans rfl
theorem lS_21 : al 11 (S b0 σ ξ) (b0 + 21) = some 11 := (al_S (d := 21) (by unfold inS; omega) rfl (by decide)).trans rfl
theorem wS_21 (h0 : 0 ≤ i) (h1 : i < 11) : aw 11 (S b0 σ ξ) (b0 + 21) i v = some (S b0 σ (xu ξ 21 i v)) := aw_S (d := 21) (by unfold inS; omega) rfl h0 h1 (by omega) (fun _ => rfl)
theorem aS_22 (h0 : 0 ≤ i) (h1 : i < 11) : ar 11 (S b0 σ ξ) (b0 + 22) i = some (ξ 22 i) := (ar_S (d := 22) (by unfold inS; omega) rfl h0 h1 (by omega)).trans rfl
theorem lS_22 : al 11 (S b0 σ ξ) (b0 + 22) = some 11 := (al_S (d := 22) (by unfold inS; omega) rfl (by decide)).trans rfl
theorem wS_22 (h0 : 0 ≤ i) (h1 : i < 11) : aw 11 (S b0 σ ξ) (b0 + 22) i v = some (S b0 σ (xu ξ 22 i v)) := aw_S (d := 22) (by unfold inS; omega) rfl h0 h1 (by omega) (fun _ => rfl)
theorem iS_23 {γ : Type} {X : Option γ} : iv 9 (S b0 σ ξ) (b0 + 23) X = X := iv_S (by unfold inS; omega) rfl
theorem rS_23_0 : rd 9 (S b0 σ ξ) (b0 + 23) 0 = some (ξ 23 0) := (rd_S (by unfold inS; omega) rfl).trans rfl
theorem pS_23_0 : pw 9 (S b0 σ ξ) (b0 + 23) 0 v = some (S b0 σ (xu ξ 23 0 v)) := pw_S (by unfold inS; omega) rfl (fun _ => rfl)
theorem rS_23_1 : rd 9 (S b0 σ ξ) (b0 + 23) 1 = some (ξ 23 1) := (rd_S (by unfold inS; omega) rfl).trans rfl
theorem pS_23_1 : pw 9 (S b0 σ ξ) (b0 + 23) 1 v = some (S b0 σ (xu ξ 23 1 v)) := pw_S (by unfold inS; omega) rfl (fun _ => rfl)
theorem rS_23_2 : rd 9 (S b0 σ ξ) (b0 + 23) 2 = some (b0 + 24) := (rd_S (by unfold inS; omega) rfl).trans rfl
theorem rS_23_3 : rd 9 (S b0 σ ξ) (b0 + 23) 3 = some (b0 + 25) := (rd_S (by unfold inS; omega) rfl).trans rfl
theorem rS_23_4 : rd 9 (S b0 σ ξ) (b0 + 23) 4 = some (b0 + 26) := (rd_S (by unfold inS; omega) rfl).trans rfl
theorem rS_23_5 : rd 9 (S b0 σ ξ) (b0 + 23) 5 = some (b0 + 27) := (rd_S (by unfold inS; omega) rfl).trans rfl
theorem rS_23_6 : rd 9 (S b0 σ ξ) (b0 + 23) 6 = some (b0 + 28) := (rd_S (by unfold inS; omega) rfl).trans rfl
theorem rS_23_7 : rd 9 (S b0 σ ξ) (b0 + 23) 7 = some (b0 + 29) := (rd_S (by unfold inS; omega) rfl).trans rfl
theorem rS_23_8 : rd 9 (S b0 σ ξ) (b0 + 23) 8 = some (ξ 23 8) := (rd_S (by unfold inS; omega) rfl).trans rfl
theorem pS_23_8 : pw 9 (S b0 σ ξ) (b0 + 23) 8 v = some (S b0 σ (xu ξ 23 8 v)) := pw_S (by unfold inS; omega) rfl (fun _ => rfl)
theorem rS_23_9 : rd 9 (S b0 σ ξ) (b0 + 23) 9 = some (ξ 23 9) := (rd_S (by unfold inS; omega) rfl).trans rfl
theorem pS_23_9 : pw 9 (S b0 σ ξ) (b0 + 23) 9 v = some (S b0 σ (xu ξ 23 9 v)) := pw_S (by unfold inS; omega) rfl (fun _ => rfl)
theorem rS_23_10 : rd 9 (S b0 σ ξ) (b0 + 23) 10 = some (b0 + 30) := (rd_S (by unfold inS; omega) rfl).trans rfl
theorem rS_23_11 : rd 9 (S b0 σ ξ) (b0 + 23) 11 = some (ξ 23 11) := (rd_S (by unfold inS; omega) rfl).trans rfl
theorem pS_23_11 : pw 9 (S b0 σ ξ) (b0 + 23) 11 v = some (S b0 σ (xu ξ 23 11 v)) := pw_S (by unfold inS; omega) rfl (fun _ => rfl)
theorem rS_23_12 : rd 9 (S b0 σ ξ) (b0 + 23) 12 = some (b0 + 31) := (rd_S (by unfold inS; omega) rfl).trans rfl
theorem rS_23_13 : rd 9 (S b0 σ ξ) (b0 + 23) 13 = some (b0 + 32) := (rd_S (by unfold inS; omega) rfl).trans rfl
theorem rS_23_14 : rd 9 (S b0 σ ξ) (b0 + 23) 14 = some (b0 + 33) := (rd_S (by unfold inS; omega) rfl).trans rfl
theorem rS_23_15 : rd 9 (S b0 σ ξ) (b0 + 23) 15 = some (b0 + 34) := (rd_S (by unfold inS; omega) rfl).trans rfl
theorem rS_23_16 : rd 9 (S b0 σ ξ) (b0 + 23) 16 = some (b0 + 35) := (rd_S (by unfold inS; omega) rfl).trans rfl
theorem rS_23_17 : rd 9 (S b0 σ ξ) (b0 + 23) 17 = some (b0 + 36) := (rd_S (by unfold inS; omega) rfl).trans rfl
theorem rS_23_18 : rd 9 (S b0 σ ξ) (b0 + 23) 18 = some (ξ 23 18) := (rd_S (by unfold inS; omega) rfl).trans rfl
theorem pS_23_18 : pw 9 (S b0 σ ξ) (b0 + 23) 18 v = some (S b0 σ (xu ξ 23 18 v)) := pw_S (by unfold inS; omega) rfl (fun _ => rfl)
theorem rS_23_19 : rd 9 (S b0 σ ξ) (b0 + 23) 19 = some (ξ 23 19) := (rd_S (by unfold inS; omega) rfl).trans rfl
theorem pS_23_19 (hv : v = 0 ∨ v = 1) : pz 9 (S b0 σ ξ) (b0 + 23) 19 v = some (S b0 σ (xu ξ 23 19 v)) := pz_S (by unfold inS; omega) rfl (fun _ => rfl) hv
theorem rS_23_20 : rd 9 (S b0 σ ξ) (b0 + 23) 20 = some (b0 + 37) := (rd_S (by unfold inS; omega) rfl).trans rfl
theorem rS_23_21 : rd 9 (S b0 σ ξ) (b0 + 23) 21 = some (b0 + 38) := (rd_S (by unfold inS; omega) rfl).trans rfl
theorem rS_23_22 : rd 9 (S b0 σ ξ) (b0 + 23) 22 = some (b0 + 39) := (rd_S (by unfold inS; omega) rfl).trans rfl
theorem rS_23_23 : rd 9 (S b0 σ ξ) (b0 + 23) 23 = some (b0 + 40) := (rd_S (by unfold inS; omega) rfl).trans rfl
theorem rS_23_24 : rd 9 (S b0 σ ξ) (b0 + 23) 24 = some (b0 + 41) := (rd_S (by unfold inS; omega) rfl).trans rfl
theorem rS_23_25 : rd 9 (S b0 σ ξ) (b0 + 23) 25 = some (b0 + 42) := (rd_S (by unfold inS; omega) rfl).trans rfl
theorem rS_23_26 : rd 9 (S b0 σ ξ) (b0 + 23) 26 = some (b0 + 43) := (rd_S (by unfold inS; omega) rfl).trans rfl
theorem rS_23_27 : rd 9 (S b0 σ ξ) (b0 + 23) 27 = some (b0 + 44) := (rd_S (by unfold inS; omega) rfl).trans rfl
theorem rS_23_28 : rd 9 (S b0 σ ξ) (b0 + 23) 28 = some (b0 + 45) := (rd_S (by unfold inS; omega) rfl).trans rfl
theorem rS_23_29 : rd 9 (S b0 σ ξ) (b0 + 23) 29 = some (b0 + 46) := (rd_S (by unfold inS; omega) rfl).trans rfl
theorem rS_23_30 : rd 9 (S b0 σ ξ) (b0 + 23) 30 = some (b0 + 47) := (rd_S (by unfold inS; omega) rfl).trans rfl
theorem rS_23_31 : rd 9 (S b0 σ ξ) (b0 + 23) 31 = some (b0 + 48) := (rd_S (by unfold inS; omega) rfl).trans rfl
theorem rS_23_32 : rd 9 (S b0 σ ξ) (b0 + 23) 32 = some (ξ 23 32) := (rd_S (by unfold inS; omega) rfl).trans rfl
theorem pS_23_32 (hv : v = 0 ∨ v = 1) : pz 9 (S b0 σ ξ) (b0 + 23) 32 v = some (S b0 σ (xu ξ 23 32 v)) := pz_S (by unfold inS; omega) rfl (fun _ => rfl) hv
theorem rS_23_33 : rd 9 (S b0 σ ξ) (b0 + 23) 33 = some (ξ 23 33) := (rd_S (by unfold inS; omega) rfl).trans rfl
theorem pS_23_33 : pw 9 (S b0 σ ξ) (b0 + 23) 33 v = some (S b0 σ (xu ξ 23 33 v)) := pw_S (by unfold inS; omega) rfl (fun _ => rfl)
theorem rS_23_34 : rd 9 (S b0 σ ξ) (b0 + 23) 34 = some (b0 + 49) := (rd_S (by unfold inS; omega) rfl).trans rfl
theorem rS_23_35 : rd 9 (S b0 σ ξ) (b0 + 23) 35 = some (b0 + 50) := (rd_S (by unfold inS; omega) rfl).trans rfl
theorem rS_23_36 : rd 9 (S b0 σ ξ) (b0 + 23) 36 = some (b0 + 51) := (rd_S (by unfold inS; omega) rfl).trans rfl
theorem rS_23_37 : rd 9 (S b0 σ ξ) (b0 + 23) 37 = some (b0 + 52) := (rd_S (by unfold inS; omega) rfl).trans rfl
theorem rS_23_38 : rd 9 (S b0 σ ξ) (b0 + 23) 38 = some (b0 + 53) := (rd_S (by unfold inS; omega) rfl).trans rfl
theorem rS_23_39 : rd 9 (S b0 σ ξ) (b0 + 23) 39 = some (b0 + 54) := (rd_S (by unfold inS; omega) rfl).trans rfl
theorem aS_24 (h0 : 0 ≤ i) (h1 : i < 3) : ar 11 (S b0 σ ξ) (b0 + 24) i = some (ξ 24 i) := (ar_S (d := 24) (by unfold inS; omega) rfl h0 h1 (by omega)).trans rfl
theorem lS_24 : al 11 (S b0 σ ξ) (b0 + 24) = some 3 := (al_S (d := 24) (by unfold inS; omega) rfl (by decide)).trans rfl
theorem wS_24 (h0 : 0 ≤ i) (h1 : i < 3) : aw 11 (S b0 σ ξ) (b0 + 24) i v = some (S b0 σ (xu ξ 24 i v)) := aw_S (d := 24) (by unfold inS; omega) rfl h0 h1 (by omega) (fun _ => rfl)
theorem aS_25 (h0 : 0 ≤ i) (h1 : i < 3) : ar 11 (S b0 σ ξ) (b0 + 25) i = some (ξ 25 i) := (ar_S (d := 25) (by unfold inS; omega) rfl h0 h1 (by omega)).trans rfl
theorem lS_25 : al 11 (S b0 σ ξ) (b0 + 25) = some 3 := (al_S (d := 25) (by unfold inS; omega) rfl (by decide)).trans rfl
theorem wS_25 (h0 : 0 ≤ i) (h1 : i < 3) : aw 11 (S b0 σ ξ) (b0 + 25) i v = some (S b0 σ (xu ξ 25 i v)) := aw_S (d := 25) (by unfold inS; omega) rfl h0 h1 (by omega) (fun _ => rfl)
theorem aS_26 (h0 : 0 ≤ i) (h1 : i < 3) : ar 11 (S b0 σ ξ) (b0 + 26) i = some (ξ 26 i) := (ar_S (d := 26) (by unfold inS; omega) rfl h0 h1 (by omega)).trans rfl
theorem lS_26 : al 11 (S b0 σ ξ) (b0 + 26) = some 3 := (al_S (d := 26) (by unfold inS; omega) rfl (by decide)).trans rfl
theorem wS_26 (h0 : 0 ≤ i) (h1 : i < 3) : aw 11 (S b0 σ ξ) (b0 + 26) i v = some (S b0 σ (xu ξ 26 i v)) := aw_S (d := 26) (by unfold inS; omega) rfl h0 h1 (by omega) (fun _ => rfl)
theorem aS_27 (h0 : 0 ≤ i) (h1 : i < 3) : ar 11 (S b0 σ ξ) (b0 + 27) i = some (ξ 27 i) := (ar_S (d := 27) (by unfold inS; omega) rfl h0 h1 (by omega)).trans rfl
theorem lS_27 : al 11 (S b0 σ ξ) (b0 + 27) = some 3 := (al_S (d := 27) (by unfold inS; omega) rfl (by decide)).trans rfl
theorem wS_27 (h0 : 0 ≤ i) (h1 : i < 3) : aw 11 (S b0 σ ξ) (b0 + 27) i v = some (S b0 σ (xu ξ 27 i v)) := aw_S (d := 27) (by unfold inS; omega) rfl h0 h1 (by omega) (fun _ => rfl)
theorem aS_28 (h0 : 0 ≤ i) (h1 : i < 93) : ar 11 (S b0 σ ξ) (b0 + 28) i = some (ξ 28 i) := (ar_S (d := 28) (by unfold inS; omega) rfl h0 h1 (by omega)).trans rfl
theorem lS_28 : al 11 (S b0 σ ξ) (b0 + 28) = some 93 := (al_S (d := 28) (by unfold inS; omega) rfl (by decide)).trans rfl
theorem wS_28 (h0 : 0 ≤ i) (h1 : i < 93) : aw 11 (S b0 σ ξ) (b0 + 28) i v = some (S b0 σ (xu ξ 28 i v)) := aw_S (d := 28) (by unfold inS; omega) rfl h0 h1 (by omega) (fun _ => rfl)
theorem aS_29 (h0 : 0 ≤ i) (h1 : i < 3) : ar 11 (S b0 σ ξ) (b0 + 29) i = some (ξ 29 i) := (ar_S (d := 29) (by unfold inS; omega) rfl h0 h1 (by omega)).trans rfl
theorem lS_29 : al 11 (S b0 σ ξ) (b0 + 29) = some 3 := (al_S (d := 29) (by unfold inS; omega) rfl (by decide)).trans rfl
theorem wS_29 (h0 : 0 ≤ i) (h1 : i < 3) : aw 11 (S b0 σ ξ) (b0 + 29) i v = some (S b0 σ (xu ξ 29 i v)) := aw_S (d := 29) (by unfold inS; omega) rfl h0 h1 (by omega) (fun _ => rfl)
theorem aS_30 (h0 : 0 ≤ i) (h1 : i < 10) : ar 11 (S b0 σ ξ) (b0 + 30) i = some (ξ 30 i) := (ar_S (d := 30) (by unfold inS; omega) rfl h0 h1 (by omega)).trans rfl
theorem lS_30 : al 11 (S b0 σ ξ) (b0 + 30) = some 10 := (al_S (d := 30) (by unfold inS; omega) rfl (by decide)).trans rfl
theorem wS_30 (h0 : 0 ≤ i) (h1 : i < 10) : aw 11 (S b0 σ ξ) (b0 + 30) i v = some (S b0 σ (xu ξ 30 i v)) := aw_S (d := 30) (by unfold inS; omega) rfl h0 h1 (by omega) (fun _ => rfl)
theorem aS_31 (h0 : 0 ≤ i) (h1 : i < 81) : ar 11 (S b0 σ ξ) (b0 + 31) i = some (ξ 31 i) := (ar_S (d := 31) (by unfold inS; omega) rfl h0 h1 (by omega)).trans rfl
theorem lS_31 : al 11 (S b0 σ ξ) (b0 + 31) = some 81 := (al_S (d := 31) (by unfold inS; omega) rfl (by decide)).trans rfl
theorem wS_31 (h0 : 0 ≤ i) (h1 : i < 81) : aw 11 (S b0 σ ξ) (b0 + 31) i v = some (S b0 σ (xu ξ 31 i v)) := aw_S (d := 31) (by unfold inS; omega) rfl h0 h1 (by omega) (fun _ => rfl)
theorem aS_32 (h0 : 0 ≤ i) (h1 : i < 81) : ar 11 (S b0 σ ξ) (b0 + 32) i = some (ξ 32 i) := (ar_S (d := 32) (by unfold inS; omega) rfl h0 h1 (by omega)).trans rfl
theorem lS_32 : al 11 (S b0 σ ξ) (b0 + 32) = some 81 := (al_S (d := 32) (by unfold inS; omega) rfl (by decide)).trans rfl
theorem wS_32 (h0 : 0 ≤ i) (h1 : i < 81) : aw 11 (S b0 σ ξ) (b0 + 32) i v = some (S b0 σ (xu ξ 32 i v)) := aw_S (d := 32) (by unfold inS; omega) rfl h0 h1 (by omega) (fun _ => rfl)
theorem aS_33 (h0 : 0 ≤ i) (h1 : i < 81) : ar 11 (S b0 σ ξ) (b0 + 33) i = some (ξ 33 i) := (ar_S (d := 33) (by unfold inS; omega) rfl h0 h1 (by omega)).trans rfl
theorem lS_33 : al 11 (S b0 σ ξ) (b0 + 33) = some 81 := (al_S (d := 33) (by unfold inS; omega) rfl (by decide)).trans rfl
theorem wS_33 (h0 : 0 ≤ i) (h1 : i < 81) : aw 11 (S b0 σ ξ) (b0 + 33) i v = some (S b0 σ (xu ξ 33 i v)) := aw_S (d := 33) (by unfold inS; omega) rfl h0 h1 (by omega) (fun _ => rfl)
theorem aS_34 (h0 : 0 ≤ i) (h1 : i < 243) : ar 11 (S b0 σ ξ) (b0 + 34) i = some (ξ 34 i) := (ar_S (d := 34) (by unfold inS; omega) rfl h0 h1 (by omega)).trans rfl
theorem lS_34 : al 11 (S b0 σ ξ) (b0 + 34) = some 243 := (al_S (d := 34) (by unfold inS; omega) rfl (by decide)).trans rfl
theorem wS_34 (h0 : 0 ≤ i) (h1 : i < 243) : aw 11 (S b0 σ ξ) (b0 + 34) i v = some (S b0 σ (xu ξ 34 i v)) := aw_S (d := 34) (by unfold inS; omega) rfl h0 h1 (by omega) (fun _ => rfl)
theorem aS_35 (h0 : 0 ≤ i) (h1 : i < 3) : ar 11 (S b0 σ ξ) (b0 + 35) i = some (ξ 35 i) := (ar_S (d := 35) (by unfold inS; omega) rfl h0 h1 (by omega)).trans rfl
theorem lS_35 : al 11 (S b0 σ ξ) (b0 + 35) = some 3 := (al_S (d := 35) (by unfold inS; omega) rfl (by decide)).trans rfl
theorem wS_35 (h0 : 0 ≤ i) (h1 : i < 3) : aw 11 (S b0 σ ξ) (b0 + 35) i v = some (S b0 σ (xu ξ 35 i v)) := aw_S (d := 35) (by unfold inS; omega) rfl h0 h1 (by omega) (fun _ => rfl)
theorem aS_36 (h0 : 0 ≤ i) (h1 : i < 3) : ar 11 (S b0 σ ξ) (b0 + 36) i = some (ξ 36 i) := (ar_S (d := 36) (by unfold inS; omega) rfl h0 h1 (by omega)).trans rfl
theorem lS_36 : al 11 (S b0 σ ξ) (b0 + 36) = some 3 := (al_S (d := 36) (by unfold inS; omega) rfl (by decide)).trans rfl
theorem wS_36 (h0 : 0 ≤ i) (h1 : i < 3) : aw 11 (S b0 σ ξ) (b0 + 36) i v = some (S b0 σ (xu ξ 36 i v)) := aw_S (d := 36) (by unfold inS; omega) rfl h0 h1 (by omega) (fun _ => rfl)
theorem aS_37 (h0 : 0 ≤ i) (h1 : i < 81000) : ar 13 (S b0 σ ξ) (b0 + 37) i = some (ξ 37 i) := (ar_S (d := 37) (by unfold inS; omega) rfl h0 h1 (by omega)).trans rfl
theorem lS_37 : al 13 (S b0 σ ξ) (b0 + 37) = some 81000 := (al_S (d := 37) (by unfold inS; omega) rfl (by decide)).trans rfl
theorem wS_37 (h0 : 0 ≤ i) (h1 : i < 81000) (hv : v = 0 ∨ v = 1) : az 13 (S b0 σ ξ) (b0 + 37) i v = some (S b0 σ (xu ξ 37 i v)) := az_S (d := 37) (by unfold inS; omega) rfl h0 h1 (by omega) (fun _ => rfl) hv
theorem aS_38 (h0 : 0 ≤ i) (h1 : i < 81000) : ar 13 (S b0 σ ξ) (b0 + 38) i = some (ξ 38 i) := (ar_S (d := 38) (by unfold inS; omega) rfl h0 h1 (by omega)).trans rfl
theorem lS_38 : al 13 (S b0 σ ξ) (b0 + 38) = some 81000 := (al_S (d := 38) (by unfold inS; omega) rfl (by decide)).trans rfl
theorem wS_38 (h0 : 0 ≤ i) (h1 : i < 81000) (hv : v = 0 ∨ v = 1) : az 13 (S b0 σ ξ) (b0 + 38) i v = some (S b0 σ (xu ξ 38 i v)) := az_S (d := 38) (by unfold inS; omega) rfl h0 h1 (by omega) (fun _ => rfl) hv
theorem aS_39 (h0 : 0 ≤ i) (h1 : i < 81000) : ar 12 (S b0 σ ξ) (b0 + 39) i = some (ξ 39 i) := (ar_S (d := 39) (by unfold inS; omega) rfl h0 h1 (by omega)).trans rfl
theorem lS_39 : al 12 (S b0 σ ξ) (b0 + 39) = some 81000 := (al_S (d := 39) (by unfold inS; omega) rfl (by decide)).trans rfl
theorem wS_39 (h0 : 0 ≤ i) (h1 : i < 81000) : aw 12 (S b0 σ ξ) (b0 + 39) i v = some (S b0 σ (xu ξ 39 i v)) := aw_S (d := 39) (by unfold inS; omega) rfl h0 h1 (by omega) (fun _ => rfl)
theorem aS_40 (h0 : 0 ≤ i) (h1 : i < 81000) : ar 11 (S b0 σ ξ) (b0 + 40) i = some (ξ 40 i) := (ar_S (d := 40) (by unfold inS; omega) rfl h0 h1 (by omega)).trans rfl
theorem lS_40 : al 11 (S b0 σ ξ) (b0 + 40) = some 81000 := (al_S (d := 40) (by unfold inS; omega) rfl (by decide)).trans rfl
theorem wS_40 (h0 : 0 ≤ i) (h1 : i < 81000) : aw 11 (S b0 σ ξ) (b0 + 40) i v = some (S b0 σ (xu ξ 40 i v)) := aw_S (d := 40) (by unfold inS; omega) rfl h0 h1 (by omega) (fun _ => rfl)
theorem aS_41 (h0 : 0 ≤ i) (h1 : i < 3) : ar 11 (S b0 σ ξ) (b0 + 41) i = some (ξ 41 i) := (ar_S (d := 41) (by unfold inS; omega) rfl h0 h1 (by omega)).trans rfl
theorem lS_41 : al 11 (S b0 σ ξ) (b0 + 41) = some 3 := (al_S (d := 41) (by unfold inS; omega) rfl (by decide)).trans rfl
theorem wS_41 (h0 : 0 ≤ i) (h1 : i < 3) : aw 11 (S b0 σ ξ) (b0 + 41) i v = some (S b0 σ (xu ξ 41 i v)) := aw_S (d := 41) (by unfold inS; omega) rfl h0 h1 (by omega) (fun _ => rfl)
theorem aS_42 (h0 : 0 ≤ i) (h1 : i < 3) : ar 11 (S b0 σ ξ) (b0 + 42) i = some (ξ 42 i) := (ar_S (d := 42) (by unfold inS; omega) rfl h0 h1 (by omega)).trans rfl
theorem lS_42 : al 11 (S b0 σ ξ) (b0 + 42) = some 3 := (al_S (d := 42) (by unfold inS; omega) rfl (by decide)).trans rfl
theorem wS_42 (h0 : 0 ≤ i) (h1 : i < 3) : aw 11 (S b0 σ ξ) (b0 + 42) i v = some (S b0 σ (xu ξ 42 i v)) := aw_S (d := 42) (by unfold inS; omega) rfl h0 h1 (by omega) (fun _ => rfl)
theorem aS_43 (h0 : 0 ≤ i) (h1 : i < 81) : ar 13 (S b0 σ ξ) (b0 + 43) i = some (ξ 43 i) := (ar_S (d := 43) (by unfold inS; omega) rfl h0 h1 (by omega)).trans rfl
theorem lS_43 : al 13 (S b0 σ ξ) (b0 + 43) = some 81 := (al_S (d := 43) (by unfold inS; omega) rfl (by decide)).trans rfl
theorem wS_43 (h0 : 0 ≤ i) (h1 : i < 81) (hv : v = 0 ∨ v = 1) : az 13 (S b0 σ ξ) (b0 + 43) i v = some (S b0 σ (xu ξ 43 i v)) := az_S (d := 43) (by unfold inS; omega) rfl h0 h1 (by omega) (fun _ => rfl) hv
theorem aS_44 (h0 : 0 ≤ i) (h1 : i < 81) : ar 11 (S b0 σ ξ) (b0 + 44) i = some (ξ 44 i) := (ar_S (d := 44) (by unfold inS; omega) rfl h0 h1 (by omega)).trans rfl
theorem lS_44 : al 11 (S b0 σ ξ) (b0 + 44) = some 81 := (al_S (d := 44) (by unfold inS; omega) rfl (by decide)).trans rfl
theorem wS_44 (h0 : 0 ≤ i) (h1 : i < 81) : aw 11 (S b0 σ ξ) (b0 + 44) i v = some (S b0 σ (xu ξ 44 i v)) := aw_S (d := 44) (by unfold inS; omega) rfl h0 h1 (by omega) (fun _ => rfl)
theorem aS_45 (h0 : 0 ≤ i) (h1 : i < 81) : ar 11 (S b0 σ ξ) (b0 + 45) i = some (ξ 45 i) := (ar_S (d := 45) (by unfold inS; omega) rfl h0 h1 (by omega)).trans rfl
theorem lS_45 : al 11 (S b0 σ ξ) (b0 + 45) = some 81 := (al_S (d := 45) (by unfold inS; omega) rfl (by decide)).trans rfl
theorem wS_45 (h0 : 0 ≤ i) (h1 : i < 81) : aw 11 (S b0 σ ξ) (b0 + 45) i v = some (S b0 σ (xu ξ 45 i v)) := aw_S (d := 45) (by unfold inS; omega) rfl h0 h1 (by omega) (fun _ => rfl)
theorem aS_46 (h0 : 0 ≤ i) (h1 : i < 81) : ar 13 (S b0 σ ξ) (b0 + 46) i = some (ξ 46 i) := (ar_S (d := 46) (by unfold inS; omega) rfl h0 h1 (by omega)).trans rfl
theorem lS_46 : al 13 (S b0 σ ξ) (b0 + 46) = some 81 := (al_S (d := 46) (by unfold inS; omega) rfl (by decide)).trans rfl
theorem wS_46 (h0 : 0 ≤ i) (h1 : i < 81) (hv : v = 0 ∨ v = 1) : az 13 (S b0 σ ξ) (b0 + 46) i v = some (S b0 σ (xu ξ 46 i v)) := az_S (d := 46) (by unfold inS; omega) rfl h0 h1 (by omega) (fun _ => rfl) hv
theorem aS_47 (h0 : 0 ≤ i) (h1 : i < 81) : ar 12 (S b0 σ ξ) (b0 + 47) i = some (ξ 47 i) := (ar_S (d := 47) (by unfold inS; omega) rfl h0 h1 (by omega)).trans rfl
theorem lS_47 : al 12 (S b0 σ ξ) (b0 + 47) = some 81 := (al_S (d := 47) (by unfold inS; omega) rfl (by decide)).trans rfl
theorem wS_47 (h0 : 0 ≤ i) (h1 : i < 81) : aw 12 (S b0 σ ξ) (b0 + 47) i v = some (S b0 σ (xu ξ 47 i v)) := aw_S (d := 47) (by unfold inS; omega) rfl h0 h1 (by omega) (fun _ => rfl)
theorem aS_48 (h0 : 0 ≤ i) (h1 : i < 81) : ar 11 (S b0 σ ξ) (b0 + 48) i = some (ξ 48 i) := (ar_S (d := 48) (by unfold inS; omega) rfl h0 h1 (by omega)).trans rfl
theorem lS_48 : al 11 (S b0 σ ξ) (b0 + 48) = some 81 := (al_S (d := 48) (by unfold inS; omega) rfl (by decide)).trans rfl
theorem wS_48 (h0 : 0 ≤ i) (h1 : i < 81) : aw 11 (S b0 σ ξ) (b0 + 48) i v = some (S b0 σ (xu ξ 48 i v)) := aw_S (d := 48) (by unfold inS; omega) rfl h0 h1 (by omega) (fun _ => rfl)
theorem aS_49 (h0 : 0 ≤ i) (h1 : i < 11) : ar 11 (S b0 σ ξ) (b0 + 49) i = some (ξ 49 i) := (ar_S (d := 49) (by unfold inS; omega) rfl h0 h1 (by omega)).trans rfl
theorem lS_49 : al 11 (S b0 σ ξ) (b0 + 49) = some 11 := (al_S (d := 49) (by unfold inS; omega) rfl (by decide)).trans rfl
theorem wS_49 (h0 : 0 ≤ i) (h1 : i < 11) : aw 11 (S b0 σ ξ) (b0 + 49) i v = some (S b0 σ (xu ξ 49 i v)) := aw_S (d := 49) (by unfold inS; omega) rfl h0 h1 (by omega) (fun _ => rfl)
theorem aS_50 (h0 : 0 ≤ i) (h1 : i < 11) : ar 11 (S b0 σ ξ) (b0 + 50) i = some (ξ 50 i) := (ar_S (d := 50) (by unfold inS; omega) rfl h0 h1 (by omega)).trans rfl
theorem lS_50 : al 11 (S b0 σ ξ) (b0 + 50) = some 11 := (al_S (d := 50) (by unfold inS; omega) rfl (by decide)).trans rfl
theorem wS_50 (h0 : 0 ≤ i) (h1 : i < 11) : aw 11 (S b0 σ ξ) (b0 + 50) i v = some (S b0 σ (xu ξ 50 i v)) := aw_S (d := 50) (by unfold inS; omega) rfl h0 h1 (by omega) (fun _ => rfl)
theorem aS_51 (h0 : 0 ≤ i) (h1 : i < 11) : ar 11 (S b0 σ ξ) (b0 + 51) i = some (ξ 51 i) := (ar_S (d := 51) (by unfold inS; omega) rfl h0 h1 (by omega)).trans rfl
theorem lS_51 : al 11 (S b0 σ ξ) (b0 + 51) = some 11 := (al_S (d := 51) (by unfold inS; omega) rfl (by decide)).trans rfl
theorem wS_51 (h0 : 0 ≤ i) (h1 : i < 11) : aw 11 (S b0 σ ξ) (b0 + 51) i v = some (S b0 σ (xu ξ 51 i v)) := aw_S (d := 51) (by unfold inS; omega) rfl h0 h1 (by omega) (fun _ => rfl)
theorem aS_52 (h0 : 0 ≤ i) (h1 : i < 11) : ar 11 (S b0 σ ξ) (b0 + 52) i = some (ξ 52 i) := (ar_S (d := 52) (by unfold inS; omega) rfl h0 h1 (by omega)).trans rfl
theorem lS_52 : al 11 (S b0 σ ξ) (b0 + 52) = some 11 := (al_S (d := 52) (by unfold inS; omega) rfl (by decide)).trans rfl
theorem wS_52 (h0 : 0 ≤ i) (h1 : i < 11) : aw 11 (S b0 σ ξ) (b0 + 52) i v = some (S b0 σ (xu ξ 52 i v)) := aw_S (d := 52) (by unfold inS; omega) rfl h0 h1 (by omega) (fun _ => rfl)
theorem aS_53 (h0 : 0 ≤ i) (h1 : i < 11) : ar 11 (S b0 σ ξ) (b0 + 53) i = some (ξ 53 i) := (ar_S (d := 53) (by unfold inS; omega) rfl h0 h1 (by omega)).trans rfl
theorem lS_53 : al 11 (S b0 σ ξ) (b0 + 53) = some 11 := (al_S (d := 53) (by unfold inS; omega) rfl (by decide)).trans rfl
theorem wS_53 (h0 : 0 ≤ i) (h1 : i < 11) : aw 11 (S b0 σ ξ) (b0 + 53) i v = some (S b0 σ (xu ξ 53 i v)) := aw_S (d := 53) (by unfold inS; omega) rfl h0 h1 (by omega) (fun _ => rfl)
theorem aS_54 (h0 : 0 ≤ i) (h1 : i < 11) : ar 11 (S b0 σ ξ) (b0 + 54) i = some (ξ 54 i) := (ar_S (d := 54) (by unfold inS; omega) rfl h0 h1 (by omega)).trans rfl
theorem lS_54 : al 11 (S b0 σ ξ) (b0 + 54) = some 11 := (al_S (d := 54) (by unfold inS; omega) rfl (by decide)).trans rfl
theorem wS_54 (h0 : 0 ≤ i) (h1 : i < 11) : aw 11 (S b0 σ ξ) (b0 + 54) i v = some (S b0 σ (xu ξ 54 i v)) := aw_S (d := 54) (by unfold inS; omega) rfl h0 h1 (by omega) (fun _ => rfl)
end SL
