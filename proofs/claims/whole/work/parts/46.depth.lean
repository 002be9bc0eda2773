def F_X6_wN : Nat → Int → Int → Int → Int → Hp → Option (Int × Hp)
  | 0, _, _, _, _, _ => none
  | d + 1, jx0, jx1, jx2, jx3, σ => F_X6_worthOf (F_X6_wN d) jx0 jx1 jx2 jx3 σ
theorem M_X6_wN : ∀ (d : Nat) (jx0 jx1 jx2 jx3 : Int) (σ : Hp), Mn σ (F_X6_wN d jx0 jx1 jx2 jx3 σ) := by
  intro d
  induction d with
  | zero => intros; rw [F_X6_wN]; exact Mn_none
  | succ d ih => intros; rw [F_X6_wN]; exact M_X6_worthOf _ ih _ _ _ _ _
theorem T_X6_wN (l : Launch) (D : va_G) (dA : Nat → ClassId) (b0 : Nat) : ∀ (d : Nat) (jx0 jx1 jx2 jx3 : Int) (σ σE : Hp) (r : Int), F_X6_wN d jx0 jx1 jx2 jx3 σ = some (r, σE) → Ct l D dA b0 yX6_worthOf cX6_worthOf 5 (some .long) (23 * d) (900 * d) [(2, jx0), (2, jx1), (0, jx2), (0, jx3)] σ (some (pV 1 r)) σE := by
  intro d
  induction d with
  | zero =>
    intro jx0 jx1 jx2 jx3 σ σE r hF
    rw [F_X6_wN] at hF
    cases hF
  | succ d ih =>
    intro jx0 jx1 jx2 jx3 σ σE r hF
    rw [F_X6_wN] at hF
    exact T_X6_worthOf l D dA b0 (F_X6_wN d) (23 * d) (900 * d) ih (M_X6_wN d) jx0 jx1 jx2 jx3 σ σE r hF
def F_X6_worthOf_D (jx0 jx1 jx2 jx3 : Int) (σ : Hp) : Option (Int × Hp) := F_X6_wN 12 jx0 jx1 jx2 jx3 σ
theorem M_X6_worthOf_D (jx0 jx1 jx2 jx3 : Int) (σ : Hp) : Mn σ (F_X6_worthOf_D jx0 jx1 jx2 jx3 σ) := M_X6_wN 12 jx0 jx1 jx2 jx3 σ
theorem T_X6_worthOf_D (l : Launch) (D : va_G) (dA : Nat → ClassId) (b0 : Nat) (jx0 jx1 jx2 jx3 : Int) (σ σE : Hp) (r : Int) (hF : F_X6_worthOf_D jx0 jx1 jx2 jx3 σ = some (r, σE)) : Ct l D dA b0 yX6_worthOf cX6_worthOf 5 (some .long) 276 10800 [(2, jx0), (2, jx1), (0, jx2), (0, jx3)] σ (some (pV 1 r)) σE := T_X6_wN l D dA b0 12 jx0 jx1 jx2 jx3 σ σE r hF
def F_X6_searchBest_D (jx0 jx1 jx2 jx3 : Int) (σ : Hp) : Option (Int × Hp) := F_X6_searchBest (F_X6_wN 12) jx0 jx1 jx2 jx3 σ
theorem M_X6_searchBest_D (jx0 jx1 jx2 jx3 : Int) (σ : Hp) : Mn σ (F_X6_searchBest_D jx0 jx1 jx2 jx3 σ) := M_X6_searchBest _ (M_X6_wN 12) jx0 jx1 jx2 jx3 σ
theorem T_X6_searchBest_D (l : Launch) (D : va_G) (dA : Nat → ClassId) (b0 : Nat) (jx0 jx1 jx2 jx3 : Int) (σ σE : Hp) (r : Int) (hF : F_X6_searchBest_D jx0 jx1 jx2 jx3 σ = some (r, σE)) : Ct l D dA b0 yX6_searchBest cX6_searchBest 37 (some .long) 298 11500 [(2, jx0), (2, jx1), (0, jx2), (0, jx3)] σ (some (pV 1 r)) σE := T_X6_searchBest l D dA b0 (F_X6_wN 12) 276 10800 (T_X6_wN l D dA b0 12) (M_X6_wN 12) jx0 jx1 jx2 jx3 σ σE r hF
