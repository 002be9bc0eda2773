/-! numbers: an Int32, an Int64 by an Int -/
def iI (z : Int) : Int32 := Int32.ofInt z
def lI (z : Int) : Int64 := Int64.ofInt z
abbrev R3 (z : Int) : Prop := -2147483648 ≤ z ∧ z < 2147483648
abbrev R6 (z : Int) : Prop := -9223372036854775808 ≤ z ∧ z < 9223372036854775808
theorem iI_toInt {z : Int} (h : R3 z) : (iI z).toInt = z := Int32.toInt_ofInt_of_le (by have := h.1; omega) (by have := h.2; omega)
theorem lI_toInt {z : Int} (h : R6 z) : (lI z).toInt = z := Int64.toInt_ofInt_of_le (by have := h.1; omega) (by have := h.2; omega)
theorem iI_back (x : Int32) : iI x.toInt = x := Int32.ofInt_toInt x
theorem lI_back (x : Int64) : lI x.toInt = x := Int64.ofInt_toInt x
theorem iI_add (a b : Int) : iI a + iI b = iI (a + b) := (Int32.ofInt_add a b).symm
theorem iI_sub (a b : Int) : iI a - iI b = iI (a - b) := (Int32.ofInt_sub a b).symm
theorem iI_mul (a b : Int) : iI a * iI b = iI (a * b) := (Int32.ofInt_mul a b).symm
theorem lI_add (a b : Int) : lI a + lI b = lI (a + b) := (Int64.ofInt_add a b).symm
theorem lI_sub (a b : Int) : lI a - lI b = lI (a - b) := (Int64.ofInt_sub a b).symm
theorem lI_mul (a b : Int) : lI a * lI b = lI (a * b) := (Int64.ofInt_mul a b).symm
theorem iI_lt {a b : Int} (ha : R3 a) (hb : R3 b) : iI a < iI b ↔ a < b := by rw [Int32.lt_iff_toInt_lt, iI_toInt ha, iI_toInt hb]
theorem iI_le {a b : Int} (ha : R3 a) (hb : R3 b) : iI a ≤ iI b ↔ a ≤ b := by rw [Int32.le_iff_toInt_le, iI_toInt ha, iI_toInt hb]
theorem iI_eq {a b : Int} (ha : R3 a) (hb : R3 b) : iI a = iI b ↔ a = b := by rw [← Int32.toInt_inj, iI_toInt ha, iI_toInt hb]
theorem lI_lt {a b : Int} (ha : R6 a) (hb : R6 b) : lI a < lI b ↔ a < b := by rw [Int64.lt_iff_toInt_lt, lI_toInt ha, lI_toInt hb]
theorem lI_eq {a b : Int} (ha : R6 a) (hb : R6 b) : lI a = lI b ↔ a = b := by rw [← Int64.toInt_inj, lI_toInt ha, lI_toInt hb]
theorem iI_zero : iI 0 = 0 := rfl
theorem iI_clamp {z : Int} (h : R3 z) : (iI z).toNatClampNeg = z.toNat := by
  show (iI z).toInt.toNat = z.toNat
  rw [iI_toInt h]
theorem iI_div {a b : Int} (ha : R3 a) (hb : R3 b) : iI a / iI b = iI (a.tdiv b) := by
  apply Int32.toInt_inj.mp
  rw [Int32.toInt_div, iI_toInt ha, iI_toInt hb]
  show _ = (Int32.ofInt _).toInt
  rw [Int32.toInt_ofInt]
theorem iI_mod {a b : Int} (ha : R3 a) (hb : R3 b) : iI a % iI b = iI (a.tmod b) := by
  rw [show a.tmod b = (iI a % iI b).toInt by rw [Int32.toInt_mod, iI_toInt ha, iI_toInt hb], iI_back]
theorem iI_long {a : Int} (ha : R3 a) : (iI a).toInt64 = lI a := by
  apply Int64.toInt_inj.mp
  rw [Int32.toInt_toInt64, iI_toInt ha, lI_toInt ⟨by have := ha.1; omega, by have := ha.2; omega⟩]
theorem iI_max {a b : Int} (ha : R3 a) (hb : R3 b) : (if iI a < iI b then iI b else iI a) = iI (max a b) := by
  simp only [iI_lt ha hb]
  by_cases h : a < b
  · rw [if_pos h, show max a b = b by omega]
  · rw [if_neg h, show max a b = a by omega]
theorem iI_min {a b : Int} (ha : R3 a) (hb : R3 b) : (if iI b < iI a then iI b else iI a) = iI (min a b) := by
  simp only [iI_lt hb ha]
  by_cases h : b < a
  · rw [if_pos h, show min a b = b by omega]
  · rw [if_neg h, show min a b = a by omega]
def shlI (a b : Int) : Int := (iI a <<< (iI b &&& 31)).toInt
def shrI (a b : Int) : Int := (iI a >>> (iI b &&& 31)).toInt
def andI (a b : Int) : Int := (iI a &&& iI b).toInt
def orI (a b : Int) : Int := (iI a ||| iI b).toInt
def andL (a b : Int) : Int := (lI a &&& lI b).toInt
def orL (a b : Int) : Int := (lI a ||| lI b).toInt
def shlL (a b : Int) : Int := (lI a <<< ((iI b).toInt64 &&& 63)).toInt
def cmpL (a b : Int) : Int := if a > b then 1 else if a = b then 0 else -1
theorem lI_cmp {a b : Int} (ha : R6 a) (hb : R6 b) : lg_cmp (lI a) (lI b) = iI (cmpL a b) := by
  unfold lg_cmp cmpL
  simp only [gt_iff_lt, lI_lt hb ha, lI_eq ha hb]
  repeat' split
  all_goals rfl
/-! the pure heap: the next address, the slots made, and by address: kind (0: none; class number and 1; 11 int[], 12 long[], 13 boolean[], 14 Lake[], 15 Node[]), length, contents -/
abbrev Hp : Type := Nat × Nat × (Int → Int × Int × (Int → Int))
def kd (σ : Hp) (a : Int) : Int := (σ.2.2 a).1
def ln (σ : Hp) (a : Int) : Int := (σ.2.2 a).2.1
def gf (σ : Hp) (a k : Int) : Int := (σ.2.2 a).2.2 k
def wr (σ : Hp) (a k v : Int) : Hp := (σ.1, σ.2.1, fun b => if b = a then (kd σ a, ln σ a, fun j => if j = k then v else gf σ a j) else σ.2.2 b)
def nw (σ : Hp) (kind len : Int) (sz : Nat) (f : Int → Int) : Hp := (σ.1 + 1, σ.2.1 + sz, fun b => if b = (σ.1 : Int) then (kind, len, f) else σ.2.2 b)
section Ops
variable {α β γ : Type}
def bd (x : Option (α × β)) (f : α → β → Option γ) : Option γ := match x with
  | some (a, b) => f a b
  | none => none
theorem bd_some (a : α) (b : β) (f : α → β → Option γ) : bd (some (a, b)) f = f a b := rfl
theorem bd_spec {x : Option (α × β)} {f : α → β → Option γ} {z : γ} (h : bd x f = some z) : ∃ a b, x = some (a, b) ∧ f a b = some z := by
  match x, h with
  | some (a, b), h => exact ⟨a, b, rfl, h⟩
theorem bo_spec {x : Option α} {f : α → Option γ} {z : γ} (h : x.bind f = some z) : ∃ a, x = some a ∧ f a = some z := Option.bind_eq_some_iff.mp h
def bLt (a b : Int) (T E : Option γ) : Option γ := if R3 a ∧ R3 b then (if a < b then T else E) else none
def bLe (a b : Int) (T E : Option γ) : Option γ := if R3 a ∧ R3 b then (if a ≤ b then T else E) else none
def bEq (a b : Int) (T E : Option γ) : Option γ := if R3 a ∧ R3 b then (if a = b then T else E) else none
def bN (a : Int) (T E : Option γ) : Option γ := if a < 0 then T else E
def g3 (a : Int) (X : Option γ) : Option γ := if R3 a then X else none
def g33 (a b : Int) (X : Option γ) : Option γ := if R3 a ∧ R3 b then X else none
def g66 (a b : Int) (X : Option γ) : Option γ := if R6 a ∧ R6 b then X else none
def gD (a b : Int) (X : Option γ) : Option γ := if R3 a ∧ R3 b ∧ b ≠ 0 then X else none
def iv (K : Int) (σ : Hp) (a : Int) (X : Option γ) : Option γ := if kd σ a = K then X else none
end Ops
def rd (c : Int) (σ : Hp) (a k : Int) : Option Int := if kd σ a = c then some (gf σ a k) else none
def pw (c : Int) (σ : Hp) (a k v : Int) : Option Hp := if kd σ a = c then some (wr σ a k v) else none
def pz (c : Int) (σ : Hp) (a k v : Int) : Option Hp := if kd σ a = c ∧ (v = 0 ∨ v = 1) then some (wr σ a k v) else none
def ar (c : Int) (σ : Hp) (a i : Int) : Option Int := if kd σ a = c ∧ 0 ≤ i ∧ i < ln σ a ∧ i < 2147483648 then some (gf σ a i) else none
def aw (c : Int) (σ : Hp) (a i v : Int) : Option Hp := if kd σ a = c ∧ 0 ≤ i ∧ i < ln σ a ∧ i < 2147483648 then some (wr σ a i v) else none
def az (c : Int) (σ : Hp) (a i v : Int) : Option Hp := if kd σ a = c ∧ 0 ≤ i ∧ i < ln σ a ∧ i < 2147483648 ∧ (v = 0 ∨ v = 1) then some (wr σ a i v) else none
def aq (c cv : Int) (σ : Hp) (a i v : Int) : Option Hp := if kd σ a = c ∧ 0 ≤ i ∧ i < ln σ a ∧ i < 2147483648 ∧ kd σ v = cv then some (wr σ a i v) else none
def al (c : Int) (σ : Hp) (a : Int) : Option Int := if kd σ a = c ∧ 0 ≤ ln σ a then some (ln σ a) else none
def na (c : Int) (σ : Hp) (n d : Int) : Option Hp := if 0 ≤ n ∧ n ≤ 1000000 then some (nw σ c n n.toNat (fun _ => d)) else none
def rz (v : Int) (σ : Hp) : Option (Int × Hp) := if v = 0 ∨ v = 1 then some (v, σ) else none
/-- the tables' words that a call hands on -/
def tb : List Cond := lw_tbl.filter goodWord
theorem tb_mem {w : Cond} (i : Nat) (h : lw_tbl[i]? = some w) (hg : goodWord w = true) : w ∈ tb := List.mem_filter.mpr ⟨List.mem_of_getElem? h, hg⟩
/-- classes by number -/
def nF (ci : Nat) : Nat := match ci with
  | 0 => 9
  | 1 => 16
  | 2 => 8
  | 3 => 5
  | 4 => 4
  | 5 => 2
  | 6 => 4
  | 7 => 5
  | _ => 40
def tyC (ci : Nat) : Nat → FieldType := match ci with
  | 0 => tyX0
  | 1 => tyX1
  | 2 => tyX2
  | 3 => tyX3
  | 4 => tyX4
  | 5 => tyX5
  | 6 => tyX6
  | 7 => tyX7
  | _ => tyX8
/-- tags of values: 0 an int or a boolean, 1 a long, 2 a reference (-1: null) -/
def tagOf (t : FieldType) : Nat := match t with
  | .long => 1
  | .object _ => 2
  | .array _ => 2
  | _ => 0
def plainT (t : FieldType) : Bool := match t with
  | .int => true
  | .long => true
  | .object _ => true
  | .array _ => true
  | _ => false
def oN (z : Int) : Option Nat := if z < 0 then none else some z.toNat
def pV (t : Nat) (z : Int) : Value := match t with
  | 0 => .int (iI z)
  | 1 => .long (lI z)
  | _ => va_rf (oN z)
abbrev pVs (q : Nat × Int) : Value := pV q.1 q.2
theorem pV_ref {a : Int} (h : 0 ≤ a) : pV 2 a = .ref a.toNat := by
  show va_rf (oN a) = _
  rw [oN, if_neg (by omega)]
  rfl
theorem pV_null {a : Int} (h : a < 0) : pV 2 a = .null := by
  show va_rf (oN a) = _
  rw [oN, if_pos h]
  rfl
theorem pV_cat (t : Nat) (z : Int) : (pV t z).category = if t = 1 then 2 else 1 := by
  match t with
  | 0 => rfl
  | 1 => rfl
  | t + 2 =>
    rw [if_neg (by omega)]
    show (va_rf (oN z)).category = 1
    cases oN z <;> rfl
theorem pV_plain {ty : FieldType} (h : plainT ty = true) (z : Int) : narrow ty (pV (tagOf ty) z) = pV (tagOf ty) z ∧ fits ty (pV (tagOf ty) z) = true := by
  cases ty <;> first | (simp [plainT] at h; done) | exact ⟨rfl, rfl⟩ | (show narrow _ (va_rf (oN z)) = va_rf (oN z) ∧ fits _ (va_rf (oN z)) = true; cases oN z <;> exact ⟨rfl, rfl⟩)
theorem pV_bool {z : Int} (h : z = 0 ∨ z = 1) : narrow .boolean (pV 0 z) = pV 0 z ∧ fits .boolean (pV 0 z) = true := by
  rcases h with rfl | rfl <;> exact ⟨by decide, by decide⟩
/-- words of a stack, by its tags -/
def ws8 (st : List (Nat × Int)) : Nat := (st.map fun q => if q.1 = 1 then 2 else 1).sum
theorem ws8_eq (st : List (Nat × Int)) : ((st.map pVs).map fun v => v.category).sum = ws8 st := by
  unfold ws8
  rw [List.map_map]
  congr 2
  funext q
  exact pV_cat q.1 q.2
/-- what a new object's fields hold -/
def d0 (ci : Nat) (k : Int) : Int := if tagOf (tyC ci k.toNat) = 2 then -1 else 0
theorem d0_val (ci k : Nat) (h : ∀ t : FieldType, tyC ci k = t → (t = .int ∨ t = .long ∨ t = .boolean ∨ plainT t = true)) : defaultValue (tyC ci k) = pV (tagOf (tyC ci k)) (d0 ci k) := by
  have h1 := h _ rfl
  unfold d0
  rw [Int.toNat_natCast]
  generalize tyC ci k = t at h1
  cases t <;> first | rfl | (simp [plainT] at h1)
def tagA (c : Int) : Nat := if c = 12 then 1 else if c = 14 ∨ c = 15 then 2 else 0
def cellAt (D : va_G) (dA : Nat → ClassId) (a : Nat) (e : Int × Int × (Int → Int)) (H : Heap) : Prop :=
  if 11 ≤ e.1 then H[a]? = some (arrV (dA (e.1.toNat - 11)) e.2.1.toNat (fun j => pV (tagA e.1) (e.2.2 j)))
  else t_OB a (D.1 (e.1.toNat - 1)) (nF (e.1.toNat - 1)) (D.2 (e.1.toNat - 1)) H (fun k => pV (tagOf (tyC (e.1.toNat - 1) k)) (e.2.2 k))
def Pw (D : va_G) (dA : Nat → ClassId) (b0 : Nat) (σ : Hp) (H : Heap) : Prop :=
  H.size = σ.1 ∧ b0 ≤ σ.1 ∧ ∀ a : Int, kd σ a ≠ 0 → 0 ≤ a ∧ b0 ≤ a.toNat ∧ cellAt D dA a.toNat (σ.2.2 a) H
section PwL
variable {D : va_G} {dA : Nat → ClassId} {b0 : Nat} {σ : Hp} {H H1 : Heap} {a : Int}
theorem cellAt.lt {a : Nat} {e : Int × Int × (Int → Int)} (h : cellAt D dA a e H) : a < H.size := by
  unfold cellAt at h
  split at h
  · exact (Array.getElem?_eq_some_iff.mp h).1
  · obtain ⟨cell, h1, -⟩ := h
    exact (Array.getElem?_eq_some_iff.mp h1).1
theorem cellAt.kept {a : Nat} {e : Int × Int × (Int → Int)} (h : cellAt D dA a e H) (h1 : H1[a]? = H[a]?) : cellAt D dA a e H1 := by
  unfold cellAt at h ⊢
  split at h
  · rw [if_pos (by assumption), h1]; exact h
  · rw [if_neg (by assumption)]; exact h.kept h1
theorem Pw.obj (hP : Pw D dA b0 σ H) {c : Int} {ci : Nat} (h : kd σ a = c) (hc : c = ci + 1) (h9 : ci < 9) : 0 ≤ a ∧ b0 ≤ a.toNat ∧ t_OB a.toNat (D.1 ci) (nF ci) (D.2 ci) H (fun k => pV (tagOf (tyC ci k)) (gf σ a k)) := by
  have h1 : (σ.2.2 a).1 = c := h
  obtain ⟨p1, p2, p3⟩ := hP.2.2 a (by rw [h]; omega)
  refine ⟨p1, p2, ?_⟩
  unfold cellAt at p3
  rw [h1, if_neg (by omega), show c.toNat - 1 = ci by omega] at p3
  exact p3
theorem Pw.arr (hP : Pw D dA b0 σ H) {c : Int} (h : kd σ a = c) (hc : 11 ≤ c) : 0 ≤ a ∧ b0 ≤ a.toNat ∧ H[a.toNat]? = some (arrV (dA (c.toNat - 11)) (ln σ a).toNat (fun j => pV (tagA c) (gf σ a j))) := by
  have h1 : (σ.2.2 a).1 = c := h
  obtain ⟨p1, p2, p3⟩ := hP.2.2 a (by rw [h]; omega)
  refine ⟨p1, p2, ?_⟩
  unfold cellAt at p3
  rw [h1, if_pos hc] at p3
  exact p3
/-- a write at an address that is there -/
theorem Pw.wrote (hP : Pw D dA b0 σ H) (ha : kd σ a ≠ 0) {k v : Int} (hz : H1.size = H.size) (ho : ∀ q, q ≠ a.toNat → H1[q]? = H[q]?) (hc : cellAt D dA a.toNat ((wr σ a k v).2.2 a) H1) : Pw D dA b0 (wr σ a k v) H1 := by
  refine ⟨by rw [hz]; exact hP.1, hP.2.1, fun b hb => ?_⟩
  obtain ⟨a1, a2, -⟩ := hP.2.2 a ha
  by_cases e : b = a
  · subst e
    exact ⟨a1, a2, hc⟩
  · have e1 : (wr σ a k v).2.2 b = σ.2.2 b := if_neg e
    have hb' : kd σ b ≠ 0 := fun h => hb (by unfold kd at h ⊢; rw [e1]; exact h)
    obtain ⟨b1, b2, b3⟩ := hP.2.2 b hb'
    rw [e1]
    exact ⟨b1, b2, b3.kept (ho _ (by omega))⟩
theorem Pw.made (hP : Pw D dA b0 σ H) {kind len : Int} {sz : Nat} {f : Int → Int} (hz : H1.size = H.size + 1) (ho : ∀ q, q < H.size → H1[q]? = H[q]?) (hc : cellAt D dA σ.1 (kind, len, f) H1) : Pw D dA b0 (nw σ kind len sz f) H1 := by
  refine ⟨by rw [hz, hP.1]; rfl, Nat.le_succ_of_le hP.2.1, fun b hb => ?_⟩
  by_cases e : b = (σ.1 : Int)
  · subst e
    have e1 : (nw σ kind len sz f).2.2 (σ.1 : Int) = (kind, len, f) := if_pos rfl
    rw [e1, Int.toNat_natCast]
    exact ⟨Int.natCast_nonneg _, hP.2.1, hc⟩
  · have e1 : (nw σ kind len sz f).2.2 b = σ.2.2 b := if_neg e
    have hb' : kd σ b ≠ 0 := fun h => hb (by unfold kd at h ⊢; rw [e1]; exact h)
    obtain ⟨b1, b2, b3⟩ := hP.2.2 b hb'
    rw [e1]
    exact ⟨b1, b2, b3.kept (ho _ b3.lt)⟩
end PwL
/-- how often a loop may go round -/
def fu : Nat := 100000
/-- a name for a computed number -/
def nm {γ : Type} (a : Int) (f : Int → Option γ) : Option γ := f a
/-- an array, an object made, and its address -/
def nab {γ : Type} (c : Int) (σ : Hp) (n d : Int) (f : Int → Hp → Option γ) : Option γ := (na c σ n d).bind (fun σ1 => f (σ.1 : Int) σ1)
def nwb {γ : Type} (c : Int) (σ : Hp) (N ci : Nat) (f : Int → Hp → Option γ) : Option γ := f (σ.1 : Int) (nw σ c 0 N (d0 ci))
/-- no result makes the heap smaller -/
def Mn (σ : Hp) (X : Option (Int × Hp)) : Prop := ∀ r σE, X = some (r, σE) → σ.1 ≤ σE.1 ∧ σ.2.1 ≤ σE.2.1
section MnL
variable {σ : Hp} {a b c k v : Int} {T E : Option (Int × Hp)} {f : Int → Option (Int × Hp)} {g : Hp → Option (Int × Hp)} {h : Int → Hp → Option (Int × Hp)}
theorem Mn_none : Mn σ none := fun _ _ q => by cases q
theorem Mn_ret : Mn σ (some (v, σ)) := fun _ _ q => by cases q; exact ⟨Nat.le_refl _, Nat.le_refl _⟩
theorem Mn_rz : Mn σ (rz v σ) := by
  unfold rz
  split
  · exact Mn_ret
  · exact Mn_none
theorem Mn_bo {x : Option Int} (hf : ∀ v, Mn σ (f v)) : Mn σ (x.bind f) := fun r σE q => by
  obtain ⟨v, -, q⟩ := bo_spec q
  exact hf v r σE q
theorem Mn_nm (hf : ∀ v, Mn σ (f v)) : Mn σ (nm a f) := hf a
theorem Mn_wr {X : Option (Int × Hp)} (hf : Mn (wr σ a k v) X) : Mn σ X := hf
theorem Mn_wrE {X : Option (Int × Hp)} (hf : Mn σ X) : Mn (wr σ a k v) X := hf
theorem Mn_pw (hf : ∀ σ1, Mn σ1 (g σ1)) : Mn σ ((pw c σ a k v).bind g) := by
  unfold pw
  split
  · exact hf (wr σ a k v)
  · exact Mn_none
theorem Mn_pz (hf : ∀ σ1, Mn σ1 (g σ1)) : Mn σ ((pz c σ a k v).bind g) := by
  unfold pz
  split
  · exact hf (wr σ a k v)
  · exact Mn_none
theorem Mn_aw (hf : ∀ σ1, Mn σ1 (g σ1)) : Mn σ ((aw c σ a k v).bind g) := by
  unfold aw
  split
  · exact hf (wr σ a k v)
  · exact Mn_none
theorem Mn_az (hf : ∀ σ1, Mn σ1 (g σ1)) : Mn σ ((az c σ a k v).bind g) := by
  unfold az
  split
  · exact hf (wr σ a k v)
  · exact Mn_none
theorem Mn_aq {cv : Int} (hf : ∀ σ1, Mn σ1 (g σ1)) : Mn σ ((aq c cv σ a k v).bind g) := by
  unfold aq
  split
  · exact hf (wr σ a k v)
  · exact Mn_none
theorem Mn_nw {len : Int} {sz : Nat} {w : Int → Int} {X : Option (Int × Hp)} (hf : Mn (nw σ k len sz w) X) : Mn σ X := fun r σE q => by
  have := hf r σE q
  have h1 : σ.1 + 1 ≤ σE.1 := this.1
  have h2 : σ.2.1 + sz ≤ σE.2.1 := this.2
  exact ⟨by omega, by omega⟩
theorem Mn_nab {d : Int} (hf : ∀ a σ1, Mn σ1 (h a σ1)) : Mn σ (nab c σ a d h) := by
  unfold nab na
  split
  · exact Mn_nw (hf _ _)
  · exact Mn_none
theorem Mn_nwb {N ci : Nat} (hf : ∀ a σ1, Mn σ1 (h a σ1)) : Mn σ (nwb c σ N ci h) := Mn_nw (hf _ _)
theorem Mn_bLt (h1 : Mn σ T) (h2 : Mn σ E) : Mn σ (bLt a b T E) := by
  unfold bLt
  repeat' split
  all_goals first | assumption | exact Mn_none
theorem Mn_bLe (h1 : Mn σ T) (h2 : Mn σ E) : Mn σ (bLe a b T E) := by
  unfold bLe
  repeat' split
  all_goals first | assumption | exact Mn_none
theorem Mn_bEq (h1 : Mn σ T) (h2 : Mn σ E) : Mn σ (bEq a b T E) := by
  unfold bEq
  repeat' split
  all_goals first | assumption | exact Mn_none
theorem Mn_bN (h1 : Mn σ T) (h2 : Mn σ E) : Mn σ (bN a T E) := by
  unfold bN
  split <;> assumption
theorem Mn_g3 (h1 : Mn σ T) : Mn σ (g3 a T) := by
  unfold g3
  split
  · exact h1
  · exact Mn_none
theorem Mn_g33 (h1 : Mn σ T) : Mn σ (g33 a b T) := by
  unfold g33
  split
  · exact h1
  · exact Mn_none
theorem Mn_g66 (h1 : Mn σ T) : Mn σ (g66 a b T) := by
  unfold g66
  split
  · exact h1
  · exact Mn_none
theorem Mn_gD (h1 : Mn σ T) : Mn σ (gD a b T) := by
  unfold gD
  split
  · exact h1
  · exact Mn_none
theorem Mn_iv (h1 : Mn σ T) : Mn σ (iv k σ a T) := by
  unfold iv
  split
  · exact h1
  · exact Mn_none
theorem Mn_bd (h1 : Mn σ T) (h2 : ∀ r σ1, Mn σ1 (h r σ1)) : Mn σ (bd T h) := fun r σE q => by
  obtain ⟨r1, σ1, q1, q2⟩ := bd_spec q
  have e1 := h1 r1 σ1 q1
  have e2 := h2 r1 σ1 r σE q2
  exact ⟨Nat.le_trans e1.1 e2.1, Nat.le_trans e1.2 e2.2⟩
end MnL
