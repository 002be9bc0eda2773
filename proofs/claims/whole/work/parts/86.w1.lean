theorem sf_split {f : Int → Int} : ∀ (p q : Nat) (a : Int), sf f a (p + q) = sf f a p + sf f (a + p) q
  | 0, q, a => by simp [sf]
  | p + 1, q, a => by
    rw [show p + 1 + q = (p + q) + 1 by omega, sf, sf, sf_split p q (a + 1)]
    rw [show a + 1 + (p : Int) = a + ((p + 1 : Nat) : Int) by omega]
    omega
theorem sf_congr {f g : Int → Int} : ∀ (n : Nat) (a : Int), (∀ i, a ≤ i → i < a + n → f i = g i) → sf f a n = sf g a n
  | 0, a, h => rfl
  | n + 1, a, h => by
    rw [sf, sf, h a (by omega) (by omega), sf_congr n (a + 1) (fun i p q => h i (by omega) (by omega))]
theorem sf_zero {f : Int → Int} (n : Nat) (a : Int) (h : ∀ i, a ≤ i → i < a + n → f i = 0) : sf f a n = 0 := by
  rw [sf_congr (g := fun _ => 0) n a h]
  clear h
  induction n generalizing a with
  | zero => rfl
  | succ n ih => rw [sf, ih]; rfl
theorem sf_le {f g : Int → Int} : ∀ (n : Nat) (a : Int), (∀ i, a ≤ i → i < a + n → f i ≤ g i) → sf f a n ≤ sf g a n
  | 0, a, h => Int.le_refl _
  | n + 1, a, h => by
    have h1 := h a (by omega) (by omega)
    have h2 := sf_le n (a + 1) (fun i p q => h i (by omega) (by omega))
    rw [sf, sf]
    omega
theorem sf_mulr {f : Int → Int} {M : Int} : ∀ (n : Nat) (a : Int), sf (fun i => f i * M) a n = sf f a n * M
  | 0, a => by simp [sf]
  | n + 1, a => by rw [sf, sf, sf_mulr n (a + 1), Int.add_mul]
/-- the greatest of a function over a set of lets, the first one of several -/
def IB (f : Int → Int) (B : Int → Prop) (v L : Int) : Prop := B L ∧ f L = v ∧ ∀ L', B L' → f L' ≤ v ∧ (L' < L → f L' < v)
theorem IB.uniq {f : Int → Int} {B : Int → Prop} {v L v' L' : Int} (h : IB f B v L) (h' : IB f B v' L') : v = v' ∧ L = L' := by
  have a := h.2.2 L' h'.1
  have b := h'.2.2 L h.1
  have e1 := h.2.1
  have e2 := h'.2.1
  have hv : v = v' := by omega
  refine ⟨hv, ?_⟩
  rcases Int.lt_trichotomy L L' with q | q | q
  · have := b.2 q; omega
  · exact q
  · have := a.2 q; omega
section W1
variable {b0 : Int} {σ : Hp} {ξ ζ : Int → Int → Int} {i m s t L : Int}
/-- the same lakes, weeks and nodes -/
def Cf (ξ ζ : Int → Int → Int) : Prop := (∀ d, (24 ≤ d ∧ d ≤ 34) ∨ d = 41 ∨ d = 42 → ζ d = ξ d) ∧ ∀ k, k = 1 ∨ k = 8 ∨ k = 9 ∨ k = 11 → ζ 23 k = ξ 23 k
theorem Cf.rfl' : Cf ξ ξ := ⟨fun _ _ => rfl, fun _ _ => rfl⟩
theorem Cf.trans {η : Int → Int → Int} (h : Cf ξ ζ) (h2 : Cf ζ η) : Cf ξ η := ⟨fun d hd => (h2.1 d hd).trans (h.1 d hd), fun k hk => (h2.2 k hk).trans (h.2 k hk)⟩
theorem Cf.xu {d k v : Int} (h : d = 35 ∨ d = 36 ∨ (d = 23 ∧ (k = 18 ∨ k = 19 ∨ k = 32 ∨ k = 33)) ∨ (37 ≤ d ∧ d ≤ 40) ∨ 43 ≤ d ∨ d < 23) : Cf ξ (xu ξ d k v) := by
  refine ⟨fun d' hd => ?_, fun k' hk => ?_⟩
  · funext k'
    exact xu_nd (by omega)
  · by_cases e : (23 : Int) = d
    · exact xu_ni (by omega)
    · exact xu_nd e
theorem Cf.lts {a b c : Int} : Cf ξ (lts ξ a b c) := ⟨fun d hd => by funext k; exact lts_d (by omega), fun k hk => lts_d (by omega)⟩
theorem Cf.unf : Cf ξ (unf ξ s) := ⟨fun d hd => by funext k; exact unf_d (by omega), fun k hk => unf_d (by omega)⟩
theorem LB.cf (h : Cf ξ ζ) (hB : LB ξ) : LB ζ := hB.congr ⟨h.2 1 (by omega), fun d hd k => by rw [h.1 d (by omega)]⟩
theorem TB.cf (h : Cf ξ ζ) (hT : TB ξ) : TB ζ := by
  unfold TB IFB at hT ⊢
  rw [h.2 8 (by omega), h.2 9 (by omega), h.2 11 (by omega), h.1 30 (by omega), h.1 31 (by omega), h.1 32 (by omega), h.1 33 (by omega), h.1 34 (by omega)]
  exact hT
theorem ms_cf (h : Cf ξ ζ) : ms ζ = ms ξ := by
  funext s l
  unfold ms
  rw [h.1 25 (by omega)]
theorem flw_cf (h : Cf ξ ζ) : flw ζ = flw ξ := by
  funext c m0 m1 m2 t0 t1 t2
  unfold flw enc fx2 fo2 fx1 fo1 fx0 fo0 fx2 fo1 fx1 fo0 fx0
  rw [h.1 25 (by omega), h.1 34 (by omega)]
theorem ern_cf (h : Cf ξ ζ) : ern ζ = ern ξ := by
  funext w m0 m1 m2 t0 t1 t2
  unfold ern
  rw [h.1 30 (by omega), h.1 28 (by omega)]
theorem wsm_cf (h : Cf ξ ζ) : wsm ζ = wsm ξ := by
  funext n
  unfold wsm
  rw [h.2 11 (by omega)]
  refine sf_congr _ _ (fun i _ _ => ?_)
  unfold wof
  rw [h.1 31 (by omega), h.1 32 (by omega)]
theorem WH.cf (h : Cf ξ ζ) (hW : WH ξ) : WH ζ := by
  unfold WH at hW ⊢
  rw [h.2 1 (by omega), h.2 8 (by omega), h.2 9 (by omega), h.2 11 (by omega), h.1 33 (by omega), wsm_cf h]
  exact hW
/-- least and most let of a lake at a state; the lets that may be -/
def lo (ξ : Int → Int → Int) (s l : Int) : Int := min (ξ 27 l) (ms ξ s l)
def hi (ξ : Int → Int → Int) (s l : Int) : Int := max (min (ξ 27 l) (ms ξ s l)) (min (ξ 26 l) (ms ξ s l - ξ 24 l))
def bx (ξ : Int → Int → Int) (s L : Int) : Prop := (0 ≤ L ∧ L < 4096) ∧ (lo ξ s 0 ≤ dg L 0 ∧ dg L 0 ≤ hi ξ s 0) ∧ (lo ξ s 1 ≤ dg L 1 ∧ dg L 1 ≤ hi ξ s 1) ∧ (lo ξ s 2 ≤ dg L 2 ∧ dg L 2 ≤ hi ξ s 2)
theorem lohi (hB : LB ξ) (h0 : 0 ≤ i) (h3 : i < 3) : 0 ≤ lo ξ s i ∧ lo ξ s i ≤ hi ξ s i ∧ hi ξ s i ≤ 10 ∧ hi ξ s i ≤ ms ξ s i ∧ (ξ 23 1 ≤ i → hi ξ s i = 0) := by
  have a := (hB.2.1 i h0 h3).1
  have b := ms_bd (s := s) hB h0 h3
  have z := (hB.2.1 i h0 h3).2
  unfold lo hi
  refine ⟨by omega, by omega, by omega, by omega, fun h => ?_⟩
  have := z h
  omega
def ernS (ξ : Int → Int → Int) (w s L : Int) : Int := ern ξ w (ms ξ s 0) (ms ξ s 1) (ms ξ s 2) (dg L 0) (dg L 1) (dg L 2)
def flS (ξ : Int → Int → Int) (c s L : Int) : Int := flw ξ c (ms ξ s 0) (ms ξ s 1) (ms ξ s 2) (dg L 0) (dg L 1) (dg L 2)
/-- a sum over a node's children, by weights -/
def cof (ξ : Int → Int → Int) (n : Int) (g : Int → Int) (c : Int) : Int := if ξ 31 c = n then ξ 32 c * g c else 0
def csm (ξ : Int → Int → Int) (n : Int) (g : Int → Int) : Int := sf (cof ξ n g) (n + 1) (ξ 23 11 - (n + 1)).toNat
/-- what lets are worth at a node, told the worths behind -/
def vL (ξ : Int → Int → Int) (V : Int → Int → Int) (k : Nat) (n s L : Int) : Int := ξ 23 9 ^ (k + 1) * ernS ξ (ξ 33 n + 1) s L + csm ξ n (fun c => V c (flS ξ c s L))
/-- WORTH, k weeks ahead of the end -/
noncomputable def VV (ξ : Int → Int → Int) : Nat → Int → Int → Int
  | 0, _, s => endv ξ s
  | k + 1, n, s => Classical.epsilon (fun v => ∃ L, IB (vL ξ (VV ξ k) k n s) (bx ξ s) v L)
theorem VV_of {k : Nat} {n v L : Int} (h : IB (vL ξ (VV ξ k) k n s) (bx ξ s) v L) : VV ξ (k + 1) n s = v := by
  have e : ∃ v, ∃ L, IB (vL ξ (VV ξ k) k n s) (bx ξ s) v L := ⟨v, L, h⟩
  have q := Classical.epsilon_spec e
  obtain ⟨L', q⟩ := q
  exact (q.uniq h).1
theorem wsm_from (hT : TB ξ) {n : Int} (h0 : 0 ≤ n) (h1 : n < ξ 23 11) : wsm ξ n = sf (wof ξ n) (n + 1) (ξ 23 11 - (n + 1)).toNat := by
  obtain ⟨_, _, h3, _, _, h6, _⟩ := hT
  unfold wsm
  rw [show (ξ 23 11 - 1).toNat = n.toNat + (ξ 23 11 - (n + 1)).toNat by omega, sf_split, sf_zero n.toNat 1 (fun i p q => by
    have := h6 i (by omega) (by omega)
    unfold wof
    rw [if_neg (by omega)]), Int.zero_add, show (1 : Int) + (n.toNat : Int) = n + 1 by omega]
theorem csm_bd (hT : TB ξ) {n : Int} {g : Int → Int} {M : Int} (h0 : 0 ≤ n) (h1 : n < ξ 23 11) (hM : 0 ≤ M) (hg : ∀ c, n < c → c < ξ 23 11 → ξ 31 c = n → 0 ≤ g c ∧ g c ≤ M) : 0 ≤ csm ξ n g ∧ csm ξ n g ≤ wsm ξ n * M := by
  have h6 := hT.2.2.2.2.2.1
  have h3 := hT.2.2.1
  rw [wsm_from hT h0 h1, ← sf_mulr]
  unfold csm
  constructor
  · have q := sf_le (f := fun _ => 0) (g := cof ξ n g) (ξ 23 11 - (n + 1)).toNat (n + 1) (fun i p q => by
      unfold cof
      split
      · rename_i hp
        have a := hg i (by omega) (by omega) hp
        have b := h6 i (by omega) (by omega)
        exact Int.mul_nonneg (by omega) a.1
      · exact Int.le_refl _)
    rw [sf_zero _ _ (fun _ _ _ => rfl)] at q
    exact q
  · refine sf_le _ _ (fun i p q => ?_)
    unfold cof wof
    split
    · rename_i hp
      have a := hg i (by omega) (by omega) hp
      have b := h6 i (by omega) (by omega)
      exact Int.mul_le_mul_of_nonneg_left a.2 (by omega)
    · simp
theorem ern_bd {w m0 m1 m2 t0 t1 t2 : Int} (hB : LB ξ) (hT : TB ξ) (w0 : 0 ≤ w) (w1 : w < 10) (a0 : 0 ≤ m0 ∧ m0 ≤ 30) (a1 : 0 ≤ m1 ∧ m1 ≤ 30) (a2 : 0 ≤ m2 ∧ m2 ≤ 30) (c0 : 0 ≤ t0 ∧ t0 ≤ 15) (c1 : 0 ≤ t1 ∧ t1 ≤ 15) (c2 : 0 ≤ t2 ∧ t2 ≤ 15) : 0 ≤ ern ξ w m0 m1 m2 t0 t1 t2 ∧ ern ξ w m0 m1 m2 t0 t1 t2 ≤ 8100 := by
  have p := hT.2.2.2.1 w w0 w1
  have key : ∀ h t : Int, 0 ≤ h → h ≤ 9 → 0 ≤ t → t ≤ 15 → 0 ≤ ξ 30 w * h * t ∧ ξ 30 w * h * t ≤ 2700 := by
    intro h t p1 p2 p3 p4
    have q1 : 0 ≤ ξ 30 w * h := Int.mul_nonneg p.1 p1
    have q2 : ξ 30 w * h ≤ 20 * 9 := Int.mul_le_mul p.2 p2 p1 (by omega)
    have q3 : 0 ≤ ξ 30 w * h * t := Int.mul_nonneg q1 p3
    have q4 : ξ 30 w * h * t ≤ 180 * 15 := Int.mul_le_mul (by omega) p4 p3 (by omega)
    omega
  have b0 := hB.2.2.1 (31 * 0 + m0) (by omega) (by omega)
  have b1 := hB.2.2.1 (31 * 1 + m1) (by omega) (by omega)
  have b2 := hB.2.2.1 (31 * 2 + m2) (by omega) (by omega)
  have k0 := key _ t0 b0.1 b0.2 c0.1 c0.2
  have k1 := key _ t1 b1.1 b1.2 c1.1 c1.2
  have k2 := key _ t2 b2.1 b2.2 c2.1 c2.2
  unfold ern
  omega
end W1
