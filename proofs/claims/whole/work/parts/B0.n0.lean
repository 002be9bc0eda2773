section N0
variable {b0 : Int} {σ τ : Hp} {ξ ζ η : Int → Int → Int} {a b c i k l m n v j : Int}
theorem kd_wr : kd (wr σ a k v) b = kd σ b := by
  unfold kd wr
  dsimp only
  split
  · rename_i h; subst h; rfl
  · rfl
theorem ln_wr : ln (wr σ a k v) b = ln σ b := by
  unfold ln wr
  dsimp only
  split
  · rename_i h; subst h; rfl
  · rfl
theorem gf_wr : gf (wr σ a k v) b j = if b = a ∧ j = k then v else gf σ b j := by
  unfold gf wr
  dsimp only
  by_cases h : b = a
  · subst h
    rw [if_pos rfl]
    dsimp only
    by_cases e : j = k
    · rw [if_pos e, if_pos ⟨rfl, e⟩]
    · rw [if_neg e, if_neg (fun q => e q.2)]; rfl
  · rw [if_neg h, if_neg (fun q => h q.1)]
theorem gf_wr_ne (h : b ≠ a ∨ j ≠ k) : gf (wr σ a k v) b j = gf σ b j := by
  rw [gf_wr, if_neg]
  intro q
  rcases h with h | h
  · exact h q.1
  · exact h q.2
theorem gf_wr_s : gf (wr σ a k v) a k = v := by rw [gf_wr, if_pos ⟨rfl, rfl⟩]
theorem wr_1 : (wr σ a k v).1 = σ.1 := rfl
theorem wr_2 : (wr σ a k v).2.1 = σ.2.1 := rfl
theorem wr_So (h : ¬ inS (a - b0)) : wr (S b0 σ ξ) a k v = S b0 (wr σ a k v) ξ := by
  unfold inS at h
  unfold wr S
  refine Prod.ext rfl (Prod.ext rfl (funext fun b => ?_))
  dsimp only
  by_cases e : b = a
  · subst e
    rw [if_pos rfl, if_neg h, if_pos rfl]
    unfold kd ln gf
    dsimp only
    rw [if_neg h]
  · rw [if_neg e]
    by_cases q : ((0 ≤ b - b0 ∧ b - b0 < 12) ∨ (15 ≤ b - b0 ∧ b - b0 < 55))
    · rw [if_pos q, if_pos q]
    · rw [if_neg q, if_neg q, if_neg e]
/-- an object that stands outside the window -/
def ob (b0 : Int) (σ : Hp) (a c l : Int) : Prop := kd σ a = c ∧ ln σ a = l ∧ ¬ inS (a - b0) ∧ a < σ.1
theorem ob_wr (h : ob b0 σ a c l) : ob b0 (wr σ b k v) a c l := by
  unfold ob
  rw [kd_wr, ln_wr]
  exact h
theorem rd_o (h : ob b0 σ a c l) : rd c (S b0 σ ξ) a k = some (gf σ a k) := by
  unfold rd
  rw [kd_So h.2.2.1, if_pos h.1, gf_So h.2.2.1]
theorem pw_o (h : ob b0 σ a c l) : pw c (S b0 σ ξ) a k v = some (S b0 (wr σ a k v) ξ) := by
  unfold pw
  rw [kd_So h.2.2.1, if_pos h.1, wr_So h.2.2.1]
theorem pz_o (h : ob b0 σ a c l) (hv : v = 0 ∨ v = 1) : pz c (S b0 σ ξ) a k v = some (S b0 (wr σ a k v) ξ) := by
  unfold pz
  rw [kd_So h.2.2.1, if_pos ⟨h.1, hv⟩, wr_So h.2.2.1]
theorem iv_o {γ : Type} {X : Option γ} (h : ob b0 σ a c l) : iv c (S b0 σ ξ) a X = X := by
  unfold iv
  rw [kd_So h.2.2.1, if_pos h.1]
theorem ar_o (h : ob b0 σ a c l) (h0 : 0 ≤ i) (h1 : i < l) (h2 : i < 2147483648) : ar c (S b0 σ ξ) a i = some (gf σ a i) := by
  unfold ar
  rw [kd_So h.2.2.1, ln_So h.2.2.1, if_pos ⟨h.1, h0, by rw [h.2.1]; exact h1, h2⟩, gf_So h.2.2.1]
theorem aw_o (h : ob b0 σ a c l) (h0 : 0 ≤ i) (h1 : i < l) (h2 : i < 2147483648) : aw c (S b0 σ ξ) a i v = some (S b0 (wr σ a i v) ξ) := by
  unfold aw
  rw [kd_So h.2.2.1, ln_So h.2.2.1, if_pos ⟨h.1, h0, by rw [h.2.1]; exact h1, h2⟩, wr_So h.2.2.1]
theorem al_o (h : ob b0 σ a c l) (h0 : 0 ≤ l) : al c (S b0 σ ξ) a = some l := by
  unfold al
  rw [kd_So h.2.2.1, ln_So h.2.2.1, h.2.1, if_pos ⟨h.1, h0⟩]
theorem aq_o {d l' : Int} (h : ob b0 σ a c l) (hv : ob b0 σ v d l') (h0 : 0 ≤ i) (h1 : i < l) (h2 : i < 2147483648) : aq c d (S b0 σ ξ) a i v = some (S b0 (wr σ a i v) ξ) := by
  unfold aq
  rw [kd_So h.2.2.1, ln_So h.2.2.1, kd_So hv.2.2.1, if_pos ⟨h.1, h0, by rw [h.2.1]; exact h1, h2, hv.1⟩, wr_So h.2.2.1]
/-- a node that was made -/
def lv (ξ : Int → Int → Int) (n : Int) : Prop := (0 ≤ n ∧ n < 81) ∧ 0 ≤ ξ 10 n
def NS1 (b0 : Int) (σ : Hp) (ξ : Int → Int → Int) : Prop := ∀ n, lv ξ n → ob b0 σ (ξ 10 n) 2 0 ∧ ob b0 σ (gf σ (ξ 10 n) 1) 11 3 ∧ ob b0 σ (gf σ (ξ 10 n) 2) 15 6
def NS2 (σ : Hp) (ξ : Int → Int → Int) : Prop := ∀ n m, lv ξ n → lv ξ m → n ≠ m → ξ 10 n ≠ ξ 10 m ∧ gf σ (ξ 10 n) 1 ≠ gf σ (ξ 10 m) 1 ∧ gf σ (ξ 10 n) 2 ≠ gf σ (ξ 10 m) 2
def NS3 (b0 : Int) (σ : Hp) (ξ : Int → Int → Int) : Prop := ∀ n, lv ξ n → (gf σ (ξ 10 n) 8 = -1 ∧ gf σ (ξ 10 n) 9 = -1) ∨ ∃ l, (0 ≤ l ∧ l ≤ 1000) ∧ (0 ≤ gf σ (ξ 10 n) 8 ∧ ob b0 σ (gf σ (ξ 10 n) 8) 12 l) ∧ (0 ≤ gf σ (ξ 10 n) 9 ∧ ob b0 σ (gf σ (ξ 10 n) 9) 12 l) ∧ gf σ (ξ 10 n) 8 ≠ gf σ (ξ 10 n) 9
def NS4 (σ : Hp) (ξ : Int → Int → Int) : Prop := ∀ n m, lv ξ n → lv ξ m → n ≠ m → 0 ≤ gf σ (ξ 10 n) 8 → 0 ≤ gf σ (ξ 10 m) 8 → gf σ (ξ 10 n) 8 ≠ gf σ (ξ 10 m) 8 ∧ gf σ (ξ 10 n) 9 ≠ gf σ (ξ 10 m) 9 ∧ gf σ (ξ 10 n) 8 ≠ gf σ (ξ 10 m) 9
def NS (b0 : Int) (σ : Hp) (ξ : Int → Int → Int) : Prop := NS1 b0 σ ξ ∧ NS2 σ ξ ∧ NS3 b0 σ ξ ∧ NS4 σ ξ ∧ (0 ≤ b0 ∧ b0 + 55 ≤ σ.1)
/-- a write that changes no pointer of a node keeps what stands -/
theorem NS_wr (h : NS b0 σ ξ) (hk : kd σ a = 2 → k ≠ 1 ∧ k ≠ 2 ∧ k ≠ 8 ∧ k ≠ 9) : NS b0 (wr σ a k v) ξ := by
  obtain ⟨h1, h2, h3, h4, h5⟩ := h
  have e : ∀ n j, lv ξ n → (j = 1 ∨ j = 2 ∨ j = 8 ∨ j = 9) → gf (wr σ a k v) (ξ 10 n) j = gf σ (ξ 10 n) j := by
    intro n j hn hj
    refine gf_wr_ne ?_
    by_cases q : ξ 10 n = a
    · have := hk (by rw [← q]; exact (h1 n hn).1.1)
      exact Or.inr (by omega)
    · exact Or.inl q
  refine ⟨fun n hn => ?_, fun n m hn hm hq => ?_, fun n hn => ?_, fun n m hn hm hq => ?_, h5⟩
  · rw [e n 1 hn (by omega), e n 2 hn (by omega)]
    obtain ⟨x, y, z⟩ := h1 n hn
    exact ⟨ob_wr x, ob_wr y, ob_wr z⟩
  · rw [e n 1 hn (by omega), e n 2 hn (by omega), e m 1 hm (by omega), e m 2 hm (by omega)]
    exact h2 n m hn hm hq
  · rw [e n 8 hn (by omega), e n 9 hn (by omega)]
    rcases h3 n hn with x | ⟨l, x, y, z, w⟩
    · exact Or.inl x
    · exact Or.inr ⟨l, x, ⟨y.1, ob_wr y.2⟩, ⟨z.1, ob_wr z.2⟩, w⟩
  · rw [e n 8 hn (by omega), e n 9 hn (by omega), e m 8 hm (by omega), e m 9 hm (by omega)]
    exact h4 n m hn hm hq
/-- how many children ahead of a node -/
def rkf (ξ : Int → Int → Int) (n c : Int) : Int := if ξ 31 c = n then 1 else 0
def rk (ξ : Int → Int → Int) (n p : Int) : Int := sf (rkf ξ n) (n + 1) (p - (n + 1)).toNat
theorem sf_last {f : Int → Int} : ∀ (m : Nat) (a : Int), sf f a (m + 1) = sf f a m + f (a + m) := by
  intro m a
  rw [sf_split m 1 a, sf, sf]
  omega
theorem rk_s {p : Int} (h : n + 1 ≤ p) : rk ξ n (p + 1) = rk ξ n p + rkf ξ n p := by
  unfold rk
  rw [show (p + 1 - (n + 1)).toNat = (p - (n + 1)).toNat + 1 by omega, sf_last, show n + 1 + ((p - (n + 1)).toNat : Int) = p by omega]
theorem rk_0 : rk ξ n (n + 1) = 0 := by
  unfold rk
  rw [show (n + 1 - (n + 1)).toNat = 0 by omega, sf]
theorem rkf_bd : 0 ≤ rkf ξ n c ∧ rkf ξ n c ≤ 1 := by unfold rkf; split <;> omega
theorem rk_mono {p q : Int} (h : n + 1 ≤ p) (hq : p ≤ q) : rk ξ n p ≤ rk ξ n q := by
  obtain ⟨k, hk⟩ : ∃ k : Nat, q = p + k := ⟨(q - p).toNat, by omega⟩
  subst hk
  clear hq
  induction k with
  | zero => rw [show p + ((0 : Nat) : Int) = p by omega]; exact Int.le_refl _
  | succ k ih =>
    rw [show p + ((k + 1 : Nat) : Int) = p + k + 1 by omega, rk_s (by omega)]
    have := rkf_bd (ξ := ξ) (n := n) (c := p + k)
    omega
/-- what stands in the nodes' objects -/
def NLn (σ : Hp) (ξ : Int → Int → Int) (n : Int) : Prop := gf σ (ξ 10 n) 3 = (if n = 0 then -1 else ξ 10 (ξ 31 n)) ∧ (1 ≤ n → gf σ (ξ 10 n) 4 = ξ 32 n) ∧ gf σ (ξ 10 n) 5 = ξ 33 n ∧ gf σ (ξ 10 n) 6 = rk ξ n (ξ 23 11) ∧ gf σ (ξ 10 n) 7 = wsm ξ n ∧ (∀ l, 0 ≤ l → l < 3 → gf σ (gf σ (ξ 10 n) 1) l = ξ 34 (3 * n + l)) ∧ ∀ c, n < c → c < ξ 23 11 → ξ 31 c = n → gf σ (gf σ (ξ 10 n) 2) (rk ξ n c) = ξ 10 c
def NL (σ : Hp) (ξ : Int → Int → Int) : Prop := (∀ n, 0 ≤ n → n < ξ 23 11 → 0 ≤ ξ 10 n) ∧ (∀ n, lv ξ n → gf σ (ξ 10 n) 0 = n) ∧ ∀ n, 0 ≤ n → n < ξ 23 11 → NLn σ ξ n
/-- a write outside the pointers and outside what the tree says keeps it -/
theorem NL_wr (hS : NS b0 σ ξ) (hn81 : ξ 23 11 ≤ 81) (h : NL σ ξ) (hk : (kd σ a = 2 ∧ 8 ≤ k) ∨ kd σ a = 12) : NL (wr σ a k v) ξ := by
  obtain ⟨h1, h2, h3⟩ := h
  have e : ∀ n j, lv ξ n → j < 8 → gf (wr σ a k v) (ξ 10 n) j = gf σ (ξ 10 n) j := by
    intro n j hn hj
    refine gf_wr_ne ?_
    rcases hk with q | q
    · exact Or.inr (by omega)
    · refine Or.inl (fun r => ?_)
      rw [← r, (hS.1 n hn).1.1] at q
      omega
  have e2 : ∀ b l c, ob b0 σ b c l → c = 11 ∨ c = 15 → ∀ j, gf (wr σ a k v) b j = gf σ b j := by
    intro b l c hb hc j
    refine gf_wr_ne (Or.inl (fun r => ?_))
    have := hb.1
    rw [r] at this
    omega
  refine ⟨h1, fun n hn => by rw [e n 0 hn (by omega)]; exact h2 n hn, fun n a0 a1 => ?_⟩
  have hn : lv ξ n := ⟨⟨a0, by omega⟩, h1 n a0 a1⟩
  obtain ⟨q1, q2, q3, q4, q5, q6, q7⟩ := h3 n a0 a1
  have ho := hS.1 n hn
  unfold NLn
  rw [e n 3 hn (by omega), e n 4 hn (by omega), e n 5 hn (by omega), e n 6 hn (by omega), e n 7 hn (by omega), e n 1 hn (by omega), e n 2 hn (by omega)]
  exact ⟨q1, q2, q3, q4, q5, fun l x y => by rw [e2 _ _ _ ho.2.1 (by omega)]; exact q6 l x y, fun c x y z => by rw [e2 _ _ _ ho.2.2 (by omega)]; exact q7 c x y z⟩
/-- the tree in the class is the model's -/
def CR (ξ : Int → Int → Int) : Prop := ξ 9 2 = ξ 23 11 ∧ ξ 9 3 = ξ 23 8 ∧ ξ 9 4 = ξ 23 9 ∧ ∀ w, 0 ≤ w → w < 10 → ξ 11 w = ξ 30 w
end N0
