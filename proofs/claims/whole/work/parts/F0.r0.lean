/-- kinds, lengths and first contents of all that the two makers make -/
def kT (d : Int) : Int := if d = 12 then 2 else if d = 13 then 11 else if d = 14 then 15 else kS d
def lT (d : Int) : Int := if d = 12 then 0 else if d = 13 then 3 else if d = 14 then 6 else lS d
def xD (d k : Int) : Int := if d = 0 then d0 7 k else if d = 1 then d0 4 k else if d = 2 then -1 else if d = 3 then d0 0 k else if d = 5 then d0 0 k else if d = 7 then d0 0 k else if d = 9 then d0 3 k else if d = 10 then -1 else if d = 12 then d0 1 k else if d = 14 then -1 else if d = 15 then d0 6 k else if d = 16 then d0 5 k else if d = 17 then d0 2 k else if d = 23 then d0 8 k else 0
def I (b0 m z : Nat) (ξ : Int → Int → Int) : Hp := (b0 + m, z, fun a => if 0 ≤ a - (b0 : Int) ∧ a - (b0 : Int) < m then (kT (a - b0), lT (a - b0), ξ (a - b0)) else (0, 0, fun _ => 0))
def Dd (m : Nat) (ξ : Int → Int → Int) : Prop := ∀ d k, (m : Int) ≤ d → ξ d k = xD d k
section R0
variable {b0 m z sz N ci : Nat} {ξ ζ : Int → Int → Int} {c l v i n e : Int} {k : Int} {γ : Type}
theorem I_at {d : Int} (h0 : 0 ≤ d) (h1 : d < m) : (I b0 m z ξ).2.2 ((b0 : Int) + d) = (kT d, lT d, ξ d) := by
  have q : (b0 : Int) + d - b0 = d := by omega
  show (if 0 ≤ (b0 : Int) + d - b0 ∧ (b0 : Int) + d - b0 < m then _ else _) = _
  rw [q]
  exact if_pos ⟨h0, h1⟩
theorem kd_I {d : Int} (h0 : 0 ≤ d) (h1 : d < m) : kd (I b0 m z ξ) ((b0 : Int) + d) = kT d := by unfold kd; rw [I_at h0 h1]
theorem ln_I {d : Int} (h0 : 0 ≤ d) (h1 : d < m) : ln (I b0 m z ξ) ((b0 : Int) + d) = lT d := by unfold ln; rw [I_at h0 h1]
theorem gf_I {d : Int} (h0 : 0 ≤ d) (h1 : d < m) : gf (I b0 m z ξ) ((b0 : Int) + d) k = ξ d k := by unfold gf; rw [I_at h0 h1]
theorem I_wr {d : Int} (h0 : 0 ≤ d) (h1 : d < m) : wr (I b0 m z ξ) ((b0 : Int) + d) k v = I b0 m z (xu ξ d k v) := by
  unfold wr
  rw [kd_I h0 h1, ln_I h0 h1]
  refine Prod.ext rfl (Prod.ext rfl (funext fun a => ?_))
  show (if a = (b0 : Int) + d then (kT d, lT d, fun j => if j = k then v else gf (I b0 m z ξ) ((b0 : Int) + d) j) else (I b0 m z ξ).2.2 a) = (I b0 m z (xu ξ d k v)).2.2 a
  by_cases ha : a = (b0 : Int) + d
  · subst ha
    rw [if_pos rfl, I_at h0 h1]
    refine Prod.ext rfl (Prod.ext rfl (funext fun j => ?_))
    show (if j = k then v else gf (I b0 m z ξ) ((b0 : Int) + d) j) = xu ξ d k v d j
    unfold xu
    by_cases hj : j = k
    · rw [if_pos hj, if_pos ⟨rfl, hj⟩]
    · rw [if_neg hj, if_neg (fun y => hj y.2), gf_I h0 h1]
  · rw [if_neg ha]
    show (if 0 ≤ a - (b0 : Int) ∧ a - (b0 : Int) < m then (kT (a - b0), lT (a - b0), ξ (a - b0)) else (0, 0, fun _ => 0)) = (if 0 ≤ a - (b0 : Int) ∧ a - (b0 : Int) < m then (kT (a - b0), lT (a - b0), xu ξ d k v (a - b0)) else (0, 0, fun _ => 0))
    by_cases q : 0 ≤ a - (b0 : Int) ∧ a - (b0 : Int) < m
    · rw [if_pos q, if_pos q]
      refine Prod.ext rfl (Prod.ext rfl (funext fun j => ?_))
      show ξ (a - b0) j = xu ξ d k v (a - b0) j
      exact (xu_nd (by omega)).symm
    · rw [if_neg q, if_neg q]
theorem I_nw {d : Int} {f : Int → Int} (hd : d = (m : Int)) (hD : Dd m ξ) (hk : kT d = c) (hl : lT d = l) (hf : ∀ k, xD d k = f k) : nw (I b0 m z ξ) c l sz f = I b0 (m + 1) (z + sz) ξ := by
  unfold nw
  refine Prod.ext rfl (Prod.ext rfl (funext fun a => ?_))
  show (if a = ((b0 + m : Nat) : Int) then (c, l, f) else (I b0 m z ξ).2.2 a) = (I b0 (m + 1) (z + sz) ξ).2.2 a
  by_cases ha : a = ((b0 + m : Nat) : Int)
  · rw [if_pos ha, ha, show ((b0 + m : Nat) : Int) = (b0 : Int) + d by omega, I_at (by omega) (by omega), hk, hl]
    refine Prod.ext rfl (Prod.ext rfl (funext fun j => ?_))
    show f j = ξ d j
    rw [hD d j (by omega), hf j]
  · rw [if_neg ha]
    show (if 0 ≤ a - (b0 : Int) ∧ a - (b0 : Int) < m then (kT (a - b0), lT (a - b0), ξ (a - b0)) else (0, 0, fun _ => 0)) = (if 0 ≤ a - (b0 : Int) ∧ a - (b0 : Int) < ((m + 1 : Nat) : Int) then (kT (a - b0), lT (a - b0), ξ (a - b0)) else (0, 0, fun _ => 0))
    by_cases q : 0 ≤ a - (b0 : Int) ∧ a - (b0 : Int) < m
    · rw [if_pos q, if_pos (by omega)]
    · rw [if_neg q, if_neg (by omega)]
theorem Dd_xu {d : Int} (hD : Dd m ξ) (h1 : d < m) : Dd m (xu ξ d k v) := fun d' k' q => by rw [xu_nd (by omega)]; exact hD d' k' q
theorem Dd_s (hD : Dd m ξ) : Dd (m + 1) ξ := fun d' k' q => hD d' k' (by omega)
theorem i_nab {f : Int → Hp → Option γ} {R : Option γ} (d : Int) (hd : d = (m : Int)) (hD : Dd m ξ) (hk : kT d = c) (hl : lT d = n) (hf : ∀ k, xD d k = v) (n0 : 0 ≤ n ∧ n ≤ 1000000) (K : Dd (m + 1) ξ → f ((b0 : Int) + d) (I b0 (m + 1) (z + n.toNat) ξ) = R) : nab c (I b0 m z ξ) n v f = R := by
  unfold nab na
  rw [if_pos n0, I_nw hd hD hk hl hf]
  show f ((b0 + m : Nat) : Int) (I b0 (m + 1) (z + n.toNat) ξ) = R
  rw [show ((b0 + m : Nat) : Int) = (b0 : Int) + d by omega]
  exact K (Dd_s hD)
theorem i_nwb {f : Int → Hp → Option γ} {R : Option γ} (d : Int) (hd : d = (m : Int)) (hD : Dd m ξ) (hk : kT d = c) (hl : lT d = 0) (hf : ∀ k, xD d k = d0 ci k) (K : Dd (m + 1) ξ → f ((b0 : Int) + d) (I b0 (m + 1) (z + N) ξ) = R) : nwb c (I b0 m z ξ) N ci f = R := by
  unfold nwb
  rw [I_nw hd hD hk hl hf]
  show f ((b0 + m : Nat) : Int) (I b0 (m + 1) (z + N) ξ) = R
  rw [show ((b0 + m : Nat) : Int) = (b0 : Int) + d by omega]
  exact K (Dd_s hD)
theorem i_pw {f : Hp → Option γ} {R : Option γ} {d : Int} (h0 : 0 ≤ d) (h1 : d < m) (hD : Dd m ξ) (hk : kT d = c) (K : Dd m (xu ξ d k v) → f (I b0 m z (xu ξ d k v)) = R) : (pw c (I b0 m z ξ) ((b0 : Int) + d) k v).bind f = R := by
  unfold pw
  rw [kd_I h0 h1, if_pos hk, I_wr h0 h1]
  exact K (Dd_xu hD h1)
theorem i_rd {f : Int → Option γ} {R : Option γ} {d : Int} (h0 : 0 ≤ d) (h1 : d < m) (hk : kT d = c) (K : f (ξ d k) = R) : (rd c (I b0 m z ξ) ((b0 : Int) + d) k).bind f = R := by
  unfold rd
  rw [kd_I h0 h1, if_pos hk, gf_I h0 h1]
  exact K
theorem i_iv {X : Option γ} {d : Int} (h0 : 0 ≤ d) (h1 : d < m) (hk : kT d = c) : iv c (I b0 m z ξ) ((b0 : Int) + d) X = X := by
  unfold iv
  rw [kd_I h0 h1, if_pos hk]
theorem i_al {f : Int → Option γ} {R : Option γ} {d : Int} (h0 : 0 ≤ d) (h1 : d < m) (hk : kT d = c) (hl : lT d = l) (l0 : 0 ≤ l) (K : f l = R) : (al c (I b0 m z ξ) ((b0 : Int) + d)).bind f = R := by
  unfold al
  rw [kd_I h0 h1, ln_I h0 h1, hl, if_pos ⟨hk, l0⟩]
  exact K
theorem i_aw {f : Hp → Option γ} {R : Option γ} {d : Int} (h0 : 0 ≤ d) (h1 : d < m) (hD : Dd m ξ) (hk : kT d = c) (hl : lT d = l) (i0 : 0 ≤ i) (i1 : i < l) (i2 : i < 2147483648) (K : Dd m (xu ξ d i v) → f (I b0 m z (xu ξ d i v)) = R) : (aw c (I b0 m z ξ) ((b0 : Int) + d) i v).bind f = R := by
  unfold aw
  rw [kd_I h0 h1, ln_I h0 h1, hl, if_pos ⟨hk, i0, i1, i2⟩, I_wr h0 h1]
  exact K (Dd_xu hD h1)
theorem i_aq {f : Hp → Option γ} {R : Option γ} {d e cv : Int} (h0 : 0 ≤ d) (h1 : d < m) (hD : Dd m ξ) (hk : kT d = c) (hl : lT d = l) (i0 : 0 ≤ i) (i1 : i < l) (i2 : i < 2147483648) (e0 : 0 ≤ e) (e1 : e < m) (he : kT e = cv) (K : Dd m (xu ξ d i ((b0 : Int) + e)) → f (I b0 m z (xu ξ d i ((b0 : Int) + e))) = R) : (aq c cv (I b0 m z ξ) ((b0 : Int) + d) i ((b0 : Int) + e)).bind f = R := by
  unfold aq
  rw [kd_I h0 h1, ln_I h0 h1, hl, kd_I e0 e1, if_pos ⟨hk, i0, i1, i2, he⟩, I_wr h0 h1]
  exact K (Dd_xu hD h1)
/-- a row filled -/
def fl (ξ : Int → Int → Int) (e l v : Int) (d k : Int) : Int := if d = e ∧ 0 ≤ k ∧ k < l then v else ξ d k
theorem I_fill {d : Int} (h0 : 0 ≤ d) (h1 : d < m) (hk : kT d = 11) (hl : lT d = l) (l0 : 0 ≤ l) (l1 : l ≤ 1000) : F_J7_fill_53178 ((b0 : Int) + d) v (I b0 m z ξ) = some (0, I b0 m z (fl ξ d l v)) := by
  have key : ∀ (q f : Nat) (j : Int) (ξ : Int → Int → Int), q < f → 0 ≤ j → j + q = l → F_J7_fill_53178_L5 ((b0 : Int) + d) v l f j (I b0 m z ξ) = some (0, I b0 m z (fun d' k' => if d' = d ∧ j ≤ k' ∧ k' < l then v else ξ d' k')) := by
    intro q
    induction q with
    | zero =>
      intro f j ξ hf j0 he
      obtain ⟨f, rfl⟩ : ∃ g, f = g + 1 := ⟨f - 1, by omega⟩
      rw [F_J7_fill_53178_L5]
      refine ev_bLt (by omega) (by omega) (by omega) (by omega) (fun q => by omega) (fun _ => ev_end rfl ?_)
      congr 1
      funext d' k'
      exact (if_neg (by omega)).symm
    | succ q ih =>
      intro f j ξ hf j0 he
      obtain ⟨f, rfl⟩ : ∃ g, f = g + 1 := ⟨f - 1, by omega⟩
      rw [F_J7_fill_53178_L5]
      refine ev_bLt (by omega) (by omega) (by omega) (by omega) (fun _ => ?_) (fun q => by omega)
      have e : aw 11 (I b0 m z ξ) ((b0 : Int) + d) j v = some (I b0 m z (xu ξ d j v)) := by
        unfold aw
        rw [kd_I h0 h1, ln_I h0 h1, hl, if_pos ⟨hk, j0, by omega, by omega⟩, I_wr h0 h1]
      refine ev e ?_
      rw [ih f (j + 1) (xu ξ d j v) (by omega) (by omega) (by omega)]
      refine ev_end rfl ?_
      congr 1
      funext d' k'
      by_cases c1 : d' = d ∧ j + 1 ≤ k' ∧ k' < l
      · rw [if_pos c1, if_pos (by omega)]
      · rw [if_neg c1]
        unfold xu
        by_cases c2 : d' = d ∧ k' = j
        · rw [if_pos c2, if_pos (by omega)]
        · rw [if_neg c2, if_neg (by omega)]
  rw [F_J7_fill_53178]
  refine i_al h0 h1 hk hl l0 ?_
  rw [key l.toNat fu 0 ξ (fuN (by omega)) (by omega) (by omega)]
  rfl
theorem Dd_fl {d : Int} (hD : Dd m ξ) (h1 : d < m) : Dd m (fl ξ d l v) := fun d' k' q => by
  unfold fl
  rw [if_neg (by omega)]
  exact hD d' k' q
end R0
