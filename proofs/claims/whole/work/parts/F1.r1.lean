section R1
variable {b0 m z sz N ci : Nat} {ξ ζ : Int → Int → Int} {c l v i n e : Int} {k : Int} {γ : Type}
theorem i_rdv {f : Int → Option γ} {R : Option γ} {d : Int} (v : Int) (hv : ξ d k = v) (h0 : 0 ≤ d) (h1 : d < m) (hk : kT d = c) (K : f v = R) : (rd c (I b0 m z ξ) ((b0 : Int) + d) k).bind f = R := i_rd h0 h1 hk (by rw [hv]; exact K)
theorem X0_mk {d : Int} (hd : d + 1 = (m : Int)) (hd' : d = 3 ∨ d = 5 ∨ d = 7) (hD : Dd m ξ) : ∃ ξ', F_X0_init ((b0 : Int) + d) (I b0 m z ξ) = some (0, I b0 (m + 1) (z + 31) ξ') ∧ Dd (m + 1) ξ' ∧ (∀ d' k, d' ≠ d → d' ≠ d + 1 → ξ' d' k = ξ d' k) ∧ (ξ' d 0 = (b0 : Int) + (d + 1) ∧ ξ' d 7 = 30 ∧ ξ' d 8 = 1) ∧ (∀ k, k ≠ 0 → k ≠ 7 → k ≠ 8 → ξ' d k = ξ d k) ∧ ∀ k, 0 ≤ k → k < 31 → ξ' (d + 1) k = 1 := by
  have k1 : kT d = 1 := by rcases hd' with rfl | rfl | rfl <;> rfl
  have k2 : kT (d + 1) = 11 := by rcases hd' with rfl | rfl | rfl <;> rfl
  have l2 : lT (d + 1) = 31 := by rcases hd' with rfl | rfl | rfl <;> rfl
  have x2 : ∀ k, xD (d + 1) k = 0 := fun k => by rcases hd' with rfl | rfl | rfl <;> rfl
  refine ⟨fl (xu (xu (xu ξ d 0 ((b0 : Int) + (d + 1))) d 7 30) d 8 1) (d + 1) 31 1, ?_, Dd_fl (Dd_xu (Dd_xu (Dd_xu (Dd_s hD) (by omega)) (by omega)) (by omega)) (by omega), fun d' k' h1 h2 => ?_, ⟨?_, ?_, ?_⟩, fun k' h1 h2 h3 => ?_, fun k' h1 h2 => ?_⟩
  · rw [F_X0_init]
    refine (i_iv (by omega) (by omega) k1).trans ?_
    refine i_nab (d + 1) hd hD k2 l2 x2 (by omega) (fun hD => ?_)
    refine i_pw (by omega) (by omega) hD k1 (fun hD => ?_)
    refine i_pw (by omega) (by omega) hD k1 (fun hD => ?_)
    refine i_pw (by omega) (by omega) hD k1 (fun hD => ?_)
    refine i_rdv ((b0 : Int) + (d + 1)) (by rw [xu_ni (by omega), xu_ni (by omega), xu_s]) (by omega) (by omega) k1 ?_
    exact evd (I_fill (by omega) (by omega) k2 l2 (by omega) (by omega)) rfl
  · unfold fl
    rw [if_neg (by omega), xu_nd h1, xu_nd h1, xu_nd h1]
  · unfold fl
    rw [if_neg (by omega), xu_ni (by omega), xu_ni (by omega), xu_s]
  · unfold fl
    rw [if_neg (by omega), xu_ni (by omega), xu_s]
  · unfold fl
    rw [if_neg (by omega), xu_s]
  · unfold fl
    rw [if_neg (by omega), xu_ni h3, xu_ni h2, xu_ni h1]
  · unfold fl
    rw [if_pos ⟨rfl, h1, h2⟩]
theorem d0_lake : d0 0 1 = 0 ∧ d0 0 2 = 0 ∧ d0 0 3 = 0 ∧ d0 0 4 = 0 ∧ d0 0 5 = 0 ∧ d0 0 6 = 0 ∧ d0 4 1 = 0 ∧ d0 4 3 = 0 := ⟨rfl, rfl, rfl, rfl, rfl, rfl, rfl, rfl⟩
/-- the lakes as they are made -/
def VLk (b0 : Nat) (ξ : Int → Int → Int) (i : Int) : Prop := ξ (3 + 2 * i) 0 = (b0 : Int) + (4 + 2 * i) ∧ ξ (3 + 2 * i) 1 = 0 ∧ ξ (3 + 2 * i) 2 = 0 ∧ ξ (3 + 2 * i) 3 = 0 ∧ ξ (3 + 2 * i) 4 = 0 ∧ ξ (3 + 2 * i) 5 = 0 ∧ ξ (3 + 2 * i) 6 = 0 ∧ ξ (3 + 2 * i) 7 = 30 ∧ ξ (3 + 2 * i) 8 = 1 ∧ ∀ k, 0 ≤ k → k < 31 → ξ (4 + 2 * i) k = 1
def VS (b0 : Nat) (ξ : Int → Int → Int) : Prop := (ξ 1 0 = (b0 : Int) + 2 ∧ ξ 1 1 = 0 ∧ ξ 1 2 = 1) ∧ (ξ 2 0 = (b0 : Int) + 3 ∧ ξ 2 1 = (b0 : Int) + 5 ∧ ξ 2 2 = (b0 : Int) + 7) ∧ VLk b0 ξ 0 ∧ VLk b0 ξ 1 ∧ VLk b0 ξ 2
theorem lk_step {f : Nat} {j d : Int} (hd : d = (m : Int)) (hj : d = 3 + 2 * j) (j0 : 0 ≤ j) (j3 : j < 3) (hD : Dd m ξ) (h10 : ξ 1 0 = (b0 : Int) + 2) : ∃ ξ', F_X4_init_L19 ((b0 : Int) + 1) (f + 1) j (I b0 m z ξ) = F_X4_init_L19 ((b0 : Int) + 1) f (j + 1) (I b0 (m + 1 + 1) (z + 9 + 31) ξ') ∧ Dd (m + 1 + 1) ξ' ∧ (∀ d' k, d' < d → ¬ (d' = 2 ∧ k = j) → ξ' d' k = ξ d' k) ∧ ξ' 2 j = (b0 : Int) + d ∧ VLk b0 ξ' j := by
  have hd' : d = 3 ∨ d = 5 ∨ d = 7 := by omega
  have k1 : kT d = 1 := by rcases hd' with rfl | rfl | rfl <;> rfl
  have l1 : lT d = 0 := by rcases hd' with rfl | rfl | rfl <;> rfl
  have x1 : ∀ k, xD d k = d0 0 k := fun k => by rcases hd' with rfl | rfl | rfl <;> rfl
  obtain ⟨ξ1, e1, e2, e3, e4, e5, e6⟩ := X0_mk (b0 := b0) (z := z + 9) (ξ := ξ) (m := m + 1) (d := d) (by omega) hd' (Dd_s hD)
  have dl := d0_lake
  have xd : ∀ k, ξ d k = d0 0 k := fun k => by rw [hD d k (by omega), x1 k]
  refine ⟨xu ξ1 2 j ((b0 : Int) + d), ?_, Dd_xu e2 (by omega), fun d' k h1 h2 => ?_, xu_s, ?_⟩
  · rw [F_X4_init_L19]
    refine i_rdv _ h10 (by omega) (by omega) rfl ?_
    refine i_al (l := 3) (by omega) (by omega) rfl rfl (by omega) ?_
    refine ev_bLt (by omega) (by omega) (by omega) (by omega) (fun _ => ?_) (fun q => by omega)
    refine i_rdv _ h10 (by omega) (by omega) rfl ?_
    refine i_nwb d hd hD k1 l1 x1 (fun _ => ?_)
    refine evd e1 ?_
    exact i_aq (l := 3) (by omega) (by omega) e2 rfl rfl j0 j3 (by omega) (by omega) (by omega) k1 (fun _ => rfl)
  · rw [show xu ξ1 2 j ((b0 : Int) + d) d' k = ξ1 d' k from if_neg h2]
    exact e3 d' k (by omega) (by omega)
  · unfold VLk
    rw [← hj, show 4 + 2 * j = d + 1 by omega]
    have nx : ∀ d' k, 3 ≤ d' → xu ξ1 2 j ((b0 : Int) + d) d' k = ξ1 d' k := fun d' k q => xu_nd (by omega)
    rw [nx d 0 (by omega), nx d 1 (by omega), nx d 2 (by omega), nx d 3 (by omega), nx d 4 (by omega), nx d 5 (by omega), nx d 6 (by omega), nx d 7 (by omega), nx d 8 (by omega), e5 1 (by omega) (by omega) (by omega), e5 2 (by omega) (by omega) (by omega), e5 3 (by omega) (by omega) (by omega), e5 4 (by omega) (by omega) (by omega), e5 5 (by omega) (by omega) (by omega), e5 6 (by omega) (by omega) (by omega), xd, xd, xd, xd, xd, xd]
    exact ⟨e4.1, dl.1, dl.2.1, dl.2.2.1, dl.2.2.2.1, dl.2.2.2.2.1, dl.2.2.2.2.2.1, e4.2.1, e4.2.2, fun k a b => by rw [nx _ _ (by omega)]; exact e6 k a b⟩
theorem VLk_cg (h : VLk b0 ξ i) (h0 : ∀ k, ζ (3 + 2 * i) k = ξ (3 + 2 * i) k) (h1 : ∀ k, ζ (4 + 2 * i) k = ξ (4 + 2 * i) k) : VLk b0 ζ i := by
  unfold VLk at h ⊢
  rw [h0, h0, h0, h0, h0, h0, h0, h0, h0]
  exact ⟨h.1, h.2.1, h.2.2.1, h.2.2.2.1, h.2.2.2.2.1, h.2.2.2.2.2.1, h.2.2.2.2.2.2.1, h.2.2.2.2.2.2.2.1, h.2.2.2.2.2.2.2.2.1, fun k a b => by rw [h1]; exact h.2.2.2.2.2.2.2.2.2 k a b⟩
theorem X4_mk (hD : Dd 2 ξ) (hr : ∀ k, ξ 1 k = d0 4 k) : ∃ ξ', F_X4_init ((b0 : Int) + 1) (I b0 2 z ξ) = some (0, I b0 9 (z + 123) ξ') ∧ Dd 9 ξ' ∧ (∀ k, ξ' 0 k = ξ 0 k) ∧ VS b0 ξ' := by
  have dl := d0_lake
  have D1 : Dd 3 (xu (xu ξ 1 0 ((b0 : Int) + 2)) 1 2 1) := Dd_xu (Dd_xu (Dd_s hD) (by omega)) (by omega)
  have p10 : xu (xu ξ 1 0 ((b0 : Int) + 2)) 1 2 1 1 0 = (b0 : Int) + 2 := by rw [xu_ni (by omega), xu_s]
  have p11 : xu (xu ξ 1 0 ((b0 : Int) + 2)) 1 2 1 1 1 = 0 := by rw [xu_ni (by omega), xu_ni (by omega), hr]; exact dl.2.2.2.2.2.2.1
  have p12 : xu (xu ξ 1 0 ((b0 : Int) + 2)) 1 2 1 1 2 = 1 := xu_s
  have p0 : ∀ k, xu (xu ξ 1 0 ((b0 : Int) + 2)) 1 2 1 0 k = ξ 0 k := fun k => by rw [xu_nd (by omega), xu_nd (by omega)]
  obtain ⟨f, hf⟩ := fu4
  obtain ⟨ξ1, a1, a2, a3, a4, a5⟩ := lk_step (b0 := b0) (z := z + 3) (f := f + 1 + 1 + 1) (j := 0) (d := 3) rfl rfl (by omega) (by omega) D1 p10
  obtain ⟨ξ2, c1, c2, c3, c4, c5⟩ := lk_step (b0 := b0) (z := z + 3 + 9 + 31) (f := f + 1 + 1) (j := 0 + 1) (d := 5) rfl rfl (by omega) (by omega) a2 (by rw [a3 1 0 (by omega) (by omega)]; exact p10)
  obtain ⟨ξ3, e1, e2, e3, e4, e5⟩ := lk_step (b0 := b0) (z := z + 3 + 9 + 31 + 9 + 31) (f := f + 1) (j := 0 + 1 + 1) (d := 7) rfl rfl (by omega) (by omega) c2 (by rw [c3 1 0 (by omega) (by omega), a3 1 0 (by omega) (by omega)]; exact p10)
  refine ⟨ξ3, ?_, e2, fun k => ?_, ⟨?_, ?_, ?_⟩, ⟨?_, ?_, e4⟩, ?_, ?_, e5⟩
  · rw [F_X4_init]
    refine (i_iv (by omega) (by omega) rfl).trans ?_
    refine i_nab 2 rfl hD rfl rfl (fun _ => rfl) (by omega) (fun hD => ?_)
    refine i_pw (by omega) (by omega) hD rfl (fun hD => ?_)
    refine i_pw (by omega) (by omega) hD rfl (fun hD => ?_)
    rw [hf]
    refine Eq.trans a1 (Eq.trans c1 (Eq.trans e1 ?_))
    rw [F_X4_init_L19]
    refine i_rdv ((b0 : Int) + 2) (by rw [e3 1 0 (by omega) (by omega), c3 1 0 (by omega) (by omega), a3 1 0 (by omega) (by omega)]; exact p10) (by omega) (by omega) rfl ?_
    refine i_al (d := 2) (l := 3) (by decide) (by decide) rfl rfl (by decide) ?_
    exact ev_bLt (by omega) (by omega) (by omega) (by omega) (fun q => by omega) (fun _ => rfl)
  · rw [e3 0 k (by omega) (by omega), c3 0 k (by omega) (by omega), a3 0 k (by omega) (by omega), p0]
  · rw [e3 1 0 (by omega) (by omega), c3 1 0 (by omega) (by omega), a3 1 0 (by omega) (by omega)]; exact p10
  · rw [e3 1 1 (by omega) (by omega), c3 1 1 (by omega) (by omega), a3 1 1 (by omega) (by omega)]; exact p11
  · rw [e3 1 2 (by omega) (by omega), c3 1 2 (by omega) (by omega), a3 1 2 (by omega) (by omega)]; exact p12
  · rw [e3 2 0 (by omega) (by omega), c3 2 0 (by omega) (by omega)]; exact a4
  · rw [e3 2 1 (by omega) (by omega)]; exact c4
  · exact VLk_cg (VLk_cg a5 (fun k => c3 _ k (by omega) (by omega)) (fun k => c3 _ k (by omega) (by omega))) (fun k => e3 _ k (by omega) (by omega)) (fun k => e3 _ k (by omega) (by omega))
  · exact VLk_cg c5 (fun k => e3 _ k (by omega) (by omega)) (fun k => e3 _ k (by omega) (by omega))
end R1
