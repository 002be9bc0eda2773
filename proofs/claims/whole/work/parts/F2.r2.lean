section R2
variable {b0 m z sz N ci : Nat} {ξ ζ : Int → Int → Int} {c l v i n e : Int} {k : Int} {γ : Type}
/-- the tree as it is made -/
def TS (b0 : Nat) (ξ : Int → Int → Int) : Prop := (ξ 9 0 = (b0 : Int) + 10 ∧ ξ 9 1 = (b0 : Int) + 11 ∧ ξ 9 2 = 1 ∧ ξ 9 3 = 1 ∧ ξ 9 4 = 1) ∧ (ξ 10 0 = (b0 : Int) + 12 ∧ ∀ k, k ≠ 0 → ξ 10 k = -1) ∧ (∀ w, 0 ≤ w → w < 10 → ξ 11 w = 1) ∧ (ξ 12 0 = 0 ∧ ξ 12 1 = (b0 : Int) + 13 ∧ ξ 12 2 = (b0 : Int) + 14 ∧ ξ 12 3 = -1 ∧ ξ 12 5 = -1 ∧ ξ 12 6 = 0 ∧ ξ 12 7 = 0 ∧ ξ 12 8 = -1 ∧ ξ 12 9 = -1 ∧ ξ 12 10 = 0) ∧ ∀ k, ξ 13 k = 0
theorem X3_mk (hD : Dd 10 ξ) : ∃ ξ', F_X3_init ((b0 : Int) + 9) (I b0 10 z ξ) = some (0, I b0 15 (z + 116) ξ') ∧ Dd 15 ξ' ∧ (∀ d k, d < 9 → ξ' d k = ξ d k) ∧ TS b0 ξ' := by
  have dn := d0_n
  have x10 : ∀ k, ξ 10 k = -1 := fun k => by rw [hD 10 k (by omega)]; rfl
  have x11 : ∀ k, ξ 11 k = 0 := fun k => by rw [hD 11 k (by omega)]; rfl
  have x12 : ∀ k, ξ 12 k = d0 1 k := fun k => by rw [hD 12 k (by omega)]; rfl
  have x13 : ∀ k, ξ 13 k = 0 := fun k => by rw [hD 13 k (by omega)]; rfl
  refine ⟨fl (xu (xu (xu (xu (xu (xu (xu (xu (xu (xu ξ 9 0 ((b0 : Int) + 10)) 9 1 ((b0 : Int) + 11)) 9 2 1) 9 3 1) 9 4 1) 12 1 ((b0 : Int) + 13)) 12 2 ((b0 : Int) + 14)) 12 5 (-1)) 12 0 0) 10 0 ((b0 : Int) + 12)) 11 10 1, ?_, ?_, fun d k q => ?_, ?_⟩
  · rw [F_X3_init]
    refine (i_iv (by decide) (by decide) rfl).trans ?_
    refine i_nab 10 rfl hD rfl rfl (fun _ => rfl) (by decide) (fun hD => ?_)
    refine i_pw (by decide) (by decide) hD rfl (fun hD => ?_)
    refine i_nab 11 rfl hD rfl rfl (fun _ => rfl) (by decide) (fun hD => ?_)
    refine i_pw (by decide) (by decide) hD rfl (fun hD => ?_)
    refine i_pw (by decide) (by decide) hD rfl (fun hD => ?_)
    refine i_pw (by decide) (by decide) hD rfl (fun hD => ?_)
    refine i_pw (by decide) (by decide) hD rfl (fun hD => ?_)
    refine i_rdv ((b0 : Int) + 10) (by simp [xu]) (by decide) (by decide) rfl ?_
    refine i_nwb 12 rfl hD rfl rfl (fun _ => rfl) (fun hD => ?_)
    refine evd (v := 0) (w := I b0 15 (z + (81 : Int).toNat + (10 : Int).toNat + 16 + (3 : Int).toNat + (6 : Int).toNat) (xu (xu (xu (xu (xu (xu (xu (xu (xu ξ 9 0 ((b0 : Int) + 10)) 9 1 ((b0 : Int) + 11)) 9 2 1) 9 3 1) 9 4 1) 12 1 ((b0 : Int) + 13)) 12 2 ((b0 : Int) + 14)) 12 5 (-1)) 12 0 0)) ?_ ?_
    · rw [F_X1_init]
      refine (i_iv (by decide) (by decide) rfl).trans ?_
      refine i_nab 13 rfl hD rfl rfl (fun _ => rfl) (by decide) (fun hD => ?_)
      refine i_pw (by decide) (by decide) hD rfl (fun hD => ?_)
      refine i_nab 14 rfl hD rfl rfl (fun _ => rfl) (by decide) (fun hD => ?_)
      refine i_pw (by decide) (by decide) hD rfl (fun hD => ?_)
      refine i_pw (by decide) (by decide) hD rfl (fun hD => ?_)
      exact i_pw (by decide) (by decide) hD rfl (fun hD => rfl)
    · have hD15 : Dd 15 (xu (xu (xu (xu (xu (xu (xu (xu (xu ξ 9 0 ((b0 : Int) + 10)) 9 1 ((b0 : Int) + 11)) 9 2 1) 9 3 1) 9 4 1) 12 1 ((b0 : Int) + 13)) 12 2 ((b0 : Int) + 14)) 12 5 (-1)) 12 0 0) := Dd_xu (Dd_xu (Dd_xu (Dd_xu (Dd_s (Dd_s hD)) (by decide)) (by decide)) (by decide)) (by decide)
      refine i_aq (e := 12) (by decide) (by decide) hD15 rfl rfl (by decide) (by decide) (by decide) (by decide) (by decide) rfl (fun hD => ?_)
      refine i_rdv ((b0 : Int) + 11) (by simp [xu]) (by decide) (by decide) rfl ?_
      exact evd (I_fill (d := 11) (by decide) (by decide) rfl rfl (by decide) (by decide)) rfl
  · refine Dd_fl ?_ (by decide)
    refine Dd_xu (Dd_xu (Dd_xu (Dd_xu (Dd_xu (Dd_xu (Dd_xu (Dd_xu (Dd_xu (Dd_xu (m := 15) (fun d k q => hD d k (by omega)) (by decide)) (by decide)) (by decide)) (by decide)) (by decide)) (by decide)) (by decide)) (by decide)) (by decide)) (by decide)
  · unfold fl
    rw [if_neg (by omega), xu_nd (by omega), xu_nd (by omega), xu_nd (by omega), xu_nd (by omega), xu_nd (by omega), xu_nd (by omega), xu_nd (by omega), xu_nd (by omega), xu_nd (by omega), xu_nd (by omega)]
  · refine ⟨⟨?_, ?_, ?_, ?_, ?_⟩, ⟨?_, fun k hk => ?_⟩, fun w w0 w1 => ?_, ⟨?_, ?_, ?_, ?_, ?_, ?_, ?_, ?_, ?_, ?_⟩, fun k => ?_⟩
    · simp [fl, xu]
    · simp [fl, xu]
    · simp [fl, xu]
    · simp [fl, xu]
    · simp [fl, xu]
    · simp [fl, xu]
    · simp [fl, xu, hk, x10]
    · unfold fl
      rw [if_pos ⟨rfl, w0, w1⟩]
    · simp [fl, xu]
    · simp [fl, xu]
    · simp [fl, xu]
    · simp [fl, xu, x12, dn.2.2.2.1]
    · simp [fl, xu]
    · simp [fl, xu, x12, dn.2.2.2.2.1]
    · simp [fl, xu, x12, dn.2.2.2.2.2]
    · simp [fl, xu, x12, dn.1]
    · simp [fl, xu, x12, dn.2.1]
    · simp [fl, xu, x12, dn.2.2.1]
    · simp [fl, xu, x13]
theorem d0_rest : (d0 6 2 = 0 ∧ d0 6 3 = 0) ∧ (d0 2 5 = 0 ∧ d0 2 6 = 0 ∧ d0 2 7 = -1) ∧ (d0 8 1 = 0 ∧ d0 8 18 = 0 ∧ d0 8 19 = 0 ∧ d0 8 32 = 0 ∧ d0 8 33 = 0) := ⟨⟨rfl, rfl⟩, ⟨rfl, rfl, rfl⟩, rfl, rfl, rfl, rfl, rfl⟩
/-- the class as it is made -/
def CS (b0 : Nat) (ξ : Int → Int → Int) : Prop := (ξ 0 0 = (b0 : Int) + 1 ∧ ξ 0 1 = (b0 : Int) + 9 ∧ ξ 0 2 = (b0 : Int) + 15 ∧ ξ 0 3 = (b0 : Int) + 16 ∧ ξ 0 4 = (b0 : Int) + 17) ∧ VS b0 ξ ∧ TS b0 ξ ∧ (ξ 15 0 = (b0 : Int) + 1 ∧ ξ 15 1 = (b0 : Int) + 9 ∧ ξ 15 2 = 1) ∧ (ξ 16 0 = (b0 : Int) + 1 ∧ ξ 16 1 = (b0 : Int) + 9) ∧ (ξ 17 0 = (b0 : Int) + 18 ∧ ξ 17 1 = (b0 : Int) + 19 ∧ ξ 17 2 = (b0 : Int) + 20 ∧ ξ 17 3 = (b0 : Int) + 21 ∧ ξ 17 4 = (b0 : Int) + 22 ∧ ξ 17 5 = 0) ∧ ∀ d k, 18 ≤ d → d ≤ 22 → ξ d k = 0
theorem VS_cg (h : VS b0 ξ) (e : ∀ d k, 1 ≤ d → d < 9 → ζ d k = ξ d k) : VS b0 ζ := by
  obtain ⟨h1, h2, h3, h4, h5⟩ := h
  unfold VS
  rw [e 1 0 (by omega) (by omega), e 1 1 (by omega) (by omega), e 1 2 (by omega) (by omega), e 2 0 (by omega) (by omega), e 2 1 (by omega) (by omega), e 2 2 (by omega) (by omega)]
  exact ⟨h1, h2, VLk_cg h3 (fun k => e _ k (by omega) (by omega)) (fun k => e _ k (by omega) (by omega)), VLk_cg h4 (fun k => e _ k (by omega) (by omega)) (fun k => e _ k (by omega) (by omega)), VLk_cg h5 (fun k => e _ k (by omega) (by omega)) (fun k => e _ k (by omega) (by omega))⟩
theorem TS_cg (h : TS b0 ξ) (e : ∀ d k, 9 ≤ d → d < 15 → ζ d k = ξ d k) : TS b0 ζ := by
  have f : ∀ d, 9 ≤ d → d < 15 → ζ d = ξ d := fun d a b => funext fun k => e d k a b
  unfold TS at h ⊢
  rw [f 9 (by omega) (by omega), f 10 (by omega) (by omega), f 11 (by omega) (by omega), f 12 (by omega) (by omega), f 13 (by omega) (by omega)]
  exact h
theorem X7_mk (hD : Dd 1 ξ) (hr : ∀ k, ξ 0 k = d0 7 k) : ∃ ξ' z', F_X7_init ((b0 : Int) + 0) (I b0 1 z ξ) = some (0, I b0 23 z' ξ') ∧ z' ≤ z + 1000 ∧ Dd 23 ξ' ∧ CS b0 ξ' := by
  obtain ⟨ξ1, a1, a2, a3, a4⟩ := X4_mk (b0 := b0) (z := z + 4) (ξ := ξ) (Dd_s hD) (fun k => by rw [hD 1 k (by omega)]; rfl)
  have D2 : Dd 10 (xu ξ1 0 0 ((b0 : Int) + 1)) := Dd_s (Dd_xu a2 (by decide))
  obtain ⟨ξ2, c1, c2, c3, c4⟩ := X3_mk (b0 := b0) (z := z + 4 + 123 + 5) (ξ := xu ξ1 0 0 ((b0 : Int) + 1)) D2
  have dr := d0_rest
  have y00 : ξ2 0 0 = (b0 : Int) + 1 := by rw [c3 0 0 (by omega), xu_s]
  have y15 : ∀ k, ξ2 15 k = d0 6 k := fun k => by rw [c2 15 k (by omega)]; rfl
  have y16 : ∀ k, ξ2 16 k = d0 5 k := fun k => by rw [c2 16 k (by omega)]; rfl
  have y17 : ∀ k, ξ2 17 k = d0 2 k := fun k => by rw [c2 17 k (by omega)]; rfl
  have y18 : ∀ d k, 18 ≤ d → d ≤ 22 → ξ2 d k = 0 := fun d k a b => by
    rw [c2 d k (by omega)]
    rcases (by omega : d = 18 ∨ d = 19 ∨ d = 20 ∨ d = 21 ∨ d = 22) with rfl | rfl | rfl | rfl | rfl <;> rfl
  refine ⟨xu (xu (xu (xu (xu (xu (xu (xu (xu (xu (xu (xu (xu (xu ξ2 0 1 ((b0 : Int) + 9)) 15 2 1) 15 0 ((b0 : Int) + 1)) 15 1 ((b0 : Int) + 9)) 0 2 ((b0 : Int) + 15)) 16 0 ((b0 : Int) + 1)) 16 1 ((b0 : Int) + 9)) 0 3 ((b0 : Int) + 16)) 17 0 ((b0 : Int) + 18)) 17 1 ((b0 : Int) + 19)) 17 2 ((b0 : Int) + 20)) 17 3 ((b0 : Int) + 21)) 17 4 ((b0 : Int) + 22)) 0 4 ((b0 : Int) + 17), z + 4 + 123 + 5 + 116 + 4 + 2 + 8 + 11 + 11 + 11 + 11 + 11, ?_, by omega, ?_, ?_⟩
  · rw [F_X7_init]
    refine (i_iv (by decide) (by decide) rfl).trans ?_
    refine i_nwb 1 rfl hD rfl rfl (fun _ => rfl) (fun hD => ?_)
    refine evd a1 ?_
    refine i_pw (by decide) (by decide) a2 rfl (fun hD => ?_)
    refine i_nwb 9 rfl hD rfl rfl (fun _ => rfl) (fun hD => ?_)
    refine evd c1 ?_
    refine i_pw (by decide) (by decide) c2 rfl (fun hD => ?_)
    refine i_nwb 15 rfl hD rfl rfl (fun _ => rfl) (fun hD => ?_)
    refine i_rdv ((b0 : Int) + 1) (by simp [xu, y00]) (by decide) (by decide) rfl ?_
    refine i_rdv ((b0 : Int) + 9) (by simp [xu]) (by decide) (by decide) rfl ?_
    rw [F_X6_init]
    refine evd (v := 0) (w := I b0 16 (z + 4 + 123 + 5 + 116 + 4) (xu (xu (xu (xu ξ2 0 1 ((b0 : Int) + 9)) 15 2 1) 15 0 ((b0 : Int) + 1)) 15 1 ((b0 : Int) + 9))) ?_ ?_
    · refine (i_iv (by decide) (by decide) rfl).trans ?_
      refine i_pw (by decide) (by decide) hD rfl (fun hD => ?_)
      refine i_pw (by decide) (by decide) hD rfl (fun hD => ?_)
      exact i_pw (by decide) (by decide) hD rfl (fun hD => rfl)
    have hD2 : Dd 16 (xu (xu (xu (xu ξ2 0 1 ((b0 : Int) + 9)) 15 2 1) 15 0 ((b0 : Int) + 1)) 15 1 ((b0 : Int) + 9)) := Dd_xu (Dd_xu (Dd_xu hD (by decide)) (by decide)) (by decide)
    refine i_pw (by decide) (by decide) hD2 rfl (fun hD => ?_)
    refine i_nwb 16 rfl hD rfl rfl (fun _ => rfl) (fun hD => ?_)
    refine i_rdv ((b0 : Int) + 1) (by simp [xu, y00]) (by decide) (by decide) rfl ?_
    refine i_rdv ((b0 : Int) + 9) (by simp [xu]) (by decide) (by decide) rfl ?_
    rw [F_X5_init]
    refine evd (v := 0) (w := I b0 17 (z + 4 + 123 + 5 + 116 + 4 + 2) (xu (xu (xu (xu (xu (xu (xu ξ2 0 1 ((b0 : Int) + 9)) 15 2 1) 15 0 ((b0 : Int) + 1)) 15 1 ((b0 : Int) + 9)) 0 2 ((b0 : Int) + 15)) 16 0 ((b0 : Int) + 1)) 16 1 ((b0 : Int) + 9))) ?_ ?_
    · refine (i_iv (by decide) (by decide) rfl).trans ?_
      refine i_pw (by decide) (by decide) hD rfl (fun hD => ?_)
      exact i_pw (by decide) (by decide) hD rfl (fun hD => rfl)
    have hD3 : Dd 17 (xu (xu (xu (xu (xu (xu (xu ξ2 0 1 ((b0 : Int) + 9)) 15 2 1) 15 0 ((b0 : Int) + 1)) 15 1 ((b0 : Int) + 9)) 0 2 ((b0 : Int) + 15)) 16 0 ((b0 : Int) + 1)) 16 1 ((b0 : Int) + 9)) := Dd_xu (Dd_xu hD (by decide)) (by decide)
    refine i_pw (by decide) (by decide) hD3 rfl (fun hD => ?_)
    refine i_nwb 17 rfl hD rfl rfl (fun _ => rfl) (fun hD => ?_)
    rw [F_X2_init]
    refine evd (v := 0) (w := I b0 23 (z + 4 + 123 + 5 + 116 + 4 + 2 + 8 + 11 + 11 + 11 + 11 + 11) (xu (xu (xu (xu (xu (xu (xu (xu (xu (xu (xu (xu (xu ξ2 0 1 ((b0 : Int) + 9)) 15 2 1) 15 0 ((b0 : Int) + 1)) 15 1 ((b0 : Int) + 9)) 0 2 ((b0 : Int) + 15)) 16 0 ((b0 : Int) + 1)) 16 1 ((b0 : Int) + 9)) 0 3 ((b0 : Int) + 16)) 17 0 ((b0 : Int) + 18)) 17 1 ((b0 : Int) + 19)) 17 2 ((b0 : Int) + 20)) 17 3 ((b0 : Int) + 21)) 17 4 ((b0 : Int) + 22))) ?_ ?_
    · refine (i_iv (by decide) (by decide) rfl).trans ?_
      refine i_nab 18 rfl hD rfl rfl (fun _ => rfl) (by decide) (fun hD => ?_)
      refine i_pw (by decide) (by decide) hD rfl (fun hD => ?_)
      refine i_nab 19 rfl hD rfl rfl (fun _ => rfl) (by decide) (fun hD => ?_)
      refine i_pw (by decide) (by decide) hD rfl (fun hD => ?_)
      refine i_nab 20 rfl hD rfl rfl (fun _ => rfl) (by decide) (fun hD => ?_)
      refine i_pw (by decide) (by decide) hD rfl (fun hD => ?_)
      refine i_nab 21 rfl hD rfl rfl (fun _ => rfl) (by decide) (fun hD => ?_)
      refine i_pw (by decide) (by decide) hD rfl (fun hD => ?_)
      refine i_nab 22 rfl hD rfl rfl (fun _ => rfl) (by decide) (fun hD => ?_)
      exact i_pw (by decide) (by decide) hD rfl (fun hD => rfl)
    have hD4 : Dd 23 (xu (xu (xu (xu (xu (xu (xu (xu (xu (xu (xu (xu (xu ξ2 0 1 ((b0 : Int) + 9)) 15 2 1) 15 0 ((b0 : Int) + 1)) 15 1 ((b0 : Int) + 9)) 0 2 ((b0 : Int) + 15)) 16 0 ((b0 : Int) + 1)) 16 1 ((b0 : Int) + 9)) 0 3 ((b0 : Int) + 16)) 17 0 ((b0 : Int) + 18)) 17 1 ((b0 : Int) + 19)) 17 2 ((b0 : Int) + 20)) 17 3 ((b0 : Int) + 21)) 17 4 ((b0 : Int) + 22)) := Dd_xu (Dd_xu (Dd_xu (Dd_xu (Dd_xu (Dd_s (Dd_s (Dd_s (Dd_s (Dd_s hD))))) (by decide)) (by decide)) (by decide)) (by decide)) (by decide)
    exact i_pw (by decide) (by decide) hD4 rfl (fun hD => rfl)
  · exact Dd_xu (Dd_xu (Dd_xu (Dd_xu (Dd_xu (Dd_xu (Dd_xu (Dd_xu (Dd_xu (Dd_xu (Dd_xu (Dd_xu (Dd_xu (Dd_xu (m := 23) (fun d k q => c2 d k (by omega)) (by decide)) (by decide)) (by decide)) (by decide)) (by decide)) (by decide)) (by decide)) (by decide)) (by decide)) (by decide)) (by decide)) (by decide)) (by decide)) (by decide)
  · have oth : ∀ d k, d ≠ 0 → d ≠ 15 → d ≠ 16 → d ≠ 17 → xu (xu (xu (xu (xu (xu (xu (xu (xu (xu (xu (xu (xu (xu ξ2 0 1 ((b0 : Int) + 9)) 15 2 1) 15 0 ((b0 : Int) + 1)) 15 1 ((b0 : Int) + 9)) 0 2 ((b0 : Int) + 15)) 16 0 ((b0 : Int) + 1)) 16 1 ((b0 : Int) + 9)) 0 3 ((b0 : Int) + 16)) 17 0 ((b0 : Int) + 18)) 17 1 ((b0 : Int) + 19)) 17 2 ((b0 : Int) + 20)) 17 3 ((b0 : Int) + 21)) 17 4 ((b0 : Int) + 22)) 0 4 ((b0 : Int) + 17) d k = ξ2 d k := fun d k h0 h15 h16 h17 => by rw [xu_nd h0, xu_nd h17, xu_nd h17, xu_nd h17, xu_nd h17, xu_nd h17, xu_nd h0, xu_nd h16, xu_nd h16, xu_nd h0, xu_nd h15, xu_nd h15, xu_nd h15, xu_nd h0]
    refine ⟨⟨?_, ?_, ?_, ?_, ?_⟩, ?_, ?_, ⟨?_, ?_, ?_⟩, ⟨?_, ?_⟩, ⟨?_, ?_, ?_, ?_, ?_, ?_⟩, fun d k a b => ?_⟩
    · simp [xu, y00]
    · simp [xu]
    · simp [xu]
    · simp [xu]
    · simp [xu]
    · refine VS_cg a4 (fun d k h1 h2 => ?_)
      rw [oth d k (by omega) (by omega) (by omega) (by omega), c3 d k (by omega), xu_nd (by omega)]
    · exact TS_cg c4 (fun d k h1 h2 => oth d k (by omega) (by omega) (by omega) (by omega))
    · simp [xu]
    · simp [xu]
    · simp [xu]
    · simp [xu]
    · simp [xu]
    · simp [xu]
    · simp [xu]
    · simp [xu]
    · simp [xu]
    · simp [xu]
    · simp [xu, y17, dr.2.1.1]
    · rw [oth d k (by omega) (by omega) (by omega) (by omega)]
      exact y18 d k a b
end R2
