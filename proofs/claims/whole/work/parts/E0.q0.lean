section Q0
variable {b0 : Int} {σ τ σ' : Hp} {ξ ζ η ζc ζm ζ1 ξ' : Int → Int → Int} {a b c i k l m n v j w s L p q le r x t t' mm fr st g e u d N A wt : Int}
theorem node_alloc {K : Hp → Option (Int × Hp)} (h : KI b0 ξ σ) (hN : N = ξ 23 11) (N81 : N < 81) (neg : ξ 10 N < 0) : ∃ σ', ((rd 4 (S b0 σ ξ) (b0 + 9) 0).bind fun jv7 => (rd 4 (S b0 σ ξ) (b0 + 9) 2).bind fun jv8 => nwb 2 (S b0 σ ξ) 16 1 fun ja9 σ10 => (rd 4 σ10 (b0 + 9) 2).bind fun jv11 => bd (F_X1_init ja9 jv11 σ10) fun jv12 σ13 => (aq 15 2 σ13 jv7 jv8 ja9).bind fun σ14 => K σ14) = K (S b0 σ' (xu ξ 10 N σ.1)) ∧ KI b0 (xu ξ 10 N σ.1) σ' := by
  have hC := h.1.2.2.2.1
  have bb := h.1.2.2.2.2.1.2.2.2.2
  have n81 := h.1.2.1.2.2.1
  -- the object
  have e1 : nw (S b0 σ ξ) 2 0 16 (d0 1) = S b0 (nw σ 2 0 16 (d0 1)) ξ := nw_S bb.2
  have o1 : ob b0 (nw σ 2 0 16 (d0 1)) (σ.1 : Int) 2 0 := ob_new bb.2
  have g1 : ∀ a k, gf (nw σ 2 0 16 (d0 1)) a k = if a = (σ.1 : Int) then d0 1 k else gf σ a k := fun a k => gf_nw
  have k1 : ∀ a, a < (σ.1 : Int) → kd (nw σ 2 0 16 (d0 1)) a = kd σ a ∧ ln (nw σ 2 0 16 (d0 1)) a = ln σ a := fun a ha => by rw [kd_nw, ln_nw, if_neg (by omega), if_neg (by omega)]; exact ⟨rfl, rfl⟩
  have s1 : (nw σ 2 0 16 (d0 1)).1 = σ.1 + 1 := rfl
  have s1' : (nw σ 2 0 16 (d0 1)).2.1 = σ.2.1 + 16 := rfl
  generalize nw σ 2 0 16 (d0 1) = σ1 at *
  -- its first array
  have b1 : b0 + 55 ≤ (σ1.1 : Int) := by omega
  have e2 : nw (S b0 σ1 ξ) 11 3 (3 : Int).toNat (fun _ => 0) = S b0 (nw σ1 11 3 (3 : Int).toNat (fun _ => 0)) ξ := nw_S b1
  have o2 : ob b0 (nw σ1 11 3 (3 : Int).toNat (fun _ => 0)) (σ.1 : Int) 2 0 := ob_nw o1
  have p2 : ob b0 (nw σ1 11 3 (3 : Int).toNat (fun _ => 0)) (σ1.1 : Int) 11 3 := ob_new b1
  have g2 : ∀ a k, gf (nw σ1 11 3 (3 : Int).toNat (fun _ => 0)) a k = if a = (σ1.1 : Int) then 0 else gf σ1 a k := fun a k => gf_nw
  have k2 : ∀ a, a < (σ1.1 : Int) → kd (nw σ1 11 3 (3 : Int).toNat (fun _ => 0)) a = kd σ1 a ∧ ln (nw σ1 11 3 (3 : Int).toNat (fun _ => 0)) a = ln σ1 a := fun a ha => by rw [kd_nw, ln_nw, if_neg (by omega), if_neg (by omega)]; exact ⟨rfl, rfl⟩
  have s2 : (nw σ1 11 3 (3 : Int).toNat (fun _ => 0)).1 = σ1.1 + 1 := rfl
  have s2' : (nw σ1 11 3 (3 : Int).toNat (fun _ => 0)).2.1 = σ1.2.1 + 3 := rfl
  have n2 : na 11 (S b0 σ1 ξ) 3 0 = some (S b0 (nw σ1 11 3 (3 : Int).toNat (fun _ => 0)) ξ) := by
    unfold na
    rw [if_pos (by omega), e2]
  generalize nw σ1 11 3 (3 : Int).toNat (fun _ => 0) = σ2 at *
  have o3 : ob b0 (wr σ2 (σ.1 : Int) 1 (σ1.1 : Int)) (σ.1 : Int) 2 0 := ob_wr o2
  have p3 : ob b0 (wr σ2 (σ.1 : Int) 1 (σ1.1 : Int)) (σ1.1 : Int) 11 3 := ob_wr p2
  have g3 : ∀ a k, gf (wr σ2 (σ.1 : Int) 1 (σ1.1 : Int)) a k = if a = (σ.1 : Int) ∧ k = 1 then (σ1.1 : Int) else gf σ2 a k := fun a k => gf_wr
  have k3 : ∀ a, kd (wr σ2 (σ.1 : Int) 1 (σ1.1 : Int)) a = kd σ2 a ∧ ln (wr σ2 (σ.1 : Int) 1 (σ1.1 : Int)) a = ln σ2 a := fun a => ⟨kd_wr, ln_wr⟩
  have s3 : (wr σ2 (σ.1 : Int) 1 (σ1.1 : Int)).1 = σ2.1 := rfl
  have s3' : (wr σ2 (σ.1 : Int) 1 (σ1.1 : Int)).2.1 = σ2.2.1 := rfl
  have w3 : pw 2 (S b0 σ2 ξ) (σ.1 : Int) 1 (σ1.1 : Int) = some (S b0 (wr σ2 (σ.1 : Int) 1 (σ1.1 : Int)) ξ) := pw_o o2
  generalize wr σ2 (σ.1 : Int) 1 (σ1.1 : Int) = σ3 at *
  -- its second array
  have b3 : b0 + 55 ≤ (σ3.1 : Int) := by omega
  have e4 : nw (S b0 σ3 ξ) 15 6 (6 : Int).toNat (fun _ => -1) = S b0 (nw σ3 15 6 (6 : Int).toNat (fun _ => -1)) ξ := nw_S b3
  have o4 : ob b0 (nw σ3 15 6 (6 : Int).toNat (fun _ => -1)) (σ.1 : Int) 2 0 := ob_nw o3
  have p4 : ob b0 (nw σ3 15 6 (6 : Int).toNat (fun _ => -1)) (σ1.1 : Int) 11 3 := ob_nw p3
  have q4 : ob b0 (nw σ3 15 6 (6 : Int).toNat (fun _ => -1)) (σ3.1 : Int) 15 6 := ob_new b3
  have g4 : ∀ a k, gf (nw σ3 15 6 (6 : Int).toNat (fun _ => -1)) a k = if a = (σ3.1 : Int) then -1 else gf σ3 a k := fun a k => gf_nw
  have k4 : ∀ a, a < (σ3.1 : Int) → kd (nw σ3 15 6 (6 : Int).toNat (fun _ => -1)) a = kd σ3 a ∧ ln (nw σ3 15 6 (6 : Int).toNat (fun _ => -1)) a = ln σ3 a := fun a ha => by rw [kd_nw, ln_nw, if_neg (by omega), if_neg (by omega)]; exact ⟨rfl, rfl⟩
  have s4 : (nw σ3 15 6 (6 : Int).toNat (fun _ => -1)).1 = σ3.1 + 1 := rfl
  have s4' : (nw σ3 15 6 (6 : Int).toNat (fun _ => -1)).2.1 = σ3.2.1 + 6 := rfl
  have n4 : na 15 (S b0 σ3 ξ) 6 (-1) = some (S b0 (nw σ3 15 6 (6 : Int).toNat (fun _ => -1)) ξ) := by
    unfold na
    rw [if_pos (by omega), e4]
  generalize nw σ3 15 6 (6 : Int).toNat (fun _ => -1) = σ4 at *
  have w5 : pw 2 (S b0 σ4 ξ) (σ.1 : Int) 2 (σ3.1 : Int) = some (S b0 (wr σ4 (σ.1 : Int) 2 (σ3.1 : Int)) ξ) := pw_o o4
  have w6 : pw 2 (S b0 (wr σ4 (σ.1 : Int) 2 (σ3.1 : Int)) ξ) (σ.1 : Int) 5 (-1) = some (S b0 (wr (wr σ4 (σ.1 : Int) 2 (σ3.1 : Int)) (σ.1 : Int) 5 (-1)) ξ) := pw_o (ob_wr o4)
  have w7 : pw 2 (S b0 (wr (wr σ4 (σ.1 : Int) 2 (σ3.1 : Int)) (σ.1 : Int) 5 (-1)) ξ) (σ.1 : Int) 0 N = some (S b0 (wr (wr (wr σ4 (σ.1 : Int) 2 (σ3.1 : Int)) (σ.1 : Int) 5 (-1)) (σ.1 : Int) 0 N) ξ) := pw_o (ob_wr (ob_wr o4))
  have o7 : ob b0 (wr (wr (wr σ4 (σ.1 : Int) 2 (σ3.1 : Int)) (σ.1 : Int) 5 (-1)) (σ.1 : Int) 0 N) (σ.1 : Int) 2 0 := ob_wr (ob_wr (ob_wr o4))
  have g7 : ∀ a k, gf (wr (wr (wr σ4 (σ.1 : Int) 2 (σ3.1 : Int)) (σ.1 : Int) 5 (-1)) (σ.1 : Int) 0 N) a k = if a = (σ.1 : Int) ∧ k = 0 then N else if a = (σ.1 : Int) ∧ k = 5 then -1 else if a = (σ.1 : Int) ∧ k = 2 then (σ3.1 : Int) else gf σ4 a k := fun a k => by rw [gf_wr, gf_wr, gf_wr]
  have k7 : ∀ a, kd (wr (wr (wr σ4 (σ.1 : Int) 2 (σ3.1 : Int)) (σ.1 : Int) 5 (-1)) (σ.1 : Int) 0 N) a = kd σ4 a ∧ ln (wr (wr (wr σ4 (σ.1 : Int) 2 (σ3.1 : Int)) (σ.1 : Int) 5 (-1)) (σ.1 : Int) 0 N) a = ln σ4 a := fun a => ⟨by rw [kd_wr, kd_wr, kd_wr], by rw [ln_wr, ln_wr, ln_wr]⟩
  have s7 : (wr (wr (wr σ4 (σ.1 : Int) 2 (σ3.1 : Int)) (σ.1 : Int) 5 (-1)) (σ.1 : Int) 0 N).1 = σ4.1 := rfl
  have s7' : (wr (wr (wr σ4 (σ.1 : Int) 2 (σ3.1 : Int)) (σ.1 : Int) 5 (-1)) (σ.1 : Int) 0 N).2.1 = σ4.2.1 := rfl
  refine ⟨wr (wr (wr σ4 (σ.1 : Int) 2 (σ3.1 : Int)) (σ.1 : Int) 5 (-1)) (σ.1 : Int) 0 N, ?_, ?_⟩
  · refine ev rS_9_0 ?_
    refine ev rS_9_2 ?_
    show (rd 4 (nw (S b0 σ ξ) 2 0 16 (d0 1)) (b0 + 9) 2).bind (fun jv11 => bd (F_X1_init ((S b0 σ ξ).1 : Int) jv11 (nw (S b0 σ ξ) 2 0 16 (d0 1))) fun jv12 σ13 => (aq 15 2 σ13 (b0 + 10) (ξ 9 2) ((S b0 σ ξ).1 : Int)).bind fun σ14 => K σ14) = _
    rw [e1]
    refine ev rS_9_2 ?_
    rw [hC.1, ← hN]
    have ei : F_X1_init (σ.1 : Int) N (S b0 σ1 ξ) = some (0, S b0 (wr (wr (wr σ4 (σ.1 : Int) 2 (σ3.1 : Int)) (σ.1 : Int) 5 (-1)) (σ.1 : Int) 0 N) ξ) := by
      rw [F_X1_init]
      refine (iv_o o1).trans ?_
      unfold nab
      refine ev n2 ?_
      refine ev w3 ?_
      refine ev n4 ?_
      refine ev w5 ?_
      refine ev w6 ?_
      exact ev w7 rfl
    refine evd ei ?_
    exact ev (aq_S10 (by omega) N81 o7) rfl
  · generalize wr (wr (wr σ4 (σ.1 : Int) 2 (σ3.1 : Int)) (σ.1 : Int) 5 (-1)) (σ.1 : Int) 0 N = σ7 at *
    have dn := d0_n
    have gA : ∀ k, k ≠ 0 → k ≠ 1 → k ≠ 2 → k ≠ 5 → gf σ7 (σ.1 : Int) k = d0 1 k := fun k h0 h1 h2 h5 => by
      rw [g7, if_neg (by omega), if_neg (by omega), if_neg (by omega), g4, if_neg (by omega), g3, if_neg (by omega), g2, if_neg (by omega), g1, if_pos rfl]
    refine KI_new h hN N81 neg rfl (fun a ha => ?_) ⟨(k7 _).1.trans o4.1, (k7 _).2.trans o4.2.1⟩ ?_ ?_ ⟨?_, ?_, ?_, (gA 8 (by omega) (by omega) (by omega) (by omega)).trans dn.1, (gA 9 (by omega) (by omega) (by omega) (by omega)).trans dn.2.1, (gA 10 (by omega) (by omega) (by omega) (by omega)).trans dn.2.2.1⟩ (by omega) (by omega)
    · refine ⟨?_, ?_, fun k => ?_⟩
      · rw [(k7 a).1, (k4 a (by omega)).1, (k3 a).1, (k2 a (by omega)).1, (k1 a ha).1]
      · rw [(k7 a).2, (k4 a (by omega)).2, (k3 a).2, (k2 a (by omega)).2, (k1 a ha).2]
      · rw [g7, if_neg (by omega), if_neg (by omega), if_neg (by omega), g4, if_neg (by omega), g3, if_neg (by omega), g2, if_neg (by omega), g1, if_neg (by omega)]
    · rw [show (σ.1 : Int) + 1 = (σ1.1 : Int) by omega]
      exact ⟨(k7 _).1.trans p4.1, (k7 _).2.trans p4.2.1⟩
    · rw [show (σ.1 : Int) + 2 = (σ3.1 : Int) by omega]
      exact ⟨(k7 _).1.trans q4.1, (k7 _).2.trans q4.2.1⟩
    · rw [g7, if_pos ⟨rfl, rfl⟩]
    · rw [g7, if_neg (by omega), if_neg (by omega), if_neg (by omega), g4, if_neg (by omega), g3, if_pos ⟨rfl, rfl⟩]
      omega
    · rw [g7, if_neg (by omega), if_neg (by omega), if_pos ⟨rfl, rfl⟩]
      omega
end Q0
