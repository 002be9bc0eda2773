section O9
variable {b0 : Int} {σ τ σ' : Hp} {ξ ζ η ζc ζm ζ1 : Int → Int → Int} {a b c i k l m n v j w s L p q le r x t t' mm fr st g e sp lo ci f1 f2 f3 f4 s' : Int}
theorem goM_o {d : Int} (h : d < 49 ∨ 54 < d) (h2 : d ≠ 23) : goM ζ g c s' e sp lo ci d k = ζ d k := by
  unfold goM
  rw [xu_nd h2, xu_nd (by omega), xu_nd (by omega), xu_nd (by omega), xu_nd (by omega), xu_nd (by omega), xu_nd (by omega)]
theorem goM_k {d : Int} (h : k ≠ g + 1) (h2 : d ≠ 23) : goM ζ g c s' e sp lo ci d k = ζ d k := by
  unfold goM
  rw [xu_nd h2, xu_ni h, xu_ni h, xu_ni h, xu_ni h, xu_ni h, xu_ni h]
theorem goM_23 (h : k ≠ 33) : goM ζ g c s' e sp lo ci 23 k = ζ 23 k := by
  unfold goM
  rw [xu_ni h, xu_nd (by omega), xu_nd (by omega), xu_nd (by omega), xu_nd (by omega), xu_nd (by omega), xu_nd (by omega)]
theorem goC_o {d : Int} (h : d < 17 ∨ 22 < d) : goC ζ g p s' e sp lo ci d k = ζ d k := by
  unfold goC
  rw [xu_nd (by omega), xu_nd (by omega), xu_nd (by omega), xu_nd (by omega), xu_nd (by omega), xu_nd (by omega), xu_nd (by omega)]
theorem goC_k {d : Int} (h : k ≠ g + 1) (h2 : d ≠ 17) : goC ζ g p s' e sp lo ci d k = ζ d k := by
  unfold goC
  rw [xu_ni h, xu_ni h, xu_ni h, xu_ni h, xu_ni h, xu_nd h2, xu_nd h2]
theorem goC_5 : goC ζ g p s' e sp lo ci 17 5 = ζ 17 5 := by
  unfold goC
  rw [xu_nd (by omega), xu_nd (by omega), xu_nd (by omega), xu_nd (by omega), xu_nd (by omega), xu_ni (by omega), xu_ni (by omega)]
theorem goC_ch : Ch scrU ζ (goC ζ g p s' e sp lo ci) := by
  unfold goC
  exact Ch_xu (by unfold scrU; omega) (Ch_xu (by unfold scrU; omega) (Ch_xu (by unfold scrU; omega) (Ch_xu (by unfold scrU; omega) (Ch_xu (by unfold scrU; omega) (Ch_xu (by unfold scrU; omega) (Ch_xu (by unfold scrU; omega) Ch.rf))))))
theorem goM_ch : Ch scrU ζ (goM ζ g c s' e sp lo ci) := by
  unfold goM
  exact Ch_xu (by unfold scrU; omega) (Ch_xu (by unfold scrU; omega) (Ch_xu (by unfold scrU; omega) (Ch_xu (by unfold scrU; omega) (Ch_xu (by unfold scrU; omega) (Ch_xu (by unfold scrU; omega) (Ch_xu (by unfold scrU; omega) Ch.rf))))))
theorem scrCZ (d k : Int) (h : scrC d k) : scrZ d k := by unfold scrC at h; unfold scrZ; omega
theorem INV_go (h : INV b0 ξ σ t) (ht : t ≤ t') (on : ξ 23 32 = 1) (hK : KI b0 ξ σ') (hcc : Ch scrC ξ ζc) (hg : ξ 23 33 = g) (hn : ξ 49 g = n) (hs : ξ 50 g = s) (g1 : g < 10) (c0 : n < c) (c1 : c < ξ 23 11) (hp : ξ 31 c = n) (hb : bx ξ s L) (hζ1 : ζ1 = goC (xu ζc 1 3 (spS ξ c s L)) g (ξ 10 c) (flS ξ c s L) (ζc 19 g + ernS ξ (ξ 33 c) s L) (ζc 20 g + spS ξ c s L) (ζc 21 g + dg L (ξ 23 1 - 1)) (ζc 22 g + (ξ 34 (3 * c) + ξ 34 (3 * c + 1) + ξ 34 (3 * c + 2)))) (hm : Ch scrZ ζ1 ζm) (hmk : MK ξ ζm) (h36 : ∀ l, 0 ≤ l → l < 3 → ζm 36 l = dg L l) : INV b0 (goM (xu (unf ζm s) 23 18 (spS ξ c s L)) g c (flS ξ c s L) (ζm 51 g + ernS ξ (ξ 33 c) s L) (ζm 52 g + spS ξ c s L) (ζm 53 g + dg L (ξ 23 1 - 1)) (ζm 54 g + (ξ 34 (3 * c) + ξ 34 (3 * c + 1) + ξ 34 (3 * c + 2)))) σ' t' := by
  obtain ⟨hI, hM, hX, hR, hv⟩ := id h
  obtain ⟨r1, r2, r3, r4⟩ := id hR
  obtain ⟨g2, g3, g4, g5, g6⟩ := r4 on
  rw [hg] at g3 g4 g5 g6
  have hB := hI.1.1
  have hT := hI.1.2.1
  have n81 := hT.2.2.1
  have w10 := hT.1
  obtain ⟨n1, n2, n3, n4, n5, n6, n7, n8, n9⟩ := g6 g g4.1 (Int.le_refl _)
  rw [hn] at n1 n2
  have tc := hT.2.2.2.2.2.1 c (by omega) c1
  rw [hp] at tc
  have wk := hT.week (n := c) (by omega) c1
  have fb := flS_bd (c := c) hB hT (by omega) (by omega) hb
  have eb := ernS_bd (w := ξ 33 c) hB hT (by omega) (by omega) hb
  have sb := spS_bd (c := c) hB hT hb (by omega) (by omega)
  have db := dg_bd (j := ξ 23 1 - 1) hb.1.1 hb.1.2
  have i0 := hT.2.2.2.2.2.2 (3 * c) (by omega) (by omega)
  have i1 := hT.2.2.2.2.2.2 (3 * c + 1) (by omega) (by omega)
  have i2 := hT.2.2.2.2.2.2 (3 * c + 2) (by omega) (by omega)
  have hA := At_unf (s := s) hB hmk.1.1 hmk.1.2.1 h36
  have hAx : At ξ (xu (unf ζm s) 23 18 (spS ξ c s L)) s L := At_xu hA (by omega)
  have mk2 : MK ξ (xu (unf ζm s) 23 18 (spS ξ c s L)) := MK_ch hmk (Ch_xu (by unfold scr; omega) (Ch_unf (fun _ => by unfold scr; omega) Ch.rf)) (At_MB hB hAx) (TZ_At hB hAx hb)
  have cc : Ch scrZ ξ (xu ζc 1 3 (spS ξ c s L)) := Ch_xu (by unfold scrZ; omega) (hcc.mono scrCZ)
  have y1 : Ch scrY ξ ζ1 := by rw [hζ1]; exact (cc.mono scrZY).trans (goC_ch.mono scrUY)
  have zm : Ch scrZ ζm (xu (unf ζm s) 23 18 (spS ξ c s L)) := Ch_xu (by unfold scrZ; omega) (Ch_unf (fun _ => by unfold scrZ; omega) Ch.rf)
  have z2 : Ch scrZ ζ1 (xu (unf ζm s) 23 18 (spS ξ c s L)) := hm.trans zm
  have y2 := y1.trans ((z2.mono scrZY).trans (goM_ch (g := g) (c := c) (s' := flS ξ c s L) (e := ζm 51 g + ernS ξ (ξ 33 c) s L) (sp := ζm 52 g + spS ξ c s L) (lo := ζm 53 g + dg L (ξ 23 1 - 1)) (ci := ζm 54 g + (ξ 34 (3 * c) + ξ 34 (3 * c + 1) + ξ 34 (3 * c + 2))) |>.mono scrUY))
  refine INV_r h hK (MK_u mk2 goM_ch) y2 ?_ ht
  have cf := Cf_scrY y2
  -- what the rows of runs came from
  have v1 : ∀ d k, 17 ≤ d → d ≤ 22 → (d ≠ 17 ∧ k ≠ g + 1) ∨ (d = 17 ∧ k = 5) → ζ1 d k = ξ d k := by
    intro d k a b q
    have e2 : xu ζc 1 3 (spS ξ c s L) d k = ξ d k := cc d k (by unfold scrZ; omega)
    rw [hζ1]
    rcases q with q | q
    · rw [goC_k q.2 q.1]; exact e2
    · obtain ⟨rfl, rfl⟩ := q
      rw [goC_5]; exact e2
  have v2 : ∀ d k, (49 ≤ d ∧ d ≤ 54) ∨ (d = 23 ∧ (k = 32 ∨ k = 33)) ∨ d = 10 → ζ1 d k = ξ d k := by
    intro d k q
    rw [hζ1, goC_o (by omega)]
    exact cc d k (by unfold scrZ; omega)
  have vm : ∀ d k, (17 ≤ d ∧ d ≤ 22) ∨ (49 ≤ d ∧ d ≤ 54) ∨ (d = 23 ∧ (k = 32 ∨ k = 33)) ∨ d = 10 → ζm d k = ζ1 d k := fun d k q => hm d k (by unfold scrZ; omega)
  have vx : ∀ d k, (17 ≤ d ∧ d ≤ 22) ∨ (49 ≤ d ∧ d ≤ 54) ∨ (d = 23 ∧ (k = 32 ∨ k = 33)) ∨ d = 10 → xu (unf ζm s) 23 18 (spS ξ c s L) d k = ζ1 d k := fun d k q => z2 d k (by unfold scrZ; omega)
  have c19 : ∀ d, 18 ≤ d → d ≤ 22 → ζc d g = ξ d g := fun d a b => hcc d g (by unfold scrC; omega)
  rw [vm 51 g (by omega), vm 52 g (by omega), vm 53 g (by omega), vm 54 g (by omega), v2 51 g (by omega), v2 52 g (by omega), v2 53 g (by omega), v2 54 g (by omega)] at *
  generalize hX2 : xu (unf ζm s) 23 18 (spS ξ c s L) = ζx at *
  generalize hZ : goM ζx g c (flS ξ c s L) (ξ 51 g + ernS ξ (ξ 33 c) s L) (ξ 52 g + spS ξ c s L) (ξ 53 g + dg L (ξ 23 1 - 1)) (ξ 54 g + (ξ 34 (3 * c) + ξ 34 (3 * c + 1) + ξ 34 (3 * c + 2))) = Z at *
  have u32 : Z 23 32 = 1 := by rw [← hZ, goM_23 (by omega), vx 23 32 (by omega), v2 23 32 (by omega)]; exact on
  have u33 : Z 23 33 = g + 1 := by rw [← hZ]; unfold goM; exact xu_s
  have uo : ∀ d k, 17 ≤ d → d ≤ 22 → Z d k = ζ1 d k := fun d k a b => by rw [← hZ, goM_o (by omega) (by omega), vx d k (by omega)]
  have u10 : ∀ k, Z 10 k = ξ 10 k := fun k => by rw [← hZ, goM_o (by omega) (by omega), vx 10 k (by omega), v2 10 k (by omega)]
  have uk : ∀ d k, 49 ≤ d → d ≤ 54 → k ≠ g + 1 → Z d k = ξ d k := fun d k a b q => by rw [← hZ, goM_k q (by omega), vx d k (by omega), v2 d k (by omega)]
  have u49 : Z 49 (g + 1) = c := by rw [← hZ]; simp [goM, xu]
  have u50 : Z 50 (g + 1) = flS ξ c s L := by rw [← hZ]; simp [goM, xu]
  have u51 : Z 51 (g + 1) = ξ 51 g + ernS ξ (ξ 33 c) s L := by rw [← hZ]; simp [goM, xu]
  have u52 : Z 52 (g + 1) = ξ 52 g + spS ξ c s L := by rw [← hZ]; simp [goM, xu]
  have u53 : Z 53 (g + 1) = ξ 53 g + dg L (ξ 23 1 - 1) := by rw [← hZ]; simp [goM, xu]
  have u54 : Z 54 (g + 1) = ξ 54 g + (ξ 34 (3 * c) + ξ 34 (3 * c + 1) + ξ 34 (3 * c + 2)) := by rw [← hZ]; simp [goM, xu]
  have u176 : Z 17 6 = g + 1 := by rw [uo 17 6 (by omega) (by omega), hζ1]; simp [goC, xu]
  have u177 : Z 17 7 = ξ 10 c := by rw [uo 17 7 (by omega) (by omega), hζ1]; simp [goC, xu]
  have u18 : Z 18 (g + 1) = flS ξ c s L := by rw [uo 18 _ (by omega) (by omega), hζ1]; simp [goC, xu]
  have u19 : Z 19 (g + 1) = ξ 51 g + ernS ξ (ξ 33 c) s L := by rw [uo 19 _ (by omega) (by omega), hζ1, ← n5.2.1, ← c19 19 (by omega) (by omega)]; simp [goC, xu]
  have u20 : Z 20 (g + 1) = ξ 52 g + spS ξ c s L := by rw [uo 20 _ (by omega) (by omega), hζ1, ← n5.2.2.1, ← c19 20 (by omega) (by omega)]; simp [goC, xu]
  have u21 : Z 21 (g + 1) = ξ 53 g + dg L (ξ 23 1 - 1) := by rw [uo 21 _ (by omega) (by omega), hζ1, ← n5.2.2.2.1, ← c19 21 (by omega) (by omega)]; simp [goC, xu]
  have u22 : Z 22 (g + 1) = ξ 54 g + (ξ 34 (3 * c) + ξ 34 (3 * c + 1) + ξ 34 (3 * c + 2)) := by rw [uo 22 _ (by omega) (by omega), hζ1, ← n5.2.2.2.2, ← c19 22 (by omega) (by omega)]; simp [goC, xu]
  refine ⟨Or.inr u32, ?_, ?_, fun _ => ⟨g2.cf cf, u176.trans u33.symm, by rw [u33]; omega, by rw [u33, u49, u10]; exact u177, fun u w0 w1 => ?_⟩⟩
  · rw [u32, uo 17 5 (by omega) (by omega), v1 17 5 (by omega) (by omega) (Or.inr ⟨rfl, rfl⟩), r2]; exact on
  · rw [uo 19 _ (by omega) (by omega), uo 20 _ (by omega) (by omega), uo 21 _ (by omega) (by omega), uo 22 _ (by omega) (by omega), v1 19 0 (by omega) (by omega) (by omega), v1 20 0 (by omega) (by omega) (by omega), v1 21 0 (by omega) (by omega) (by omega), v1 22 0 (by omega) (by omega) (by omega)]
    exact r3
  · rw [u33] at w1
    by_cases eu : u = g + 1
    · subst eu
      unfold RNt
      rw [u49, u50, u51, u52, u53, u54, u18, u19, u20, u21, u22, show g + 1 - 1 = g by omega, uk 49 g (by omega) (by omega) (by omega), cf.2 11 (by omega), cf.1 33 (by omega), cf.1 31 (by omega), ZZ_cf cf]
      exact ⟨by omega, by omega, fun _ => by rw [hp, hn], fb, ⟨rfl, rfl, rfl, rfl, rfl⟩, by omega, by omega, by omega, by omega⟩
    · refine RNt_cg cf (fun d hd => ?_) (uk 49 _ (by omega) (by omega) (by omega)) (g6 u w0 (by omega))
      rcases hd with hd | hd
      · rw [uo d u (by omega) (by omega), v1 d u (by omega) (by omega) (by omega)]
      · exact uk d u hd.1 hd.2 eu
end O9
