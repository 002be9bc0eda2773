section W6
variable {b0 : Int} {σ : Hp} {ξ ζ η : Int → Int → Int} {i m s t L n : Int}
def Bo (ζ : Int → Int → Int) (d : Int) : Prop := ∀ j, 0 ≤ j → j < 81000 → ζ d j = 0 ∨ ζ d j = 1
def scrQ (d k : Int) : Prop := scr d k ∨ d = 38
def SpR (n : Int) (ζ η : Int → Int → Int) : Prop := Ch scrQ ζ η ∧ (∀ j, j < 1000 * (n + 1) → η 38 j = ζ 38 j) ∧ (∀ j, ζ 38 j = 1 → η 38 j = 1) ∧ (Bo ζ 38 → Bo η 38)
theorem SpR.rf : SpR n ζ ζ := ⟨Ch.rf, fun _ _ => rfl, fun _ h => h, fun h => h⟩
theorem SpR.trans {θ : Int → Int → Int} (h : SpR n ζ η) (h2 : SpR n η θ) : SpR n ζ θ := ⟨h.1.trans h2.1, fun j q => (h2.2.1 j q).trans (h.2.1 j q), fun j q => h2.2.2.1 j (h.2.2.1 j q), fun q => h2.2.2.2 (h.2.2.2 q)⟩
theorem SpR.ch {P : Int → Int → Prop} (h : Ch P ζ η) (hP : ∀ d k, P d k → scr d k) : SpR n ζ η := by
  have e : ∀ j, η 38 j = ζ 38 j := fun j => h 38 j (fun q => by have := hP _ _ q; unfold scr at this; omega)
  exact ⟨h.mono (fun d k q => Or.inl (hP d k q)), fun j _ => e j, fun j q => by rw [e]; exact q, fun q j a b => by rw [e]; exact q j a b⟩
theorem SpR.set {j : Int} (hj : 1000 * (n + 1) ≤ j) : SpR n ζ (xu ζ 38 j 1) := by
  refine ⟨Ch_xu (Or.inr rfl) Ch.rf, fun j' h => xu_ni (by omega), fun j' h => ?_, fun q j' a b => ?_⟩
  · by_cases e : j' = j
    · subst e; exact xu_s
    · rw [xu_ni e]; exact h
  · by_cases e : j' = j
    · subst e; rw [xu_s]; exact Or.inr rfl
    · rw [xu_ni e]; exact q j' a b
theorem Cf_scrQ (h : Ch scrQ ξ ζ) : Cf ξ ζ := Cf_ch (fun d k q => by unfold scrQ scr at q; omega) h
theorem spread_in {k11 : Int → Hp → Option (Int × Hp)} (hB : LB ξ) (hT : TB ξ) (hb : bx ξ s L) (n0 : 0 ≤ n) (n1 : n < ξ 23 11) : ∀ (m f : Nat) (c : Int) (ζ : Int → Int → Int), m < f → n < c → c + m = ξ 23 11 → At ξ ζ s L → ∃ (f' : Nat) (ζ' : Int → Int → Int), F_X8_spread_L20 k11 (b0 + 23) n f c (S b0 σ ζ) = F_X8_spread_L20 k11 (b0 + 23) n (f' + 1) (ξ 23 11) (S b0 σ ζ') ∧ At ξ ζ' s L ∧ SpR n ζ ζ' ∧ ∀ c', c ≤ c' → c' < ξ 23 11 → ξ 31 c' = n → ζ' 38 (1000 * c' + flS ξ c' s L) = 1 := by
  intro m
  have n81 := hT.2.2.1
  induction m with
  | zero =>
    intro f c ζ hf hc he hA
    refine ⟨f - 1, ζ, ?_, hA, SpR.rf, fun c' a b => by omega⟩
    rw [show f - 1 + 1 = f by omega, show c = ξ 23 11 by omega]
  | succ m ih =>
    intro f c ζ hf hc he hA
    obtain ⟨f, rfl⟩ : ∃ g, f = g + 1 := ⟨f - 1, by omega⟩
    have e11 : ζ 23 11 = ξ 23 11 := hA.1.2 11 (by omega)
    have e31 : ζ 31 = ξ 31 := hA.1.1 31 (by omega)
    have h6 := hT.2.2.2.2.2.1 c (by omega) (by omega)
    have hfl := flS_bd (c := c) hB hT (by omega) (by omega) hb
    have hz := ZZ_le hB
    by_cases hp : ξ 31 c = n
    · have hA2 : At ξ (xu (xu ζ 23 18 (spS ξ c s L)) 38 (1000 * c + flS ξ c s L) 1) s L := At_xu (At_xu hA (by omega)) (by omega)
      have hs2 : SpR n ζ (xu (xu ζ 23 18 (spS ξ c s L)) 38 (1000 * c + flS ξ c s L) 1) := SpR.trans (SpR.ch (P := scr) (Ch_xu (Or.inl ⟨rfl, rfl⟩) Ch.rf) (fun _ _ q => q)) (SpR.set (by omega))
      obtain ⟨f', ζ', h, h2, h3, h4⟩ := ih f (c + 1) _ (by omega) (by omega) (by omega) hA2
      refine ⟨f', ζ', ?_, h2, hs2.trans h3, fun c' a b hp' => ?_⟩
      · refine Eq.trans ?_ h
        rw [F_X8_spread_L20]
        refine ev rS_23_11 ?_
        rw [e11]
        refine ev_bLt (by omega) (by omega) (by omega) (by omega) (fun hc => ?_) (fun hc => absurd hc (by omega))
        refine ev rS_23_12 ?_
        refine ev (aS_31 (by omega) (by omega)) ?_
        rw [e31, hp]
        refine ev_bEq (by omega) (by omega) (by omega) (by omega) (fun hc => ?_) (fun hc => absurd rfl hc)
        refine ev rS_23_21 ?_
        refine evd (iS_23.trans (At_comes hB hT hA hb (by omega) (by omega))) ?_
        exact ev (wS_38 (by omega) (by omega) (by omega)) rfl
      · by_cases e : c' = c
        · subst e
          exact h3.2.2.1 _ xu_s
        · exact h4 c' (by omega) b hp'
    · obtain ⟨f', ζ', h, h2, h3, h4⟩ := ih f (c + 1) ζ (by omega) (by omega) (by omega) hA
      refine ⟨f', ζ', ?_, h2, h3, fun c' a b hp' => ?_⟩
      · refine Eq.trans ?_ h
        rw [F_X8_spread_L20]
        refine ev rS_23_11 ?_
        rw [e11]
        refine ev_bLt (by omega) (by omega) (by omega) (by omega) (fun hc => ?_) (fun hc => absurd hc (by omega))
        refine ev rS_23_12 ?_
        refine ev (aS_31 (by omega) (by omega)) ?_
        rw [e31]
        refine ev_bEq (by omega) (by omega) (by omega) (by omega) (fun hc => absurd hc hp) (fun hc => ?_)
        rfl
      · by_cases e : c' = c
        · subst e; exact absurd hp' hp
        · exact h4 c' (by omega) b hp'
theorem spread_out (hB : LB ξ) (hT : TB ξ) (n0 : 0 ≤ n) (n1 : n < ξ 23 11) : ∀ (m f : Nat) (L : Int) (ζ : Int → Int → Int), (4096 - L).toNat ≤ m → m < f → At ξ ζ s L → bx ξ s L → ∃ ζ', F_X8_spread_L11 (b0 + 23) n f 1 (S b0 σ ζ) = some (0, S b0 σ ζ') ∧ SpR n ζ ζ' ∧ At ξ ζ' s (fsL ξ s) ∧ ∀ c, n < c → c < ξ 23 11 → ξ 31 c = n → ∀ L', L ≤ L' → bx ξ s L' → ζ' 38 (1000 * c + flS ξ c s L') = 1 := by
  intro m
  have n81 := hT.2.2.1
  induction m with
  | zero =>
    intro f L ζ hm _ _ hb
    have := hb.1.2
    omega
  | succ m ih =>
    intro f L ζ hm hf hA hb
    obtain ⟨f, rfl⟩ : ∃ g, f = g + 1 := ⟨f - 1, by omega⟩
    obtain ⟨f', ζ1, h, hA1, h3, h4⟩ := spread_in (b0 := b0) (σ := σ) (k11 := F_X8_spread_L11 (b0 + 23) n f) hB hT hb n0 n1 (ξ 23 11 - (n + 1)).toNat fu (n + 1) ζ (fuN (by omega)) (by omega) (by omega) hA
    have e11 : ζ1 23 11 = ξ 23 11 := hA1.1.2 11 (by omega)
    have top : ∀ z, bd (iv 9 (S b0 σ ζ1) (b0 + 23) (F_X8_nextLets (b0 + 23) (S b0 σ ζ1))) (fun jv12 σ13 => F_X8_spread_L11 (b0 + 23) n f jv12 σ13) = z → F_X8_spread_L11 (b0 + 23) n (f + 1) 1 (S b0 σ ζ) = z := by
      intro z hz
      rw [F_X8_spread_L11]
      refine ev_bEq (by omega) (by omega) (by omega) (by omega) (fun hc => absurd hc (by omega)) (fun hc => ?_)
      rw [h, F_X8_spread_L20]
      refine ev rS_23_11 ?_
      rw [e11]
      exact ev_bLt (by omega) (by omega) (by omega) (by omega) (fun hc => absurd hc (by omega)) (fun hc => hz)
    have scL : ∀ L', SpR n ζ (setL ζ1 L') := fun L' => h3.trans (SpR.ch (P := scr) (Ch_lts (fun k => Or.inr (Or.inr rfl)) Ch.rf) (fun _ _ q => q))
    have sl : ∀ L' k, setL ζ1 L' 38 k = ζ1 38 k := fun L' k => lts_d (by omega)
    rcases At_next (b0 := b0) (σ := σ) hB hA1 hb with ⟨hl, hq⟩ | ⟨hl, hq⟩
    · refine ⟨setL ζ1 (fsL ξ s), top _ (evd (iS_23.trans hq) ?_), scL _, At_setL hA1, fun c a b hp L' hL hb' => ?_⟩
      · obtain ⟨f, rfl⟩ : ∃ g, f = g + 1 := ⟨f - 1, by omega⟩
        rw [F_X8_spread_L11]
        exact ev_bEq (by omega) (by omega) (by omega) (by omega) (fun hc => rfl) (fun hc => absurd rfl hc)
      · have e : L' = L := by have := isL_max hB hb hl L' hb'; omega
        subst e
        rw [sl]
        exact h4 c (by omega) b hp
    · obtain ⟨hb3, hlt, hle⟩ := nxL_bx hB hb hl
      obtain ⟨ζ', r1, r2, r3, r4⟩ := ih f (nxL ξ s L) (setL ζ1 (nxL ξ s L)) (by omega) (by omega) (At_setL hA1) hb3
      refine ⟨ζ', top _ (evd (iS_23.trans hq) r1), (scL _).trans r2, r3, fun c a b hp L' hL hb' => ?_⟩
      by_cases e : L' = L
      · subst e
        exact r2.2.2.1 _ (by rw [sl]; exact h4 c (by omega) b hp)
      · exact r4 c a b hp L' (hle L' hb' (by omega)) hb'
theorem X8_spread (hB : LB ξ) (hT : TB ξ) (n0 : 0 ≤ n) (n1 : n < ξ 23 11) (s0 : 0 ≤ s) (s1 : s < ZZ ξ) (h : Cf ξ ζ) (hM : MB ζ) (hZ : TZ ζ) : ∃ ζ', F_X8_spread (b0 + 23) n s (S b0 σ ζ) = some (0, S b0 σ ζ') ∧ SpR n ζ ζ' ∧ MB ζ' ∧ TZ ζ' ∧ ∀ c, n < c → c < ξ 23 11 → ξ 31 c = n → ∀ L', bx ξ s L' → ζ' 38 (1000 * c + flS ξ c s L') = 1 := by
  have hz := ZZ_le hB
  obtain ⟨e1, hA⟩ := At_first (b0 := b0) (σ := σ) (s := s) hB h hM hZ
  have hb := fsL_bx (s := s) hB
  obtain ⟨ζ', r1, r2, r3, r4⟩ := spread_out (b0 := b0) (σ := σ) hB hT n0 n1 4096 fu (fsL ξ s) _ (by have := hb.1.1; omega) (fuN (by omega)) hA hb.1
  refine ⟨ζ', ?_, SpR.trans (SpR.ch (P := scr) (Ch_lts (fun _ => Or.inr (Or.inr rfl)) (Ch_unf (fun _ => Or.inr (Or.inl rfl)) Ch.rf)) (fun _ _ q => q)) r2, At_MB hB r3, TZ_At hB r3 hb.1, fun c a b hp L' hb' => r4 c a b hp L' (hb.2 L' hb') hb'⟩
  rw [F_X8_spread]
  refine evd (iS_23.trans (X8_unfold (hB.cf h) s0 (by omega))) ?_
  exact evd (iS_23.trans e1) r1
end W6
