section GC
variable {p : Program} {l : Launch} {e : Env} {R : Room} {s : State} {m : MethodId} {args : Array Value} {below : List Frame} {meth : Method} {c : Code} {D : va_G} {dA : Nat → ClassId} {b0 n0 m0 nL nE mE : Nat} {Q : State → Prop}
variable {cc : ByteArray} {own : String} {fr lo : Nat} {pc : Nat} {lv : List (Nat × Nat × Int)} {st : List (Nat × Int)} {σ : Hp}
variable {γ : Type} {z : γ} {T E : Option γ} {a b : Int}
theorem wr_at (σ : Hp) (a k v : Int) : (wr σ a k v).2.2 a = (kd σ a, ln σ a, fun j => if j = k then v else gf σ a j) := if_pos rfl
/-- a field written: the picture behind it -/
theorem Pw.field {H H1 : Heap} {ci k : Nat} {C K v : Int} {w : Value} (hP : Pw D dA b0 σ H) (hkd : kd σ a = C) (hC : C = ci + 1) (hK : K = k) (h9 : ci < 9) (hw : pV (tagOf (tyC ci k)) v = w) (hz : H1.size = H.size) (ho : ∀ q, q ≠ a.toNat → H1[q]? = H[q]?) (hc : t_OB a.toNat (D.1 ci) (nF ci) (D.2 ci) H1 (updV (fun j => pV (tagOf (tyC ci j)) (gf σ a j)) k w)) : Pw D dA b0 (wr σ a K v) H1 := by
  refine hP.wrote (by rw [hkd]; omega) hz ho ?_
  rw [wr_at, hkd]
  unfold cellAt
  show if 11 ≤ C then _ else _
  rw [if_neg (by omega)]
  show t_OB a.toNat (D.1 (C.toNat - 1)) (nF (C.toNat - 1)) (D.2 (C.toNat - 1)) H1 (fun j => pV (tagOf (tyC (C.toNat - 1) j)) (if (j : Int) = K then v else gf σ a j))
  rw [show C.toNat - 1 = ci by omega]
  refine hc.to (fun j hj => ?_)
  unfold updV
  by_cases h : j = k
  · subst h
    rw [if_pos rfl, if_pos (by rw [hK]), hw]
  · rw [if_neg h, if_neg (by rw [hK]; omega)]
def FP (own : String) (idx ci k t : Nat) : Prop := ∃ (C : String) (T : u_T) (N : Nat) (ty : Nat → FieldType), CFt ci C T N ty ∧ k < N ∧ Cond.fieldLink own idx (T k).1 (T k).2.1 (T k).2.2.1 ∈ tb ∧ (T k).2.2.2 = false ∧ plainT (ty k) = true ∧ tagOf (ty k) = t
def FZ (own : String) (idx ci k : Nat) : Prop := ∃ (C : String) (T : u_T) (N : Nat) (ty : Nat → FieldType), CFt ci C T N ty ∧ k < N ∧ Cond.fieldLink own idx (T k).1 (T k).2.1 (T k).2.2.1 ∈ tb ∧ (T k).2.2.2 = false ∧ ty k = .boolean
def FF (own : String) (idx ci k t : Nat) : Prop := ∃ (C : String) (T : u_T) (N : Nat) (ty : Nat → FieldType), CFt ci C T N ty ∧ k < N ∧ Cond.fieldLink own idx (T k).1 (T k).2.1 (T k).2.2.1 ∈ tb ∧ (T k).2.2.2 = true ∧ (T k).1 = own ∧ plainT (ty k) = true ∧ tagOf (ty k) = t
/-- a field of a nonfinal kind written, at any value that fits -/
theorem W_put (hX : Cx p R s m args meth c D dA b0 n0 m0 nL nE mE cc own fr lo) {idx ci k : Nat} {C K v : Int} {Cn : String} {Tn : u_T} {N : Nat} {ty : Nat → FieldType} (hcf : CFt ci Cn Tn N ty) (hkN : k < N) (hlink : Cond.fieldLink own idx (Tn k).1 (Tn k).2.1 (Tn k).2.2.1 ∈ tb) (hfin : (Tn k).2.2.2 = false ∨ ((Tn k).2.2.2 = true ∧ (Tn k).1 = own ∧ meth.name = "<init>")) (hn : narrow (ty k) (pV (tagOf (ty k)) v) = pV (tagOf (ty k)) v) (hfit : fits (ty k) (pV (tagOf (ty k)) v) = true) (hC : C = ci + 1) (hK : K = k) (hd : decode cc pc = .ok (.putfield idx, 3)) (hkd : kd σ a = C)
    (kk : G p l e R s m args below meth c D dA b0 n0 m0 nL nE mE Q (pc + 3) lv st (wr σ a K v)) : G p l e R s m args below meth c D dA b0 n0 m0 nL nE mE Q pc lv ((tagOf (ty k), v) :: (2, a) :: st) σ := by
  obtain ⟨hx, hb, hml, hown, hts, ⟨hKK, hAO⟩, hbs, hroom, hfl⟩ := hX
  obtain ⟨c1, c2, c3, c4, c5, c6, c7⟩ := hcf
  refine ⟨kk.1, fun h1 h2 H locs ls hP hS hl => ?_⟩
  obtain ⟨a0, ab, hob⟩ := hP.obj hkd hC c7
  show W p l e R s m args below meth c H locs (σ.1 - n0) (σ.2.1 - m0) Q (F0 m pc ls (pV (tagOf (ty k)) v :: pV 2 a :: st.map pVs))
  rw [pV_ref a0]
  have hap := va_apart (own := own) hts c2 ty c3 c4 hKK c1
  obtain ⟨cell, q1, q2, q3, q4⟩ := id hob
  rw [c6] at q4
  obtain ⟨hS1, hfc, kC, hkC, hkind⟩ := hKK.1 ci _ c1
  obtain ⟨cf, kf, fi, f, hi, hsl⟩ := hS1 k hkN
  have hlay := hts _ (c2 _ (u_in_lay hkN))
  unfold u_lay at hlay
  have hst := (u_facts hfc hkC (u_lays hts c2 hkN) hi).1
  have key : ∀ H' : Heap, H'[a.toNat]? = some (cell.setSlot f.slot (pV (tagOf (ty k)) v)) → H'.size = H.size → (∀ q, q ≠ a.toNat → H'[q]? = H[q]?) → W p l e R s m args below meth c H' (locs ++ [⟨a.toNat, f.slot⟩]) (σ.1 - n0) (σ.2.1 - m0) Q (F0 m (pc + 3) ls (st.map pVs)) := by
    intro H' e1 e2 e3
    rw [hsl] at e1
    refine kk.2 h1 h2 H' _ ls (Pw.field hP hkd hC hK c7 (by rw [c5]) e2 e3 ⟨_, e1, q2, q3, ?_⟩) (hS.put e2 e3 ab) hl
    rw [c6]
    exact t_set q4 hap hkN _
  rcases hfin with hfin | ⟨hfin, hdecl, hin2⟩
  · rw [if_neg (by rw [hfin]; decide)] at hlay
    have h6 := u_store hfc hkC hkind hlay hi (c3 k hkN) hn hfit
    exact W.putK hx hb (f := f) ⟨hown, hts _ hlink, ⟨_, _, _, hi⟩, hst⟩ (by rw [q2]; exact h6) q1 q3 (by rw [hsl]; exact k2_hasslot (q4 k hkN)) rfl rfl hd key
  · rw [if_pos hfin] at hlay
    have hcf : m.cls = cf := by
      obtain ⟨_, _, c', _, _, _, -, -, hf', -, -, -, hown2, -⟩ := Cond.laysFinal_spec hlay
      have e1 : c' = cf := by have := hi.symm.trans hf'; simp at this; exact this.1.symm
      rw [hdecl] at hown2
      rw [← e1]; exact Option.some.inj (hown.symm.trans hown2)
    have h6 := u_fits hfc hkC hkind (Or.inr hlay) hi (c3 k hkN) hn hfit
    exact W.putFinK hx hb hown (hts _ hlink) hi hst hcf hin2 (by rw [q2]; exact h6) q1 q3 (by rw [hsl]; exact k2_hasslot (q4 k hkN)) rfl rfl hd key
theorem pw_spec {C K v : Int} {f : Hp → Option γ} (hF : (pw C σ a K v).bind f = some z) : kd σ a = C ∧ f (wr σ a K v) = some z := by
  obtain ⟨σ1, h, hF⟩ := bo_spec hF
  unfold pw at h
  split at h
  · cases h; exact ⟨by assumption, hF⟩
  · cases h
theorem g_put (hX : Cx p R s m args meth c D dA b0 n0 m0 nL nE mE cc own fr lo) {idx ci k t : Nat} {C K v : Int} {f : Hp → Option γ} (hw : FP own idx ci k t) (hC : C = ci + 1) (hK : K = k) (hd : decode cc pc = .ok (.putfield idx, 3)) (hF : (pw C σ a K v).bind f = some z) (kk : f (wr σ a K v) = some z → G p l e R s m args below meth c D dA b0 n0 m0 nL nE mE Q (pc + 3) lv st (wr σ a K v)) : G p l e R s m args below meth c D dA b0 n0 m0 nL nE mE Q pc lv ((t, v) :: (2, a) :: st) σ := by
  obtain ⟨hkd, hF⟩ := pw_spec hF
  obtain ⟨Cn, Tn, N, ty, hcf, hkN, hlink, hfin, hpl, rfl⟩ := hw
  exact W_put hX hcf hkN hlink (Or.inl hfin) (pV_plain hpl v).1 (pV_plain hpl v).2 hC hK hd hkd (kk hF)
theorem g_putF (hX : Cx p R s m args meth c D dA b0 n0 m0 nL nE mE cc own fr lo) {idx ci k t : Nat} {C K v : Int} {f : Hp → Option γ} (hw : FF own idx ci k t) (hnm : meth.name = "<init>") (hC : C = ci + 1) (hK : K = k) (hd : decode cc pc = .ok (.putfield idx, 3)) (hF : (pw C σ a K v).bind f = some z) (kk : f (wr σ a K v) = some z → G p l e R s m args below meth c D dA b0 n0 m0 nL nE mE Q (pc + 3) lv st (wr σ a K v)) : G p l e R s m args below meth c D dA b0 n0 m0 nL nE mE Q pc lv ((t, v) :: (2, a) :: st) σ := by
  obtain ⟨hkd, hF⟩ := pw_spec hF
  obtain ⟨Cn, Tn, N, ty, hcf, hkN, hlink, hfin, hdecl, hpl, rfl⟩ := hw
  exact W_put hX hcf hkN hlink (Or.inr ⟨hfin, hdecl, hnm⟩) (pV_plain hpl v).1 (pV_plain hpl v).2 hC hK hd hkd (kk hF)
theorem g_putZ (hX : Cx p R s m args meth c D dA b0 n0 m0 nL nE mE cc own fr lo) {idx ci k : Nat} {C K v : Int} {f : Hp → Option γ} (hw : FZ own idx ci k) (hC : C = ci + 1) (hK : K = k) (hd : decode cc pc = .ok (.putfield idx, 3)) (hF : (pz C σ a K v).bind f = some z) (kk : f (wr σ a K v) = some z → G p l e R s m args below meth c D dA b0 n0 m0 nL nE mE Q (pc + 3) lv st (wr σ a K v)) : G p l e R s m args below meth c D dA b0 n0 m0 nL nE mE Q pc lv ((0, v) :: (2, a) :: st) σ := by
  obtain ⟨σ1, h, hF⟩ := bo_spec hF
  unfold pz at h
  split at h
  · rename_i h0
    cases h
    obtain ⟨Cn, Tn, N, ty, hcf, hkN, hlink, hfin, hpl⟩ := hw
    have := W_put (v := v) hX hcf hkN hlink (Or.inl hfin) (by rw [hpl]; exact (pV_bool h0.2).1) (by rw [hpl]; exact (pV_bool h0.2).2) hC hK hd h0.1 (kk hF)
    rw [hpl] at this
    exact this
  · cases h
/-! arrays -/
theorem g_in {i n : Int} (h0 : 0 ≤ i) (hn : i < n) (h3 : i < 2147483648) (cA : ClassId) (f : Nat → Value) : ¬ (iI i < 0 ∨ (arrV cA n.toNat f).slots.size ≤ (iI i).toNatClampNeg) := by
  have r : R3 i := ⟨by omega, h3⟩
  rw [arrV_size, iI_clamp r]
  intro h
  rcases h with h | h
  · have := (iI_lt (b := 0) r (by decide)).mp h
    omega
  · omega
theorem ar_spec {C i v : Int} (h : ar C σ a i = some v) : kd σ a = C ∧ 0 ≤ i ∧ i < ln σ a ∧ i < 2147483648 ∧ v = gf σ a i := by
  unfold ar at h
  split at h
  · rename_i q
    cases h
    exact ⟨q.1, q.2.1, q.2.2.1, q.2.2.2, rfl⟩
  · cases h
theorem arr_rd {i n : Int} (h0 : 0 ≤ i) (hn : i < n) (h3 : i < 2147483648) (cA : ClassId) (t : Nat) (f : Int → Int) : (arrV cA n.toNat (fun j => pV t (f j))).slots[(iI i).toNatClampNeg]? = some (pV t (f i)) := by
  rw [iI_clamp ⟨by omega, h3⟩, arrV_read _ _ (by omega), Int.toNat_of_nonneg h0]
theorem g_iald (hX : Cx p R s m args meth c D dA b0 n0 m0 nL nE mE cc own fr lo) {i : Int} {f : Int → Option γ} (hd : decode cc pc = .ok (.iaload, 1)) (hF : (ar 11 σ a i).bind f = some z) (kk : ∀ v, f v = some z → G p l e R s m args below meth c D dA b0 n0 m0 nL nE mE Q (pc + 1) lv ((0, v) :: st) σ) : G p l e R s m args below meth c D dA b0 n0 m0 nL nE mE Q pc lv ((0, i) :: (2, a) :: st) σ := by
  obtain ⟨v, hv, hF⟩ := bo_spec hF
  have kk := kk v hF
  obtain ⟨hkd, i0, i1, i2, rfl⟩ := ar_spec hv
  obtain ⟨hx, hb, hml, hown, hts, ⟨hKK, hAO⟩, hbs, hroom, hfl⟩ := hX
  refine ⟨kk.1, fun h1 h2 H locs ls hP hS hl => ?_⟩
  obtain ⟨a0, ab, hob⟩ := hP.arr hkd (by decide)
  show W p l e R s m args below meth c H locs (σ.1 - n0) (σ.2.1 - m0) Q (F0 m pc ls (.int (iI i) :: pV 2 a :: st.map pVs))
  rw [pV_ref a0]
  exact W.iald (v := pV 0 (gf σ a i)) hx hb hob ((hKK.2 0 _ rfl).1 _ _) (fun q => by cases q) (g_in i0 i1 i2 _ _) (arr_rd i0 i1 i2 _ _ _) rfl rfl hd (kk.2 h1 h2 H locs ls hP hS hl)
theorem g_zald (hX : Cx p R s m args meth c D dA b0 n0 m0 nL nE mE cc own fr lo) {i : Int} {f : Int → Option γ} (hd : decode cc pc = .ok (.baload, 1)) (hF : (ar 13 σ a i).bind f = some z) (kk : ∀ v, f v = some z → G p l e R s m args below meth c D dA b0 n0 m0 nL nE mE Q (pc + 1) lv ((0, v) :: st) σ) : G p l e R s m args below meth c D dA b0 n0 m0 nL nE mE Q pc lv ((0, i) :: (2, a) :: st) σ := by
  obtain ⟨v, hv, hF⟩ := bo_spec hF
  have kk := kk v hF
  obtain ⟨hkd, i0, i1, i2, rfl⟩ := ar_spec hv
  obtain ⟨hx, hb, hml, hown, hts, ⟨hKK, hAO⟩, hbs, hroom, hfl⟩ := hX
  refine ⟨kk.1, fun h1 h2 H locs ls hP hS hl => ?_⟩
  obtain ⟨a0, ab, hob⟩ := hP.arr hkd (by decide)
  show W p l e R s m args below meth c H locs (σ.1 - n0) (σ.2.1 - m0) Q (F0 m pc ls (.int (iI i) :: pV 2 a :: st.map pVs))
  rw [pV_ref a0]
  exact W.zald (v := pV 0 (gf σ a i)) hx hb hob ((hKK.2 2 _ rfl).1 _ _) (fun q => by cases q) (g_in i0 i1 i2 _ _) (arr_rd i0 i1 i2 _ _ _) rfl rfl hd (kk.2 h1 h2 H locs ls hP hS hl)
theorem g_lald (hX : Cx p R s m args meth c D dA b0 n0 m0 nL nE mE cc own fr lo) {i : Int} {f : Int → Option γ} (hd : decode cc pc = .ok (.laload, 1)) (hF : (ar 12 σ a i).bind f = some z) (kk : ∀ v, f v = some z → G p l e R s m args below meth c D dA b0 n0 m0 nL nE mE Q (pc + 1) lv ((1, v) :: st) σ) : G p l e R s m args below meth c D dA b0 n0 m0 nL nE mE Q pc lv ((0, i) :: (2, a) :: st) σ := by
  obtain ⟨v, hv, hF⟩ := bo_spec hF
  have kk := kk v hF
  obtain ⟨hkd, i0, i1, i2, rfl⟩ := ar_spec hv
  obtain ⟨hx, hb, hml, hown, hts, ⟨hKK, hAO⟩, hbs, hroom, hfl⟩ := hX
  refine ⟨kk.1, fun h1 h2 H locs ls hP hS hl => ?_⟩
  obtain ⟨a0, ab, hob⟩ := hP.arr hkd (by decide)
  show W p l e R s m args below meth c H locs (σ.1 - n0) (σ.2.1 - m0) Q (F0 m pc ls (.int (iI i) :: pV 2 a :: st.map pVs))
  rw [pV_ref a0]
  exact W.lald (v := pV 1 (gf σ a i)) hx hb hob ((hKK.2 1 _ rfl).1 _ _) (fun q => by cases q) (g_in i0 i1 i2 _ _) (arr_rd i0 i1 i2 _ _ _) rfl rfl hd (kk.2 h1 h2 H locs ls hP hS hl)
theorem g_aald (hX : Cx p R s m args meth c D dA b0 n0 m0 nL nE mE cc own fr lo) {i C : Int} {f : Int → Option γ} (hC : C = 14 ∨ C = 15) (hd : decode cc pc = .ok (.aaload, 1)) (hF : (ar C σ a i).bind f = some z) (kk : ∀ v, f v = some z → G p l e R s m args below meth c D dA b0 n0 m0 nL nE mE Q (pc + 1) lv ((2, v) :: st) σ) : G p l e R s m args below meth c D dA b0 n0 m0 nL nE mE Q pc lv ((0, i) :: (2, a) :: st) σ := by
  obtain ⟨v, hv, hF⟩ := bo_spec hF
  have kk := kk v hF
  obtain ⟨hkd, i0, i1, i2, rfl⟩ := ar_spec hv
  obtain ⟨hx, hb, hml, hown, hts, ⟨hKK, hAO⟩, hbs, hroom, hfl⟩ := hX
  refine ⟨kk.1, fun h1 h2 H locs ls hP hS hl => ?_⟩
  obtain ⟨a0, ab, hob⟩ := hP.arr hkd (by omega)
  show W p l e R s m args below meth c H locs (σ.1 - n0) (σ.2.1 - m0) Q (F0 m pc ls (.int (iI i) :: pV 2 a :: st.map pVs))
  rw [pV_ref a0]
  rcases hC with rfl | rfl
  · exact W.aald (v := pV 2 (gf σ a i)) (ty := .object "LakeChain$Lake") hx hb hob ((hKK.2 3 _ rfl).1 _ _) rfl (fun q => by cases q) (g_in i0 i1 i2 _ _) (arr_rd i0 i1 i2 _ _ _) rfl rfl hd (kk.2 h1 h2 H locs ls hP hS hl)
  · exact W.aald (v := pV 2 (gf σ a i)) (ty := .object "LakeChain$Node") hx hb hob ((hKK.2 4 _ rfl).1 _ _) rfl (fun q => by cases q) (g_in i0 i1 i2 _ _) (arr_rd i0 i1 i2 _ _ _) rfl rfl hd (kk.2 h1 h2 H locs ls hP hS hl)
theorem ty_of {C : Int} (hC : C = 11 ∨ C = 12 ∨ C = 13 ∨ C = 14 ∨ C = 15) (hK : va_K D vwCl (tysA dA) s) : ∃ ty, ArrOfT s (dA (C.toNat - 11)) ty := by
  rcases hC with rfl | rfl | rfl | rfl | rfl
  · exact ⟨_, (hK.2 0 _ rfl).1⟩
  · exact ⟨_, (hK.2 1 _ rfl).1⟩
  · exact ⟨_, (hK.2 2 _ rfl).1⟩
  · exact ⟨_, (hK.2 3 _ rfl).1⟩
  · exact ⟨_, (hK.2 4 _ rfl).1⟩
theorem g_alen (hX : Cx p R s m args meth c D dA b0 n0 m0 nL nE mE cc own fr lo) {C : Int} {f : Int → Option γ} (hC : C = 11 ∨ C = 12 ∨ C = 13 ∨ C = 14 ∨ C = 15) (hd : decode cc pc = .ok (.arraylength, 1)) (hF : (al C σ a).bind f = some z) (kk : ∀ v, f v = some z → G p l e R s m args below meth c D dA b0 n0 m0 nL nE mE Q (pc + 1) lv ((0, v) :: st) σ) : G p l e R s m args below meth c D dA b0 n0 m0 nL nE mE Q pc lv ((2, a) :: st) σ := by
  obtain ⟨v, hv, hF⟩ := bo_spec hF
  have kk := kk v hF
  unfold al at hv
  split at hv
  · rename_i h0
    cases hv
    obtain ⟨hx, hb, hml, hown, hts, ⟨hKK, hAO⟩, hbs, hroom, hfl⟩ := hX
    refine ⟨kk.1, fun h1 h2 H locs ls hP hS hl => ?_⟩
    obtain ⟨a0, ab, hob⟩ := hP.arr h0.1 (by omega)
    show W p l e R s m args below meth c H locs (σ.1 - n0) (σ.2.1 - m0) Q (F0 m pc ls (pV 2 a :: st.map pVs))
    rw [pV_ref a0]
    obtain ⟨ty, hty⟩ := ty_of hC hKK
    refine W.alen (n := iI (ln σ a)) hx hb hob (hty _ _) ?_ rfl rfl hd (kk.2 h1 h2 H locs ls hP hS hl)
    rw [arrV_size]
    show Int32.ofNat (ln σ a).toNat = Int32.ofInt (ln σ a)
    rw [← Int32.ofInt_eq_ofNat, Int.toNat_of_nonneg h0.2]
  · cases hv
/-- an element written: the picture behind it -/
theorem Pw.elem {H H1 : Heap} {C i v : Int} {w : Value} {j : Nat} (hP : Pw D dA b0 σ H) (hkd : kd σ a = C) (hC : 11 ≤ C) (i0 : 0 ≤ i) (i2 : i < 2147483648) (hj : j = (iI i).toNatClampNeg) (hw : pV (tagA C) v = w) (hz : H1.size = H.size) (ho : ∀ q, q ≠ a.toNat → H1[q]? = H[q]?) (hc : H1[a.toNat]? = some ((arrV (dA (C.toNat - 11)) (ln σ a).toNat (fun j => pV (tagA C) (gf σ a j))).setSlot j w)) : Pw D dA b0 (wr σ a i v) H1 := by
  refine hP.wrote (by rw [hkd]; omega) hz ho ?_
  rw [wr_at, hkd]
  unfold cellAt
  show if 11 ≤ C then _ else _
  rw [if_pos hC, hc, arrV_store]
  show some (arrV _ _ _) = some (arrV (dA (C.toNat - 11)) (ln σ a).toNat (fun q => pV (tagA C) (if (q : Int) = i then v else gf σ a q)))
  congr 2
  funext q
  rw [hj, iI_clamp ⟨by omega, i2⟩]
  unfold updV
  by_cases h : q = i.toNat
  · rw [if_pos h, if_pos (by omega), hw]
  · rw [if_neg h, if_neg (by omega)]
theorem aw_spec {C i v : Int} {f : Hp → Option γ} (hF : (aw C σ a i v).bind f = some z) : kd σ a = C ∧ 0 ≤ i ∧ i < ln σ a ∧ i < 2147483648 ∧ f (wr σ a i v) = some z := by
  obtain ⟨σ1, h, hF⟩ := bo_spec hF
  unfold aw at h
  split at h
  · rename_i q
    cases h
    exact ⟨q.1, q.2.1, q.2.2.1, q.2.2.2, hF⟩
  · cases h
theorem g_iast (hX : Cx p R s m args meth c D dA b0 n0 m0 nL nE mE cc own fr lo) {i v : Int} {f : Hp → Option γ} (hd : decode cc pc = .ok (.iastore, 1)) (hF : (aw 11 σ a i v).bind f = some z) (kk : f (wr σ a i v) = some z → G p l e R s m args below meth c D dA b0 n0 m0 nL nE mE Q (pc + 1) lv st (wr σ a i v)) : G p l e R s m args below meth c D dA b0 n0 m0 nL nE mE Q pc lv ((0, v) :: (0, i) :: (2, a) :: st) σ := by
  obtain ⟨hkd, i0, i1, i2, hF⟩ := aw_spec hF
  have kk := kk hF
  obtain ⟨hx, hb, hml, hown, hts, ⟨hKK, hAO⟩, hbs, hroom, hfl⟩ := hX
  refine ⟨kk.1, fun h1 h2 H locs ls hP hS hl => ?_⟩
  obtain ⟨a0, ab, hob⟩ := hP.arr hkd (by decide)
  show W p l e R s m args below meth c H locs (σ.1 - n0) (σ.2.1 - m0) Q (F0 m pc ls (.int (iI v) :: .int (iI i) :: pV 2 a :: st.map pVs))
  rw [pV_ref a0]
  refine W.iast hx hb hob ((hKK.2 0 _ rfl).1 _ _) (fun q => by cases q) (g_in i0 i1 i2 _ _) rfl rfl hd fun H1 e1 e2 e3 => ?_
  exact kk.2 h1 h2 H1 _ ls (Pw.elem hP hkd (by decide) i0 i2 rfl rfl e2 e3 e1) (hS.put e2 e3 ab) hl
theorem g_last (hX : Cx p R s m args meth c D dA b0 n0 m0 nL nE mE cc own fr lo) {i v : Int} {f : Hp → Option γ} (hd : decode cc pc = .ok (.lastore, 1)) (hF : (aw 12 σ a i v).bind f = some z) (kk : f (wr σ a i v) = some z → G p l e R s m args below meth c D dA b0 n0 m0 nL nE mE Q (pc + 1) lv st (wr σ a i v)) : G p l e R s m args below meth c D dA b0 n0 m0 nL nE mE Q pc lv ((1, v) :: (0, i) :: (2, a) :: st) σ := by
  obtain ⟨hkd, i0, i1, i2, hF⟩ := aw_spec hF
  have kk := kk hF
  obtain ⟨hx, hb, hml, hown, hts, ⟨hKK, hAO⟩, hbs, hroom, hfl⟩ := hX
  refine ⟨kk.1, fun h1 h2 H locs ls hP hS hl => ?_⟩
  obtain ⟨a0, ab, hob⟩ := hP.arr hkd (by decide)
  show W p l e R s m args below meth c H locs (σ.1 - n0) (σ.2.1 - m0) Q (F0 m pc ls (.long (lI v) :: .int (iI i) :: pV 2 a :: st.map pVs))
  rw [pV_ref a0]
  refine W.last hx hb hob ((hKK.2 1 _ rfl).1 _ _) (fun q => by cases q) (g_in i0 i1 i2 _ _) rfl rfl hd fun H1 e1 e2 e3 => ?_
  exact kk.2 h1 h2 H1 _ ls (Pw.elem hP hkd (by decide) i0 i2 rfl rfl e2 e3 e1) (hS.put e2 e3 ab) hl
theorem g_zast (hX : Cx p R s m args meth c D dA b0 n0 m0 nL nE mE cc own fr lo) {i v : Int} {f : Hp → Option γ} (hd : decode cc pc = .ok (.bastore, 1)) (hF : (az 13 σ a i v).bind f = some z) (kk : f (wr σ a i v) = some z → G p l e R s m args below meth c D dA b0 n0 m0 nL nE mE Q (pc + 1) lv st (wr σ a i v)) : G p l e R s m args below meth c D dA b0 n0 m0 nL nE mE Q pc lv ((0, v) :: (0, i) :: (2, a) :: st) σ := by
  obtain ⟨σ1, h, hF⟩ := bo_spec hF
  unfold az at h
  split at h
  · rename_i q
    obtain ⟨hkd, i0, i1, i2, hv⟩ := q
    cases h
    have kk := kk hF
    obtain ⟨hx, hb, hml, hown, hts, ⟨hKK, hAO⟩, hbs, hroom, hfl⟩ := hX
    refine ⟨kk.1, fun h1 h2 H locs ls hP hS hl => ?_⟩
    obtain ⟨a0, ab, hob⟩ := hP.arr hkd (by decide)
    show W p l e R s m args below meth c H locs (σ.1 - n0) (σ.2.1 - m0) Q (F0 m pc ls (.int (iI v) :: .int (iI i) :: pV 2 a :: st.map pVs))
    rw [pV_ref a0]
    refine W.zast hx hb hob ((hKK.2 2 _ rfl).1 _ _) (fun q => by cases q) (g_in i0 i1 i2 _ _) rfl rfl hd fun H1 e1 e2 e3 => ?_
    exact kk.2 h1 h2 H1 _ ls (Pw.elem hP hkd (by decide) i0 i2 rfl (pV_bool hv).1.symm e2 e3 e1) (hS.put e2 e3 ab) hl
  · cases h
theorem g_aast (hX : Cx p R s m args meth c D dA b0 n0 m0 nL nE mE cc own fr lo) {i v C cv : Int} {f : Hp → Option γ} (hC : (C = 14 ∧ cv = 1) ∨ (C = 15 ∧ cv = 2)) (hd : decode cc pc = .ok (.aastore, 1)) (hF : (aq C cv σ a i v).bind f = some z) (kk : f (wr σ a i v) = some z → G p l e R s m args below meth c D dA b0 n0 m0 nL nE mE Q (pc + 1) lv st (wr σ a i v)) : G p l e R s m args below meth c D dA b0 n0 m0 nL nE mE Q pc lv ((2, v) :: (0, i) :: (2, a) :: st) σ := by
  obtain ⟨σ1, h, hF⟩ := bo_spec hF
  unfold aq at h
  split at h
  · rename_i q
    obtain ⟨hkd, i0, i1, i2, hv⟩ := q
    cases h
    have kk := kk hF
    obtain ⟨hx, hb, hml, hown, hts, ⟨hKK, hAO⟩, hbs, hroom, hfl⟩ := hX
    refine ⟨kk.1, fun h1 h2 H locs ls hP hS hl => ?_⟩
    obtain ⟨a0, ab, hob⟩ := hP.arr hkd (by omega)
    have key : ∀ (ci t0 : Nat) (r : vw_C), cv = ci + 1 → ci < 9 → vwCl[ci]? = some r → (tysA dA)[t0]? = some (dA (C.toNat - 11), .object r.1) → tagA C = 2 → W p l e R s m args below meth c H locs (σ.1 - n0) (σ.2.1 - m0) Q (F0 m pc ls (pV 2 v :: .int (iI i) :: pV 2 a :: st.map pVs)) := by
      intro ci t0 r hcv h9 hc ht htag
      obtain ⟨v0, vb, cellV, g1, g2, g3, -⟩ := hP.obj hv hcv h9
      rw [pV_ref a0, pV_ref v0]
      have hcls := (hKK.1 ci r hc).2
      obtain ⟨kA, comp, k1, k2, k3, -⟩ := (hKK.2 t0 _ ht).2
      have hcomp : comp = D.1 ci := Option.some.inj (k3.symm.trans hcls.1)
      subst hcomp
      obtain ⟨kC, hkC, -⟩ := id hcls.2
      have hr3 : R3 i := ⟨by omega, i2⟩
      refine W.aast hx hb hob (fun q h => by cases h) (fun h => by cases h) k1 k2 rfl hkC ⟨fun q => g_in i0 i1 i2 (dA 0) (fun _ => .null) (Or.inl q), by rw [arrV_size, iI_clamp hr3]; omega⟩ g1 (fun q h => by rw [g3] at h; cases h) (by rw [g2]; exact hkC) (by rw [g2]; exact va_assign hcls) rfl rfl hd fun H1 e1 e2 e3 => ?_
      exact kk.2 h1 h2 H1 _ ls (Pw.elem hP hkd (by omega) i0 i2 rfl (by rw [htag]; exact pV_ref v0) e2 e3 e1) (hS.put e2 e3 ab) hl
    rcases hC with ⟨rfl, rfl⟩ | ⟨rfl, rfl⟩
    · exact key 0 3 _ rfl (by decide) rfl rfl rfl
    · exact key 1 4 _ rfl (by decide) rfl rfl rfl
  · cases h
end GC
