/-- the heap at the law's entry: nothing of ours -/
def σ0 (b0 : Nat) : Hp := (b0, 0, fun _ => (0, 0, fun _ => 0))
theorem arr_known {s : State} {args : Array Value} {ty : FieldType} (hp : ty = .int ∨ ty = .long ∨ ty = .boolean) (h : (Cond.arrayClass ty).before args s = true) : ∃ cA : ClassId, ArrOfT s cA ty ∧ va_RA s cA ty := by
  obtain ⟨cA, kA, comp, h1, h2, h3⟩ := Cond.arrayClass_spec h
  refine ⟨cA, fun n z => ⟨fun k h => (by cases h), kA, h2, comp, h3⟩, ?_⟩
  rcases hp with rfl | rfl | rfl <;> exact h1
theorem arr_knownO {s : State} {args : Array Value} {C : String} (h : (Cond.arrayOver (.object C)).before args s = true) : ∃ cA : ClassId, ArrOfT s cA (.object C) ∧ va_RA s cA (.object C) := by
  obtain ⟨comp, c, k, h1, h2, h3, h4, h5⟩ := Cond.arrayOver_spec h
  exact ⟨c, fun n z => ⟨fun k h => (by cases h), k, h3, comp, h4⟩, k, comp, h3, h4, h1, h5⟩
set_option maxHeartbeats 4000000 in
set_option maxRecDepth 100000 in
theorem tables_known {s : State} {b : Nat} (hts : ∀ w ∈ lw_tbl, w.before #[Value.ref b] s = true) : ∃ (D : va_G) (dA : Nat → ClassId), KK D dA s := by
  have htb : ∀ w ∈ tb, w.before #[Value.ref b] s = true := fun w h => hts w (List.mem_filter.mp h).1
  obtain ⟨c0, i0, hn0⟩ := u_known (C := RX0) (T := TX0) (N := 9) (n := 9) htb inT0 (htb _ (memW 68 (by decide +kernel) (by decide)))
  obtain ⟨c1, i1, hn1⟩ := u_known (C := RX1) (T := TX1) (N := 16) (n := 16) htb inT1 (htb _ (memW 144 (by decide +kernel) (by decide)))
  obtain ⟨c2, i2, hn2⟩ := u_known (C := RX2) (T := TX2) (N := 8) (n := 8) htb inT2 (htb _ (memW 272 (by decide +kernel) (by decide)))
  obtain ⟨c3, i3, hn3⟩ := u_known (C := RX3) (T := TX3) (N := 5) (n := 5) htb inT3 (htb _ (memW 137 (by decide +kernel) (by decide)))
  obtain ⟨c4, i4, hn4⟩ := u_known (C := RX4) (T := TX4) (N := 4) (n := 4) htb inT4 (htb _ (memW 61 (by decide +kernel) (by decide)))
  obtain ⟨c5, i5, hn5⟩ := u_known (C := RX5) (T := TX5) (N := 2) (n := 2) htb inT5 (htb _ (memW 259 (by decide +kernel) (by decide)))
  obtain ⟨c6, i6, hn6⟩ := u_known (C := RX6) (T := TX6) (N := 4) (n := 4) htb inT6 (htb _ (memW 240 (by decide +kernel) (by decide)))
  obtain ⟨c7, i7, hn7⟩ := u_known (C := RX7) (T := TX7) (N := 5) (n := 5) htb inT7 (htb _ (memW 53 (by decide +kernel) (by decide)))
  obtain ⟨c8, i8, hn8⟩ := u_known (C := RX8) (T := TX8) (N := 40) (n := 40) htb inT8 (htb _ (memW 697 (by decide +kernel) (by decide)))
  obtain ⟨d0, hd0⟩ := arr_known (Or.inl rfl) (htb _ ac_int)
  obtain ⟨d1, hd1⟩ := arr_known (Or.inr (Or.inl rfl)) (htb _ ac_long)
  obtain ⟨d2, hd2⟩ := arr_known (Or.inr (Or.inr rfl)) (htb _ ac_boolean)
  have hao3 : (Cond.arrayOver (.object "LakeChain$Lake")).before #[Value.ref b] s = true := hts _ (List.mem_of_getElem? (i := 67) (by decide +kernel))
  obtain ⟨d3, hd3⟩ := arr_knownO hao3
  have hao4 : (Cond.arrayOver (.object "LakeChain$Node")).before #[Value.ref b] s = true := hts _ (List.mem_of_getElem? (i := 143) (by decide +kernel))
  obtain ⟨d4, hd4⟩ := arr_knownO hao4
  refine ⟨(fun k => if k = 0 then c0 else if k = 1 then c1 else if k = 2 then c2 else if k = 3 then c3 else if k = 4 then c4 else if k = 5 then c5 else if k = 6 then c6 else if k = 7 then c7 else c8, fun k => if k = 0 then i0 else if k = 1 then i1 else if k = 2 then i2 else if k = 3 then i3 else if k = 4 then i4 else if k = 5 then i5 else if k = 6 then i6 else if k = 7 then i7 else i8), fun k => if k = 0 then d0 else if k = 1 then d1 else if k = 2 then d2 else if k = 3 then d3 else d4, ⟨?_, ?_⟩, va_AO.of hao3, va_AO.of hao4⟩
  · intro k q hq
    match k, hq with
    | 0, hq => cases hq; exact hn0
    | 1, hq => cases hq; exact hn1
    | 2, hq => cases hq; exact hn2
    | 3, hq => cases hq; exact hn3
    | 4, hq => cases hq; exact hn4
    | 5, hq => cases hq; exact hn5
    | 6, hq => cases hq; exact hn6
    | 7, hq => cases hq; exact hn7
    | 8, hq => cases hq; exact hn8
    | k + 9, hq => simp [vwCl] at hq
  · intro k q hq
    match k, hq with
    | 0, hq => cases hq; exact hd0
    | 1, hq => cases hq; exact hd1
    | 2, hq => cases hq; exact hd2
    | 3, hq => cases hq; exact hd3
    | 4, hq => cases hq; exact hd4
    | k + 5, hq => simp [tysA] at hq

set_option maxHeartbeats 4000000 in
set_option maxRecDepth 100000 in
/-- THE LAW, from its entry, out of what its pure function answers -/
theorem start_of {p : Program} {e : Env} {s : State} {m : MethodId} {below : List Frame} {meth : Method} {c : Code} (l : Launch) {b L : Nat} {xs : Nat → Int32} (hL : L ≤ 2560) (C0 : lw_At p s m meth c b L xs) (hp : ∃ σE : Hp, F_L_law (sx xs) (L : Int) (σ0 s.heap.size) = some (1, σE) ∧ σE.1 ≤ s.heap.size + 600000 ∧ σE.2.1 ≤ 7302250) : W p l e room_1 s m #[Value.ref b] below meth c s.heap [] 0 0 (lw_Z below #[Value.ref b] s) (entryFrame m ([Value.ref b] : List Value).toArray 4) := by
  obtain ⟨hx, hb, hr, hml, hown, hts, hX, hbl, hlocks, hgv⟩ := id C0
  obtain ⟨σE, hF, hE1, hE2⟩ := hp
  obtain ⟨D, dA, hK⟩ := tables_known hts
  have hCx : Cx p room_1 s m #[Value.ref b] meth c D dA s.heap.size s.heap.size 0 4 (s.heap.size + 600000) 7302250 cL_law RL 2048 84000 :=
    ⟨hx, hb, hml, hown, fun w h => hts w (List.mem_filter.mp h).1, hK, Nat.le_refl _, ⟨by show s.heap.size + 600000 - s.heap.size ≤ 600000; omega, by show 7302250 - 0 ≤ 7302250; omega⟩, ⟨Nat.le_refl _, Nat.le_refl _⟩⟩
  have hLw : LwC room_1 s #[Value.ref b] below meth s.heap.size s.heap.size 0 (s.heap.size + 600000) 7302250 (lw_Z below #[Value.ref b] s) b L xs (sx xs) (L : Int) σE :=
    ⟨hX, hbl, rfl, rfl, rfl, hL, rfl, rfl, rfl, ⟨Nat.le_refl _, by omega⟩, ⟨hr, hlocks⟩, ⟨hE1, hE2⟩⟩
  have hG := T_L_law (l := l) (e := e) rfl hCx hLw (σ0 s.heap.size) hF
  have hl := lv_entry ([.ref b]) (n := 4) (Nat.le_of_ble_eq_true rfl)
  rw [lg_entry_eq]
  generalize (lg_sl ([.ref b]) ++ List.replicate (4 - (lg_sl ([.ref b])).length) Slot.unset).toArray = ls at hl ⊢
  have hl : lv_has ls 4 (lvV [(0, 2, (b : Int))]) := by
    show lv_has ls 4 [(0, pV 2 (b : Int))]
    rw [pV_b]
    exact hl
  have k := hG.2 (Nat.le_refl _) (Nat.le_refl _) s.heap [] ls ⟨rfl, Nat.le_refl _, fun a ha => absurd rfl ha⟩ va_S.rf hl
  have e1 : (σ0 s.heap.size).1 - s.heap.size = 0 := Nat.sub_self _
  rw [e1] at k
  exact k
