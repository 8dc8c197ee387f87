section
variable {l : Launch} {p : Program} {e : Env} {s : State} {m : MethodId} {below : List Frame} {meth : Method} {c : Code}
set_option maxRecDepth 100000 in
set_option maxHeartbeats 8000000 in
theorem start_of {Rel : Nat → SX7 → SX8 → Prop} (hS : Sm Rel) {q0 : SX8} (hq0 : fX8_clearTold iX8a = some q0) (h0 : Rel 0 iX7 q0) {b L : Nat} {xs : Nat → Int32} (hL : L ≤ 2048) (C0 : lw_At p s m meth c b L xs) : W p l e room_1 s m #[Value.ref b] below meth c s.heap [] 0 0 (lw_Z below #[Value.ref b] s) (entryFrame m ([Value.ref b] : List Value).toArray 4) := by
  obtain ⟨hx, hb, hr, hml, hown, hts, hX, hbl, hlocks, hgv⟩ := id C0
  have htb : ∀ w ∈ tb, w.before #[Value.ref b] s = true := fun w h => hts w (List.mem_filter.mp h).1
  obtain ⟨A, hA⟩ : ∃ A : Nat → Prop, A = fun q : Nat => s.heap.size ≤ q := ⟨_, rfl⟩
  have hA1 : ∀ q : Nat, s.heap.size ≤ q → A q := fun q h => by rw [hA]; exact h
  have hA2 : ∀ q : Nat, A q → s.heap.size ≤ q := fun q h => by rw [hA] at h; exact h
  have hA3 : ∀ q : Nat, q < s.heap.size → ¬ A q := fun q h1 h2 => absurd (hA2 q h2) (Nat.not_le.mpr h1)
  obtain ⟨c0, j0, hK0⟩ := u_known (C := RX0) (T := TX0) (N := 8) (n := 8) htb inTX0 (htb _ kw222)
  obtain ⟨c1, j1, hK1⟩ := u_known (C := RX1) (T := TX1) (N := 5) (n := 5) htb inTX1 (htb _ kw196)
  obtain ⟨c2, j2, hK2⟩ := u_known (C := RX2) (T := TX2) (N := 2) (n := 2) htb inTX2 (htb _ kw133)
  obtain ⟨c3, j3, hK3⟩ := u_known (C := RX3) (T := TX3) (N := 5) (n := 5) htb inTX3 (htb _ kw148)
  obtain ⟨c4, j4, hK4⟩ := u_known (C := RX4) (T := TX4) (N := 2) (n := 2) htb inTX4 (htb _ kw275)
  obtain ⟨c5, j5, hK5⟩ := u_known (C := RX5) (T := TX5) (N := 2) (n := 2) htb inTX5 (htb _ kw160)
  obtain ⟨c6, j6, hK6⟩ := u_known (C := RX6) (T := TX6) (N := 4) (n := 4) htb inTX6 (htb _ kw154)
  obtain ⟨c7, j7, hK7⟩ := u_known (C := RX7) (T := TX7) (N := 10) (n := 10) htb inTX7 (htb _ kw125)
  obtain ⟨c8, j8, hK8⟩ := u_known (C := RX8) (T := TX8) (N := 62) (n := 62) htb inTX8 (htb _ kw838)
  obtain ⟨dC, dI, hKc⟩ : ∃ (dC : Nat → ClassId) (dI : Nat → Nat → Nat), ∀ (k : Nat) (q : vw_C), vwCl[k]? = some q → u_Kn s q.1 q.2.1 q.2.2 (dC k) (dI k) := by
    refine ⟨fun k => if k = 0 then c0 else if k = 1 then c1 else if k = 2 then c2 else if k = 3 then c3 else if k = 4 then c4 else if k = 5 then c5 else if k = 6 then c6 else if k = 7 then c7 else c8, fun k => if k = 0 then j0 else if k = 1 then j1 else if k = 2 then j2 else if k = 3 then j3 else if k = 4 then j4 else if k = 5 then j5 else if k = 6 then j6 else if k = 7 then j7 else j8, ?_⟩
    intro k q hq
    match k, hq with
    | 0, hq => cases hq; exact hK0
    | 1, hq => cases hq; exact hK1
    | 2, hq => cases hq; exact hK2
    | 3, hq => cases hq; exact hK3
    | 4, hq => cases hq; exact hK4
    | 5, hq => cases hq; exact hK5
    | 6, hq => cases hq; exact hK6
    | 7, hq => cases hq; exact hK7
    | 8, hq => cases hq; exact hK8
    | k + 9, hq => simp [vwCl] at hq
  obtain ⟨cI, kI, pI, i1, i2, i3⟩ := Cond.arrayClass_spec (args := #[Value.ref b]) (first := s) (o := none) (s := s) (idx := []) (type := .int) (htb _ kw146)
  obtain ⟨cB, kB, pB, i4, i5, i6⟩ := Cond.arrayClass_spec (args := #[Value.ref b]) (first := s) (o := none) (s := s) (idx := []) (type := .byte) (htb _ kw450)
  have hK : va_K (dC, dI) vwCl [(cI, .int), (cB, .byte)] s := by
    refine ⟨hKc, fun k q h => ?_⟩
    match k, h with
    | 0, h => cases h; exact ⟨fun n z => ⟨fun k h => (by cases h), kI, i2, pI, i3⟩, i1⟩
    | 1, h => cases h; exact ⟨fun n z => ⟨fun k h => (by cases h), kB, i5, pB, i6⟩, i4⟩
    | k + 2, h => simp at h
  have hf := flat_of_before _ hgv
  obtain ⟨t, ht, hT⟩ := va_Tof (tm := (.static "SpillJoin" "COMES_OUT" "[I")) (ty := .int) (N := 5) (f := coF) (A := A) (by decide) (hf _ (by decide +kernel)) (va_eqt (z := 5) (hf _ (by decide +kernel)))
    (fun j hj => by
      rcases (show j = 0 ∨ j = 1 ∨ j = 2 ∨ j = 3 ∨ j = 4 by omega) with rfl | rfl | rfl | rfl | rfl
      · exact va_eqt (z := 1) (hf (.eq (.elem (.static "SpillJoin" "COMES_OUT" "[I") (.int 0)) (.int 1)) (by decide +kernel))
      · exact va_eqt (z := 3) (hf (.eq (.elem (.static "SpillJoin" "COMES_OUT" "[I") (.int 1)) (.int 3)) (by decide +kernel))
      · exact va_eqt (z := 2) (hf (.eq (.elem (.static "SpillJoin" "COMES_OUT" "[I") (.int 2)) (.int 2)) (by decide +kernel))
      · exact va_eqt (z := 8) (hf (.eq (.elem (.static "SpillJoin" "COMES_OUT" "[I") (.int 3)) (.int 8)) (by decide +kernel))
      · exact va_eqt (z := 7) (hf (.eq (.elem (.static "SpillJoin" "COMES_OUT" "[I") (.int 4)) (.int 7)) (by decide +kernel))) hA3
  have hZ := va_Zref (A := A) (hts _ (List.mem_of_getElem? (i := 666) (by decide +kernel))) (htb _ kw107) ht hA3
  have hC := va_Zof (A := A) (hts _ (List.mem_of_getElem? (i := 374) (by decide +kernel))) (htb _ kw116) (va_eqi (z := 1) (hf (.eq (.static "java/lang/String" "COMPACT_STRINGS" "Z") (.int 1)) (by decide +kernel))) hA3
  obtain ⟨aK, aV, hV, hE⟩ := vk_Sof (args := #[Value.ref b]) (s := s) (N := 1) (tm := fun _ => .string "SpillJoin$Page" 15) (len := [5]) (byt := [klL]) (A := A)
    (fun i hi => by rw [show i = 0 by omega]; decide) (fun i hi => hf _ (by decide +kernel)) (fun i hi => hf _ (by decide +kernel)) (fun i hi => hf _ (by decide +kernel))
    (fun i hi => by rw [show i = 0 by omega]; exact hf (.eq (.length (.field (.string "SpillJoin$Page" 15) "java/lang/String" "value" "[B")) (.int 5)) (by decide +kernel))
    (fun i hi j hj => by
      have e0 : i = 0 := by omega
      subst e0
      rcases (show j = 0 ∨ j = 1 ∨ j = 2 ∨ j = 3 ∨ j = 4 by have : j < 5 := hj; omega) with rfl | rfl | rfl | rfl | rfl
      · exact hf (.eq (.elem (.field (.string "SpillJoin$Page" 15) "java/lang/String" "value" "[B") (.int 0)) (.int 106)) (by decide +kernel)
      · exact hf (.eq (.elem (.field (.string "SpillJoin$Page" 15) "java/lang/String" "value" "[B") (.int 1)) (.int 108)) (by decide +kernel)
      · exact hf (.eq (.elem (.field (.string "SpillJoin$Page" 15) "java/lang/String" "value" "[B") (.int 2)) (.int 97)) (by decide +kernel)
      · exact hf (.eq (.elem (.field (.string "SpillJoin$Page" 15) "java/lang/String" "value" "[B") (.int 3)) (.int 115)) (by decide +kernel)
      · exact hf (.eq (.elem (.field (.string "SpillJoin$Page" 15) "java/lang/String" "value" "[B") (.int 4)) (.int 102)) (by decide +kernel))
    (fun i j hi hj hij => absurd (show i = j by omega) hij) hA3
  have hN : Nt A (fun k => if k = 0 then t else if k = 1 then aK 0 else aV 0) s := by
    refine ⟨fun w hw => va_Nw.of (nst_tab hw) (hts w (List.mem_filter.mp hw).1), hZ, hT, vk_R.of (A := #[Value.ref b]) ?_ ?_, ⟨fun i hi => ?_, fun i j hi hj _ => by omega⟩, hC⟩
    · exact (hts _ (List.mem_of_getElem? (i := 360) (by decide +kernel)))
    · exact hE 0 (by decide)
    · have e0 : i = 0 := by omega
      subst e0
      exact hV.1 0 (by decide)
  generalize (fun k => if k = 0 then t else if k = 1 then aK 0 else aV 0) = g at hN
  have B : Bd RL cL_law 4 (some .boolean) 2000 A g (dC, dI) [(cI, .int), (cB, .byte)] p room_1 s m #[Value.ref b] meth c := ⟨hx, hb, hml, hown, htb, hK, hA1, hN, hr, hlocks, Nat.le_of_ble_eq_true rfl, Nat.le_of_ble_eq_true rfl⟩
  have X : Hx A (dC, dI) s.heap (([] : va_W) ++ []) s.heap [] := ⟨fun k q h => by simp at h, ⟨fun i j p q h => by simp at h, fun k q h => by simp at h⟩, va_S.rf⟩
  have hl := lv_entry ([.ref b]) (n := 4) (Nat.le_of_ble_eq_true rfl)
  rw [lg_entry_eq]
  generalize (lg_sl ([.ref b]) ++ List.replicate (4 - (lg_sl ([.ref b])).length) Slot.unset).toArray = ls at hl ⊢
  have hl : lv_has ls 4 [(0, .ref b)] := hl
  refine nwO (ci := 7) (fs := [.null, .null, .null, .null, .null, .null, .int 0, .null, .int 0, .int 0]) tyX7 B X rfl inTX7 tyX7_ok kw124 kw125 kw107 (fun j hj => by rcases (show j = 0 ∨ j = 1 ∨ j = 2 ∨ j = 3 ∨ j = 4 ∨ j = 5 ∨ j = 6 ∨ j = 7 ∨ j = 8 ∨ j = 9 by omega) with rfl | rfl | rfl | rfl | rfl | rfl | rfl | rfl | rfl | rfl <;> rfl) (Nat.le_of_ble_eq_true rfl) (Nat.le_of_ble_eq_true rfl) dL_law_0 (fun qx H X => ?_)
  refine lv_dup hx hb dL_law_3 rfl ?_
  have X : Hx A (dC, dI) s.heap ([] ++ [(qx, .inr (7, [.null, .null, .null, .null, .null, .null, .int 0, .null, .int 0, .int 0]))]) H [] := X
  refine kNP (rest := [.ref qx]) B X (nX7_init (d := 1999) [] (by decide)) miX7 kw126 (by decide) (Nat.le_of_ble_eq_true rfl) hl.1 ⟨Nat.le_of_ble_eq_true rfl, Nat.le_of_ble_eq_true rfl⟩ dL_law_4 (fun ux H locs hu X9 => ?_)
  subst hu
  have X : Hx A (dC, dI) s.heap (clX7 ux cI iX7 ++ []) H locs := by rw [List.append_nil]; exact X9
  refine lv_astore_n (lv' := [(1, .ref (ux 0)), (0, .ref b)]) hx hb dL_law_7 rfl hl (by decide) rfl (fun ls hl => ?_)
  refine nwO (ci := 8) (fs := [.int 0, .int 0, .int 0, .null, .null, .int 0, .int 0, .null, .null, .int 0, .null, .int 0, .int 0, .int 0, .int 0, .int 0, .int 0, .int 0, .int 0, .int 0, .int 0, .int 0, .int 0, .int 0, .int 0, .int 0, .int 0, .int 0, .int 0, .null, .null, .null, .null, .null, .null, .null, .null, .null, .null, .null, .null, .int 0, .int 0, .null, .null, .null, .null, .null, .null, .long 0, .null, .int 0, .int 0, .int 0, .int 0, .int 0, .int 0, .int 0, .null, .null, .null, .long 0]) tyX8 B X rfl inTX8 tyX8_ok kw837 kw838 kw115 (fun j hj => by rcases (show j = 0 ∨ j = 1 ∨ j = 2 ∨ j = 3 ∨ j = 4 ∨ j = 5 ∨ j = 6 ∨ j = 7 ∨ j = 8 ∨ j = 9 ∨ j = 10 ∨ j = 11 ∨ j = 12 ∨ j = 13 ∨ j = 14 ∨ j = 15 ∨ j = 16 ∨ j = 17 ∨ j = 18 ∨ j = 19 ∨ j = 20 ∨ j = 21 ∨ j = 22 ∨ j = 23 ∨ j = 24 ∨ j = 25 ∨ j = 26 ∨ j = 27 ∨ j = 28 ∨ j = 29 ∨ j = 30 ∨ j = 31 ∨ j = 32 ∨ j = 33 ∨ j = 34 ∨ j = 35 ∨ j = 36 ∨ j = 37 ∨ j = 38 ∨ j = 39 ∨ j = 40 ∨ j = 41 ∨ j = 42 ∨ j = 43 ∨ j = 44 ∨ j = 45 ∨ j = 46 ∨ j = 47 ∨ j = 48 ∨ j = 49 ∨ j = 50 ∨ j = 51 ∨ j = 52 ∨ j = 53 ∨ j = 54 ∨ j = 55 ∨ j = 56 ∨ j = 57 ∨ j = 58 ∨ j = 59 ∨ j = 60 ∨ j = 61 by omega) with rfl | rfl | rfl | rfl | rfl | rfl | rfl | rfl | rfl | rfl | rfl | rfl | rfl | rfl | rfl | rfl | rfl | rfl | rfl | rfl | rfl | rfl | rfl | rfl | rfl | rfl | rfl | rfl | rfl | rfl | rfl | rfl | rfl | rfl | rfl | rfl | rfl | rfl | rfl | rfl | rfl | rfl | rfl | rfl | rfl | rfl | rfl | rfl | rfl | rfl | rfl | rfl | rfl | rfl | rfl | rfl | rfl | rfl | rfl | rfl | rfl | rfl <;> rfl) (Nat.le_of_ble_eq_true rfl) (Nat.le_of_ble_eq_true rfl) dL_law_8 (fun qm H X => ?_)
  refine lv_dup hx hb dL_law_11 rfl ?_
  have X : Hx A (dC, dI) s.heap (clX7 ux cI iX7 ++ [(qm, .inr (8, [.int 0, .int 0, .int 0, .null, .null, .int 0, .int 0, .null, .null, .int 0, .null, .int 0, .int 0, .int 0, .int 0, .int 0, .int 0, .int 0, .int 0, .int 0, .int 0, .int 0, .int 0, .int 0, .int 0, .int 0, .int 0, .int 0, .int 0, .null, .null, .null, .null, .null, .null, .null, .null, .null, .null, .null, .null, .int 0, .int 0, .null, .null, .null, .null, .null, .null, .long 0, .null, .int 0, .int 0, .int 0, .int 0, .int 0, .int 0, .int 0, .null, .null, .null, .long 0]))]) H locs := X
  refine kNP (rest := [.ref qm]) B X (nX8_init (d := 1999) (clX7 ux cI iX7) (by decide) hq0) miX8 kw839 (by decide) (Nat.le_of_ble_eq_true rfl) hl.1 ⟨Nat.le_of_ble_eq_true rfl, Nat.le_of_ble_eq_true rfl⟩ dL_law_12 (fun um H locs hu X9 => ?_)
  subst hu
  have X := X9
  refine lv_astore_n (lv' := [(2, .ref (um 0)), (1, .ref (ux 0)), (0, .ref b)]) hx hb dL_law_15 rfl hl (by decide) rfl (fun ls hl => ?_)
  refine lv_iconst (v := 0) hx hb dL_law_16 (by decide) ?_
  refine lv_istore_n (lv' := [(3, .int 0), (2, .ref (um 0)), (1, .ref (ux 0)), (0, .ref b)]) hx hb dL_law_17 rfl hl (by decide) rfl (fun ls hl => ?_)
  exact law_loop B hX hbl (hA3 b hbl) hA2 hL hS hr hlocks 600 0 iX7 q0 _ _ ls rfl (by omega) h0 X (lv_sub hl [3, 2, 1, 0] rfl)
end
