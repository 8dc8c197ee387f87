section
variable {l : Launch} {p : Program} {e : Env} {R : Room} {S : State} {m : MethodId} {args : Array Value} {below : List Frame} {meth : Method} {c : Code} {A : Nat → Prop} {g : Nat → Nat} {D : va_G} {cI cB : ClassId}
def fX5_has (z : SX5) (x1 : Int32) : Option Int32 :=
    if x1 < 0 then (some 0) else
    (if z.2 ≤ x1 then (some 0) else
    (if 14 ≤ x1 then (some 0) else
    (some 1)))
set_option maxRecDepth 100000 in
set_option maxHeartbeats 4000000 in
theorem tX5_has {a0 a1 p0 p1 : Nat} {wf : SX5 → va_W} (L : LnX5 a0 a1 p0 p1 cI wf) {d : Nat} (hd : 1 ≤ d) {z : SX5} {x1 : Int32} {q : Int32} (h : fX5_has z x1 = some q) : Ct l yX5_has cX5_has 2 (some .boolean) d A g D [(cI, .int), (cB, .byte)] [.ref a0, .int x1] (wf z) (QI A D (wf z) q) := by
  refine mkM (by decide) (Nat.le_of_ble_eq_true rfl) ?_
  intro p e S m args below meth c B X ls hl
  have B : Bd RX5 cX5_has 2 (some .boolean) d A g D [(cI, .int), (cB, .byte)] p (rmd d) S m args meth c := B
  have hx := B.1
  have hb := B.2.1
  have hd1 : 1 ≤ d := by omega
  have hl : lv_has ls 2 [(0, .ref a0), (1, .int x1)] := hl
  unfold fX5_has at h
  refine lv_iload_n hx hb dX5_has_0 rfl (lv_at hl 1 rfl) ?_
  refine lv_if_lt (tgt := 22) hx hb dX5_has_1 (by decide) (fun hc1 => ?_) (fun hc1 => ?_)
  · have h := it h hc1
    refine lv_iconst (v := 0) hx hb dX5_has_22 (by decide) ?_
    exact rZ B X rfl (Option.some.inj h) rfl dX5_has_23
  · have h := ie h hc1
    refine lv_iload_n hx hb dX5_has_4 rfl (lv_at hl 1 rfl) ?_
    refine lv_aload_n hx hb dX5_has_5 rfl (lv_at hl 0 rfl) ?_
    refine fG B X (LnX5_g L z) 1 rfl inTX5 (by decide) kw166 rfl dX5_has_6 ?_
    refine lv_icmp_ge (tgt := 22) hx hb dX5_has_9 (by decide) (fun hc2 => ?_) (fun hc2 => ?_)
    · have h := it h hc2
      refine lv_iconst (v := 0) hx hb dX5_has_22 (by decide) ?_
      exact rZ B X rfl (Option.some.inj h) rfl dX5_has_23
    · have h := ie h hc2
      refine lv_iload_n hx hb dX5_has_12 rfl (lv_at hl 1 rfl) ?_
      refine lv_bipush (v := 14) hx hb dX5_has_13 (by decide) ?_
      refine lv_icmp_ge (tgt := 22) hx hb dX5_has_15 (by decide) (fun hc3 => ?_) (fun hc3 => ?_)
      · have h := it h hc3
        refine lv_iconst (v := 0) hx hb dX5_has_22 (by decide) ?_
        exact rZ B X rfl (Option.some.inj h) rfl dX5_has_23
      · have h := ie h hc3
        refine lv_iconst (v := 1) hx hb dX5_has_18 (by decide) ?_
        refine lv_goto (tgt := 23) hx hb dX5_has_19 (by decide) ?_
        exact rZ B X rfl (Option.some.inj h) rfl dX5_has_23
def fX5_keyAt (z : SX5) (x1 : Int32) : Option Int32 :=
    if x1 < 0 then (some (-1)) else
    (if z.2 ≤ x1 then (some (-1)) else
    (if 14 ≤ x1 then (some (-1)) else
    (if x1 < 0 ∨ 14 ≤ x1.toNatClampNeg then none else
    (some (z.1 x1.toNatClampNeg)))))
set_option maxRecDepth 100000 in
set_option maxHeartbeats 4000000 in
theorem tX5_keyAt {a0 a1 p0 p1 : Nat} {wf : SX5 → va_W} (L : LnX5 a0 a1 p0 p1 cI wf) {d : Nat} (hd : 1 ≤ d) {z : SX5} {x1 : Int32} {q : Int32} (h : fX5_keyAt z x1 = some q) : Ct l yX5_keyAt cX5_keyAt 2 (some .int) d A g D [(cI, .int), (cB, .byte)] [.ref a0, .int x1] (wf z) (QI A D (wf z) q) := by
  refine mkM (by decide) (Nat.le_of_ble_eq_true rfl) ?_
  intro p e S m args below meth c B X ls hl
  have B : Bd RX5 cX5_keyAt 2 (some .int) d A g D [(cI, .int), (cB, .byte)] p (rmd d) S m args meth c := B
  have hx := B.1
  have hb := B.2.1
  have hd1 : 1 ≤ d := by omega
  have hl : lv_has ls 2 [(0, .ref a0), (1, .int x1)] := hl
  unfold fX5_keyAt at h
  refine lv_iload_n hx hb dX5_keyAt_0 rfl (lv_at hl 1 rfl) ?_
  refine lv_if_lt (tgt := 27) hx hb dX5_keyAt_1 (by decide) (fun hc1 => ?_) (fun hc1 => ?_)
  · have h := it h hc1
    refine lv_iconst (v := (-1)) hx hb dX5_keyAt_27 (by decide) ?_
    exact rI B X rfl (Option.some.inj h) dX5_keyAt_28
  · have h := ie h hc1
    refine lv_iload_n hx hb dX5_keyAt_4 rfl (lv_at hl 1 rfl) ?_
    refine lv_aload_n hx hb dX5_keyAt_5 rfl (lv_at hl 0 rfl) ?_
    refine fG B X (LnX5_g L z) 1 rfl inTX5 (by decide) kw166 rfl dX5_keyAt_6 ?_
    refine lv_icmp_ge (tgt := 27) hx hb dX5_keyAt_9 (by decide) (fun hc2 => ?_) (fun hc2 => ?_)
    · have h := it h hc2
      refine lv_iconst (v := (-1)) hx hb dX5_keyAt_27 (by decide) ?_
      exact rI B X rfl (Option.some.inj h) dX5_keyAt_28
    · have h := ie h hc2
      refine lv_iload_n hx hb dX5_keyAt_12 rfl (lv_at hl 1 rfl) ?_
      refine lv_bipush (v := 14) hx hb dX5_keyAt_13 (by decide) ?_
      refine lv_icmp_ge (tgt := 27) hx hb dX5_keyAt_15 (by decide) (fun hc3 => ?_) (fun hc3 => ?_)
      · have h := it h hc3
        refine lv_iconst (v := (-1)) hx hb dX5_keyAt_27 (by decide) ?_
        exact rI B X rfl (Option.some.inj h) dX5_keyAt_28
      · have h := ie h hc3
        refine lv_aload_n hx hb dX5_keyAt_18 rfl (lv_at hl 0 rfl) ?_
        refine fG B X (LnX5_g L z) 0 rfl inTX5 (by decide) kw165 rfl dX5_keyAt_19 ?_
        refine lv_iload_n hx hb dX5_keyAt_22 rfl (lv_at hl 1 rfl) ?_
        by_cases hc4 : (x1 < 0 ∨ 14 ≤ x1.toNatClampNeg)
        · cases it h hc4
        have h := ie h hc4
        refine aG B X (LnX5_a0 L z) 0 rfl hc4 dX5_keyAt_23 ?_
        refine lv_goto (tgt := 28) hx hb dX5_keyAt_24 (by decide) ?_
        exact rI B X rfl (Option.some.inj h) dX5_keyAt_28
def fX5_clear (z : SX5) : Option SX5 :=
    some (z.1, 0)
set_option maxRecDepth 100000 in
set_option maxHeartbeats 4000000 in
theorem tX5_clear {a0 a1 p0 p1 : Nat} {wf : SX5 → va_W} (L : LnX5 a0 a1 p0 p1 cI wf) {d : Nat} (hd : 1 ≤ d) {z : SX5} {q : SX5} (h : fX5_clear z = some q) : Ct l yX5_clear cX5_clear 1 none d A g D [(cI, .int), (cB, .byte)] [.ref a0] (wf z) (QV A D (wf q)) := by
  refine mkM (by decide) (Nat.le_of_ble_eq_true rfl) ?_
  intro p e S m args below meth c B X ls hl
  have B : Bd RX5 cX5_clear 1 none d A g D [(cI, .int), (cB, .byte)] p (rmd d) S m args meth c := B
  have hx := B.1
  have hb := B.2.1
  have hd1 : 1 ≤ d := by omega
  have hl : lv_has ls 1 [(0, .ref a0)] := hl
  unfold fX5_clear at h
  refine lv_aload_n hx hb dX5_clear_0 rfl (lv_at hl 0 rfl) ?_
  refine lv_iconst (v := 0) hx hb dX5_clear_1 (by decide) ?_
  refine fP tyX5 B X (LnX5_g L z) 1 (LnX5_i1 L z _) rfl inTX5 tyX5_ok nmX5 (by decide) kw166 rfl rfl rfl rfl (Nat.le_of_ble_eq_true rfl) dX5_clear_2 (fun H locs X => ?_)
  have X : Hx A D S.heap (wf (z.1, 0)) H locs := X
  exact rV B X (congrArg wf (Option.some.inj h)) dX5_clear_5
def fX5_add (z : SX5) (x1 : Int32) : Option SX5 :=
    if z.2 < 0 then (some z) else
    (if 14 ≤ z.2 then (some z) else
    (if z.2 < 0 ∨ 14 ≤ z.2.toNatClampNeg then none else
    (some ((upd z.1 z.2.toNatClampNeg x1), (z.2 + 1)))))
set_option maxRecDepth 100000 in
set_option maxHeartbeats 4000000 in
theorem tX5_add {a0 a1 p0 p1 : Nat} {wf : SX5 → va_W} (L : LnX5 a0 a1 p0 p1 cI wf) {d : Nat} (hd : 1 ≤ d) {z : SX5} {x1 : Int32} {q : SX5} (h : fX5_add z x1 = some q) : Ct l yX5_add cX5_add 2 none d A g D [(cI, .int), (cB, .byte)] [.ref a0, .int x1] (wf z) (QV A D (wf q)) := by
  refine mkM (by decide) (Nat.le_of_ble_eq_true rfl) ?_
  intro p e S m args below meth c B X ls hl
  have B : Bd RX5 cX5_add 2 none d A g D [(cI, .int), (cB, .byte)] p (rmd d) S m args meth c := B
  have hx := B.1
  have hb := B.2.1
  have hd1 : 1 ≤ d := by omega
  have hl : lv_has ls 2 [(0, .ref a0), (1, .int x1)] := hl
  unfold fX5_add at h
  refine lv_aload_n hx hb dX5_add_0 rfl (lv_at hl 0 rfl) ?_
  refine fG B X (LnX5_g L z) 1 rfl inTX5 (by decide) kw166 rfl dX5_add_1 ?_
  refine lv_if_lt (tgt := 36) hx hb dX5_add_4 (by decide) (fun hc1 => ?_) (fun hc1 => ?_)
  · have h := it h hc1
    exact rV B X (congrArg wf (Option.some.inj h)) dX5_add_36
  · have h := ie h hc1
    refine lv_aload_n hx hb dX5_add_7 rfl (lv_at hl 0 rfl) ?_
    refine fG B X (LnX5_g L z) 1 rfl inTX5 (by decide) kw166 rfl dX5_add_8 ?_
    refine lv_bipush (v := 14) hx hb dX5_add_11 (by decide) ?_
    refine lv_icmp_ge (tgt := 36) hx hb dX5_add_13 (by decide) (fun hc2 => ?_) (fun hc2 => ?_)
    · have h := it h hc2
      exact rV B X (congrArg wf (Option.some.inj h)) dX5_add_36
    · have h := ie h hc2
      refine lv_aload_n hx hb dX5_add_16 rfl (lv_at hl 0 rfl) ?_
      refine fG B X (LnX5_g L z) 0 rfl inTX5 (by decide) kw165 rfl dX5_add_17 ?_
      refine lv_aload_n hx hb dX5_add_20 rfl (lv_at hl 0 rfl) ?_
      refine fG B X (LnX5_g L z) 1 rfl inTX5 (by decide) kw166 rfl dX5_add_21 ?_
      refine lv_iload_n hx hb dX5_add_24 rfl (lv_at hl 1 rfl) ?_
      by_cases hc3 : (z.2 < 0 ∨ 14 ≤ z.2.toNatClampNeg)
      · cases it h hc3
      have h := ie h hc3
      refine aP B X (LnX5_a0 L z) (LnX5_b0 L z _) 0 rfl hc3 dX5_add_25 (fun H locs X => ?_)
      have X : Hx A D S.heap (wf ((upd z.1 z.2.toNatClampNeg x1), z.2)) H locs := X
      refine lv_aload_n hx hb dX5_add_26 rfl (lv_at hl 0 rfl) ?_
      refine lv_dup hx hb dX5_add_27 rfl ?_
      refine fG B X (LnX5_g L ((upd z.1 z.2.toNatClampNeg x1), z.2)) 1 rfl inTX5 (by decide) kw166 rfl dX5_add_28 ?_
      refine lv_iconst (v := 1) hx hb dX5_add_31 (by decide) ?_
      refine lv_iadd hx hb dX5_add_32 ?_
      refine fP tyX5 B X (LnX5_g L ((upd z.1 z.2.toNatClampNeg x1), z.2)) 1 (LnX5_i1 L ((upd z.1 z.2.toNatClampNeg x1), z.2) _) rfl inTX5 tyX5_ok nmX5 (by decide) kw166 rfl rfl rfl rfl (Nat.le_of_ble_eq_true rfl) dX5_add_33 (fun H locs X => ?_)
      have X : Hx A D S.heap (wf ((upd z.1 z.2.toNatClampNeg x1), (z.2 + 1))) H locs := X
      exact rV B X (congrArg wf (Option.some.inj h)) dX5_add_36
def fX5_change (z : SX5) (x1 : Int32) (x2 : Int32) : Option SX5 :=
    (fX5_has z x1).bind fun q1 =>
    if q1 = 0 then (some z) else
    (if x1 < 0 ∨ 14 ≤ x1.toNatClampNeg then none else
    (some ((upd z.1 x1.toNatClampNeg x2), z.2)))
set_option maxRecDepth 100000 in
set_option maxHeartbeats 4000000 in
theorem tX5_change {a0 a1 p0 p1 : Nat} {wf : SX5 → va_W} (L : LnX5 a0 a1 p0 p1 cI wf) {d : Nat} (hd : 2 ≤ d) {z : SX5} {x1 x2 : Int32} {q : SX5} (h : fX5_change z x1 x2 = some q) : Ct l yX5_change cX5_change 3 none d A g D [(cI, .int), (cB, .byte)] [.ref a0, .int x1, .int x2] (wf z) (QV A D (wf q)) := by
  refine mkM (by decide) (Nat.le_of_ble_eq_true rfl) ?_
  intro p e S m args below meth c B X ls hl
  have B : Bd RX5 cX5_change 3 none d A g D [(cI, .int), (cB, .byte)] p (rmd d) S m args meth c := B
  have hx := B.1
  have hb := B.2.1
  have hd1 : 1 ≤ d := by omega
  have hl : lv_has ls 3 [(0, .ref a0), (1, .int x1), (2, .int x2)] := hl
  unfold fX5_change at h
  refine lv_aload_n hx hb dX5_change_0 rfl (lv_at hl 0 rfl) ?_
  refine lv_iload_n hx hb dX5_change_1 rfl (lv_at hl 1 rfl) ?_
  obtain ⟨q1, h1, h⟩ := bs h
  refine kI X (cV (As := [.int x1]) (rest := []) B X (tX5_has (d := d - 1) L (by omega) h1) mfX5_has kw572 (by omega) (LnX5_g L z) rfl rfl (Nat.le_of_ble_eq_true rfl) hl.1 ⟨Nat.zero_le _, Nat.zero_le _⟩ dX5_change_2) (fun H locs X => ?_)
  have X : Hx A D S.heap (wf z) H locs := X
  refine lv_if_eq (tgt := 15) hx hb dX5_change_5 (by decide) (fun hc2 => ?_) (fun hc2 => ?_)
  · have h := it h hc2
    exact rV B X (congrArg wf (Option.some.inj h)) dX5_change_15
  · have h := ie h hc2
    refine lv_aload_n hx hb dX5_change_8 rfl (lv_at hl 0 rfl) ?_
    refine fG B X (LnX5_g L z) 0 rfl inTX5 (by decide) kw165 rfl dX5_change_9 ?_
    refine lv_iload_n hx hb dX5_change_12 rfl (lv_at hl 1 rfl) ?_
    refine lv_iload_n hx hb dX5_change_13 rfl (lv_at hl 2 rfl) ?_
    by_cases hc3 : (x1 < 0 ∨ 14 ≤ x1.toNatClampNeg)
    · cases it h hc3
    have h := ie h hc3
    refine aP B X (LnX5_a0 L z) (LnX5_b0 L z _) 0 rfl hc3 dX5_change_14 (fun H locs X => ?_)
    have X : Hx A D S.heap (wf ((upd z.1 x1.toNatClampNeg x2), z.2)) H locs := X
    exact rV B X (congrArg wf (Option.some.inj h)) dX5_change_15
def fX5_remove_b12 : Nat → Int32 → SX5 → Option SX5
  | 0, _, _ => none
  | n + 1, x2, z =>
    if z.2 ≤ x2 then (some (z.1, (z.2 - 1))) else
    ((fX5_keyAt z x2).bind fun q2 =>
    (fX5_change z (x2 - 1) q2).bind fun q3 =>
    fX5_remove_b12 n (x2 + 1) q3)
set_option maxRecDepth 100000 in
set_option maxHeartbeats 4000000 in
theorem tX5_remove_b12 {a0 a1 p0 p1 : Nat} {wf : SX5 → va_W} (L : LnX5 a0 a1 p0 p1 cI wf) {d : Nat} (hd : 3 ≤ d) (B : Bd RX5 cX5_remove 3 none d A g D [(cI, .int), (cB, .byte)] p R S m args meth c) {q : SX5} : ∀ (n : Nat) (x2 : Int32) (z : SX5) (H : Heap) (locs : List Loc) (ls : Array Slot), Hx A D S.heap (wf z) H locs → lv_has ls 3 [(0, .ref a0), (2, .int x2)] → fX5_remove_b12 n x2 z = some q → W p l e R S m args below meth c H locs 0 0 (MQ below (QV A D (wf q)) args S 0 0 A) (F0 m 12 ls []) := by
  have hx := B.1
  have hb := B.2.1
  have hd1 : 1 ≤ d := by omega
  intro n
  induction n with
  | zero =>
    intro x2 z H locs ls X hl h
    cases h
  | succ n ih =>
    intro x2 z H locs ls X hl h
    rw [fX5_remove_b12] at h
    refine lv_iload_n hx hb dX5_remove_12 rfl (lv_at hl 1 rfl) ?_
    refine lv_aload_n hx hb dX5_remove_13 rfl (lv_at hl 0 rfl) ?_
    refine fG B X (LnX5_g L z) 1 rfl inTX5 (by decide) kw166 rfl dX5_remove_14 ?_
    refine lv_icmp_ge (tgt := 38) hx hb dX5_remove_17 (by decide) (fun hc1 => ?_) (fun hc1 => ?_)
    · have h := it h hc1
      refine lv_aload_n hx hb dX5_remove_38 rfl (lv_at hl 0 rfl) ?_
      refine lv_dup hx hb dX5_remove_39 rfl ?_
      refine fG B X (LnX5_g L z) 1 rfl inTX5 (by decide) kw166 rfl dX5_remove_40 ?_
      refine lv_iconst (v := 1) hx hb dX5_remove_43 (by decide) ?_
      refine lv_isub hx hb dX5_remove_44 ?_
      refine fP tyX5 B X (LnX5_g L z) 1 (LnX5_i1 L z _) rfl inTX5 tyX5_ok nmX5 (by decide) kw166 rfl rfl rfl rfl (Nat.le_of_ble_eq_true rfl) dX5_remove_45 (fun H locs X => ?_)
      have X : Hx A D S.heap (wf (z.1, (z.2 - 1))) H locs := X
      exact rV B X (congrArg wf (Option.some.inj h)) dX5_remove_48
    · have h := ie h hc1
      refine lv_aload_n hx hb dX5_remove_20 rfl (lv_at hl 0 rfl) ?_
      refine lv_iload_n hx hb dX5_remove_21 rfl (lv_at hl 1 rfl) ?_
      refine lv_iconst (v := 1) hx hb dX5_remove_22 (by decide) ?_
      refine lv_isub hx hb dX5_remove_23 ?_
      refine lv_aload_n hx hb dX5_remove_24 rfl (lv_at hl 0 rfl) ?_
      refine lv_iload_n hx hb dX5_remove_25 rfl (lv_at hl 1 rfl) ?_
      obtain ⟨q2, h2, h⟩ := bs h
      refine kI X (cV (As := [.int x2]) (rest := [.int (x2 - 1), .ref a0]) B X (tX5_keyAt (d := d - 1) L (by omega) h2) mfX5_keyAt kw573 (by omega) (LnX5_g L z) rfl rfl (Nat.le_of_ble_eq_true rfl) hl.1 ⟨Nat.zero_le _, Nat.zero_le _⟩ dX5_remove_26) (fun H locs X => ?_)
      have X : Hx A D S.heap (wf z) H locs := X
      obtain ⟨q3, h3, h⟩ := bs h
      refine kV X (cV (As := [.int (x2 - 1), .int q2]) (rest := []) B X (tX5_change (d := d - 1) L (by omega) h3) mfX5_change kw574 (by omega) (LnX5_g L z) rfl rfl (Nat.le_of_ble_eq_true rfl) hl.1 ⟨Nat.zero_le _, Nat.zero_le _⟩ dX5_remove_29) (fun H locs X => ?_)
      have X : Hx A D S.heap (wf q3) H locs := X
      refine lv_iinc (v := x2 + 1) (lv' := [(2, .int (x2 + 1)), (0, .ref a0)]) hx hb dX5_remove_32 hl (k := 1) rfl rfl (by decide) rfl (fun ls hl => ?_)
      refine lv_goto (tgt := 12) hx hb dX5_remove_35 (by decide) ?_
      exact ih (x2 + 1) q3 _ _ _ X (lv_sub hl [1, 0] rfl) h
def fX5_remove (z : SX5) (x1 : Int32) : Option SX5 :=
    (fX5_has z x1).bind fun q1 =>
    if q1 = 0 then (some z) else
    (fX5_remove_b12 1000 (x1 + 1) z)
set_option maxRecDepth 100000 in
set_option maxHeartbeats 4000000 in
theorem tX5_remove {a0 a1 p0 p1 : Nat} {wf : SX5 → va_W} (L : LnX5 a0 a1 p0 p1 cI wf) {d : Nat} (hd : 3 ≤ d) {z : SX5} {x1 : Int32} {q : SX5} (h : fX5_remove z x1 = some q) : Ct l yX5_remove cX5_remove 3 none d A g D [(cI, .int), (cB, .byte)] [.ref a0, .int x1] (wf z) (QV A D (wf q)) := by
  refine mkM (by decide) (Nat.le_of_ble_eq_true rfl) ?_
  intro p e S m args below meth c B X ls hl
  have B : Bd RX5 cX5_remove 3 none d A g D [(cI, .int), (cB, .byte)] p (rmd d) S m args meth c := B
  have hx := B.1
  have hb := B.2.1
  have hd1 : 1 ≤ d := by omega
  have hl : lv_has ls 3 [(0, .ref a0), (1, .int x1)] := hl
  unfold fX5_remove at h
  refine lv_aload_n hx hb dX5_remove_0 rfl (lv_at hl 0 rfl) ?_
  refine lv_iload_n hx hb dX5_remove_1 rfl (lv_at hl 1 rfl) ?_
  obtain ⟨q1, h1, h⟩ := bs h
  refine kI X (cV (As := [.int x1]) (rest := []) B X (tX5_has (d := d - 1) L (by omega) h1) mfX5_has kw572 (by omega) (LnX5_g L z) rfl rfl (Nat.le_of_ble_eq_true rfl) hl.1 ⟨Nat.zero_le _, Nat.zero_le _⟩ dX5_remove_2) (fun H locs X => ?_)
  have X : Hx A D S.heap (wf z) H locs := X
  refine lv_if_eq (tgt := 48) hx hb dX5_remove_5 (by decide) (fun hc2 => ?_) (fun hc2 => ?_)
  · have h := it h hc2
    exact rV B X (congrArg wf (Option.some.inj h)) dX5_remove_48
  · have h := ie h hc2
    refine lv_iload_n hx hb dX5_remove_8 rfl (lv_at hl 1 rfl) ?_
    refine lv_iconst (v := 1) hx hb dX5_remove_9 (by decide) ?_
    refine lv_iadd hx hb dX5_remove_10 ?_
    refine lv_istore_n (lv' := [(2, .int (x1 + 1)), (0, .ref a0), (1, .int x1)]) hx hb dX5_remove_11 rfl hl (by decide) rfl (fun ls hl => ?_)
    exact tX5_remove_b12 L hd B 1000 (x1 + 1) z _ _ _ X (lv_sub hl [1, 0] rfl) h
def fX5_rowsWithKey_b4 (z : SX5) : Nat → Int32 → Int32 → Option Int32
  | 0, _, _ => none
  | n + 1, x1, x2 =>
    if z.2 ≤ x2 then (some x1) else
    (if 14 ≤ x2 then (some x1) else
    (if x2 < 0 ∨ 14 ≤ x2.toNatClampNeg then none else
    (if (z.1 x2.toNatClampNeg) = (-1) then (fX5_rowsWithKey_b4 z n x1 (x2 + 1)) else
    (fX5_rowsWithKey_b4 z n (x1 ||| (1 <<< (x2 &&& 31))) (x2 + 1)))))
set_option maxRecDepth 100000 in
set_option maxHeartbeats 4000000 in
theorem tX5_rowsWithKey_b4 {a0 a1 p0 p1 : Nat} {wf : SX5 → va_W} (L : LnX5 a0 a1 p0 p1 cI wf) {d : Nat} (hd : 1 ≤ d) {z : SX5} (B : Bd RX5 cX5_rowsWithKey 3 (some .int) d A g D [(cI, .int), (cB, .byte)] p R S m args meth c) {q : Int32} : ∀ (n : Nat) (x1 : Int32) (x2 : Int32) (H : Heap) (locs : List Loc) (ls : Array Slot), Hx A D S.heap (wf z) H locs → lv_has ls 3 [(0, .ref a0), (1, .int x1), (2, .int x2)] → fX5_rowsWithKey_b4 z n x1 x2 = some q → W p l e R S m args below meth c H locs 0 0 (MQ below (QI A D (wf z) q) args S 0 0 A) (F0 m 4 ls []) := by
  have hx := B.1
  have hb := B.2.1
  have hd1 : 1 ≤ d := by omega
  intro n
  induction n with
  | zero =>
    intro x1 x2 H locs ls X hl h
    cases h
  | succ n ih =>
    intro x1 x2 H locs ls X hl h
    rw [fX5_rowsWithKey_b4] at h
    refine lv_iload_n hx hb dX5_rowsWithKey_4 rfl (lv_at hl 2 rfl) ?_
    refine lv_aload_n hx hb dX5_rowsWithKey_5 rfl (lv_at hl 0 rfl) ?_
    refine fG B X (LnX5_g L z) 1 rfl inTX5 (by decide) kw166 rfl dX5_rowsWithKey_6 ?_
    refine lv_icmp_ge (tgt := 40) hx hb dX5_rowsWithKey_9 (by decide) (fun hc1 => ?_) (fun hc1 => ?_)
    · have h := it h hc1
      refine lv_iload_n hx hb dX5_rowsWithKey_40 rfl (lv_at hl 1 rfl) ?_
      exact rI B X rfl (Option.some.inj h) dX5_rowsWithKey_41
    · have h := ie h hc1
      refine lv_iload_n hx hb dX5_rowsWithKey_12 rfl (lv_at hl 2 rfl) ?_
      refine lv_bipush (v := 14) hx hb dX5_rowsWithKey_13 (by decide) ?_
      refine lv_icmp_ge (tgt := 40) hx hb dX5_rowsWithKey_15 (by decide) (fun hc2 => ?_) (fun hc2 => ?_)
      · have h := it h hc2
        refine lv_iload_n hx hb dX5_rowsWithKey_40 rfl (lv_at hl 1 rfl) ?_
        exact rI B X rfl (Option.some.inj h) dX5_rowsWithKey_41
      · have h := ie h hc2
        refine lv_aload_n hx hb dX5_rowsWithKey_18 rfl (lv_at hl 0 rfl) ?_
        refine fG B X (LnX5_g L z) 0 rfl inTX5 (by decide) kw165 rfl dX5_rowsWithKey_19 ?_
        refine lv_iload_n hx hb dX5_rowsWithKey_22 rfl (lv_at hl 2 rfl) ?_
        by_cases hc3 : (x2 < 0 ∨ 14 ≤ x2.toNatClampNeg)
        · cases it h hc3
        have h := ie h hc3
        refine aG B X (LnX5_a0 L z) 0 rfl hc3 dX5_rowsWithKey_23 ?_
        refine lv_iconst (v := (-1)) hx hb dX5_rowsWithKey_24 (by decide) ?_
        refine lv_icmp_eq (tgt := 34) hx hb dX5_rowsWithKey_25 (by decide) (fun hc4 => ?_) (fun hc4 => ?_)
        · have h := it h hc4
          refine lv_iinc (v := x2 + 1) (lv' := [(2, .int (x2 + 1)), (0, .ref a0), (1, .int x1)]) hx hb dX5_rowsWithKey_34 hl (k := 2) rfl rfl (by decide) rfl (fun ls hl => ?_)
          refine lv_goto (tgt := 4) hx hb dX5_rowsWithKey_37 (by decide) ?_
          exact ih x1 (x2 + 1) _ _ _ X (lv_sub hl [1, 2, 0] rfl) h
        · have h := ie h hc4
          refine lv_iload_n hx hb dX5_rowsWithKey_28 rfl (lv_at hl 1 rfl) ?_
          refine lv_iconst (v := 1) hx hb dX5_rowsWithKey_29 (by decide) ?_
          refine lv_iload_n hx hb dX5_rowsWithKey_30 rfl (lv_at hl 2 rfl) ?_
          refine lv_ishl hx hb dX5_rowsWithKey_31 ?_
          refine lv_ior hx hb dX5_rowsWithKey_32 ?_
          refine lv_istore_n (lv' := [(1, .int (x1 ||| (1 <<< (x2 &&& 31)))), (0, .ref a0), (2, .int x2)]) hx hb dX5_rowsWithKey_33 rfl hl (by decide) rfl (fun ls hl => ?_)
          refine lv_iinc (v := x2 + 1) (lv' := [(2, .int (x2 + 1)), (1, .int (x1 ||| (1 <<< (x2 &&& 31)))), (0, .ref a0)]) hx hb dX5_rowsWithKey_34 hl (k := 2) rfl rfl (by decide) rfl (fun ls hl => ?_)
          refine lv_goto (tgt := 4) hx hb dX5_rowsWithKey_37 (by decide) ?_
          exact ih (x1 ||| (1 <<< (x2 &&& 31))) (x2 + 1) _ _ _ X (lv_sub hl [2, 1, 0] rfl) h
def fX5_rowsWithKey (z : SX5) : Option Int32 :=
    fX5_rowsWithKey_b4 z 1000 0 0
set_option maxRecDepth 100000 in
set_option maxHeartbeats 4000000 in
theorem tX5_rowsWithKey {a0 a1 p0 p1 : Nat} {wf : SX5 → va_W} (L : LnX5 a0 a1 p0 p1 cI wf) {d : Nat} (hd : 1 ≤ d) {z : SX5} {q : Int32} (h : fX5_rowsWithKey z = some q) : Ct l yX5_rowsWithKey cX5_rowsWithKey 3 (some .int) d A g D [(cI, .int), (cB, .byte)] [.ref a0] (wf z) (QI A D (wf z) q) := by
  refine mkM (by decide) (Nat.le_of_ble_eq_true rfl) ?_
  intro p e S m args below meth c B X ls hl
  have B : Bd RX5 cX5_rowsWithKey 3 (some .int) d A g D [(cI, .int), (cB, .byte)] p (rmd d) S m args meth c := B
  have hx := B.1
  have hb := B.2.1
  have hd1 : 1 ≤ d := by omega
  have hl : lv_has ls 3 [(0, .ref a0)] := hl
  unfold fX5_rowsWithKey at h
  refine lv_iconst (v := 0) hx hb dX5_rowsWithKey_0 (by decide) ?_
  refine lv_istore_n (lv' := [(1, .int 0), (0, .ref a0)]) hx hb dX5_rowsWithKey_1 rfl hl (by decide) rfl (fun ls hl => ?_)
  refine lv_iconst (v := 0) hx hb dX5_rowsWithKey_2 (by decide) ?_
  refine lv_istore_n (lv' := [(2, .int 0), (1, .int 0), (0, .ref a0)]) hx hb dX5_rowsWithKey_3 rfl hl (by decide) rfl (fun ls hl => ?_)
  exact tX5_rowsWithKey_b4 L hd B 1000 0 0 _ _ _ X (lv_sub hl [2, 1, 0] rfl) h
def fX5_rowsWithoutKey (z : SX5) : Option Int32 :=
    (fX5_rowsWithKey z).bind fun q1 =>
    some (((1 <<< (z.2 &&& 31)) - 1) &&& (q1 ^^^ (-1)))
set_option maxRecDepth 100000 in
set_option maxHeartbeats 4000000 in
theorem tX5_rowsWithoutKey {a0 a1 p0 p1 : Nat} {wf : SX5 → va_W} (L : LnX5 a0 a1 p0 p1 cI wf) {d : Nat} (hd : 2 ≤ d) {z : SX5} {q : Int32} (h : fX5_rowsWithoutKey z = some q) : Ct l yX5_rowsWithoutKey cX5_rowsWithoutKey 1 (some .int) d A g D [(cI, .int), (cB, .byte)] [.ref a0] (wf z) (QI A D (wf z) q) := by
  refine mkM (by decide) (Nat.le_of_ble_eq_true rfl) ?_
  intro p e S m args below meth c B X ls hl
  have B : Bd RX5 cX5_rowsWithoutKey 1 (some .int) d A g D [(cI, .int), (cB, .byte)] p (rmd d) S m args meth c := B
  have hx := B.1
  have hb := B.2.1
  have hd1 : 1 ≤ d := by omega
  have hl : lv_has ls 1 [(0, .ref a0)] := hl
  unfold fX5_rowsWithoutKey at h
  refine lv_iconst (v := 1) hx hb dX5_rowsWithoutKey_0 (by decide) ?_
  refine lv_aload_n hx hb dX5_rowsWithoutKey_1 rfl (lv_at hl 0 rfl) ?_
  refine fG B X (LnX5_g L z) 1 rfl inTX5 (by decide) kw166 rfl dX5_rowsWithoutKey_2 ?_
  refine lv_ishl hx hb dX5_rowsWithoutKey_5 ?_
  refine lv_iconst (v := 1) hx hb dX5_rowsWithoutKey_6 (by decide) ?_
  refine lv_isub hx hb dX5_rowsWithoutKey_7 ?_
  refine lv_aload_n hx hb dX5_rowsWithoutKey_8 rfl (lv_at hl 0 rfl) ?_
  obtain ⟨q1, h1, h⟩ := bs h
  refine kI X (cV (As := []) (rest := [.int ((1 <<< (z.2 &&& 31)) - 1)]) B X (tX5_rowsWithKey (d := d - 1) L (by omega) h1) mfX5_rowsWithKey kw710 (by omega) (LnX5_g L z) rfl rfl (Nat.le_of_ble_eq_true rfl) hl.1 ⟨Nat.zero_le _, Nat.zero_le _⟩ dX5_rowsWithoutKey_9) (fun H locs X => ?_)
  have X : Hx A D S.heap (wf z) H locs := X
  refine lv_iconst (v := (-1)) hx hb dX5_rowsWithoutKey_12 (by decide) ?_
  refine lv_ixor hx hb dX5_rowsWithoutKey_13 ?_
  refine lv_iand hx hb dX5_rowsWithoutKey_14 ?_
  exact rI B X rfl (Option.some.inj h) dX5_rowsWithoutKey_15
def fX5_rowsOfKey_b4 (z : SX5) : Nat → Int32 → Int32 → Int32 → Option Int32
  | 0, _, _, _ => none
  | n + 1, x1, x2, x3 =>
    if z.2 ≤ x3 then (some x2) else
    (if 14 ≤ x3 then (some x2) else
    (if x3 < 0 ∨ 14 ≤ x3.toNatClampNeg then none else
    (if (z.1 x3.toNatClampNeg) = x1 then (fX5_rowsOfKey_b4 z n x1 (x2 ||| (1 <<< (x3 &&& 31))) (x3 + 1)) else
    (fX5_rowsOfKey_b4 z n x1 x2 (x3 + 1)))))
set_option maxRecDepth 100000 in
set_option maxHeartbeats 4000000 in
theorem tX5_rowsOfKey_b4 {a0 a1 p0 p1 : Nat} {wf : SX5 → va_W} (L : LnX5 a0 a1 p0 p1 cI wf) {d : Nat} (hd : 1 ≤ d) {z : SX5} (B : Bd RX5 cX5_rowsOfKey 4 (some .int) d A g D [(cI, .int), (cB, .byte)] p R S m args meth c) {q : Int32} : ∀ (n : Nat) (x1 : Int32) (x2 : Int32) (x3 : Int32) (H : Heap) (locs : List Loc) (ls : Array Slot), Hx A D S.heap (wf z) H locs → lv_has ls 4 [(0, .ref a0), (1, .int x1), (2, .int x2), (3, .int x3)] → fX5_rowsOfKey_b4 z n x1 x2 x3 = some q → W p l e R S m args below meth c H locs 0 0 (MQ below (QI A D (wf z) q) args S 0 0 A) (F0 m 4 ls []) := by
  have hx := B.1
  have hb := B.2.1
  have hd1 : 1 ≤ d := by omega
  intro n
  induction n with
  | zero =>
    intro x1 x2 x3 H locs ls X hl h
    cases h
  | succ n ih =>
    intro x1 x2 x3 H locs ls X hl h
    rw [fX5_rowsOfKey_b4] at h
    refine lv_iload_n hx hb dX5_rowsOfKey_4 rfl (lv_at hl 3 rfl) ?_
    refine lv_aload_n hx hb dX5_rowsOfKey_5 rfl (lv_at hl 0 rfl) ?_
    refine fG B X (LnX5_g L z) 1 rfl inTX5 (by decide) kw166 rfl dX5_rowsOfKey_6 ?_
    refine lv_icmp_ge (tgt := 40) hx hb dX5_rowsOfKey_9 (by decide) (fun hc1 => ?_) (fun hc1 => ?_)
    · have h := it h hc1
      refine lv_iload_n hx hb dX5_rowsOfKey_40 rfl (lv_at hl 2 rfl) ?_
      exact rI B X rfl (Option.some.inj h) dX5_rowsOfKey_41
    · have h := ie h hc1
      refine lv_iload_n hx hb dX5_rowsOfKey_12 rfl (lv_at hl 3 rfl) ?_
      refine lv_bipush (v := 14) hx hb dX5_rowsOfKey_13 (by decide) ?_
      refine lv_icmp_ge (tgt := 40) hx hb dX5_rowsOfKey_15 (by decide) (fun hc2 => ?_) (fun hc2 => ?_)
      · have h := it h hc2
        refine lv_iload_n hx hb dX5_rowsOfKey_40 rfl (lv_at hl 2 rfl) ?_
        exact rI B X rfl (Option.some.inj h) dX5_rowsOfKey_41
      · have h := ie h hc2
        refine lv_aload_n hx hb dX5_rowsOfKey_18 rfl (lv_at hl 0 rfl) ?_
        refine fG B X (LnX5_g L z) 0 rfl inTX5 (by decide) kw165 rfl dX5_rowsOfKey_19 ?_
        refine lv_iload_n hx hb dX5_rowsOfKey_22 rfl (lv_at hl 3 rfl) ?_
        by_cases hc3 : (x3 < 0 ∨ 14 ≤ x3.toNatClampNeg)
        · cases it h hc3
        have h := ie h hc3
        refine aG B X (LnX5_a0 L z) 0 rfl hc3 dX5_rowsOfKey_23 ?_
        refine lv_iload_n hx hb dX5_rowsOfKey_24 rfl (lv_at hl 1 rfl) ?_
        refine lv_icmp_ne (tgt := 34) hx hb dX5_rowsOfKey_25 (by decide) (fun hc4 => ?_) (fun hc4 => ?_)
        · have h := ie h hc4
          refine lv_iinc (v := x3 + 1) (lv' := [(3, .int (x3 + 1)), (0, .ref a0), (1, .int x1), (2, .int x2)]) hx hb dX5_rowsOfKey_34 hl (k := 3) rfl rfl (by decide) rfl (fun ls hl => ?_)
          refine lv_goto (tgt := 4) hx hb dX5_rowsOfKey_37 (by decide) ?_
          exact ih x1 x2 (x3 + 1) _ _ _ X (lv_sub hl [1, 2, 3, 0] rfl) h
        · have h := it h hc4
          refine lv_iload_n hx hb dX5_rowsOfKey_28 rfl (lv_at hl 2 rfl) ?_
          refine lv_iconst (v := 1) hx hb dX5_rowsOfKey_29 (by decide) ?_
          refine lv_iload_n hx hb dX5_rowsOfKey_30 rfl (lv_at hl 3 rfl) ?_
          refine lv_ishl hx hb dX5_rowsOfKey_31 ?_
          refine lv_ior hx hb dX5_rowsOfKey_32 ?_
          refine lv_istore_n (lv' := [(2, .int (x2 ||| (1 <<< (x3 &&& 31)))), (0, .ref a0), (1, .int x1), (3, .int x3)]) hx hb dX5_rowsOfKey_33 rfl hl (by decide) rfl (fun ls hl => ?_)
          refine lv_iinc (v := x3 + 1) (lv' := [(3, .int (x3 + 1)), (2, .int (x2 ||| (1 <<< (x3 &&& 31)))), (0, .ref a0), (1, .int x1)]) hx hb dX5_rowsOfKey_34 hl (k := 3) rfl rfl (by decide) rfl (fun ls hl => ?_)
          refine lv_goto (tgt := 4) hx hb dX5_rowsOfKey_37 (by decide) ?_
          exact ih x1 (x2 ||| (1 <<< (x3 &&& 31))) (x3 + 1) _ _ _ X (lv_sub hl [2, 3, 1, 0] rfl) h
def fX5_rowsOfKey (z : SX5) (x1 : Int32) : Option Int32 :=
    fX5_rowsOfKey_b4 z 1000 x1 0 0
set_option maxRecDepth 100000 in
set_option maxHeartbeats 4000000 in
theorem tX5_rowsOfKey {a0 a1 p0 p1 : Nat} {wf : SX5 → va_W} (L : LnX5 a0 a1 p0 p1 cI wf) {d : Nat} (hd : 1 ≤ d) {z : SX5} {x1 : Int32} {q : Int32} (h : fX5_rowsOfKey z x1 = some q) : Ct l yX5_rowsOfKey cX5_rowsOfKey 4 (some .int) d A g D [(cI, .int), (cB, .byte)] [.ref a0, .int x1] (wf z) (QI A D (wf z) q) := by
  refine mkM (by decide) (Nat.le_of_ble_eq_true rfl) ?_
  intro p e S m args below meth c B X ls hl
  have B : Bd RX5 cX5_rowsOfKey 4 (some .int) d A g D [(cI, .int), (cB, .byte)] p (rmd d) S m args meth c := B
  have hx := B.1
  have hb := B.2.1
  have hd1 : 1 ≤ d := by omega
  have hl : lv_has ls 4 [(0, .ref a0), (1, .int x1)] := hl
  unfold fX5_rowsOfKey at h
  refine lv_iconst (v := 0) hx hb dX5_rowsOfKey_0 (by decide) ?_
  refine lv_istore_n (lv' := [(2, .int 0), (0, .ref a0), (1, .int x1)]) hx hb dX5_rowsOfKey_1 rfl hl (by decide) rfl (fun ls hl => ?_)
  refine lv_iconst (v := 0) hx hb dX5_rowsOfKey_2 (by decide) ?_
  refine lv_istore_n (lv' := [(3, .int 0), (2, .int 0), (0, .ref a0), (1, .int x1)]) hx hb dX5_rowsOfKey_3 rfl hl (by decide) rfl (fun ls hl => ?_)
  exact tX5_rowsOfKey_b4 L hd B 1000 x1 0 0 _ _ _ X (lv_sub hl [2, 3, 1, 0] rfl) h
def fX5_rowsWithBit_b4 (z : SX5) : Nat → Int32 → Int32 → Int32 → Option Int32
  | 0, _, _, _ => none
  | n + 1, x1, x2, x3 =>
    if z.2 ≤ x3 then (some x2) else
    (if 14 ≤ x3 then (some x2) else
    (if x3 < 0 ∨ 14 ≤ x3.toNatClampNeg then none else
    (if (z.1 x3.toNatClampNeg) = (-1) then (fX5_rowsWithBit_b4 z n x1 x2 (x3 + 1)) else
    (if x3 < 0 ∨ 14 ≤ x3.toNatClampNeg then none else
    (if (((z.1 x3.toNatClampNeg) >>> (x1 &&& 31)) &&& 1) = 1 then (fX5_rowsWithBit_b4 z n x1 (x2 ||| (1 <<< (x3 &&& 31))) (x3 + 1)) else
    (fX5_rowsWithBit_b4 z n x1 x2 (x3 + 1)))))))
set_option maxRecDepth 100000 in
set_option maxHeartbeats 4000000 in
theorem tX5_rowsWithBit_b4 {a0 a1 p0 p1 : Nat} {wf : SX5 → va_W} (L : LnX5 a0 a1 p0 p1 cI wf) {d : Nat} (hd : 1 ≤ d) {z : SX5} (B : Bd RX5 cX5_rowsWithBit 4 (some .int) d A g D [(cI, .int), (cB, .byte)] p R S m args meth c) {q : Int32} : ∀ (n : Nat) (x1 : Int32) (x2 : Int32) (x3 : Int32) (H : Heap) (locs : List Loc) (ls : Array Slot), Hx A D S.heap (wf z) H locs → lv_has ls 4 [(0, .ref a0), (1, .int x1), (2, .int x2), (3, .int x3)] → fX5_rowsWithBit_b4 z n x1 x2 x3 = some q → W p l e R S m args below meth c H locs 0 0 (MQ below (QI A D (wf z) q) args S 0 0 A) (F0 m 4 ls []) := by
  have hx := B.1
  have hb := B.2.1
  have hd1 : 1 ≤ d := by omega
  intro n
  induction n with
  | zero =>
    intro x1 x2 x3 H locs ls X hl h
    cases h
  | succ n ih =>
    intro x1 x2 x3 H locs ls X hl h
    rw [fX5_rowsWithBit_b4] at h
    refine lv_iload_n hx hb dX5_rowsWithBit_4 rfl (lv_at hl 3 rfl) ?_
    refine lv_aload_n hx hb dX5_rowsWithBit_5 rfl (lv_at hl 0 rfl) ?_
    refine fG B X (LnX5_g L z) 1 rfl inTX5 (by decide) kw166 rfl dX5_rowsWithBit_6 ?_
    refine lv_icmp_ge (tgt := 54) hx hb dX5_rowsWithBit_9 (by decide) (fun hc1 => ?_) (fun hc1 => ?_)
    · have h := it h hc1
      refine lv_iload_n hx hb dX5_rowsWithBit_54 rfl (lv_at hl 2 rfl) ?_
      exact rI B X rfl (Option.some.inj h) dX5_rowsWithBit_55
    · have h := ie h hc1
      refine lv_iload_n hx hb dX5_rowsWithBit_12 rfl (lv_at hl 3 rfl) ?_
      refine lv_bipush (v := 14) hx hb dX5_rowsWithBit_13 (by decide) ?_
      refine lv_icmp_ge (tgt := 54) hx hb dX5_rowsWithBit_15 (by decide) (fun hc2 => ?_) (fun hc2 => ?_)
      · have h := it h hc2
        refine lv_iload_n hx hb dX5_rowsWithBit_54 rfl (lv_at hl 2 rfl) ?_
        exact rI B X rfl (Option.some.inj h) dX5_rowsWithBit_55
      · have h := ie h hc2
        refine lv_aload_n hx hb dX5_rowsWithBit_18 rfl (lv_at hl 0 rfl) ?_
        refine fG B X (LnX5_g L z) 0 rfl inTX5 (by decide) kw165 rfl dX5_rowsWithBit_19 ?_
        refine lv_iload_n hx hb dX5_rowsWithBit_22 rfl (lv_at hl 3 rfl) ?_
        by_cases hc3 : (x3 < 0 ∨ 14 ≤ x3.toNatClampNeg)
        · cases it h hc3
        have h := ie h hc3
        refine aG B X (LnX5_a0 L z) 0 rfl hc3 dX5_rowsWithBit_23 ?_
        refine lv_iconst (v := (-1)) hx hb dX5_rowsWithBit_24 (by decide) ?_
        refine lv_icmp_eq (tgt := 48) hx hb dX5_rowsWithBit_25 (by decide) (fun hc4 => ?_) (fun hc4 => ?_)
        · have h := it h hc4
          refine lv_iinc (v := x3 + 1) (lv' := [(3, .int (x3 + 1)), (0, .ref a0), (1, .int x1), (2, .int x2)]) hx hb dX5_rowsWithBit_48 hl (k := 3) rfl rfl (by decide) rfl (fun ls hl => ?_)
          refine lv_goto (tgt := 4) hx hb dX5_rowsWithBit_51 (by decide) ?_
          exact ih x1 x2 (x3 + 1) _ _ _ X (lv_sub hl [1, 2, 3, 0] rfl) h
        · have h := ie h hc4
          refine lv_aload_n hx hb dX5_rowsWithBit_28 rfl (lv_at hl 0 rfl) ?_
          refine fG B X (LnX5_g L z) 0 rfl inTX5 (by decide) kw165 rfl dX5_rowsWithBit_29 ?_
          refine lv_iload_n hx hb dX5_rowsWithBit_32 rfl (lv_at hl 3 rfl) ?_
          by_cases hc5 : (x3 < 0 ∨ 14 ≤ x3.toNatClampNeg)
          · cases it h hc5
          have h := ie h hc5
          refine aG B X (LnX5_a0 L z) 0 rfl hc5 dX5_rowsWithBit_33 ?_
          refine lv_iload_n hx hb dX5_rowsWithBit_34 rfl (lv_at hl 1 rfl) ?_
          refine lv_ishr hx hb dX5_rowsWithBit_35 ?_
          refine lv_iconst (v := 1) hx hb dX5_rowsWithBit_36 (by decide) ?_
          refine lv_iand hx hb dX5_rowsWithBit_37 ?_
          refine lv_iconst (v := 1) hx hb dX5_rowsWithBit_38 (by decide) ?_
          refine lv_icmp_ne (tgt := 48) hx hb dX5_rowsWithBit_39 (by decide) (fun hc6 => ?_) (fun hc6 => ?_)
          · have h := ie h hc6
            refine lv_iinc (v := x3 + 1) (lv' := [(3, .int (x3 + 1)), (0, .ref a0), (1, .int x1), (2, .int x2)]) hx hb dX5_rowsWithBit_48 hl (k := 3) rfl rfl (by decide) rfl (fun ls hl => ?_)
            refine lv_goto (tgt := 4) hx hb dX5_rowsWithBit_51 (by decide) ?_
            exact ih x1 x2 (x3 + 1) _ _ _ X (lv_sub hl [1, 2, 3, 0] rfl) h
          · have h := it h hc6
            refine lv_iload_n hx hb dX5_rowsWithBit_42 rfl (lv_at hl 2 rfl) ?_
            refine lv_iconst (v := 1) hx hb dX5_rowsWithBit_43 (by decide) ?_
            refine lv_iload_n hx hb dX5_rowsWithBit_44 rfl (lv_at hl 3 rfl) ?_
            refine lv_ishl hx hb dX5_rowsWithBit_45 ?_
            refine lv_ior hx hb dX5_rowsWithBit_46 ?_
            refine lv_istore_n (lv' := [(2, .int (x2 ||| (1 <<< (x3 &&& 31)))), (0, .ref a0), (1, .int x1), (3, .int x3)]) hx hb dX5_rowsWithBit_47 rfl hl (by decide) rfl (fun ls hl => ?_)
            refine lv_iinc (v := x3 + 1) (lv' := [(3, .int (x3 + 1)), (2, .int (x2 ||| (1 <<< (x3 &&& 31)))), (0, .ref a0), (1, .int x1)]) hx hb dX5_rowsWithBit_48 hl (k := 3) rfl rfl (by decide) rfl (fun ls hl => ?_)
            refine lv_goto (tgt := 4) hx hb dX5_rowsWithBit_51 (by decide) ?_
            exact ih x1 (x2 ||| (1 <<< (x3 &&& 31))) (x3 + 1) _ _ _ X (lv_sub hl [2, 3, 1, 0] rfl) h
def fX5_rowsWithBit (z : SX5) (x1 : Int32) : Option Int32 :=
    fX5_rowsWithBit_b4 z 1000 x1 0 0
set_option maxRecDepth 100000 in
set_option maxHeartbeats 4000000 in
theorem tX5_rowsWithBit {a0 a1 p0 p1 : Nat} {wf : SX5 → va_W} (L : LnX5 a0 a1 p0 p1 cI wf) {d : Nat} (hd : 1 ≤ d) {z : SX5} {x1 : Int32} {q : Int32} (h : fX5_rowsWithBit z x1 = some q) : Ct l yX5_rowsWithBit cX5_rowsWithBit 4 (some .int) d A g D [(cI, .int), (cB, .byte)] [.ref a0, .int x1] (wf z) (QI A D (wf z) q) := by
  refine mkM (by decide) (Nat.le_of_ble_eq_true rfl) ?_
  intro p e S m args below meth c B X ls hl
  have B : Bd RX5 cX5_rowsWithBit 4 (some .int) d A g D [(cI, .int), (cB, .byte)] p (rmd d) S m args meth c := B
  have hx := B.1
  have hb := B.2.1
  have hd1 : 1 ≤ d := by omega
  have hl : lv_has ls 4 [(0, .ref a0), (1, .int x1)] := hl
  unfold fX5_rowsWithBit at h
  refine lv_iconst (v := 0) hx hb dX5_rowsWithBit_0 (by decide) ?_
  refine lv_istore_n (lv' := [(2, .int 0), (0, .ref a0), (1, .int x1)]) hx hb dX5_rowsWithBit_1 rfl hl (by decide) rfl (fun ls hl => ?_)
  refine lv_iconst (v := 0) hx hb dX5_rowsWithBit_2 (by decide) ?_
  refine lv_istore_n (lv' := [(3, .int 0), (2, .int 0), (0, .ref a0), (1, .int x1)]) hx hb dX5_rowsWithBit_3 rfl hl (by decide) rfl (fun ls hl => ?_)
  exact tX5_rowsWithBit_b4 L hd B 1000 x1 0 0 _ _ _ X (lv_sub hl [2, 3, 1, 0] rfl) h
def fX5_keySet_b4 (z : SX5) : Nat → Int32 → Int32 → Option Int32
  | 0, _, _ => none
  | n + 1, x1, x2 =>
    if z.2 ≤ x2 then (some x1) else
    (if 14 ≤ x2 then (some x1) else
    (if x2 < 0 ∨ 14 ≤ x2.toNatClampNeg then none else
    (if (z.1 x2.toNatClampNeg) = (-1) then (fX5_keySet_b4 z n x1 (x2 + 1)) else
    (if x2 < 0 ∨ 14 ≤ x2.toNatClampNeg then none else
    (fX5_keySet_b4 z n (x1 ||| (1 <<< ((z.1 x2.toNatClampNeg) &&& 31))) (x2 + 1))))))
set_option maxRecDepth 100000 in
set_option maxHeartbeats 4000000 in
theorem tX5_keySet_b4 {a0 a1 p0 p1 : Nat} {wf : SX5 → va_W} (L : LnX5 a0 a1 p0 p1 cI wf) {d : Nat} (hd : 1 ≤ d) {z : SX5} (B : Bd RX5 cX5_keySet 3 (some .int) d A g D [(cI, .int), (cB, .byte)] p R S m args meth c) {q : Int32} : ∀ (n : Nat) (x1 : Int32) (x2 : Int32) (H : Heap) (locs : List Loc) (ls : Array Slot), Hx A D S.heap (wf z) H locs → lv_has ls 3 [(0, .ref a0), (1, .int x1), (2, .int x2)] → fX5_keySet_b4 z n x1 x2 = some q → W p l e R S m args below meth c H locs 0 0 (MQ below (QI A D (wf z) q) args S 0 0 A) (F0 m 4 ls []) := by
  have hx := B.1
  have hb := B.2.1
  have hd1 : 1 ≤ d := by omega
  intro n
  induction n with
  | zero =>
    intro x1 x2 H locs ls X hl h
    cases h
  | succ n ih =>
    intro x1 x2 H locs ls X hl h
    rw [fX5_keySet_b4] at h
    refine lv_iload_n hx hb dX5_keySet_4 rfl (lv_at hl 2 rfl) ?_
    refine lv_aload_n hx hb dX5_keySet_5 rfl (lv_at hl 0 rfl) ?_
    refine fG B X (LnX5_g L z) 1 rfl inTX5 (by decide) kw166 rfl dX5_keySet_6 ?_
    refine lv_icmp_ge (tgt := 45) hx hb dX5_keySet_9 (by decide) (fun hc1 => ?_) (fun hc1 => ?_)
    · have h := it h hc1
      refine lv_iload_n hx hb dX5_keySet_45 rfl (lv_at hl 1 rfl) ?_
      exact rI B X rfl (Option.some.inj h) dX5_keySet_46
    · have h := ie h hc1
      refine lv_iload_n hx hb dX5_keySet_12 rfl (lv_at hl 2 rfl) ?_
      refine lv_bipush (v := 14) hx hb dX5_keySet_13 (by decide) ?_
      refine lv_icmp_ge (tgt := 45) hx hb dX5_keySet_15 (by decide) (fun hc2 => ?_) (fun hc2 => ?_)
      · have h := it h hc2
        refine lv_iload_n hx hb dX5_keySet_45 rfl (lv_at hl 1 rfl) ?_
        exact rI B X rfl (Option.some.inj h) dX5_keySet_46
      · have h := ie h hc2
        refine lv_aload_n hx hb dX5_keySet_18 rfl (lv_at hl 0 rfl) ?_
        refine fG B X (LnX5_g L z) 0 rfl inTX5 (by decide) kw165 rfl dX5_keySet_19 ?_
        refine lv_iload_n hx hb dX5_keySet_22 rfl (lv_at hl 2 rfl) ?_
        by_cases hc3 : (x2 < 0 ∨ 14 ≤ x2.toNatClampNeg)
        · cases it h hc3
        have h := ie h hc3
        refine aG B X (LnX5_a0 L z) 0 rfl hc3 dX5_keySet_23 ?_
        refine lv_iconst (v := (-1)) hx hb dX5_keySet_24 (by decide) ?_
        refine lv_icmp_eq (tgt := 39) hx hb dX5_keySet_25 (by decide) (fun hc4 => ?_) (fun hc4 => ?_)
        · have h := it h hc4
          refine lv_iinc (v := x2 + 1) (lv' := [(2, .int (x2 + 1)), (0, .ref a0), (1, .int x1)]) hx hb dX5_keySet_39 hl (k := 2) rfl rfl (by decide) rfl (fun ls hl => ?_)
          refine lv_goto (tgt := 4) hx hb dX5_keySet_42 (by decide) ?_
          exact ih x1 (x2 + 1) _ _ _ X (lv_sub hl [1, 2, 0] rfl) h
        · have h := ie h hc4
          refine lv_iload_n hx hb dX5_keySet_28 rfl (lv_at hl 1 rfl) ?_
          refine lv_iconst (v := 1) hx hb dX5_keySet_29 (by decide) ?_
          refine lv_aload_n hx hb dX5_keySet_30 rfl (lv_at hl 0 rfl) ?_
          refine fG B X (LnX5_g L z) 0 rfl inTX5 (by decide) kw165 rfl dX5_keySet_31 ?_
          refine lv_iload_n hx hb dX5_keySet_34 rfl (lv_at hl 2 rfl) ?_
          by_cases hc5 : (x2 < 0 ∨ 14 ≤ x2.toNatClampNeg)
          · cases it h hc5
          have h := ie h hc5
          refine aG B X (LnX5_a0 L z) 0 rfl hc5 dX5_keySet_35 ?_
          refine lv_ishl hx hb dX5_keySet_36 ?_
          refine lv_ior hx hb dX5_keySet_37 ?_
          refine lv_istore_n (lv' := [(1, .int (x1 ||| (1 <<< ((z.1 x2.toNatClampNeg) &&& 31)))), (0, .ref a0), (2, .int x2)]) hx hb dX5_keySet_38 rfl hl (by decide) rfl (fun ls hl => ?_)
          refine lv_iinc (v := x2 + 1) (lv' := [(2, .int (x2 + 1)), (1, .int (x1 ||| (1 <<< ((z.1 x2.toNatClampNeg) &&& 31)))), (0, .ref a0)]) hx hb dX5_keySet_39 hl (k := 2) rfl rfl (by decide) rfl (fun ls hl => ?_)
          refine lv_goto (tgt := 4) hx hb dX5_keySet_42 (by decide) ?_
          exact ih (x1 ||| (1 <<< ((z.1 x2.toNatClampNeg) &&& 31))) (x2 + 1) _ _ _ X (lv_sub hl [2, 1, 0] rfl) h
def fX5_keySet (z : SX5) : Option Int32 :=
    fX5_keySet_b4 z 1000 0 0
set_option maxRecDepth 100000 in
set_option maxHeartbeats 4000000 in
theorem tX5_keySet {a0 a1 p0 p1 : Nat} {wf : SX5 → va_W} (L : LnX5 a0 a1 p0 p1 cI wf) {d : Nat} (hd : 1 ≤ d) {z : SX5} {q : Int32} (h : fX5_keySet z = some q) : Ct l yX5_keySet cX5_keySet 3 (some .int) d A g D [(cI, .int), (cB, .byte)] [.ref a0] (wf z) (QI A D (wf z) q) := by
  refine mkM (by decide) (Nat.le_of_ble_eq_true rfl) ?_
  intro p e S m args below meth c B X ls hl
  have B : Bd RX5 cX5_keySet 3 (some .int) d A g D [(cI, .int), (cB, .byte)] p (rmd d) S m args meth c := B
  have hx := B.1
  have hb := B.2.1
  have hd1 : 1 ≤ d := by omega
  have hl : lv_has ls 3 [(0, .ref a0)] := hl
  unfold fX5_keySet at h
  refine lv_iconst (v := 0) hx hb dX5_keySet_0 (by decide) ?_
  refine lv_istore_n (lv' := [(1, .int 0), (0, .ref a0)]) hx hb dX5_keySet_1 rfl hl (by decide) rfl (fun ls hl => ?_)
  refine lv_iconst (v := 0) hx hb dX5_keySet_2 (by decide) ?_
  refine lv_istore_n (lv' := [(2, .int 0), (1, .int 0), (0, .ref a0)]) hx hb dX5_keySet_3 rfl hl (by decide) rfl (fun ls hl => ?_)
  exact tX5_keySet_b4 L hd B 1000 0 0 _ _ _ X (lv_sub hl [2, 1, 0] rfl) h
end
