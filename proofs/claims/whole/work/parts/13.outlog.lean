section
variable {l : Launch} {p : Program} {e : Env} {R : Room} {S : State} {m : MethodId} {args : Array Value} {below : List Frame} {meth : Method} {c : Code} {A : Nat → Prop} {g : Nat → Nat} {D : va_G} {cI cB : ClassId}
def fX1_clear (z : SX1) (x1 : Int32) : Option SX1 :=
    some (z.1, z.2.1, 0, x1, 0)
set_option maxRecDepth 100000 in
set_option maxHeartbeats 4000000 in
theorem tX1_clear {a0 a1 a2 p0 p1 p2 : Nat} {wf : SX1 → va_W} (L : LnX1 a0 a1 a2 p0 p1 p2 cI wf) {d : Nat} (hd : 1 ≤ d) {z : SX1} {x1 : Int32} {q : SX1} (h : fX1_clear z x1 = some q) : Ct l yX1_clear cX1_clear 2 none d A g D [(cI, .int), (cB, .byte)] [.ref a0, .int x1] (wf z) (QV A D (wf q)) := by
  refine mkM (by decide) (Nat.le_of_ble_eq_true rfl) ?_
  intro p e S m args below meth c B X ls hl
  have B : Bd RX1 cX1_clear 2 none d A g D [(cI, .int), (cB, .byte)] p (rmd d) S m args meth c := B
  have hx := B.1
  have hb := B.2.1
  have hd1 : 1 ≤ d := by omega
  have hl : lv_has ls 2 [(0, .ref a0), (1, .int x1)] := hl
  unfold fX1_clear at h
  refine lv_aload_n hx hb dX1_clear_0 rfl (lv_at hl 0 rfl) ?_
  refine lv_iconst (v := 0) hx hb dX1_clear_1 (by decide) ?_
  refine fP tyX1 B X (LnX1_g L z) 2 (LnX1_i2 L z _) rfl inTX1 tyX1_ok nmX1 (by decide) kw203 rfl rfl rfl rfl (Nat.le_of_ble_eq_true rfl) dX1_clear_2 (fun H locs X => ?_)
  have X : Hx A D S.heap (wf (z.1, z.2.1, 0, z.2.2.2.1, z.2.2.2.2)) H locs := X
  refine lv_aload_n hx hb dX1_clear_5 rfl (lv_at hl 0 rfl) ?_
  refine lv_iload_n hx hb dX1_clear_6 rfl (lv_at hl 1 rfl) ?_
  refine fP tyX1 B X (LnX1_g L (z.1, z.2.1, 0, z.2.2.2.1, z.2.2.2.2)) 3 (LnX1_i3 L (z.1, z.2.1, 0, z.2.2.2.1, z.2.2.2.2) _) rfl inTX1 tyX1_ok nmX1 (by decide) kw206 rfl rfl rfl rfl (Nat.le_of_ble_eq_true rfl) dX1_clear_7 (fun H locs X => ?_)
  have X : Hx A D S.heap (wf (z.1, z.2.1, 0, x1, z.2.2.2.2)) H locs := X
  refine lv_aload_n hx hb dX1_clear_10 rfl (lv_at hl 0 rfl) ?_
  refine lv_iconst (v := 0) hx hb dX1_clear_11 (by decide) ?_
  refine fP tyX1 B X (LnX1_g L (z.1, z.2.1, 0, x1, z.2.2.2.2)) 4 (LnX1_i4 L (z.1, z.2.1, 0, x1, z.2.2.2.2) _) rfl inTX1 tyX1_ok nmX1 (by decide) kw207 rfl rfl rfl rfl (Nat.le_of_ble_eq_true rfl) dX1_clear_12 (fun H locs X => ?_)
  have X : Hx A D S.heap (wf (z.1, z.2.1, 0, x1, 0)) H locs := X
  exact rV B X (congrArg wf (Option.some.inj h)) dX1_clear_15
def fX1_add (z : SX1) (x1 : Int32) (x2 : Int32) : Option SX1 :=
    if z.2.2.1 < 0 then (some (z.1, z.2.1, z.2.2.1, z.2.2.2.1, 1)) else
    (if z.2.2.2.1 ≤ z.2.2.1 then (some (z.1, z.2.1, z.2.2.1, z.2.2.2.1, 1)) else
    (if z.2.2.1 < 250 then (if z.2.2.1 < 0 ∨ 250 ≤ z.2.2.1.toNatClampNeg then none else
    (if z.2.2.1 < 0 ∨ 250 ≤ z.2.2.1.toNatClampNeg then none else
    (some ((upd z.1 z.2.2.1.toNatClampNeg x1), (upd z.2.1 z.2.2.1.toNatClampNeg x2), (z.2.2.1 + 1), z.2.2.2.1, z.2.2.2.2)))) else
    (some (z.1, z.2.1, z.2.2.1, z.2.2.2.1, 1))))
set_option maxRecDepth 100000 in
set_option maxHeartbeats 4000000 in
theorem tX1_add {a0 a1 a2 p0 p1 p2 : Nat} {wf : SX1 → va_W} (L : LnX1 a0 a1 a2 p0 p1 p2 cI wf) {d : Nat} (hd : 1 ≤ d) {z : SX1} {x1 x2 : Int32} {q : SX1} (h : fX1_add z x1 x2 = some q) : Ct l yX1_add cX1_add 3 none d A g D [(cI, .int), (cB, .byte)] [.ref a0, .int x1, .int x2] (wf z) (QV A D (wf q)) := by
  refine mkM (by decide) (Nat.le_of_ble_eq_true rfl) ?_
  intro p e S m args below meth c B X ls hl
  have B : Bd RX1 cX1_add 3 none d A g D [(cI, .int), (cB, .byte)] p (rmd d) S m args meth c := B
  have hx := B.1
  have hb := B.2.1
  have hd1 : 1 ≤ d := by omega
  have hl : lv_has ls 3 [(0, .ref a0), (1, .int x1), (2, .int x2)] := hl
  unfold fX1_add at h
  refine lv_aload_n hx hb dX1_add_0 rfl (lv_at hl 0 rfl) ?_
  refine fG B X (LnX1_g L z) 2 rfl inTX1 (by decide) kw203 rfl dX1_add_1 ?_
  refine lv_if_lt (tgt := 28) hx hb dX1_add_4 (by decide) (fun hc1 => ?_) (fun hc1 => ?_)
  · have h := it h hc1
    refine lv_aload_n hx hb dX1_add_28 rfl (lv_at hl 0 rfl) ?_
    refine lv_iconst (v := 1) hx hb dX1_add_29 (by decide) ?_
    refine fP tyX1 B X (LnX1_g L z) 4 (LnX1_i4 L z _) rfl inTX1 tyX1_ok nmX1 (by decide) kw207 rfl rfl rfl rfl (Nat.le_of_ble_eq_true rfl) dX1_add_30 (fun H locs X => ?_)
    have X : Hx A D S.heap (wf (z.1, z.2.1, z.2.2.1, z.2.2.2.1, 1)) H locs := X
    exact rV B X (congrArg wf (Option.some.inj h)) dX1_add_33
  · have h := ie h hc1
    refine lv_aload_n hx hb dX1_add_7 rfl (lv_at hl 0 rfl) ?_
    refine fG B X (LnX1_g L z) 2 rfl inTX1 (by decide) kw203 rfl dX1_add_8 ?_
    refine lv_aload_n hx hb dX1_add_11 rfl (lv_at hl 0 rfl) ?_
    refine fG B X (LnX1_g L z) 3 rfl inTX1 (by decide) kw206 rfl dX1_add_12 ?_
    refine lv_icmp_ge (tgt := 28) hx hb dX1_add_15 (by decide) (fun hc2 => ?_) (fun hc2 => ?_)
    · have h := it h hc2
      refine lv_aload_n hx hb dX1_add_28 rfl (lv_at hl 0 rfl) ?_
      refine lv_iconst (v := 1) hx hb dX1_add_29 (by decide) ?_
      refine fP tyX1 B X (LnX1_g L z) 4 (LnX1_i4 L z _) rfl inTX1 tyX1_ok nmX1 (by decide) kw207 rfl rfl rfl rfl (Nat.le_of_ble_eq_true rfl) dX1_add_30 (fun H locs X => ?_)
      have X : Hx A D S.heap (wf (z.1, z.2.1, z.2.2.1, z.2.2.2.1, 1)) H locs := X
      exact rV B X (congrArg wf (Option.some.inj h)) dX1_add_33
    · have h := ie h hc2
      refine lv_aload_n hx hb dX1_add_18 rfl (lv_at hl 0 rfl) ?_
      refine fG B X (LnX1_g L z) 2 rfl inTX1 (by decide) kw203 rfl dX1_add_19 ?_
      refine lv_sipush (v := 250) hx hb dX1_add_22 (by decide) ?_
      refine lv_icmp_lt (tgt := 34) hx hb dX1_add_25 (by decide) (fun hc3 => ?_) (fun hc3 => ?_)
      · have h := it h hc3
        refine lv_aload_n hx hb dX1_add_34 rfl (lv_at hl 0 rfl) ?_
        refine fG B X (LnX1_g L z) 0 rfl inTX1 (by decide) kw201 rfl dX1_add_35 ?_
        refine lv_aload_n hx hb dX1_add_38 rfl (lv_at hl 0 rfl) ?_
        refine fG B X (LnX1_g L z) 2 rfl inTX1 (by decide) kw203 rfl dX1_add_39 ?_
        refine lv_iload_n hx hb dX1_add_42 rfl (lv_at hl 1 rfl) ?_
        by_cases hc4 : (z.2.2.1 < 0 ∨ 250 ≤ z.2.2.1.toNatClampNeg)
        · cases it h hc4
        have h := ie h hc4
        refine aP B X (LnX1_a0 L z) (LnX1_b0 L z _) 0 rfl hc4 dX1_add_43 (fun H locs X => ?_)
        have X : Hx A D S.heap (wf ((upd z.1 z.2.2.1.toNatClampNeg x1), z.2.1, z.2.2.1, z.2.2.2.1, z.2.2.2.2)) H locs := X
        refine lv_aload_n hx hb dX1_add_44 rfl (lv_at hl 0 rfl) ?_
        refine fG B X (LnX1_g L ((upd z.1 z.2.2.1.toNatClampNeg x1), z.2.1, z.2.2.1, z.2.2.2.1, z.2.2.2.2)) 1 rfl inTX1 (by decide) kw202 rfl dX1_add_45 ?_
        refine lv_aload_n hx hb dX1_add_48 rfl (lv_at hl 0 rfl) ?_
        refine fG B X (LnX1_g L ((upd z.1 z.2.2.1.toNatClampNeg x1), z.2.1, z.2.2.1, z.2.2.2.1, z.2.2.2.2)) 2 rfl inTX1 (by decide) kw203 rfl dX1_add_49 ?_
        refine lv_iload_n hx hb dX1_add_52 rfl (lv_at hl 2 rfl) ?_
        by_cases hc5 : (z.2.2.1 < 0 ∨ 250 ≤ z.2.2.1.toNatClampNeg)
        · cases it h hc5
        have h := ie h hc5
        refine aP B X (LnX1_a1 L ((upd z.1 z.2.2.1.toNatClampNeg x1), z.2.1, z.2.2.1, z.2.2.2.1, z.2.2.2.2)) (LnX1_b1 L ((upd z.1 z.2.2.1.toNatClampNeg x1), z.2.1, z.2.2.1, z.2.2.2.1, z.2.2.2.2) _) 0 rfl hc5 dX1_add_53 (fun H locs X => ?_)
        have X : Hx A D S.heap (wf ((upd z.1 z.2.2.1.toNatClampNeg x1), (upd z.2.1 z.2.2.1.toNatClampNeg x2), z.2.2.1, z.2.2.2.1, z.2.2.2.2)) H locs := X
        refine lv_aload_n hx hb dX1_add_54 rfl (lv_at hl 0 rfl) ?_
        refine lv_dup hx hb dX1_add_55 rfl ?_
        refine fG B X (LnX1_g L ((upd z.1 z.2.2.1.toNatClampNeg x1), (upd z.2.1 z.2.2.1.toNatClampNeg x2), z.2.2.1, z.2.2.2.1, z.2.2.2.2)) 2 rfl inTX1 (by decide) kw203 rfl dX1_add_56 ?_
        refine lv_iconst (v := 1) hx hb dX1_add_59 (by decide) ?_
        refine lv_iadd hx hb dX1_add_60 ?_
        refine fP tyX1 B X (LnX1_g L ((upd z.1 z.2.2.1.toNatClampNeg x1), (upd z.2.1 z.2.2.1.toNatClampNeg x2), z.2.2.1, z.2.2.2.1, z.2.2.2.2)) 2 (LnX1_i2 L ((upd z.1 z.2.2.1.toNatClampNeg x1), (upd z.2.1 z.2.2.1.toNatClampNeg x2), z.2.2.1, z.2.2.2.1, z.2.2.2.2) _) rfl inTX1 tyX1_ok nmX1 (by decide) kw203 rfl rfl rfl rfl (Nat.le_of_ble_eq_true rfl) dX1_add_61 (fun H locs X => ?_)
        have X : Hx A D S.heap (wf ((upd z.1 z.2.2.1.toNatClampNeg x1), (upd z.2.1 z.2.2.1.toNatClampNeg x2), (z.2.2.1 + 1), z.2.2.2.1, z.2.2.2.2)) H locs := X
        exact rV B X (congrArg wf (Option.some.inj h)) dX1_add_64
      · have h := ie h hc3
        refine lv_aload_n hx hb dX1_add_28 rfl (lv_at hl 0 rfl) ?_
        refine lv_iconst (v := 1) hx hb dX1_add_29 (by decide) ?_
        refine fP tyX1 B X (LnX1_g L z) 4 (LnX1_i4 L z _) rfl inTX1 tyX1_ok nmX1 (by decide) kw207 rfl rfl rfl rfl (Nat.le_of_ble_eq_true rfl) dX1_add_30 (fun H locs X => ?_)
        have X : Hx A D S.heap (wf (z.1, z.2.1, z.2.2.1, z.2.2.2.1, 1)) H locs := X
        exact rV B X (congrArg wf (Option.some.inj h)) dX1_add_33
def fX1_at (z : SX1) (x1 : Int32) (x2 : Int32) : Option Int32 :=
    if x1 < 0 then (some (-101)) else
    (if z.2.2.1 ≤ x1 then (some (-101)) else
    (if x1 < 250 then (if x2 = 0 then (if x1 < 0 ∨ 250 ≤ x1.toNatClampNeg then none else
    (some (z.1 x1.toNatClampNeg))) else
    (if x1 < 0 ∨ 250 ≤ x1.toNatClampNeg then none else
    (some (z.2.1 x1.toNatClampNeg)))) else
    (some (-101))))
set_option maxRecDepth 100000 in
set_option maxHeartbeats 4000000 in
theorem tX1_at {a0 a1 a2 p0 p1 p2 : Nat} {wf : SX1 → va_W} (L : LnX1 a0 a1 a2 p0 p1 p2 cI wf) {d : Nat} (hd : 1 ≤ d) {z : SX1} {x1 x2 : Int32} {q : Int32} (h : fX1_at z x1 x2 = some q) : Ct l yX1_at cX1_at 3 (some .int) d A g D [(cI, .int), (cB, .byte)] [.ref a0, .int x1, .int x2] (wf z) (QI A D (wf z) q) := by
  refine mkM (by decide) (Nat.le_of_ble_eq_true rfl) ?_
  intro p e S m args below meth c B X ls hl
  have B : Bd RX1 cX1_at 3 (some .int) d A g D [(cI, .int), (cB, .byte)] p (rmd d) S m args meth c := B
  have hx := B.1
  have hb := B.2.1
  have hd1 : 1 ≤ d := by omega
  have hl : lv_has ls 3 [(0, .ref a0), (1, .int x1), (2, .int x2)] := hl
  unfold fX1_at at h
  refine lv_iload_n hx hb dX1_at_0 rfl (lv_at hl 1 rfl) ?_
  refine lv_if_lt (tgt := 19) hx hb dX1_at_1 (by decide) (fun hc1 => ?_) (fun hc1 => ?_)
  · have h := it h hc1
    refine lv_bipush (v := (-101)) hx hb dX1_at_19 (by decide) ?_
    exact rI B X rfl (Option.some.inj h) dX1_at_21
  · have h := ie h hc1
    refine lv_iload_n hx hb dX1_at_4 rfl (lv_at hl 1 rfl) ?_
    refine lv_aload_n hx hb dX1_at_5 rfl (lv_at hl 0 rfl) ?_
    refine fG B X (LnX1_g L z) 2 rfl inTX1 (by decide) kw203 rfl dX1_at_6 ?_
    refine lv_icmp_ge (tgt := 19) hx hb dX1_at_9 (by decide) (fun hc2 => ?_) (fun hc2 => ?_)
    · have h := it h hc2
      refine lv_bipush (v := (-101)) hx hb dX1_at_19 (by decide) ?_
      exact rI B X rfl (Option.some.inj h) dX1_at_21
    · have h := ie h hc2
      refine lv_iload_n hx hb dX1_at_12 rfl (lv_at hl 1 rfl) ?_
      refine lv_sipush (v := 250) hx hb dX1_at_13 (by decide) ?_
      refine lv_icmp_lt (tgt := 22) hx hb dX1_at_16 (by decide) (fun hc3 => ?_) (fun hc3 => ?_)
      · have h := it h hc3
        refine lv_iload_n hx hb dX1_at_22 rfl (lv_at hl 2 rfl) ?_
        refine lv_if_ne (tgt := 35) hx hb dX1_at_23 (by decide) (fun hc4 => ?_) (fun hc4 => ?_)
        · have h := ie h hc4
          refine lv_aload_n hx hb dX1_at_35 rfl (lv_at hl 0 rfl) ?_
          refine fG B X (LnX1_g L z) 1 rfl inTX1 (by decide) kw202 rfl dX1_at_36 ?_
          refine lv_iload_n hx hb dX1_at_39 rfl (lv_at hl 1 rfl) ?_
          by_cases hc5 : (x1 < 0 ∨ 250 ≤ x1.toNatClampNeg)
          · cases it h hc5
          have h := ie h hc5
          refine aG B X (LnX1_a1 L z) 0 rfl hc5 dX1_at_40 ?_
          exact rI B X rfl (Option.some.inj h) dX1_at_41
        · have h := it h hc4
          refine lv_aload_n hx hb dX1_at_26 rfl (lv_at hl 0 rfl) ?_
          refine fG B X (LnX1_g L z) 0 rfl inTX1 (by decide) kw201 rfl dX1_at_27 ?_
          refine lv_iload_n hx hb dX1_at_30 rfl (lv_at hl 1 rfl) ?_
          by_cases hc6 : (x1 < 0 ∨ 250 ≤ x1.toNatClampNeg)
          · cases it h hc6
          have h := ie h hc6
          refine aG B X (LnX1_a0 L z) 0 rfl hc6 dX1_at_31 ?_
          refine lv_goto (tgt := 41) hx hb dX1_at_32 (by decide) ?_
          exact rI B X rfl (Option.some.inj h) dX1_at_41
      · have h := ie h hc3
        refine lv_bipush (v := (-101)) hx hb dX1_at_19 (by decide) ?_
        exact rI B X rfl (Option.some.inj h) dX1_at_21
def fX0_clear (z : SX0) : Option SX0 :=
    some (z.1, z.2.1, z.2.2.1, 0, z.2.2.2.2.1, z.2.2.2.2.2.1, 0, 0)
set_option maxRecDepth 100000 in
set_option maxHeartbeats 4000000 in
theorem tX0_clear {a0 a1 a2 a3 a4 a5 p0 p1 p2 p3 p4 p5 : Nat} {wf : SX0 → va_W} (L : LnX0 a0 a1 a2 a3 a4 a5 p0 p1 p2 p3 p4 p5 cI wf) {d : Nat} (hd : 1 ≤ d) {z : SX0} {q : SX0} (h : fX0_clear z = some q) : Ct l yX0_clear cX0_clear 1 none d A g D [(cI, .int), (cB, .byte)] [.ref a0] (wf z) (QV A D (wf q)) := by
  refine mkM (by decide) (Nat.le_of_ble_eq_true rfl) ?_
  intro p e S m args below meth c B X ls hl
  have B : Bd RX0 cX0_clear 1 none d A g D [(cI, .int), (cB, .byte)] p (rmd d) S m args meth c := B
  have hx := B.1
  have hb := B.2.1
  have hd1 : 1 ≤ d := by omega
  have hl : lv_has ls 1 [(0, .ref a0)] := hl
  unfold fX0_clear at h
  refine lv_aload_n hx hb dX0_clear_0 rfl (lv_at hl 0 rfl) ?_
  refine lv_iconst (v := 0) hx hb dX0_clear_1 (by decide) ?_
  refine fP tyX0 B X (LnX0_g L z) 3 (LnX0_i3 L z _) rfl inTX0 tyX0_ok nmX0 (by decide) kw230 rfl rfl rfl rfl (Nat.le_of_ble_eq_true rfl) dX0_clear_2 (fun H locs X => ?_)
  have X : Hx A D S.heap (wf (z.1, z.2.1, z.2.2.1, 0, z.2.2.2.2.1, z.2.2.2.2.2.1, z.2.2.2.2.2.2.1, z.2.2.2.2.2.2.2)) H locs := X
  refine lv_aload_n hx hb dX0_clear_5 rfl (lv_at hl 0 rfl) ?_
  refine lv_iconst (v := 0) hx hb dX0_clear_6 (by decide) ?_
  refine fP tyX0 B X (LnX0_g L (z.1, z.2.1, z.2.2.1, 0, z.2.2.2.2.1, z.2.2.2.2.2.1, z.2.2.2.2.2.2.1, z.2.2.2.2.2.2.2)) 6 (LnX0_i6 L (z.1, z.2.1, z.2.2.1, 0, z.2.2.2.2.1, z.2.2.2.2.2.1, z.2.2.2.2.2.2.1, z.2.2.2.2.2.2.2) _) rfl inTX0 tyX0_ok nmX0 (by decide) kw235 rfl rfl rfl rfl (Nat.le_of_ble_eq_true rfl) dX0_clear_7 (fun H locs X => ?_)
  have X : Hx A D S.heap (wf (z.1, z.2.1, z.2.2.1, 0, z.2.2.2.2.1, z.2.2.2.2.2.1, 0, z.2.2.2.2.2.2.2)) H locs := X
  refine lv_aload_n hx hb dX0_clear_10 rfl (lv_at hl 0 rfl) ?_
  refine lv_iconst (v := 0) hx hb dX0_clear_11 (by decide) ?_
  refine fP tyX0 B X (LnX0_g L (z.1, z.2.1, z.2.2.1, 0, z.2.2.2.2.1, z.2.2.2.2.2.1, 0, z.2.2.2.2.2.2.2)) 7 (LnX0_i7 L (z.1, z.2.1, z.2.2.1, 0, z.2.2.2.2.1, z.2.2.2.2.2.1, 0, z.2.2.2.2.2.2.2) _) rfl inTX0 tyX0_ok nmX0 (by decide) kw237 rfl rfl rfl rfl (Nat.le_of_ble_eq_true rfl) dX0_clear_12 (fun H locs X => ?_)
  have X : Hx A D S.heap (wf (z.1, z.2.1, z.2.2.1, 0, z.2.2.2.2.1, z.2.2.2.2.2.1, 0, 0)) H locs := X
  exact rV B X (congrArg wf (Option.some.inj h)) dX0_clear_15
def fX0_add (z : SX0) (x1 : Int32) (x2 : Int32) (x3 : Int32) : Option SX0 :=
    if z.2.2.2.1 < 0 then (some z) else
    (if 200 ≤ z.2.2.2.1 then (some z) else
    (if z.2.2.2.1 < 0 ∨ 200 ≤ z.2.2.2.1.toNatClampNeg then none else
    (if z.2.2.2.1 < 0 ∨ 200 ≤ z.2.2.2.1.toNatClampNeg then none else
    (if z.2.2.2.1 < 0 ∨ 200 ≤ z.2.2.2.1.toNatClampNeg then none else
    (some ((upd z.1 z.2.2.2.1.toNatClampNeg x1), (upd z.2.1 z.2.2.2.1.toNatClampNeg x2), (upd z.2.2.1 z.2.2.2.1.toNatClampNeg x3), (z.2.2.2.1 + 1), z.2.2.2.2.1, z.2.2.2.2.2.1, z.2.2.2.2.2.2.1, z.2.2.2.2.2.2.2))))))
set_option maxRecDepth 100000 in
set_option maxHeartbeats 4000000 in
theorem tX0_add {a0 a1 a2 a3 a4 a5 p0 p1 p2 p3 p4 p5 : Nat} {wf : SX0 → va_W} (L : LnX0 a0 a1 a2 a3 a4 a5 p0 p1 p2 p3 p4 p5 cI wf) {d : Nat} (hd : 1 ≤ d) {z : SX0} {x1 x2 x3 : Int32} {q : SX0} (h : fX0_add z x1 x2 x3 = some q) : Ct l yX0_add cX0_add 4 none d A g D [(cI, .int), (cB, .byte)] [.ref a0, .int x1, .int x2, .int x3] (wf z) (QV A D (wf q)) := by
  refine mkM (by decide) (Nat.le_of_ble_eq_true rfl) ?_
  intro p e S m args below meth c B X ls hl
  have B : Bd RX0 cX0_add 4 none d A g D [(cI, .int), (cB, .byte)] p (rmd d) S m args meth c := B
  have hx := B.1
  have hb := B.2.1
  have hd1 : 1 ≤ d := by omega
  have hl : lv_has ls 4 [(0, .ref a0), (1, .int x1), (2, .int x2), (3, .int x3)] := hl
  unfold fX0_add at h
  refine lv_aload_n hx hb dX0_add_0 rfl (lv_at hl 0 rfl) ?_
  refine fG B X (LnX0_g L z) 3 rfl inTX0 (by decide) kw230 rfl dX0_add_1 ?_
  refine lv_if_lt (tgt := 57) hx hb dX0_add_4 (by decide) (fun hc1 => ?_) (fun hc1 => ?_)
  · have h := it h hc1
    exact rV B X (congrArg wf (Option.some.inj h)) dX0_add_57
  · have h := ie h hc1
    refine lv_aload_n hx hb dX0_add_7 rfl (lv_at hl 0 rfl) ?_
    refine fG B X (LnX0_g L z) 3 rfl inTX0 (by decide) kw230 rfl dX0_add_8 ?_
    refine lv_sipush (v := 200) hx hb dX0_add_11 (by decide) ?_
    refine lv_icmp_ge (tgt := 57) hx hb dX0_add_14 (by decide) (fun hc2 => ?_) (fun hc2 => ?_)
    · have h := it h hc2
      exact rV B X (congrArg wf (Option.some.inj h)) dX0_add_57
    · have h := ie h hc2
      refine lv_aload_n hx hb dX0_add_17 rfl (lv_at hl 0 rfl) ?_
      refine fG B X (LnX0_g L z) 0 rfl inTX0 (by decide) kw227 rfl dX0_add_18 ?_
      refine lv_aload_n hx hb dX0_add_21 rfl (lv_at hl 0 rfl) ?_
      refine fG B X (LnX0_g L z) 3 rfl inTX0 (by decide) kw230 rfl dX0_add_22 ?_
      refine lv_iload_n hx hb dX0_add_25 rfl (lv_at hl 1 rfl) ?_
      by_cases hc3 : (z.2.2.2.1 < 0 ∨ 200 ≤ z.2.2.2.1.toNatClampNeg)
      · cases it h hc3
      have h := ie h hc3
      refine aP B X (LnX0_a0 L z) (LnX0_b0 L z _) 0 rfl hc3 dX0_add_26 (fun H locs X => ?_)
      have X : Hx A D S.heap (wf ((upd z.1 z.2.2.2.1.toNatClampNeg x1), z.2.1, z.2.2.1, z.2.2.2.1, z.2.2.2.2.1, z.2.2.2.2.2.1, z.2.2.2.2.2.2.1, z.2.2.2.2.2.2.2)) H locs := X
      refine lv_aload_n hx hb dX0_add_27 rfl (lv_at hl 0 rfl) ?_
      refine fG B X (LnX0_g L ((upd z.1 z.2.2.2.1.toNatClampNeg x1), z.2.1, z.2.2.1, z.2.2.2.1, z.2.2.2.2.1, z.2.2.2.2.2.1, z.2.2.2.2.2.2.1, z.2.2.2.2.2.2.2)) 1 rfl inTX0 (by decide) kw228 rfl dX0_add_28 ?_
      refine lv_aload_n hx hb dX0_add_31 rfl (lv_at hl 0 rfl) ?_
      refine fG B X (LnX0_g L ((upd z.1 z.2.2.2.1.toNatClampNeg x1), z.2.1, z.2.2.1, z.2.2.2.1, z.2.2.2.2.1, z.2.2.2.2.2.1, z.2.2.2.2.2.2.1, z.2.2.2.2.2.2.2)) 3 rfl inTX0 (by decide) kw230 rfl dX0_add_32 ?_
      refine lv_iload_n hx hb dX0_add_35 rfl (lv_at hl 2 rfl) ?_
      by_cases hc4 : (z.2.2.2.1 < 0 ∨ 200 ≤ z.2.2.2.1.toNatClampNeg)
      · cases it h hc4
      have h := ie h hc4
      refine aP B X (LnX0_a1 L ((upd z.1 z.2.2.2.1.toNatClampNeg x1), z.2.1, z.2.2.1, z.2.2.2.1, z.2.2.2.2.1, z.2.2.2.2.2.1, z.2.2.2.2.2.2.1, z.2.2.2.2.2.2.2)) (LnX0_b1 L ((upd z.1 z.2.2.2.1.toNatClampNeg x1), z.2.1, z.2.2.1, z.2.2.2.1, z.2.2.2.2.1, z.2.2.2.2.2.1, z.2.2.2.2.2.2.1, z.2.2.2.2.2.2.2) _) 0 rfl hc4 dX0_add_36 (fun H locs X => ?_)
      have X : Hx A D S.heap (wf ((upd z.1 z.2.2.2.1.toNatClampNeg x1), (upd z.2.1 z.2.2.2.1.toNatClampNeg x2), z.2.2.1, z.2.2.2.1, z.2.2.2.2.1, z.2.2.2.2.2.1, z.2.2.2.2.2.2.1, z.2.2.2.2.2.2.2)) H locs := X
      refine lv_aload_n hx hb dX0_add_37 rfl (lv_at hl 0 rfl) ?_
      refine fG B X (LnX0_g L ((upd z.1 z.2.2.2.1.toNatClampNeg x1), (upd z.2.1 z.2.2.2.1.toNatClampNeg x2), z.2.2.1, z.2.2.2.1, z.2.2.2.2.1, z.2.2.2.2.2.1, z.2.2.2.2.2.2.1, z.2.2.2.2.2.2.2)) 2 rfl inTX0 (by decide) kw229 rfl dX0_add_38 ?_
      refine lv_aload_n hx hb dX0_add_41 rfl (lv_at hl 0 rfl) ?_
      refine fG B X (LnX0_g L ((upd z.1 z.2.2.2.1.toNatClampNeg x1), (upd z.2.1 z.2.2.2.1.toNatClampNeg x2), z.2.2.1, z.2.2.2.1, z.2.2.2.2.1, z.2.2.2.2.2.1, z.2.2.2.2.2.2.1, z.2.2.2.2.2.2.2)) 3 rfl inTX0 (by decide) kw230 rfl dX0_add_42 ?_
      refine lv_iload_n hx hb dX0_add_45 rfl (lv_at hl 3 rfl) ?_
      by_cases hc5 : (z.2.2.2.1 < 0 ∨ 200 ≤ z.2.2.2.1.toNatClampNeg)
      · cases it h hc5
      have h := ie h hc5
      refine aP B X (LnX0_a2 L ((upd z.1 z.2.2.2.1.toNatClampNeg x1), (upd z.2.1 z.2.2.2.1.toNatClampNeg x2), z.2.2.1, z.2.2.2.1, z.2.2.2.2.1, z.2.2.2.2.2.1, z.2.2.2.2.2.2.1, z.2.2.2.2.2.2.2)) (LnX0_b2 L ((upd z.1 z.2.2.2.1.toNatClampNeg x1), (upd z.2.1 z.2.2.2.1.toNatClampNeg x2), z.2.2.1, z.2.2.2.1, z.2.2.2.2.1, z.2.2.2.2.2.1, z.2.2.2.2.2.2.1, z.2.2.2.2.2.2.2) _) 0 rfl hc5 dX0_add_46 (fun H locs X => ?_)
      have X : Hx A D S.heap (wf ((upd z.1 z.2.2.2.1.toNatClampNeg x1), (upd z.2.1 z.2.2.2.1.toNatClampNeg x2), (upd z.2.2.1 z.2.2.2.1.toNatClampNeg x3), z.2.2.2.1, z.2.2.2.2.1, z.2.2.2.2.2.1, z.2.2.2.2.2.2.1, z.2.2.2.2.2.2.2)) H locs := X
      refine lv_aload_n hx hb dX0_add_47 rfl (lv_at hl 0 rfl) ?_
      refine lv_dup hx hb dX0_add_48 rfl ?_
      refine fG B X (LnX0_g L ((upd z.1 z.2.2.2.1.toNatClampNeg x1), (upd z.2.1 z.2.2.2.1.toNatClampNeg x2), (upd z.2.2.1 z.2.2.2.1.toNatClampNeg x3), z.2.2.2.1, z.2.2.2.2.1, z.2.2.2.2.2.1, z.2.2.2.2.2.2.1, z.2.2.2.2.2.2.2)) 3 rfl inTX0 (by decide) kw230 rfl dX0_add_49 ?_
      refine lv_iconst (v := 1) hx hb dX0_add_52 (by decide) ?_
      refine lv_iadd hx hb dX0_add_53 ?_
      refine fP tyX0 B X (LnX0_g L ((upd z.1 z.2.2.2.1.toNatClampNeg x1), (upd z.2.1 z.2.2.2.1.toNatClampNeg x2), (upd z.2.2.1 z.2.2.2.1.toNatClampNeg x3), z.2.2.2.1, z.2.2.2.2.1, z.2.2.2.2.2.1, z.2.2.2.2.2.2.1, z.2.2.2.2.2.2.2)) 3 (LnX0_i3 L ((upd z.1 z.2.2.2.1.toNatClampNeg x1), (upd z.2.1 z.2.2.2.1.toNatClampNeg x2), (upd z.2.2.1 z.2.2.2.1.toNatClampNeg x3), z.2.2.2.1, z.2.2.2.2.1, z.2.2.2.2.2.1, z.2.2.2.2.2.2.1, z.2.2.2.2.2.2.2) _) rfl inTX0 tyX0_ok nmX0 (by decide) kw230 rfl rfl rfl rfl (Nat.le_of_ble_eq_true rfl) dX0_add_54 (fun H locs X => ?_)
      have X : Hx A D S.heap (wf ((upd z.1 z.2.2.2.1.toNatClampNeg x1), (upd z.2.1 z.2.2.2.1.toNatClampNeg x2), (upd z.2.2.1 z.2.2.2.1.toNatClampNeg x3), (z.2.2.2.1 + 1), z.2.2.2.2.1, z.2.2.2.2.2.1, z.2.2.2.2.2.2.1, z.2.2.2.2.2.2.2)) H locs := X
      exact rV B X (congrArg wf (Option.some.inj h)) dX0_add_57
def fX0_open (z : SX0) (x1 : Int32) : Option SX0 :=
    if z.2.2.2.2.2.2.1 < 0 then (some z) else
    (if 30 ≤ z.2.2.2.2.2.2.1 then (some z) else
    (if z.2.2.2.2.2.2.1 < 0 ∨ 30 ≤ z.2.2.2.2.2.2.1.toNatClampNeg then none else
    (if z.2.2.2.2.2.2.1 < 0 ∨ 30 ≤ z.2.2.2.2.2.2.1.toNatClampNeg then none else
    ((fX0_add (z.1, z.2.1, z.2.2.1, z.2.2.2.1, (upd z.2.2.2.2.1 z.2.2.2.2.2.2.1.toNatClampNeg z.2.2.2.2.2.2.2), (upd z.2.2.2.2.2.1 z.2.2.2.2.2.2.1.toNatClampNeg x1), (z.2.2.2.2.2.2.1 + 1), z.2.2.2.2.2.2.2) z.2.2.2.2.2.2.2 1 x1).bind fun q5 =>
    some (q5.1, q5.2.1, q5.2.2.1, q5.2.2.2.1, q5.2.2.2.2.1, q5.2.2.2.2.2.1, q5.2.2.2.2.2.2.1, (q5.2.2.2.2.2.2.2 + 1))))))
set_option maxRecDepth 100000 in
set_option maxHeartbeats 4000000 in
theorem tX0_open {a0 a1 a2 a3 a4 a5 p0 p1 p2 p3 p4 p5 : Nat} {wf : SX0 → va_W} (L : LnX0 a0 a1 a2 a3 a4 a5 p0 p1 p2 p3 p4 p5 cI wf) {d : Nat} (hd : 2 ≤ d) {z : SX0} {x1 : Int32} {q : SX0} (h : fX0_open z x1 = some q) : Ct l yX0_open cX0_open 2 none d A g D [(cI, .int), (cB, .byte)] [.ref a0, .int x1] (wf z) (QV A D (wf q)) := by
  refine mkM (by decide) (Nat.le_of_ble_eq_true rfl) ?_
  intro p e S m args below meth c B X ls hl
  have B : Bd RX0 cX0_open 2 none d A g D [(cI, .int), (cB, .byte)] p (rmd d) S m args meth c := B
  have hx := B.1
  have hb := B.2.1
  have hd1 : 1 ≤ d := by omega
  have hl : lv_has ls 2 [(0, .ref a0), (1, .int x1)] := hl
  unfold fX0_open at h
  refine lv_aload_n hx hb dX0_open_0 rfl (lv_at hl 0 rfl) ?_
  refine fG B X (LnX0_g L z) 6 rfl inTX0 (by decide) kw235 rfl dX0_open_1 ?_
  refine lv_if_lt (tgt := 69) hx hb dX0_open_4 (by decide) (fun hc1 => ?_) (fun hc1 => ?_)
  · have h := it h hc1
    exact rV B X (congrArg wf (Option.some.inj h)) dX0_open_69
  · have h := ie h hc1
    refine lv_aload_n hx hb dX0_open_7 rfl (lv_at hl 0 rfl) ?_
    refine fG B X (LnX0_g L z) 6 rfl inTX0 (by decide) kw235 rfl dX0_open_8 ?_
    refine lv_bipush (v := 30) hx hb dX0_open_11 (by decide) ?_
    refine lv_icmp_ge (tgt := 69) hx hb dX0_open_13 (by decide) (fun hc2 => ?_) (fun hc2 => ?_)
    · have h := it h hc2
      exact rV B X (congrArg wf (Option.some.inj h)) dX0_open_69
    · have h := ie h hc2
      refine lv_aload_n hx hb dX0_open_16 rfl (lv_at hl 0 rfl) ?_
      refine fG B X (LnX0_g L z) 4 rfl inTX0 (by decide) kw233 rfl dX0_open_17 ?_
      refine lv_aload_n hx hb dX0_open_20 rfl (lv_at hl 0 rfl) ?_
      refine fG B X (LnX0_g L z) 6 rfl inTX0 (by decide) kw235 rfl dX0_open_21 ?_
      refine lv_aload_n hx hb dX0_open_24 rfl (lv_at hl 0 rfl) ?_
      refine fG B X (LnX0_g L z) 7 rfl inTX0 (by decide) kw237 rfl dX0_open_25 ?_
      by_cases hc3 : (z.2.2.2.2.2.2.1 < 0 ∨ 30 ≤ z.2.2.2.2.2.2.1.toNatClampNeg)
      · cases it h hc3
      have h := ie h hc3
      refine aP B X (LnX0_a4 L z) (LnX0_b4 L z _) 0 rfl hc3 dX0_open_28 (fun H locs X => ?_)
      have X : Hx A D S.heap (wf (z.1, z.2.1, z.2.2.1, z.2.2.2.1, (upd z.2.2.2.2.1 z.2.2.2.2.2.2.1.toNatClampNeg z.2.2.2.2.2.2.2), z.2.2.2.2.2.1, z.2.2.2.2.2.2.1, z.2.2.2.2.2.2.2)) H locs := X
      refine lv_aload_n hx hb dX0_open_29 rfl (lv_at hl 0 rfl) ?_
      refine fG B X (LnX0_g L (z.1, z.2.1, z.2.2.1, z.2.2.2.1, (upd z.2.2.2.2.1 z.2.2.2.2.2.2.1.toNatClampNeg z.2.2.2.2.2.2.2), z.2.2.2.2.2.1, z.2.2.2.2.2.2.1, z.2.2.2.2.2.2.2)) 5 rfl inTX0 (by decide) kw234 rfl dX0_open_30 ?_
      refine lv_aload_n hx hb dX0_open_33 rfl (lv_at hl 0 rfl) ?_
      refine fG B X (LnX0_g L (z.1, z.2.1, z.2.2.1, z.2.2.2.1, (upd z.2.2.2.2.1 z.2.2.2.2.2.2.1.toNatClampNeg z.2.2.2.2.2.2.2), z.2.2.2.2.2.1, z.2.2.2.2.2.2.1, z.2.2.2.2.2.2.2)) 6 rfl inTX0 (by decide) kw235 rfl dX0_open_34 ?_
      refine lv_iload_n hx hb dX0_open_37 rfl (lv_at hl 1 rfl) ?_
      by_cases hc4 : (z.2.2.2.2.2.2.1 < 0 ∨ 30 ≤ z.2.2.2.2.2.2.1.toNatClampNeg)
      · cases it h hc4
      have h := ie h hc4
      refine aP B X (LnX0_a5 L (z.1, z.2.1, z.2.2.1, z.2.2.2.1, (upd z.2.2.2.2.1 z.2.2.2.2.2.2.1.toNatClampNeg z.2.2.2.2.2.2.2), z.2.2.2.2.2.1, z.2.2.2.2.2.2.1, z.2.2.2.2.2.2.2)) (LnX0_b5 L (z.1, z.2.1, z.2.2.1, z.2.2.2.1, (upd z.2.2.2.2.1 z.2.2.2.2.2.2.1.toNatClampNeg z.2.2.2.2.2.2.2), z.2.2.2.2.2.1, z.2.2.2.2.2.2.1, z.2.2.2.2.2.2.2) _) 0 rfl hc4 dX0_open_38 (fun H locs X => ?_)
      have X : Hx A D S.heap (wf (z.1, z.2.1, z.2.2.1, z.2.2.2.1, (upd z.2.2.2.2.1 z.2.2.2.2.2.2.1.toNatClampNeg z.2.2.2.2.2.2.2), (upd z.2.2.2.2.2.1 z.2.2.2.2.2.2.1.toNatClampNeg x1), z.2.2.2.2.2.2.1, z.2.2.2.2.2.2.2)) H locs := X
      refine lv_aload_n hx hb dX0_open_39 rfl (lv_at hl 0 rfl) ?_
      refine lv_dup hx hb dX0_open_40 rfl ?_
      refine fG B X (LnX0_g L (z.1, z.2.1, z.2.2.1, z.2.2.2.1, (upd z.2.2.2.2.1 z.2.2.2.2.2.2.1.toNatClampNeg z.2.2.2.2.2.2.2), (upd z.2.2.2.2.2.1 z.2.2.2.2.2.2.1.toNatClampNeg x1), z.2.2.2.2.2.2.1, z.2.2.2.2.2.2.2)) 6 rfl inTX0 (by decide) kw235 rfl dX0_open_41 ?_
      refine lv_iconst (v := 1) hx hb dX0_open_44 (by decide) ?_
      refine lv_iadd hx hb dX0_open_45 ?_
      refine fP tyX0 B X (LnX0_g L (z.1, z.2.1, z.2.2.1, z.2.2.2.1, (upd z.2.2.2.2.1 z.2.2.2.2.2.2.1.toNatClampNeg z.2.2.2.2.2.2.2), (upd z.2.2.2.2.2.1 z.2.2.2.2.2.2.1.toNatClampNeg x1), z.2.2.2.2.2.2.1, z.2.2.2.2.2.2.2)) 6 (LnX0_i6 L (z.1, z.2.1, z.2.2.1, z.2.2.2.1, (upd z.2.2.2.2.1 z.2.2.2.2.2.2.1.toNatClampNeg z.2.2.2.2.2.2.2), (upd z.2.2.2.2.2.1 z.2.2.2.2.2.2.1.toNatClampNeg x1), z.2.2.2.2.2.2.1, z.2.2.2.2.2.2.2) _) rfl inTX0 tyX0_ok nmX0 (by decide) kw235 rfl rfl rfl rfl (Nat.le_of_ble_eq_true rfl) dX0_open_46 (fun H locs X => ?_)
      have X : Hx A D S.heap (wf (z.1, z.2.1, z.2.2.1, z.2.2.2.1, (upd z.2.2.2.2.1 z.2.2.2.2.2.2.1.toNatClampNeg z.2.2.2.2.2.2.2), (upd z.2.2.2.2.2.1 z.2.2.2.2.2.2.1.toNatClampNeg x1), (z.2.2.2.2.2.2.1 + 1), z.2.2.2.2.2.2.2)) H locs := X
      refine lv_aload_n hx hb dX0_open_49 rfl (lv_at hl 0 rfl) ?_
      refine lv_aload_n hx hb dX0_open_50 rfl (lv_at hl 0 rfl) ?_
      refine fG B X (LnX0_g L (z.1, z.2.1, z.2.2.1, z.2.2.2.1, (upd z.2.2.2.2.1 z.2.2.2.2.2.2.1.toNatClampNeg z.2.2.2.2.2.2.2), (upd z.2.2.2.2.2.1 z.2.2.2.2.2.2.1.toNatClampNeg x1), (z.2.2.2.2.2.2.1 + 1), z.2.2.2.2.2.2.2)) 7 rfl inTX0 (by decide) kw237 rfl dX0_open_51 ?_
      refine lv_iconst (v := 1) hx hb dX0_open_54 (by decide) ?_
      refine lv_iload_n hx hb dX0_open_55 rfl (lv_at hl 1 rfl) ?_
      obtain ⟨q5, h5, h⟩ := bs h
      refine kV X (cV (As := [.int z.2.2.2.2.2.2.2, .int 1, .int x1]) (rest := []) B X (tX0_add (d := d - 1) L (by omega) h5) mfX0_add kw632 (by omega) (LnX0_g L (z.1, z.2.1, z.2.2.1, z.2.2.2.1, (upd z.2.2.2.2.1 z.2.2.2.2.2.2.1.toNatClampNeg z.2.2.2.2.2.2.2), (upd z.2.2.2.2.2.1 z.2.2.2.2.2.2.1.toNatClampNeg x1), (z.2.2.2.2.2.2.1 + 1), z.2.2.2.2.2.2.2)) rfl rfl (Nat.le_of_ble_eq_true rfl) hl.1 ⟨Nat.zero_le _, Nat.zero_le _⟩ dX0_open_56) (fun H locs X => ?_)
      have X : Hx A D S.heap (wf q5) H locs := X
      refine lv_aload_n hx hb dX0_open_59 rfl (lv_at hl 0 rfl) ?_
      refine lv_dup hx hb dX0_open_60 rfl ?_
      refine fG B X (LnX0_g L q5) 7 rfl inTX0 (by decide) kw237 rfl dX0_open_61 ?_
      refine lv_iconst (v := 1) hx hb dX0_open_64 (by decide) ?_
      refine lv_iadd hx hb dX0_open_65 ?_
      refine fP tyX0 B X (LnX0_g L q5) 7 (LnX0_i7 L q5 _) rfl inTX0 tyX0_ok nmX0 (by decide) kw237 rfl rfl rfl rfl (Nat.le_of_ble_eq_true rfl) dX0_open_66 (fun H locs X => ?_)
      have X : Hx A D S.heap (wf (q5.1, q5.2.1, q5.2.2.1, q5.2.2.2.1, q5.2.2.2.2.1, q5.2.2.2.2.2.1, q5.2.2.2.2.2.2.1, (q5.2.2.2.2.2.2.2 + 1))) H locs := X
      exact rV B X (congrArg wf (Option.some.inj h)) dX0_open_69
def fX0_shutDownTo_b7 : Nat → Int32 → Int32 → SX0 → Option SX0
  | 0, _, _, _ => none
  | n + 1, x1, x2, z =>
    if x2 < x1 then (some z) else
    (if x2 < 0 then (some z) else
    (if 30 ≤ x2 then (some z) else
    (if x2 < 0 ∨ 30 ≤ x2.toNatClampNeg then none else
    (if x2 < 0 ∨ 30 ≤ x2.toNatClampNeg then none else
    ((fX0_add z (z.2.2.2.2.1 x2.toNatClampNeg) 0 (z.2.2.2.2.2.1 x2.toNatClampNeg)).bind fun q6 =>
    fX0_shutDownTo_b7 n x1 (x2 + (-1)) (q6.1, q6.2.1, q6.2.2.1, q6.2.2.2.1, q6.2.2.2.2.1, q6.2.2.2.2.2.1, x2, q6.2.2.2.2.2.2.2))))))
set_option maxRecDepth 100000 in
set_option maxHeartbeats 4000000 in
theorem tX0_shutDownTo_b7 {a0 a1 a2 a3 a4 a5 p0 p1 p2 p3 p4 p5 : Nat} {wf : SX0 → va_W} (L : LnX0 a0 a1 a2 a3 a4 a5 p0 p1 p2 p3 p4 p5 cI wf) {d : Nat} (hd : 2 ≤ d) (B : Bd RX0 cX0_shutDownTo 3 none d A g D [(cI, .int), (cB, .byte)] p R S m args meth c) {q : SX0} : ∀ (n : Nat) (x1 : Int32) (x2 : Int32) (z : SX0) (H : Heap) (locs : List Loc) (ls : Array Slot), Hx A D S.heap (wf z) H locs → lv_has ls 3 [(0, .ref a0), (1, .int x1), (2, .int x2)] → fX0_shutDownTo_b7 n x1 x2 z = some q → W p l e R S m args below meth c H locs 0 0 (MQ below (QV A D (wf q)) args S 0 0 A) (F0 m 7 ls []) := by
  have hx := B.1
  have hb := B.2.1
  have hd1 : 1 ≤ d := by omega
  intro n
  induction n with
  | zero =>
    intro x1 x2 z H locs ls X hl h
    cases h
  | succ n ih =>
    intro x1 x2 z H locs ls X hl h
    rw [fX0_shutDownTo_b7] at h
    refine lv_iload_n hx hb dX0_shutDownTo_7 rfl (lv_at hl 2 rfl) ?_
    refine lv_iload_n hx hb dX0_shutDownTo_8 rfl (lv_at hl 1 rfl) ?_
    refine lv_icmp_lt (tgt := 50) hx hb dX0_shutDownTo_9 (by decide) (fun hc1 => ?_) (fun hc1 => ?_)
    · have h := it h hc1
      exact rV B X (congrArg wf (Option.some.inj h)) dX0_shutDownTo_50
    · have h := ie h hc1
      refine lv_iload_n hx hb dX0_shutDownTo_12 rfl (lv_at hl 2 rfl) ?_
      refine lv_if_lt (tgt := 50) hx hb dX0_shutDownTo_13 (by decide) (fun hc2 => ?_) (fun hc2 => ?_)
      · have h := it h hc2
        exact rV B X (congrArg wf (Option.some.inj h)) dX0_shutDownTo_50
      · have h := ie h hc2
        refine lv_iload_n hx hb dX0_shutDownTo_16 rfl (lv_at hl 2 rfl) ?_
        refine lv_bipush (v := 30) hx hb dX0_shutDownTo_17 (by decide) ?_
        refine lv_icmp_ge (tgt := 50) hx hb dX0_shutDownTo_19 (by decide) (fun hc3 => ?_) (fun hc3 => ?_)
        · have h := it h hc3
          exact rV B X (congrArg wf (Option.some.inj h)) dX0_shutDownTo_50
        · have h := ie h hc3
          refine lv_aload_n hx hb dX0_shutDownTo_22 rfl (lv_at hl 0 rfl) ?_
          refine lv_aload_n hx hb dX0_shutDownTo_23 rfl (lv_at hl 0 rfl) ?_
          refine fG B X (LnX0_g L z) 4 rfl inTX0 (by decide) kw233 rfl dX0_shutDownTo_24 ?_
          refine lv_iload_n hx hb dX0_shutDownTo_27 rfl (lv_at hl 2 rfl) ?_
          by_cases hc4 : (x2 < 0 ∨ 30 ≤ x2.toNatClampNeg)
          · cases it h hc4
          have h := ie h hc4
          refine aG B X (LnX0_a4 L z) 0 rfl hc4 dX0_shutDownTo_28 ?_
          refine lv_iconst (v := 0) hx hb dX0_shutDownTo_29 (by decide) ?_
          refine lv_aload_n hx hb dX0_shutDownTo_30 rfl (lv_at hl 0 rfl) ?_
          refine fG B X (LnX0_g L z) 5 rfl inTX0 (by decide) kw234 rfl dX0_shutDownTo_31 ?_
          refine lv_iload_n hx hb dX0_shutDownTo_34 rfl (lv_at hl 2 rfl) ?_
          by_cases hc5 : (x2 < 0 ∨ 30 ≤ x2.toNatClampNeg)
          · cases it h hc5
          have h := ie h hc5
          refine aG B X (LnX0_a5 L z) 0 rfl hc5 dX0_shutDownTo_35 ?_
          obtain ⟨q6, h6, h⟩ := bs h
          refine kV X (cV (As := [.int (z.2.2.2.2.1 x2.toNatClampNeg), .int 0, .int (z.2.2.2.2.2.1 x2.toNatClampNeg)]) (rest := []) B X (tX0_add (d := d - 1) L (by omega) h6) mfX0_add kw632 (by omega) (LnX0_g L z) rfl rfl (Nat.le_of_ble_eq_true rfl) hl.1 ⟨Nat.zero_le _, Nat.zero_le _⟩ dX0_shutDownTo_36) (fun H locs X => ?_)
          have X : Hx A D S.heap (wf q6) H locs := X
          refine lv_aload_n hx hb dX0_shutDownTo_39 rfl (lv_at hl 0 rfl) ?_
          refine lv_iload_n hx hb dX0_shutDownTo_40 rfl (lv_at hl 2 rfl) ?_
          refine fP tyX0 B X (LnX0_g L q6) 6 (LnX0_i6 L q6 _) rfl inTX0 tyX0_ok nmX0 (by decide) kw235 rfl rfl rfl rfl (Nat.le_of_ble_eq_true rfl) dX0_shutDownTo_41 (fun H locs X => ?_)
          have X : Hx A D S.heap (wf (q6.1, q6.2.1, q6.2.2.1, q6.2.2.2.1, q6.2.2.2.2.1, q6.2.2.2.2.2.1, x2, q6.2.2.2.2.2.2.2)) H locs := X
          refine lv_iinc (v := x2 + (-1)) (lv' := [(2, .int (x2 + (-1))), (0, .ref a0), (1, .int x1)]) hx hb dX0_shutDownTo_44 hl (k := 2) rfl rfl (by decide) rfl (fun ls hl => ?_)
          refine lv_goto (tgt := 7) hx hb dX0_shutDownTo_47 (by decide) ?_
          exact ih x1 (x2 + (-1)) (q6.1, q6.2.1, q6.2.2.1, q6.2.2.2.1, q6.2.2.2.2.1, q6.2.2.2.2.2.1, x2, q6.2.2.2.2.2.2.2) _ _ _ X (lv_sub hl [1, 2, 0] rfl) h
def fX0_shutDownTo (z : SX0) (x1 : Int32) : Option SX0 :=
    fX0_shutDownTo_b7 1000 x1 (z.2.2.2.2.2.2.1 - 1) z
set_option maxRecDepth 100000 in
set_option maxHeartbeats 4000000 in
theorem tX0_shutDownTo {a0 a1 a2 a3 a4 a5 p0 p1 p2 p3 p4 p5 : Nat} {wf : SX0 → va_W} (L : LnX0 a0 a1 a2 a3 a4 a5 p0 p1 p2 p3 p4 p5 cI wf) {d : Nat} (hd : 2 ≤ d) {z : SX0} {x1 : Int32} {q : SX0} (h : fX0_shutDownTo z x1 = some q) : Ct l yX0_shutDownTo cX0_shutDownTo 3 none d A g D [(cI, .int), (cB, .byte)] [.ref a0, .int x1] (wf z) (QV A D (wf q)) := by
  refine mkM (by decide) (Nat.le_of_ble_eq_true rfl) ?_
  intro p e S m args below meth c B X ls hl
  have B : Bd RX0 cX0_shutDownTo 3 none d A g D [(cI, .int), (cB, .byte)] p (rmd d) S m args meth c := B
  have hx := B.1
  have hb := B.2.1
  have hd1 : 1 ≤ d := by omega
  have hl : lv_has ls 3 [(0, .ref a0), (1, .int x1)] := hl
  unfold fX0_shutDownTo at h
  refine lv_aload_n hx hb dX0_shutDownTo_0 rfl (lv_at hl 0 rfl) ?_
  refine fG B X (LnX0_g L z) 6 rfl inTX0 (by decide) kw235 rfl dX0_shutDownTo_1 ?_
  refine lv_iconst (v := 1) hx hb dX0_shutDownTo_4 (by decide) ?_
  refine lv_isub hx hb dX0_shutDownTo_5 ?_
  refine lv_istore_n (lv' := [(2, .int (z.2.2.2.2.2.2.1 - 1)), (0, .ref a0), (1, .int x1)]) hx hb dX0_shutDownTo_6 rfl hl (by decide) rfl (fun ls hl => ?_)
  exact tX0_shutDownTo_b7 L hd B 1000 x1 (z.2.2.2.2.2.2.1 - 1) z _ _ _ X (lv_sub hl [1, 2, 0] rfl) h
def fX0_at (z : SX0) (x1 : Int32) (x2 : Int32) : Option Int32 :=
    if x1 < 0 then (some (-101)) else
    (if z.2.2.2.1 ≤ x1 then (some (-101)) else
    (if x1 < 200 then (if x2 = 0 then (if x1 < 0 ∨ 200 ≤ x1.toNatClampNeg then none else
    (some (z.1 x1.toNatClampNeg))) else
    (if x2 = 1 then (if x1 < 0 ∨ 200 ≤ x1.toNatClampNeg then none else
    (some (z.2.1 x1.toNatClampNeg))) else
    (if x1 < 0 ∨ 200 ≤ x1.toNatClampNeg then none else
    (some (z.2.2.1 x1.toNatClampNeg))))) else
    (some (-101))))
set_option maxRecDepth 100000 in
set_option maxHeartbeats 4000000 in
theorem tX0_at {a0 a1 a2 a3 a4 a5 p0 p1 p2 p3 p4 p5 : Nat} {wf : SX0 → va_W} (L : LnX0 a0 a1 a2 a3 a4 a5 p0 p1 p2 p3 p4 p5 cI wf) {d : Nat} (hd : 1 ≤ d) {z : SX0} {x1 x2 : Int32} {q : Int32} (h : fX0_at z x1 x2 = some q) : Ct l yX0_at cX0_at 3 (some .int) d A g D [(cI, .int), (cB, .byte)] [.ref a0, .int x1, .int x2] (wf z) (QI A D (wf z) q) := by
  refine mkM (by decide) (Nat.le_of_ble_eq_true rfl) ?_
  intro p e S m args below meth c B X ls hl
  have B : Bd RX0 cX0_at 3 (some .int) d A g D [(cI, .int), (cB, .byte)] p (rmd d) S m args meth c := B
  have hx := B.1
  have hb := B.2.1
  have hd1 : 1 ≤ d := by omega
  have hl : lv_has ls 3 [(0, .ref a0), (1, .int x1), (2, .int x2)] := hl
  unfold fX0_at at h
  refine lv_iload_n hx hb dX0_at_0 rfl (lv_at hl 1 rfl) ?_
  refine lv_if_lt (tgt := 19) hx hb dX0_at_1 (by decide) (fun hc1 => ?_) (fun hc1 => ?_)
  · have h := it h hc1
    refine lv_bipush (v := (-101)) hx hb dX0_at_19 (by decide) ?_
    exact rI B X rfl (Option.some.inj h) dX0_at_21
  · have h := ie h hc1
    refine lv_iload_n hx hb dX0_at_4 rfl (lv_at hl 1 rfl) ?_
    refine lv_aload_n hx hb dX0_at_5 rfl (lv_at hl 0 rfl) ?_
    refine fG B X (LnX0_g L z) 3 rfl inTX0 (by decide) kw230 rfl dX0_at_6 ?_
    refine lv_icmp_ge (tgt := 19) hx hb dX0_at_9 (by decide) (fun hc2 => ?_) (fun hc2 => ?_)
    · have h := it h hc2
      refine lv_bipush (v := (-101)) hx hb dX0_at_19 (by decide) ?_
      exact rI B X rfl (Option.some.inj h) dX0_at_21
    · have h := ie h hc2
      refine lv_iload_n hx hb dX0_at_12 rfl (lv_at hl 1 rfl) ?_
      refine lv_sipush (v := 200) hx hb dX0_at_13 (by decide) ?_
      refine lv_icmp_lt (tgt := 22) hx hb dX0_at_16 (by decide) (fun hc3 => ?_) (fun hc3 => ?_)
      · have h := it h hc3
        refine lv_iload_n hx hb dX0_at_22 rfl (lv_at hl 2 rfl) ?_
        refine lv_if_ne (tgt := 33) hx hb dX0_at_23 (by decide) (fun hc4 => ?_) (fun hc4 => ?_)
        · have h := ie h hc4
          refine lv_iload_n hx hb dX0_at_33 rfl (lv_at hl 2 rfl) ?_
          refine lv_iconst (v := 1) hx hb dX0_at_34 (by decide) ?_
          refine lv_icmp_ne (tgt := 47) hx hb dX0_at_35 (by decide) (fun hc5 => ?_) (fun hc5 => ?_)
          · have h := ie h hc5
            refine lv_aload_n hx hb dX0_at_47 rfl (lv_at hl 0 rfl) ?_
            refine fG B X (LnX0_g L z) 2 rfl inTX0 (by decide) kw229 rfl dX0_at_48 ?_
            refine lv_iload_n hx hb dX0_at_51 rfl (lv_at hl 1 rfl) ?_
            by_cases hc6 : (x1 < 0 ∨ 200 ≤ x1.toNatClampNeg)
            · cases it h hc6
            have h := ie h hc6
            refine aG B X (LnX0_a2 L z) 0 rfl hc6 dX0_at_52 ?_
            exact rI B X rfl (Option.some.inj h) dX0_at_53
          · have h := it h hc5
            refine lv_aload_n hx hb dX0_at_38 rfl (lv_at hl 0 rfl) ?_
            refine fG B X (LnX0_g L z) 1 rfl inTX0 (by decide) kw228 rfl dX0_at_39 ?_
            refine lv_iload_n hx hb dX0_at_42 rfl (lv_at hl 1 rfl) ?_
            by_cases hc7 : (x1 < 0 ∨ 200 ≤ x1.toNatClampNeg)
            · cases it h hc7
            have h := ie h hc7
            refine aG B X (LnX0_a1 L z) 0 rfl hc7 dX0_at_43 ?_
            refine lv_goto (tgt := 53) hx hb dX0_at_44 (by decide) ?_
            exact rI B X rfl (Option.some.inj h) dX0_at_53
        · have h := it h hc4
          refine lv_aload_n hx hb dX0_at_26 rfl (lv_at hl 0 rfl) ?_
          refine fG B X (LnX0_g L z) 0 rfl inTX0 (by decide) kw227 rfl dX0_at_27 ?_
          refine lv_iload_n hx hb dX0_at_30 rfl (lv_at hl 1 rfl) ?_
          by_cases hc8 : (x1 < 0 ∨ 200 ≤ x1.toNatClampNeg)
          · cases it h hc8
          have h := ie h hc8
          refine aG B X (LnX0_a0 L z) 0 rfl hc8 dX0_at_31 ?_
          exact rI B X rfl (Option.some.inj h) dX0_at_32
      · have h := ie h hc3
        refine lv_bipush (v := (-101)) hx hb dX0_at_19 (by decide) ?_
        exact rI B X rfl (Option.some.inj h) dX0_at_21
end
