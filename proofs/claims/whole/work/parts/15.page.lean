section
variable {l : Launch} {p : Program} {e : Env} {R : Room} {S : State} {m : MethodId} {args : Array Value} {below : List Frame} {meth : Method} {c : Code} {A : Nat → Prop} {g : Nat → Nat} {D : va_G} {cI cB : ClassId}
def fX2_isRow (x0 : Int32) : Option Int32 :=
    if x0 = 45 then (some 1) else
    (if x0 < 97 then (some 0) else
    (if 112 < x0 then (some 0) else
    (some 1)))
set_option maxRecDepth 100000 in
set_option maxHeartbeats 4000000 in
theorem tX2_isRow {w : va_W} {d : Nat} (hd : 1 ≤ d) {x0 : Int32} {q : Int32} (h : fX2_isRow x0 = some q) : Ct l yX2_isRow cX2_isRow 1 (some .boolean) d A g D [(cI, .int), (cB, .byte)] [.int x0] (w) (QI A D w q) := by
  refine mkM (by decide) (Nat.le_of_ble_eq_true rfl) ?_
  intro p e S m args below meth c B X ls hl
  have B : Bd RX2 cX2_isRow 1 (some .boolean) d A g D [(cI, .int), (cB, .byte)] p (rmd d) S m args meth c := B
  have hx := B.1
  have hb := B.2.1
  have hd1 : 1 ≤ d := by omega
  have hl : lv_has ls 1 [(0, .int x0)] := hl
  unfold fX2_isRow at h
  refine lv_iload_n hx hb dX2_isRow_0 rfl (lv_at hl 0 rfl) ?_
  refine lv_bipush (v := 45) hx hb dX2_isRow_1 (by decide) ?_
  refine lv_icmp_eq (tgt := 18) hx hb dX2_isRow_3 (by decide) (fun hc1 => ?_) (fun hc1 => ?_)
  · have h := it h hc1
    refine lv_iconst (v := 1) hx hb dX2_isRow_18 (by decide) ?_
    refine lv_goto (tgt := 23) hx hb dX2_isRow_19 (by decide) ?_
    exact rZ B X rfl (Option.some.inj h) rfl dX2_isRow_23
  · have h := ie h hc1
    refine lv_iload_n hx hb dX2_isRow_6 rfl (lv_at hl 0 rfl) ?_
    refine lv_bipush (v := 97) hx hb dX2_isRow_7 (by decide) ?_
    refine lv_icmp_lt (tgt := 22) hx hb dX2_isRow_9 (by decide) (fun hc2 => ?_) (fun hc2 => ?_)
    · have h := it h hc2
      refine lv_iconst (v := 0) hx hb dX2_isRow_22 (by decide) ?_
      exact rZ B X rfl (Option.some.inj h) rfl dX2_isRow_23
    · have h := ie h hc2
      refine lv_iload_n hx hb dX2_isRow_12 rfl (lv_at hl 0 rfl) ?_
      refine lv_bipush (v := 112) hx hb dX2_isRow_13 (by decide) ?_
      refine lv_icmp_gt (tgt := 22) hx hb dX2_isRow_15 (by decide) (fun hc3 => ?_) (fun hc3 => ?_)
      · have h := it h hc3
        refine lv_iconst (v := 0) hx hb dX2_isRow_22 (by decide) ?_
        exact rZ B X rfl (Option.some.inj h) rfl dX2_isRow_23
      · have h := ie h hc3
        refine lv_iconst (v := 1) hx hb dX2_isRow_18 (by decide) ?_
        refine lv_goto (tgt := 23) hx hb dX2_isRow_19 (by decide) ?_
        exact rZ B X rfl (Option.some.inj h) rfl dX2_isRow_23
def fX2_isFull (z : SX2) : Option Int32 :=
    if z.2 < 36 then (some 0) else
    (some 1)
set_option maxRecDepth 100000 in
set_option maxHeartbeats 4000000 in
theorem tX2_isFull {a0 a1 p0 p1 : Nat} {wf : SX2 → va_W} (L : LnX2 a0 a1 p0 p1 cI wf) {d : Nat} (hd : 1 ≤ d) {z : SX2} {q : Int32} (h : fX2_isFull z = some q) : Ct l yX2_isFull cX2_isFull 1 (some .boolean) d A g D [(cI, .int), (cB, .byte)] [.ref a0] (wf z) (QI A D (wf z) q) := by
  refine mkM (by decide) (Nat.le_of_ble_eq_true rfl) ?_
  intro p e S m args below meth c B X ls hl
  have B : Bd RX2 cX2_isFull 1 (some .boolean) d A g D [(cI, .int), (cB, .byte)] p (rmd d) S m args meth c := B
  have hx := B.1
  have hb := B.2.1
  have hd1 : 1 ≤ d := by omega
  have hl : lv_has ls 1 [(0, .ref a0)] := hl
  unfold fX2_isFull at h
  refine lv_aload_n hx hb dX2_isFull_0 rfl (lv_at hl 0 rfl) ?_
  refine fG B X (LnX2_g L z) 1 rfl inTX2 (by decide) kw140 rfl dX2_isFull_1 ?_
  refine lv_bipush (v := 36) hx hb dX2_isFull_4 (by decide) ?_
  refine lv_icmp_lt (tgt := 13) hx hb dX2_isFull_6 (by decide) (fun hc1 => ?_) (fun hc1 => ?_)
  · have h := it h hc1
    refine lv_iconst (v := 0) hx hb dX2_isFull_13 (by decide) ?_
    exact rZ B X rfl (Option.some.inj h) rfl dX2_isFull_14
  · have h := ie h hc1
    refine lv_iconst (v := 1) hx hb dX2_isFull_9 (by decide) ?_
    refine lv_goto (tgt := 14) hx hb dX2_isFull_10 (by decide) ?_
    exact rZ B X rfl (Option.some.inj h) rfl dX2_isFull_14
def fX2_add (z : SX2) (x1 : Int32) : Option SX2 :=
    if z.2 < 0 then (some z) else
    (if 36 ≤ z.2 then (some z) else
    (if z.2 < 0 ∨ 36 ≤ z.2.toNatClampNeg then none else
    (some ((upd z.1 z.2.toNatClampNeg x1), (z.2 + 1)))))
set_option maxRecDepth 100000 in
set_option maxHeartbeats 4000000 in
theorem tX2_add {a0 a1 p0 p1 : Nat} {wf : SX2 → va_W} (L : LnX2 a0 a1 p0 p1 cI wf) {d : Nat} (hd : 1 ≤ d) {z : SX2} {x1 : Int32} {q : SX2} (h : fX2_add z x1 = some q) : Ct l yX2_add cX2_add 2 none d A g D [(cI, .int), (cB, .byte)] [.ref a0, .int x1] (wf z) (QV A D (wf q)) := by
  refine mkM (by decide) (Nat.le_of_ble_eq_true rfl) ?_
  intro p e S m args below meth c B X ls hl
  have B : Bd RX2 cX2_add 2 none d A g D [(cI, .int), (cB, .byte)] p (rmd d) S m args meth c := B
  have hx := B.1
  have hb := B.2.1
  have hd1 : 1 ≤ d := by omega
  have hl : lv_has ls 2 [(0, .ref a0), (1, .int x1)] := hl
  unfold fX2_add at h
  refine lv_aload_n hx hb dX2_add_0 rfl (lv_at hl 0 rfl) ?_
  refine fG B X (LnX2_g L z) 1 rfl inTX2 (by decide) kw140 rfl dX2_add_1 ?_
  refine lv_if_lt (tgt := 36) hx hb dX2_add_4 (by decide) (fun hc1 => ?_) (fun hc1 => ?_)
  · have h := it h hc1
    exact rV B X (congrArg wf (Option.some.inj h)) dX2_add_36
  · have h := ie h hc1
    refine lv_aload_n hx hb dX2_add_7 rfl (lv_at hl 0 rfl) ?_
    refine fG B X (LnX2_g L z) 1 rfl inTX2 (by decide) kw140 rfl dX2_add_8 ?_
    refine lv_bipush (v := 36) hx hb dX2_add_11 (by decide) ?_
    refine lv_icmp_ge (tgt := 36) hx hb dX2_add_13 (by decide) (fun hc2 => ?_) (fun hc2 => ?_)
    · have h := it h hc2
      exact rV B X (congrArg wf (Option.some.inj h)) dX2_add_36
    · have h := ie h hc2
      refine lv_aload_n hx hb dX2_add_16 rfl (lv_at hl 0 rfl) ?_
      refine fG B X (LnX2_g L z) 0 rfl inTX2 (by decide) kw138 rfl dX2_add_17 ?_
      refine lv_aload_n hx hb dX2_add_20 rfl (lv_at hl 0 rfl) ?_
      refine fG B X (LnX2_g L z) 1 rfl inTX2 (by decide) kw140 rfl dX2_add_21 ?_
      refine lv_iload_n hx hb dX2_add_24 rfl (lv_at hl 1 rfl) ?_
      by_cases hc3 : (z.2 < 0 ∨ 36 ≤ z.2.toNatClampNeg)
      · cases it h hc3
      have h := ie h hc3
      refine aP B X (LnX2_a0 L z) (LnX2_b0 L z _) 0 rfl hc3 dX2_add_25 (fun H locs X => ?_)
      have X : Hx A D S.heap (wf ((upd z.1 z.2.toNatClampNeg x1), z.2)) H locs := X
      refine lv_aload_n hx hb dX2_add_26 rfl (lv_at hl 0 rfl) ?_
      refine lv_dup hx hb dX2_add_27 rfl ?_
      refine fG B X (LnX2_g L ((upd z.1 z.2.toNatClampNeg x1), z.2)) 1 rfl inTX2 (by decide) kw140 rfl dX2_add_28 ?_
      refine lv_iconst (v := 1) hx hb dX2_add_31 (by decide) ?_
      refine lv_iadd hx hb dX2_add_32 ?_
      refine fP tyX2 B X (LnX2_g L ((upd z.1 z.2.toNatClampNeg x1), z.2)) 1 (LnX2_i1 L ((upd z.1 z.2.toNatClampNeg x1), z.2) _) rfl inTX2 tyX2_ok nmX2 (by decide) kw140 rfl rfl rfl rfl (Nat.le_of_ble_eq_true rfl) dX2_add_33 (fun H locs X => ?_)
      have X : Hx A D S.heap (wf ((upd z.1 z.2.toNatClampNeg x1), (z.2 + 1))) H locs := X
      exact rV B X (congrArg wf (Option.some.inj h)) dX2_add_36
def fX2_clear (z : SX2) : Option SX2 :=
    some (z.1, 0)
set_option maxRecDepth 100000 in
set_option maxHeartbeats 4000000 in
theorem tX2_clear {a0 a1 p0 p1 : Nat} {wf : SX2 → va_W} (L : LnX2 a0 a1 p0 p1 cI wf) {d : Nat} (hd : 1 ≤ d) {z : SX2} {q : SX2} (h : fX2_clear z = some q) : Ct l yX2_clear cX2_clear 1 none d A g D [(cI, .int), (cB, .byte)] [.ref a0] (wf z) (QV A D (wf q)) := by
  refine mkM (by decide) (Nat.le_of_ble_eq_true rfl) ?_
  intro p e S m args below meth c B X ls hl
  have B : Bd RX2 cX2_clear 1 none d A g D [(cI, .int), (cB, .byte)] p (rmd d) S m args meth c := B
  have hx := B.1
  have hb := B.2.1
  have hd1 : 1 ≤ d := by omega
  have hl : lv_has ls 1 [(0, .ref a0)] := hl
  unfold fX2_clear at h
  refine lv_aload_n hx hb dX2_clear_0 rfl (lv_at hl 0 rfl) ?_
  refine lv_iconst (v := 0) hx hb dX2_clear_1 (by decide) ?_
  refine fP tyX2 B X (LnX2_g L z) 1 (LnX2_i1 L z _) rfl inTX2 tyX2_ok nmX2 (by decide) kw140 rfl rfl rfl rfl (Nat.le_of_ble_eq_true rfl) dX2_clear_2 (fun H locs X => ?_)
  have X : Hx A D S.heap (wf (z.1, 0)) H locs := X
  exact rV B X (congrArg wf (Option.some.inj h)) dX2_clear_5
def fX2_codeAt (z : SX2) (x1 : Int32) : Option Int32 :=
    if x1 < 0 then (some (-1)) else
    (if z.2 ≤ x1 then (some (-1)) else
    (if 36 ≤ x1 then (some (-1)) else
    (if x1 < 0 ∨ 36 ≤ x1.toNatClampNeg then none else
    (some (z.1 x1.toNatClampNeg)))))
set_option maxRecDepth 100000 in
set_option maxHeartbeats 4000000 in
theorem tX2_codeAt {a0 a1 p0 p1 : Nat} {wf : SX2 → va_W} (L : LnX2 a0 a1 p0 p1 cI wf) {d : Nat} (hd : 1 ≤ d) {z : SX2} {x1 : Int32} {q : Int32} (h : fX2_codeAt z x1 = some q) : Ct l yX2_codeAt cX2_codeAt 2 (some .int) d A g D [(cI, .int), (cB, .byte)] [.ref a0, .int x1] (wf z) (QI A D (wf z) q) := by
  refine mkM (by decide) (Nat.le_of_ble_eq_true rfl) ?_
  intro p e S m args below meth c B X ls hl
  have B : Bd RX2 cX2_codeAt 2 (some .int) d A g D [(cI, .int), (cB, .byte)] p (rmd d) S m args meth c := B
  have hx := B.1
  have hb := B.2.1
  have hd1 : 1 ≤ d := by omega
  have hl : lv_has ls 2 [(0, .ref a0), (1, .int x1)] := hl
  unfold fX2_codeAt at h
  refine lv_iload_n hx hb dX2_codeAt_0 rfl (lv_at hl 1 rfl) ?_
  refine lv_if_lt (tgt := 27) hx hb dX2_codeAt_1 (by decide) (fun hc1 => ?_) (fun hc1 => ?_)
  · have h := it h hc1
    refine lv_iconst (v := (-1)) hx hb dX2_codeAt_27 (by decide) ?_
    exact rI B X rfl (Option.some.inj h) dX2_codeAt_28
  · have h := ie h hc1
    refine lv_iload_n hx hb dX2_codeAt_4 rfl (lv_at hl 1 rfl) ?_
    refine lv_aload_n hx hb dX2_codeAt_5 rfl (lv_at hl 0 rfl) ?_
    refine fG B X (LnX2_g L z) 1 rfl inTX2 (by decide) kw140 rfl dX2_codeAt_6 ?_
    refine lv_icmp_ge (tgt := 27) hx hb dX2_codeAt_9 (by decide) (fun hc2 => ?_) (fun hc2 => ?_)
    · have h := it h hc2
      refine lv_iconst (v := (-1)) hx hb dX2_codeAt_27 (by decide) ?_
      exact rI B X rfl (Option.some.inj h) dX2_codeAt_28
    · have h := ie h hc2
      refine lv_iload_n hx hb dX2_codeAt_12 rfl (lv_at hl 1 rfl) ?_
      refine lv_bipush (v := 36) hx hb dX2_codeAt_13 (by decide) ?_
      refine lv_icmp_ge (tgt := 27) hx hb dX2_codeAt_15 (by decide) (fun hc3 => ?_) (fun hc3 => ?_)
      · have h := it h hc3
        refine lv_iconst (v := (-1)) hx hb dX2_codeAt_27 (by decide) ?_
        exact rI B X rfl (Option.some.inj h) dX2_codeAt_28
      · have h := ie h hc3
        refine lv_aload_n hx hb dX2_codeAt_18 rfl (lv_at hl 0 rfl) ?_
        refine fG B X (LnX2_g L z) 0 rfl inTX2 (by decide) kw138 rfl dX2_codeAt_19 ?_
        refine lv_iload_n hx hb dX2_codeAt_22 rfl (lv_at hl 1 rfl) ?_
        by_cases hc4 : (x1 < 0 ∨ 36 ≤ x1.toNatClampNeg)
        · cases it h hc4
        have h := ie h hc4
        refine aG B X (LnX2_a0 L z) 0 rfl hc4 dX2_codeAt_23 ?_
        refine lv_goto (tgt := 28) hx hb dX2_codeAt_24 (by decide) ?_
        exact rI B X rfl (Option.some.inj h) dX2_codeAt_28
def fX2_isHead (x0 : Int32) (x1 : Int32) : Option Int32 :=
    if x0 = 0 then (if x1 < 49 then (some 0) else
    (if 57 < x1 then (some 0) else
    (some 1))) else
    (if x0 = 1 then ((fX2_kindOf x1).bind fun q4 =>
    if q4 < 0 then (some 0) else
    (some 1)) else
    (if x1 = 59 then (some 1) else
    (some 0)))
set_option maxRecDepth 100000 in
set_option maxHeartbeats 4000000 in
theorem tX2_isHead {w : va_W} {d : Nat} (hd : 6 ≤ d) {x0 x1 : Int32} {q : Int32} (h : fX2_isHead x0 x1 = some q) : Ct l yX2_isHead cX2_isHead 2 (some .boolean) d A g D [(cI, .int), (cB, .byte)] [.int x0, .int x1] (w) (QI A D w q) := by
  refine mkM (by decide) (Nat.le_of_ble_eq_true rfl) ?_
  intro p e S m args below meth c B X ls hl
  have B : Bd RX2 cX2_isHead 2 (some .boolean) d A g D [(cI, .int), (cB, .byte)] p (rmd d) S m args meth c := B
  have hx := B.1
  have hb := B.2.1
  have hd1 : 1 ≤ d := by omega
  have hl : lv_has ls 2 [(0, .int x0), (1, .int x1)] := hl
  unfold fX2_isHead at h
  refine lv_iload_n hx hb dX2_isHead_0 rfl (lv_at hl 0 rfl) ?_
  refine lv_if_ne (tgt := 22) hx hb dX2_isHead_1 (by decide) (fun hc1 => ?_) (fun hc1 => ?_)
  · have h := ie h hc1
    refine lv_iload_n hx hb dX2_isHead_22 rfl (lv_at hl 0 rfl) ?_
    refine lv_iconst (v := 1) hx hb dX2_isHead_23 (by decide) ?_
    refine lv_icmp_ne (tgt := 42) hx hb dX2_isHead_24 (by decide) (fun hc2 => ?_) (fun hc2 => ?_)
    · have h := ie h hc2
      refine lv_iload_n hx hb dX2_isHead_42 rfl (lv_at hl 1 rfl) ?_
      refine lv_bipush (v := 59) hx hb dX2_isHead_43 (by decide) ?_
      refine lv_icmp_ne (tgt := 52) hx hb dX2_isHead_45 (by decide) (fun hc3 => ?_) (fun hc3 => ?_)
      · have h := ie h hc3
        refine lv_iconst (v := 0) hx hb dX2_isHead_52 (by decide) ?_
        exact rZ B X rfl (Option.some.inj h) rfl dX2_isHead_53
      · have h := it h hc3
        refine lv_iconst (v := 1) hx hb dX2_isHead_48 (by decide) ?_
        refine lv_goto (tgt := 53) hx hb dX2_isHead_49 (by decide) ?_
        exact rZ B X rfl (Option.some.inj h) rfl dX2_isHead_53
    · have h := it h hc2
      refine lv_iload_n hx hb dX2_isHead_27 rfl (lv_at hl 1 rfl) ?_
      obtain ⟨q4, h4, h⟩ := bs h
      refine kI X (cS (As := [.int x1]) (rest := []) B X (tX2_kindOf (d := d - 1) (by omega) h4) msX2_kindOf kw357 (by omega) rfl (Nat.le_of_ble_eq_true rfl) hl.1 ⟨Nat.zero_le _, Nat.zero_le _⟩ dX2_isHead_28) (fun H locs X => ?_)
      refine lv_if_lt (tgt := 38) hx hb dX2_isHead_31 (by decide) (fun hc5 => ?_) (fun hc5 => ?_)
      · have h := it h hc5
        refine lv_iconst (v := 0) hx hb dX2_isHead_38 (by decide) ?_
        refine lv_goto (tgt := 53) hx hb dX2_isHead_39 (by decide) ?_
        exact rZ B X rfl (Option.some.inj h) rfl dX2_isHead_53
      · have h := ie h hc5
        refine lv_iconst (v := 1) hx hb dX2_isHead_34 (by decide) ?_
        refine lv_goto (tgt := 53) hx hb dX2_isHead_35 (by decide) ?_
        exact rZ B X rfl (Option.some.inj h) rfl dX2_isHead_53
  · have h := it h hc1
    refine lv_iload_n hx hb dX2_isHead_4 rfl (lv_at hl 1 rfl) ?_
    refine lv_bipush (v := 49) hx hb dX2_isHead_5 (by decide) ?_
    refine lv_icmp_lt (tgt := 20) hx hb dX2_isHead_7 (by decide) (fun hc6 => ?_) (fun hc6 => ?_)
    · have h := it h hc6
      refine lv_iconst (v := 0) hx hb dX2_isHead_20 (by decide) ?_
      exact rZ B X rfl (Option.some.inj h) rfl dX2_isHead_21
    · have h := ie h hc6
      refine lv_iload_n hx hb dX2_isHead_10 rfl (lv_at hl 1 rfl) ?_
      refine lv_bipush (v := 57) hx hb dX2_isHead_11 (by decide) ?_
      refine lv_icmp_gt (tgt := 20) hx hb dX2_isHead_13 (by decide) (fun hc7 => ?_) (fun hc7 => ?_)
      · have h := it h hc7
        refine lv_iconst (v := 0) hx hb dX2_isHead_20 (by decide) ?_
        exact rZ B X rfl (Option.some.inj h) rfl dX2_isHead_21
      · have h := ie h hc7
        refine lv_iconst (v := 1) hx hb dX2_isHead_16 (by decide) ?_
        refine lv_goto (tgt := 21) hx hb dX2_isHead_17 (by decide) ?_
        exact rZ B X rfl (Option.some.inj h) rfl dX2_isHead_21
def fX2_firstFault_b55 (k6 : Int32 → Int32 → Int32 → Option Int32) (z : SX2) (x1 : Int32) (x2 : Int32) (x3 : Int32) (x4 : Int32) : Option Int32 :=
    (fX2_isRow x4).bind fun q1 =>
    if q1 = 0 then (some x3) else
    (if 14 ≤ x2 then (some x3) else
    (k6 x1 (x2 + 1) (x3 + 1)))
set_option maxRecDepth 100000 in
set_option maxHeartbeats 4000000 in
theorem tX2_firstFault_b55 {a0 a1 p0 p1 : Nat} {wf : SX2 → va_W} (L : LnX2 a0 a1 p0 p1 cI wf) {d : Nat} (hd : 7 ≤ d) {z : SX2} (B : Bd RX2 cX2_firstFault 5 (some .int) d A g D [(cI, .int), (cB, .byte)] p R S m args meth c) {q : Int32} {k6 : Int32 → Int32 → Int32 → Option Int32} (hk6 : ∀ (x1 : Int32) (x2 : Int32) (x3 : Int32) (H : Heap) (locs : List Loc) (ls : Array Slot), Hx A D S.heap (wf z) H locs → lv_has ls 5 [(0, .ref a0), (1, .int x1), (2, .int x2), (3, .int x3)] → k6 x1 x2 x3 = some q → W p l e R S m args below meth c H locs 0 0 (MQ below (QI A D (wf z) q) args S 0 0 A) (F0 m 6 ls [])) : ∀ (x1 : Int32) (x2 : Int32) (x3 : Int32) (x4 : Int32) (H : Heap) (locs : List Loc) (ls : Array Slot), Hx A D S.heap (wf z) H locs → lv_has ls 5 [(0, .ref a0), (1, .int x1), (2, .int x2), (3, .int x3), (4, .int x4)] → fX2_firstFault_b55 k6 z x1 x2 x3 x4 = some q → W p l e R S m args below meth c H locs 0 0 (MQ below (QI A D (wf z) q) args S 0 0 A) (F0 m 55 ls []) := by
  have hx := B.1
  have hb := B.2.1
  have hd1 : 1 ≤ d := by omega
  intro x1 x2 x3 x4 H locs ls X hl h
  unfold fX2_firstFault_b55 at h
  refine lv_iload hx hb dX2_firstFault_55 (lv_at hl 4 rfl) ?_
  obtain ⟨q1, h1, h⟩ := bs h
  refine kI X (cS (As := [.int x4]) (rest := []) B X (tX2_isRow (d := d - 1) (by omega) h1) msX2_isRow kw447 (by omega) rfl (Nat.le_of_ble_eq_true rfl) hl.1 ⟨Nat.zero_le _, Nat.zero_le _⟩ dX2_firstFault_57) (fun H locs X => ?_)
  have X : Hx A D S.heap (wf z) H locs := X
  refine lv_if_eq (tgt := 75) hx hb dX2_firstFault_60 (by decide) (fun hc2 => ?_) (fun hc2 => ?_)
  · have h := it h hc2
    refine lv_iload_n hx hb dX2_firstFault_75 rfl (lv_at hl 3 rfl) ?_
    exact rI B X rfl (Option.some.inj h) dX2_firstFault_76
  · have h := ie h hc2
    refine lv_iload_n hx hb dX2_firstFault_63 rfl (lv_at hl 2 rfl) ?_
    refine lv_bipush (v := 14) hx hb dX2_firstFault_64 (by decide) ?_
    refine lv_icmp_ge (tgt := 75) hx hb dX2_firstFault_66 (by decide) (fun hc3 => ?_) (fun hc3 => ?_)
    · have h := it h hc3
      refine lv_iload_n hx hb dX2_firstFault_75 rfl (lv_at hl 3 rfl) ?_
      exact rI B X rfl (Option.some.inj h) dX2_firstFault_76
    · have h := ie h hc3
      refine lv_iinc (v := x2 + 1) (lv' := [(2, .int (x2 + 1)), (0, .ref a0), (1, .int x1), (3, .int x3), (4, .int x4)]) hx hb dX2_firstFault_69 hl (k := 2) rfl rfl (by decide) rfl (fun ls hl => ?_)
      refine lv_goto (tgt := 77) hx hb dX2_firstFault_72 (by decide) ?_
      refine lv_iinc (v := x3 + 1) (lv' := [(3, .int (x3 + 1)), (2, .int (x2 + 1)), (0, .ref a0), (1, .int x1), (4, .int x4)]) hx hb dX2_firstFault_77 hl (k := 3) rfl rfl (by decide) rfl (fun ls hl => ?_)
      refine lv_goto (tgt := 6) hx hb dX2_firstFault_80 (by decide) ?_
      exact hk6 x1 (x2 + 1) (x3 + 1) _ _ _ X (lv_sub hl [2, 3, 1, 0] rfl) h
def fX2_firstFault_b6 (z : SX2) : Nat → Int32 → Int32 → Int32 → Option Int32
  | 0, _, _, _ => none
  | n + 1, x1, x2, x3 =>
    if z.2 ≤ x3 then (some z.2) else
    ((fX2_codeAt z x3).bind fun q2 =>
    if 3 ≤ x3 then (if q2 = 59 then (if x1 = 0 then (fX2_firstFault_b6 z n 1 0 (x3 + 1)) else
    (fX2_firstFault_b55 (fX2_firstFault_b6 z n) z x1 x2 x3 q2)) else
    (fX2_firstFault_b55 (fX2_firstFault_b6 z n) z x1 x2 x3 q2)) else
    ((fX2_isHead x3 q2).bind fun q6 =>
    if q6 = 0 then (some x3) else
    (fX2_firstFault_b6 z n x1 x2 (x3 + 1))))
set_option maxRecDepth 100000 in
set_option maxHeartbeats 4000000 in
theorem tX2_firstFault_b6 {a0 a1 p0 p1 : Nat} {wf : SX2 → va_W} (L : LnX2 a0 a1 p0 p1 cI wf) {d : Nat} (hd : 7 ≤ d) {z : SX2} (B : Bd RX2 cX2_firstFault 5 (some .int) d A g D [(cI, .int), (cB, .byte)] p R S m args meth c) {q : Int32} : ∀ (n : Nat) (x1 : Int32) (x2 : Int32) (x3 : Int32) (H : Heap) (locs : List Loc) (ls : Array Slot), Hx A D S.heap (wf z) H locs → lv_has ls 5 [(0, .ref a0), (1, .int x1), (2, .int x2), (3, .int x3)] → fX2_firstFault_b6 z n x1 x2 x3 = some q → W p l e R S m args below meth c H locs 0 0 (MQ below (QI A D (wf z) q) args S 0 0 A) (F0 m 6 ls []) := by
  have hx := B.1
  have hb := B.2.1
  have hd1 : 1 ≤ d := by omega
  intro n
  induction n with
  | zero =>
    intro x1 x2 x3 H locs ls X hl h
    cases h
  | succ n ih =>
    intro x1 x2 x3 H locs ls X hl h
    rw [fX2_firstFault_b6] at h
    refine lv_iload_n hx hb dX2_firstFault_6 rfl (lv_at hl 3 rfl) ?_
    refine lv_aload_n hx hb dX2_firstFault_7 rfl (lv_at hl 0 rfl) ?_
    refine fG B X (LnX2_g L z) 1 rfl inTX2 (by decide) kw140 rfl dX2_firstFault_8 ?_
    refine lv_icmp_ge (tgt := 83) hx hb dX2_firstFault_11 (by decide) (fun hc1 => ?_) (fun hc1 => ?_)
    · have h := it h hc1
      refine lv_aload_n hx hb dX2_firstFault_83 rfl (lv_at hl 0 rfl) ?_
      refine fG B X (LnX2_g L z) 1 rfl inTX2 (by decide) kw140 rfl dX2_firstFault_84 ?_
      exact rI B X rfl (Option.some.inj h) dX2_firstFault_87
    · have h := ie h hc1
      refine lv_aload_n hx hb dX2_firstFault_14 rfl (lv_at hl 0 rfl) ?_
      refine lv_iload_n hx hb dX2_firstFault_15 rfl (lv_at hl 3 rfl) ?_
      obtain ⟨q2, h2, h⟩ := bs h
      refine kI X (cV (As := [.int x3]) (rest := []) B X (tX2_codeAt (d := d - 1) L (by omega) h2) mfX2_codeAt kw350 (by omega) (LnX2_g L z) rfl rfl (Nat.le_of_ble_eq_true rfl) hl.1 ⟨Nat.zero_le _, Nat.zero_le _⟩ dX2_firstFault_16) (fun H locs X => ?_)
      have X : Hx A D S.heap (wf z) H locs := X
      refine lv_istore (lv' := [(4, .int q2), (0, .ref a0), (1, .int x1), (2, .int x2), (3, .int x3)]) hx hb dX2_firstFault_19 hl (by decide) rfl (fun ls hl => ?_)
      refine lv_iload_n hx hb dX2_firstFault_21 rfl (lv_at hl 4 rfl) ?_
      refine lv_iconst (v := 3) hx hb dX2_firstFault_22 (by decide) ?_
      refine lv_icmp_ge (tgt := 37) hx hb dX2_firstFault_23 (by decide) (fun hc3 => ?_) (fun hc3 => ?_)
      · have h := it h hc3
        refine lv_iload hx hb dX2_firstFault_37 (lv_at hl 0 rfl) ?_
        refine lv_bipush (v := 59) hx hb dX2_firstFault_39 (by decide) ?_
        refine lv_icmp_ne (tgt := 55) hx hb dX2_firstFault_41 (by decide) (fun hc4 => ?_) (fun hc4 => ?_)
        · have h := ie h hc4
          exact tX2_firstFault_b55 L hd B ih x1 x2 x3 q2 _ _ _ X (lv_sub hl [1, 2, 3, 4, 0] rfl) h
        · have h := it h hc4
          refine lv_iload_n hx hb dX2_firstFault_44 rfl (lv_at hl 2 rfl) ?_
          refine lv_if_ne (tgt := 55) hx hb dX2_firstFault_45 (by decide) (fun hc5 => ?_) (fun hc5 => ?_)
          · have h := ie h hc5
            exact tX2_firstFault_b55 L hd B ih x1 x2 x3 q2 _ _ _ X (lv_sub hl [1, 2, 3, 4, 0] rfl) h
          · have h := it h hc5
            refine lv_iconst (v := 1) hx hb dX2_firstFault_48 (by decide) ?_
            refine lv_istore_n (lv' := [(1, .int 1), (4, .int q2), (0, .ref a0), (2, .int x2), (3, .int x3)]) hx hb dX2_firstFault_49 rfl hl (by decide) rfl (fun ls hl => ?_)
            refine lv_iconst (v := 0) hx hb dX2_firstFault_50 (by decide) ?_
            refine lv_istore_n (lv' := [(2, .int 0), (1, .int 1), (4, .int q2), (0, .ref a0), (3, .int x3)]) hx hb dX2_firstFault_51 rfl hl (by decide) rfl (fun ls hl => ?_)
            refine lv_goto (tgt := 77) hx hb dX2_firstFault_52 (by decide) ?_
            refine lv_iinc (v := x3 + 1) (lv' := [(3, .int (x3 + 1)), (2, .int 0), (1, .int 1), (4, .int q2), (0, .ref a0)]) hx hb dX2_firstFault_77 hl (k := 4) rfl rfl (by decide) rfl (fun ls hl => ?_)
            refine lv_goto (tgt := 6) hx hb dX2_firstFault_80 (by decide) ?_
            exact ih 1 0 (x3 + 1) _ _ _ X (lv_sub hl [4, 2, 1, 0] rfl) h
      · have h := ie h hc3
        refine lv_iload_n hx hb dX2_firstFault_26 rfl (lv_at hl 4 rfl) ?_
        refine lv_iload hx hb dX2_firstFault_27 (lv_at hl 0 rfl) ?_
        obtain ⟨q6, h6, h⟩ := bs h
        refine kI X (cS (As := [.int x3, .int q2]) (rest := []) B X (tX2_isHead (d := d - 1) (by omega) h6) msX2_isHead kw354 (by omega) rfl (Nat.le_of_ble_eq_true rfl) hl.1 ⟨Nat.zero_le _, Nat.zero_le _⟩ dX2_firstFault_29) (fun H locs X => ?_)
        have X : Hx A D S.heap (wf z) H locs := X
        refine lv_if_ne (tgt := 77) hx hb dX2_firstFault_32 (by decide) (fun hc7 => ?_) (fun hc7 => ?_)
        · have h := ie h hc7
          refine lv_iinc (v := x3 + 1) (lv' := [(3, .int (x3 + 1)), (4, .int q2), (0, .ref a0), (1, .int x1), (2, .int x2)]) hx hb dX2_firstFault_77 hl (k := 4) rfl rfl (by decide) rfl (fun ls hl => ?_)
          refine lv_goto (tgt := 6) hx hb dX2_firstFault_80 (by decide) ?_
          exact ih x1 x2 (x3 + 1) _ _ _ X (lv_sub hl [2, 3, 4, 0] rfl) h
        · have h := it h hc7
          refine lv_iload_n hx hb dX2_firstFault_35 rfl (lv_at hl 4 rfl) ?_
          exact rI B X rfl (Option.some.inj h) dX2_firstFault_36
def fX2_firstFault (z : SX2) : Option Int32 :=
    fX2_firstFault_b6 z 1000 0 0 0
set_option maxRecDepth 100000 in
set_option maxHeartbeats 4000000 in
theorem tX2_firstFault {a0 a1 p0 p1 : Nat} {wf : SX2 → va_W} (L : LnX2 a0 a1 p0 p1 cI wf) {d : Nat} (hd : 7 ≤ d) {z : SX2} {q : Int32} (h : fX2_firstFault z = some q) : Ct l yX2_firstFault cX2_firstFault 5 (some .int) d A g D [(cI, .int), (cB, .byte)] [.ref a0] (wf z) (QI A D (wf z) q) := by
  refine mkM (by decide) (Nat.le_of_ble_eq_true rfl) ?_
  intro p e S m args below meth c B X ls hl
  have B : Bd RX2 cX2_firstFault 5 (some .int) d A g D [(cI, .int), (cB, .byte)] p (rmd d) S m args meth c := B
  have hx := B.1
  have hb := B.2.1
  have hd1 : 1 ≤ d := by omega
  have hl : lv_has ls 5 [(0, .ref a0)] := hl
  unfold fX2_firstFault at h
  refine lv_iconst (v := 0) hx hb dX2_firstFault_0 (by decide) ?_
  refine lv_istore_n (lv' := [(1, .int 0), (0, .ref a0)]) hx hb dX2_firstFault_1 rfl hl (by decide) rfl (fun ls hl => ?_)
  refine lv_iconst (v := 0) hx hb dX2_firstFault_2 (by decide) ?_
  refine lv_istore_n (lv' := [(2, .int 0), (1, .int 0), (0, .ref a0)]) hx hb dX2_firstFault_3 rfl hl (by decide) rfl (fun ls hl => ?_)
  refine lv_iconst (v := 0) hx hb dX2_firstFault_4 (by decide) ?_
  refine lv_istore_n (lv' := [(3, .int 0), (2, .int 0), (1, .int 0), (0, .ref a0)]) hx hb dX2_firstFault_5 rfl hl (by decide) rfl (fun ls hl => ?_)
  exact tX2_firstFault_b6 L hd B 1000 0 0 0 _ _ _ X (lv_sub hl [3, 2, 1, 0] rfl) h
def fX2_secondMark_b2 (z : SX2) : Nat → Int32 → Option Int32
  | 0, _ => none
  | n + 1, x1 =>
    if z.2 ≤ x1 then (some (-1)) else
    ((fX2_codeAt z x1).bind fun q2 =>
    if q2 = 59 then (some x1) else
    (fX2_secondMark_b2 z n (x1 + 1)))
set_option maxRecDepth 100000 in
set_option maxHeartbeats 4000000 in
theorem tX2_secondMark_b2 {a0 a1 p0 p1 : Nat} {wf : SX2 → va_W} (L : LnX2 a0 a1 p0 p1 cI wf) {d : Nat} (hd : 2 ≤ d) {z : SX2} (B : Bd RX2 cX2_secondMark 2 (some .int) d A g D [(cI, .int), (cB, .byte)] p R S m args meth c) {q : Int32} : ∀ (n : Nat) (x1 : Int32) (H : Heap) (locs : List Loc) (ls : Array Slot), Hx A D S.heap (wf z) H locs → lv_has ls 2 [(0, .ref a0), (1, .int x1)] → fX2_secondMark_b2 z n x1 = some q → W p l e R S m args below meth c H locs 0 0 (MQ below (QI A D (wf z) q) args S 0 0 A) (F0 m 2 ls []) := by
  have hx := B.1
  have hb := B.2.1
  have hd1 : 1 ≤ d := by omega
  intro n
  induction n with
  | zero =>
    intro x1 H locs ls X hl h
    cases h
  | succ n ih =>
    intro x1 H locs ls X hl h
    rw [fX2_secondMark_b2] at h
    refine lv_iload_n hx hb dX2_secondMark_2 rfl (lv_at hl 1 rfl) ?_
    refine lv_aload_n hx hb dX2_secondMark_3 rfl (lv_at hl 0 rfl) ?_
    refine fG B X (LnX2_g L z) 1 rfl inTX2 (by decide) kw140 rfl dX2_secondMark_4 ?_
    refine lv_icmp_ge (tgt := 28) hx hb dX2_secondMark_7 (by decide) (fun hc1 => ?_) (fun hc1 => ?_)
    · have h := it h hc1
      refine lv_iconst (v := (-1)) hx hb dX2_secondMark_28 (by decide) ?_
      exact rI B X rfl (Option.some.inj h) dX2_secondMark_29
    · have h := ie h hc1
      refine lv_aload_n hx hb dX2_secondMark_10 rfl (lv_at hl 0 rfl) ?_
      refine lv_iload_n hx hb dX2_secondMark_11 rfl (lv_at hl 1 rfl) ?_
      obtain ⟨q2, h2, h⟩ := bs h
      refine kI X (cV (As := [.int x1]) (rest := []) B X (tX2_codeAt (d := d - 1) L (by omega) h2) mfX2_codeAt kw350 (by omega) (LnX2_g L z) rfl rfl (Nat.le_of_ble_eq_true rfl) hl.1 ⟨Nat.zero_le _, Nat.zero_le _⟩ dX2_secondMark_12) (fun H locs X => ?_)
      have X : Hx A D S.heap (wf z) H locs := X
      refine lv_bipush (v := 59) hx hb dX2_secondMark_15 (by decide) ?_
      refine lv_icmp_ne (tgt := 22) hx hb dX2_secondMark_17 (by decide) (fun hc3 => ?_) (fun hc3 => ?_)
      · have h := ie h hc3
        refine lv_iinc (v := x1 + 1) (lv' := [(1, .int (x1 + 1)), (0, .ref a0)]) hx hb dX2_secondMark_22 hl (k := 1) rfl rfl (by decide) rfl (fun ls hl => ?_)
        refine lv_goto (tgt := 2) hx hb dX2_secondMark_25 (by decide) ?_
        exact ih (x1 + 1) _ _ _ X (lv_sub hl [1, 0] rfl) h
      · have h := it h hc3
        refine lv_iload_n hx hb dX2_secondMark_20 rfl (lv_at hl 1 rfl) ?_
        exact rI B X rfl (Option.some.inj h) dX2_secondMark_21
def fX2_secondMark (z : SX2) : Option Int32 :=
    fX2_secondMark_b2 z 1000 3
set_option maxRecDepth 100000 in
set_option maxHeartbeats 4000000 in
theorem tX2_secondMark {a0 a1 p0 p1 : Nat} {wf : SX2 → va_W} (L : LnX2 a0 a1 p0 p1 cI wf) {d : Nat} (hd : 2 ≤ d) {z : SX2} {q : Int32} (h : fX2_secondMark z = some q) : Ct l yX2_secondMark cX2_secondMark 2 (some .int) d A g D [(cI, .int), (cB, .byte)] [.ref a0] (wf z) (QI A D (wf z) q) := by
  refine mkM (by decide) (Nat.le_of_ble_eq_true rfl) ?_
  intro p e S m args below meth c B X ls hl
  have B : Bd RX2 cX2_secondMark 2 (some .int) d A g D [(cI, .int), (cB, .byte)] p (rmd d) S m args meth c := B
  have hx := B.1
  have hb := B.2.1
  have hd1 : 1 ≤ d := by omega
  have hl : lv_has ls 2 [(0, .ref a0)] := hl
  unfold fX2_secondMark at h
  refine lv_iconst (v := 3) hx hb dX2_secondMark_0 (by decide) ?_
  refine lv_istore_n (lv' := [(1, .int 3), (0, .ref a0)]) hx hb dX2_secondMark_1 rfl hl (by decide) rfl (fun ls hl => ?_)
  exact tX2_secondMark_b2 L hd B 1000 3 _ _ _ X (lv_sub hl [1, 0] rfl) h
def fX2_isWhole (z : SX2) : Option Int32 :=
    (fX2_firstFault z).bind fun q1 =>
    if q1 = z.2 then ((fX2_secondMark z).bind fun q3 =>
    if q3 = (-1) then (some 0) else
    (some 1)) else
    (some 0)
set_option maxRecDepth 100000 in
set_option maxHeartbeats 4000000 in
theorem tX2_isWhole {a0 a1 p0 p1 : Nat} {wf : SX2 → va_W} (L : LnX2 a0 a1 p0 p1 cI wf) {d : Nat} (hd : 8 ≤ d) {z : SX2} {q : Int32} (h : fX2_isWhole z = some q) : Ct l yX2_isWhole cX2_isWhole 1 (some .boolean) d A g D [(cI, .int), (cB, .byte)] [.ref a0] (wf z) (QI A D (wf z) q) := by
  refine mkM (by decide) (Nat.le_of_ble_eq_true rfl) ?_
  intro p e S m args below meth c B X ls hl
  have B : Bd RX2 cX2_isWhole 1 (some .boolean) d A g D [(cI, .int), (cB, .byte)] p (rmd d) S m args meth c := B
  have hx := B.1
  have hb := B.2.1
  have hd1 : 1 ≤ d := by omega
  have hl : lv_has ls 1 [(0, .ref a0)] := hl
  unfold fX2_isWhole at h
  refine lv_aload_n hx hb dX2_isWhole_0 rfl (lv_at hl 0 rfl) ?_
  obtain ⟨q1, h1, h⟩ := bs h
  refine kI X (cV (As := []) (rest := []) B X (tX2_firstFault (d := d - 1) L (by omega) h1) mfX2_firstFault kw459 (by omega) (LnX2_g L z) rfl rfl (Nat.le_of_ble_eq_true rfl) hl.1 ⟨Nat.zero_le _, Nat.zero_le _⟩ dX2_isWhole_1) (fun H locs X => ?_)
  have X : Hx A D S.heap (wf z) H locs := X
  refine lv_aload_n hx hb dX2_isWhole_4 rfl (lv_at hl 0 rfl) ?_
  refine fG B X (LnX2_g L z) 1 rfl inTX2 (by decide) kw140 rfl dX2_isWhole_5 ?_
  refine lv_icmp_ne (tgt := 23) hx hb dX2_isWhole_8 (by decide) (fun hc2 => ?_) (fun hc2 => ?_)
  · have h := ie h hc2
    refine lv_iconst (v := 0) hx hb dX2_isWhole_23 (by decide) ?_
    exact rZ B X rfl (Option.some.inj h) rfl dX2_isWhole_24
  · have h := it h hc2
    refine lv_aload_n hx hb dX2_isWhole_11 rfl (lv_at hl 0 rfl) ?_
    obtain ⟨q3, h3, h⟩ := bs h
    refine kI X (cV (As := []) (rest := []) B X (tX2_secondMark (d := d - 1) L (by omega) h3) mfX2_secondMark kw460 (by omega) (LnX2_g L z) rfl rfl (Nat.le_of_ble_eq_true rfl) hl.1 ⟨Nat.zero_le _, Nat.zero_le _⟩ dX2_isWhole_12) (fun H locs X => ?_)
    have X : Hx A D S.heap (wf z) H locs := X
    refine lv_iconst (v := (-1)) hx hb dX2_isWhole_15 (by decide) ?_
    refine lv_icmp_eq (tgt := 23) hx hb dX2_isWhole_16 (by decide) (fun hc4 => ?_) (fun hc4 => ?_)
    · have h := it h hc4
      refine lv_iconst (v := 0) hx hb dX2_isWhole_23 (by decide) ?_
      exact rZ B X rfl (Option.some.inj h) rfl dX2_isWhole_24
    · have h := ie h hc4
      refine lv_iconst (v := 1) hx hb dX2_isWhole_19 (by decide) ?_
      refine lv_goto (tgt := 24) hx hb dX2_isWhole_20 (by decide) ?_
      exact rZ B X rfl (Option.some.inj h) rfl dX2_isWhole_24
def fX2_readRows_b7 : Nat → Int32 → Int32 → SP25 → Option SP25
  | 0, _, _, _ => none
  | n + 1, x3, x4, z =>
    if x3 ≤ x4 then (some z) else
    ((fX2_codeAt z.1 x4).bind fun q2 =>
    if q2 = 45 then ((fX5_add z.2 (-1)).bind fun q5 =>
    fX2_readRows_b7 n x3 (x4 + 1) (z.1, q5)) else
    ((fX5_add z.2 (q2 - 97)).bind fun q4 =>
    fX2_readRows_b7 n x3 (x4 + 1) (z.1, q4)))
set_option maxRecDepth 100000 in
set_option maxHeartbeats 4000000 in
theorem tX2_readRows_b7 {a0 a1 a2 a3 p0 p1 p2 p3 : Nat} {wf : SP25 → va_W} (L : LnP25 a0 a1 a2 a3 p0 p1 p2 p3 cI wf) {d : Nat} (hd : 2 ≤ d) (B : Bd RX2 cX2_readRows 6 none d A g D [(cI, .int), (cB, .byte)] p R S m args meth c) {q : SP25} : ∀ (n : Nat) (x3 : Int32) (x4 : Int32) (z : SP25) (H : Heap) (locs : List Loc) (ls : Array Slot), Hx A D S.heap (wf z) H locs → lv_has ls 6 [(0, .ref a0), (1, .ref a2), (3, .int x3), (4, .int x4)] → fX2_readRows_b7 n x3 x4 z = some q → W p l e R S m args below meth c H locs 0 0 (MQ below (QV A D (wf q)) args S 0 0 A) (F0 m 7 ls []) := by
  have hx := B.1
  have hb := B.2.1
  have hd1 : 1 ≤ d := by omega
  intro n
  induction n with
  | zero =>
    intro x3 x4 z H locs ls X hl h
    cases h
  | succ n ih =>
    intro x3 x4 z H locs ls X hl h
    rw [fX2_readRows_b7] at h
    refine lv_iload hx hb dX2_readRows_7 (lv_at hl 3 rfl) ?_
    refine lv_iload_n hx hb dX2_readRows_9 rfl (lv_at hl 2 rfl) ?_
    refine lv_icmp_ge (tgt := 47) hx hb dX2_readRows_10 (by decide) (fun hc1 => ?_) (fun hc1 => ?_)
    · have h := it h hc1
      exact rV B X (congrArg wf (Option.some.inj h)) dX2_readRows_47
    · have h := ie h hc1
      refine lv_aload_n hx hb dX2_readRows_13 rfl (lv_at hl 0 rfl) ?_
      refine lv_iload hx hb dX2_readRows_14 (lv_at hl 3 rfl) ?_
      obtain ⟨q2, h2, h⟩ := bs h
      refine kI X (cV (As := [.int x4]) (rest := []) B X (tX2_codeAt (d := d - 1) (LnP25_s0 L z) (by omega) h2) mfX2_codeAt kw350 (by omega) (LnX2_g (LnP25_s0 L z) z.1) rfl rfl (Nat.le_of_ble_eq_true rfl) hl.1 ⟨Nat.zero_le _, Nat.zero_le _⟩ dX2_readRows_16) (fun H locs X => ?_)
      have X : Hx A D S.heap (wf z) H locs := X
      refine lv_istore (lv' := [(5, .int q2), (0, .ref a0), (1, .ref a2), (3, .int x3), (4, .int x4)]) hx hb dX2_readRows_19 hl (by decide) rfl (fun ls hl => ?_)
      refine lv_aload_n hx hb dX2_readRows_21 rfl (lv_at hl 2 rfl) ?_
      refine lv_iload hx hb dX2_readRows_22 (lv_at hl 0 rfl) ?_
      refine lv_bipush (v := 45) hx hb dX2_readRows_24 (by decide) ?_
      refine lv_icmp_ne (tgt := 33) hx hb dX2_readRows_26 (by decide) (fun hc3 => ?_) (fun hc3 => ?_)
      · have h := ie h hc3
        refine lv_iload hx hb dX2_readRows_33 (lv_at hl 0 rfl) ?_
        refine lv_bipush (v := 97) hx hb dX2_readRows_35 (by decide) ?_
        refine lv_isub hx hb dX2_readRows_37 ?_
        obtain ⟨q4, h4, h⟩ := bs h
        refine kV X (cVN (As := [.int (q2 - 97)]) (rest := []) B X (tX5_add (d := d - 1) (LnP25_s1 L z) (by omega) h4) mfX5_add kn475 (by omega) (LnX5_g (LnP25_s1 L z) z.2) rfl rfl (Nat.le_of_ble_eq_true rfl) hl.1 ⟨Nat.zero_le _, Nat.zero_le _⟩ dX2_readRows_38) (fun H locs X => ?_)
        have X : Hx A D S.heap (wf (z.1, q4)) H locs := X
        refine lv_iinc (v := x4 + 1) (lv' := [(4, .int (x4 + 1)), (5, .int q2), (0, .ref a0), (1, .ref a2), (3, .int x3)]) hx hb dX2_readRows_41 hl (k := 4) rfl rfl (by decide) rfl (fun ls hl => ?_)
        refine lv_goto (tgt := 7) hx hb dX2_readRows_44 (by decide) ?_
        exact ih x3 (x4 + 1) (z.1, q4) _ _ _ X (lv_sub hl [2, 3, 4, 0] rfl) h
      · have h := it h hc3
        refine lv_iconst (v := (-1)) hx hb dX2_readRows_29 (by decide) ?_
        refine lv_goto (tgt := 38) hx hb dX2_readRows_30 (by decide) ?_
        obtain ⟨q5, h5, h⟩ := bs h
        refine kV X (cVN (As := [.int (-1)]) (rest := []) B X (tX5_add (d := d - 1) (LnP25_s1 L z) (by omega) h5) mfX5_add kn475 (by omega) (LnX5_g (LnP25_s1 L z) z.2) rfl rfl (Nat.le_of_ble_eq_true rfl) hl.1 ⟨Nat.zero_le _, Nat.zero_le _⟩ dX2_readRows_38) (fun H locs X => ?_)
        have X : Hx A D S.heap (wf (z.1, q5)) H locs := X
        refine lv_iinc (v := x4 + 1) (lv' := [(4, .int (x4 + 1)), (5, .int q2), (0, .ref a0), (1, .ref a2), (3, .int x3)]) hx hb dX2_readRows_41 hl (k := 4) rfl rfl (by decide) rfl (fun ls hl => ?_)
        refine lv_goto (tgt := 7) hx hb dX2_readRows_44 (by decide) ?_
        exact ih x3 (x4 + 1) (z.1, q5) _ _ _ X (lv_sub hl [2, 3, 4, 0] rfl) h
def fX2_readRows (z : SP25) (x2 : Int32) (x3 : Int32) : Option SP25 :=
    (fX5_clear z.2).bind fun q1 =>
    fX2_readRows_b7 1000 x3 x2 (z.1, q1)
set_option maxRecDepth 100000 in
set_option maxHeartbeats 4000000 in
theorem tX2_readRows {a0 a1 a2 a3 p0 p1 p2 p3 : Nat} {wf : SP25 → va_W} (L : LnP25 a0 a1 a2 a3 p0 p1 p2 p3 cI wf) {d : Nat} (hd : 2 ≤ d) {z : SP25} {x2 x3 : Int32} {q : SP25} (h : fX2_readRows z x2 x3 = some q) : Ct l yX2_readRows cX2_readRows 6 none d A g D [(cI, .int), (cB, .byte)] [.ref a0, .ref a2, .int x2, .int x3] (wf z) (QV A D (wf q)) := by
  refine mkM (by decide) (Nat.le_of_ble_eq_true rfl) ?_
  intro p e S m args below meth c B X ls hl
  have B : Bd RX2 cX2_readRows 6 none d A g D [(cI, .int), (cB, .byte)] p (rmd d) S m args meth c := B
  have hx := B.1
  have hb := B.2.1
  have hd1 : 1 ≤ d := by omega
  have hl : lv_has ls 6 [(0, .ref a0), (1, .ref a2), (2, .int x2), (3, .int x3)] := hl
  unfold fX2_readRows at h
  refine lv_aload_n hx hb dX2_readRows_0 rfl (lv_at hl 1 rfl) ?_
  obtain ⟨q1, h1, h⟩ := bs h
  refine kV X (cVN (As := []) (rest := []) B X (tX5_clear (d := d - 1) (LnP25_s1 L z) (by omega) h1) mfX5_clear kn471 (by omega) (LnX5_g (LnP25_s1 L z) z.2) rfl rfl (Nat.le_of_ble_eq_true rfl) hl.1 ⟨Nat.zero_le _, Nat.zero_le _⟩ dX2_readRows_1) (fun H locs X => ?_)
  have X : Hx A D S.heap (wf (z.1, q1)) H locs := X
  refine lv_iload_n hx hb dX2_readRows_4 rfl (lv_at hl 2 rfl) ?_
  refine lv_istore (lv' := [(4, .int x2), (0, .ref a0), (1, .ref a2), (2, .int x2), (3, .int x3)]) hx hb dX2_readRows_5 hl (by decide) rfl (fun ls hl => ?_)
  exact tX2_readRows_b7 L hd B 1000 x3 x2 (z.1, q1) _ _ _ X (lv_sub hl [1, 2, 4, 0] rfl) h
end
