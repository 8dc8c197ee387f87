section
variable {l : Launch} {p : Program} {e : Env} {R : Room} {S : State} {m : MethodId} {args : Array Value} {below : List Frame} {meth : Method} {c : Code} {A : Nat → Prop} {g : Nat → Nat} {D : va_G} {cI cB : ClassId}
def fX3_clear (z : SX3) (x1 : Int32) : Option SX3 :=
    (fX1_clear z.2.1 x1).bind fun q1 =>
    (fX0_clear z.2.2.1).bind fun q2 =>
    (fJ7_fill_53178 z.2.2.2.1 0).bind fun q3 =>
    some (z.1, q1, q2, (upd q3 (4 : Int32).toNatClampNeg (-1)), 0)
set_option maxRecDepth 100000 in
set_option maxHeartbeats 4000000 in
theorem tX3_clear {a0 a1 a2 a3 a4 a5 a6 a7 a8 a9 a10 a11 a12 a13 a14 a15 p0 p1 p2 p3 p4 p5 p6 p7 p8 p9 p10 p11 p12 p13 p14 p15 : Nat} {wf : SX3 → va_W} (L : LnX3 a0 a1 a2 a3 a4 a5 a6 a7 a8 a9 a10 a11 a12 a13 a14 a15 p0 p1 p2 p3 p4 p5 p6 p7 p8 p9 p10 p11 p12 p13 p14 p15 cI wf) {d : Nat} (hd : 2 ≤ d) {z : SX3} {x1 : Int32} {q : SX3} (h : fX3_clear z x1 = some q) : Ct l yX3_clear cX3_clear 2 none d A g D [(cI, .int), (cB, .byte)] [.ref a0, .int x1] (wf z) (QV A D (wf q)) := by
  refine mkM (by decide) (Nat.le_of_ble_eq_true rfl) ?_
  intro p e S m args below meth c B X ls hl
  have B : Bd RX3 cX3_clear 2 none d A g D [(cI, .int), (cB, .byte)] p (rmd d) S m args meth c := B
  have hx := B.1
  have hb := B.2.1
  have hd1 : 1 ≤ d := by omega
  have hl : lv_has ls 2 [(0, .ref a0), (1, .int x1)] := hl
  unfold fX3_clear at h
  refine lv_aload_n hx hb dX3_clear_0 rfl (lv_at hl 0 rfl) ?_
  refine fG B X (LnX3_g L z) 1 rfl inTX3 (by decide) kw257 rfl dX3_clear_1 ?_
  refine lv_iload_n hx hb dX3_clear_4 rfl (lv_at hl 1 rfl) ?_
  obtain ⟨q1, h1, h⟩ := bs h
  refine kV X (cVN (As := [.int x1]) (rest := []) B X (tX1_clear (d := d - 1) (LnX3_s1 L z) (by omega) h1) mfX1_clear kn487 (by omega) (LnX1_g (LnX3_s1 L z) z.2.1) rfl rfl (Nat.le_of_ble_eq_true rfl) hl.1 ⟨Nat.zero_le _, Nat.zero_le _⟩ dX3_clear_5) (fun H locs X => ?_)
  have X : Hx A D S.heap (wf (z.1, q1, z.2.2.1, z.2.2.2.1, z.2.2.2.2)) H locs := X
  refine lv_aload_n hx hb dX3_clear_8 rfl (lv_at hl 0 rfl) ?_
  refine fG B X (LnX3_g L (z.1, q1, z.2.2.1, z.2.2.2.1, z.2.2.2.2)) 2 rfl inTX3 (by decide) kw259 rfl dX3_clear_9 ?_
  obtain ⟨q2, h2, h⟩ := bs h
  refine kV X (cVN (As := []) (rest := []) B X (tX0_clear (d := d - 1) (LnX3_s2 L (z.1, q1, z.2.2.1, z.2.2.2.1, z.2.2.2.2)) (by omega) h2) mfX0_clear kn491 (by omega) (LnX0_g (LnX3_s2 L (z.1, q1, z.2.2.1, z.2.2.2.1, z.2.2.2.2)) z.2.2.1) rfl rfl (Nat.le_of_ble_eq_true rfl) hl.1 ⟨Nat.zero_le _, Nat.zero_le _⟩ dX3_clear_12) (fun H locs X => ?_)
  have X : Hx A D S.heap (wf (z.1, q1, q2, z.2.2.2.1, z.2.2.2.2)) H locs := X
  refine lv_aload_n hx hb dX3_clear_15 rfl (lv_at hl 0 rfl) ?_
  refine fG B X (LnX3_g L (z.1, q1, q2, z.2.2.2.1, z.2.2.2.2)) 3 rfl inTX3 (by decide) kw261 rfl dX3_clear_16 ?_
  refine lv_iconst (v := 0) hx hb dX3_clear_19 (by decide) ?_
  obtain ⟨q3, h3, h⟩ := bs h
  refine kV X (cS (As := [.ref a15, .int 0]) (rest := []) B X (tJ7_fill_53178 (d := d - 1) (LnX3_r3 L (z.1, q1, q2, z.2.2.2.1, z.2.2.2.2)) (by omega) h3) msJ7_fill_53178 kw495 (by omega) rfl (Nat.le_of_ble_eq_true rfl) hl.1 ⟨Nat.zero_le _, Nat.zero_le _⟩ dX3_clear_20) (fun H locs X => ?_)
  have X : Hx A D S.heap (wf (z.1, q1, q2, q3, z.2.2.2.2)) H locs := X
  refine lv_aload_n hx hb dX3_clear_23 rfl (lv_at hl 0 rfl) ?_
  refine fG B X (LnX3_g L (z.1, q1, q2, q3, z.2.2.2.2)) 3 rfl inTX3 (by decide) kw261 rfl dX3_clear_24 ?_
  refine lv_iconst (v := 4) hx hb dX3_clear_27 (by decide) ?_
  refine lv_iconst (v := (-1)) hx hb dX3_clear_28 (by decide) ?_
  refine aP B X (LnX3_a3 L (z.1, q1, q2, q3, z.2.2.2.2)) (LnX3_b3 L (z.1, q1, q2, q3, z.2.2.2.2) _) 0 rfl (by decide) dX3_clear_29 (fun H locs X => ?_)
  have X : Hx A D S.heap (wf (z.1, q1, q2, (upd q3 (4 : Int32).toNatClampNeg (-1)), z.2.2.2.2)) H locs := X
  refine lv_aload_n hx hb dX3_clear_30 rfl (lv_at hl 0 rfl) ?_
  refine lv_iconst (v := 0) hx hb dX3_clear_31 (by decide) ?_
  refine fP tyX3 B X (LnX3_g L (z.1, q1, q2, (upd q3 (4 : Int32).toNatClampNeg (-1)), z.2.2.2.2)) 4 (LnX3_i4 L (z.1, q1, q2, (upd q3 (4 : Int32).toNatClampNeg (-1)), z.2.2.2.2) _) rfl inTX3 tyX3_ok nmX3 (by decide) kw262 rfl rfl rfl rfl (Nat.le_of_ble_eq_true rfl) dX3_clear_32 (fun H locs X => ?_)
  have X : Hx A D S.heap (wf (z.1, q1, q2, (upd q3 (4 : Int32).toNatClampNeg (-1)), 0)) H locs := X
  exact rV B X (congrArg wf (Option.some.inj h)) dX3_clear_35
def fX3_lineAt (z : SX3) (x1 : Int32) : Option Int32 :=
    if x1 < 0 then (some (-102)) else
    (if 10 ≤ x1 then (some (-102)) else
    (if x1 < 0 ∨ 10 ≤ x1.toNatClampNeg then none else
    (some (z.2.2.2.1 x1.toNatClampNeg))))
set_option maxRecDepth 100000 in
set_option maxHeartbeats 4000000 in
theorem tX3_lineAt {a0 a1 a2 a3 a4 a5 a6 a7 a8 a9 a10 a11 a12 a13 a14 a15 p0 p1 p2 p3 p4 p5 p6 p7 p8 p9 p10 p11 p12 p13 p14 p15 : Nat} {wf : SX3 → va_W} (L : LnX3 a0 a1 a2 a3 a4 a5 a6 a7 a8 a9 a10 a11 a12 a13 a14 a15 p0 p1 p2 p3 p4 p5 p6 p7 p8 p9 p10 p11 p12 p13 p14 p15 cI wf) {d : Nat} (hd : 1 ≤ d) {z : SX3} {x1 : Int32} {q : Int32} (h : fX3_lineAt z x1 = some q) : Ct l yX3_lineAt cX3_lineAt 2 (some .int) d A g D [(cI, .int), (cB, .byte)] [.ref a0, .int x1] (wf z) (QI A D (wf z) q) := by
  refine mkM (by decide) (Nat.le_of_ble_eq_true rfl) ?_
  intro p e S m args below meth c B X ls hl
  have B : Bd RX3 cX3_lineAt 2 (some .int) d A g D [(cI, .int), (cB, .byte)] p (rmd d) S m args meth c := B
  have hx := B.1
  have hb := B.2.1
  have hd1 : 1 ≤ d := by omega
  have hl : lv_has ls 2 [(0, .ref a0), (1, .int x1)] := hl
  unfold fX3_lineAt at h
  refine lv_iload_n hx hb dX3_lineAt_0 rfl (lv_at hl 1 rfl) ?_
  refine lv_if_lt (tgt := 19) hx hb dX3_lineAt_1 (by decide) (fun hc1 => ?_) (fun hc1 => ?_)
  · have h := it h hc1
    refine lv_bipush (v := (-102)) hx hb dX3_lineAt_19 (by decide) ?_
    exact rI B X rfl (Option.some.inj h) dX3_lineAt_21
  · have h := ie h hc1
    refine lv_iload_n hx hb dX3_lineAt_4 rfl (lv_at hl 1 rfl) ?_
    refine lv_bipush (v := 10) hx hb dX3_lineAt_5 (by decide) ?_
    refine lv_icmp_ge (tgt := 19) hx hb dX3_lineAt_7 (by decide) (fun hc2 => ?_) (fun hc2 => ?_)
    · have h := it h hc2
      refine lv_bipush (v := (-102)) hx hb dX3_lineAt_19 (by decide) ?_
      exact rI B X rfl (Option.some.inj h) dX3_lineAt_21
    · have h := ie h hc2
      refine lv_aload_n hx hb dX3_lineAt_10 rfl (lv_at hl 0 rfl) ?_
      refine fG B X (LnX3_g L z) 3 rfl inTX3 (by decide) kw261 rfl dX3_lineAt_11 ?_
      refine lv_iload_n hx hb dX3_lineAt_14 rfl (lv_at hl 1 rfl) ?_
      by_cases hc3 : (x1 < 0 ∨ 10 ≤ x1.toNatClampNeg)
      · cases it h hc3
      have h := ie h hc3
      refine aG B X (LnX3_a3 L z) 0 rfl hc3 dX3_lineAt_15 ?_
      refine lv_goto (tgt := 21) hx hb dX3_lineAt_16 (by decide) ?_
      exact rI B X rfl (Option.some.inj h) dX3_lineAt_21
def fX3_noteHeld (z : SX3) (x1 : Int32) : Option SX3 :=
    (fJ6_bitCount_0f7a4 x1).bind fun q2 =>
    some (z.1, z.2.1, z.2.2.1, (upd z.2.2.2.1 (3 : Int32).toNatClampNeg (if (z.2.2.2.1 (3 : Int32).toNatClampNeg) < q2 then q2 else (z.2.2.2.1 (3 : Int32).toNatClampNeg))), z.2.2.2.2)
set_option maxRecDepth 100000 in
set_option maxHeartbeats 4000000 in
theorem tX3_noteHeld {a0 a1 a2 a3 a4 a5 a6 a7 a8 a9 a10 a11 a12 a13 a14 a15 p0 p1 p2 p3 p4 p5 p6 p7 p8 p9 p10 p11 p12 p13 p14 p15 : Nat} {wf : SX3 → va_W} (L : LnX3 a0 a1 a2 a3 a4 a5 a6 a7 a8 a9 a10 a11 a12 a13 a14 a15 p0 p1 p2 p3 p4 p5 p6 p7 p8 p9 p10 p11 p12 p13 p14 p15 cI wf) {d : Nat} (hd : 2 ≤ d) {z : SX3} {x1 : Int32} {q : SX3} (h : fX3_noteHeld z x1 = some q) : Ct l yX3_noteHeld cX3_noteHeld 2 none d A g D [(cI, .int), (cB, .byte)] [.ref a0, .int x1] (wf z) (QV A D (wf q)) := by
  refine mkM (by decide) (Nat.le_of_ble_eq_true rfl) ?_
  intro p e S m args below meth c B X ls hl
  have B : Bd RX3 cX3_noteHeld 2 none d A g D [(cI, .int), (cB, .byte)] p (rmd d) S m args meth c := B
  have hx := B.1
  have hb := B.2.1
  have hd1 : 1 ≤ d := by omega
  have hl : lv_has ls 2 [(0, .ref a0), (1, .int x1)] := hl
  unfold fX3_noteHeld at h
  refine lv_aload_n hx hb dX3_noteHeld_0 rfl (lv_at hl 0 rfl) ?_
  refine fG B X (LnX3_g L z) 3 rfl inTX3 (by decide) kw261 rfl dX3_noteHeld_1 ?_
  refine lv_iconst (v := 3) hx hb dX3_noteHeld_4 (by decide) ?_
  refine lv_aload_n hx hb dX3_noteHeld_5 rfl (lv_at hl 0 rfl) ?_
  refine fG B X (LnX3_g L z) 3 rfl inTX3 (by decide) kw261 rfl dX3_noteHeld_6 ?_
  refine lv_iconst (v := 3) hx hb dX3_noteHeld_9 (by decide) ?_
  refine aG B X (LnX3_a3 L z) 0 rfl (by decide) dX3_noteHeld_10 ?_
  refine lv_iload_n hx hb dX3_noteHeld_11 rfl (lv_at hl 1 rfl) ?_
  obtain ⟨q2, h2, h⟩ := bs h
  refine kI X (cS (As := [.int x1]) (rest := [.int (z.2.2.2.1 (3 : Int32).toNatClampNeg), .int 3, .ref a15]) B X (tJ6_bitCount_0f7a4 (d := d - 1) (by omega) h2) msJ6_bitCount_0f7a4 kw617 (by omega) rfl (Nat.le_of_ble_eq_true rfl) hl.1 ⟨Nat.zero_le _, Nat.zero_le _⟩ dX3_noteHeld_12) (fun H locs X => ?_)
  have X : Hx A D S.heap (wf z) H locs := X
  refine kMax B kw640 hd1 (Nat.le_of_ble_eq_true rfl) hl.1 ⟨Nat.zero_le _, Nat.zero_le _⟩ dX3_noteHeld_15 ?_
  refine aP B X (LnX3_a3 L z) (LnX3_b3 L z _) 0 rfl (by decide) dX3_noteHeld_18 (fun H locs X => ?_)
  have X : Hx A D S.heap (wf (z.1, z.2.1, z.2.2.1, (upd z.2.2.2.1 (3 : Int32).toNatClampNeg (if (z.2.2.2.1 (3 : Int32).toNatClampNeg) < q2 then q2 else (z.2.2.2.1 (3 : Int32).toNatClampNeg))), z.2.2.2.2)) H locs := X
  exact rV B X (congrArg wf (Option.some.inj h)) dX3_noteHeld_19
def fX3_enterPart_b36 (x3 : Int32) (z : SX3) : Option SX3 :=
    some (z.1, z.2.1, z.2.2.1, (upd z.2.2.2.1 (4 : Int32).toNatClampNeg (if (z.2.2.2.1 (4 : Int32).toNatClampNeg) < x3 then x3 else (z.2.2.2.1 (4 : Int32).toNatClampNeg))), z.2.2.2.2)
set_option maxRecDepth 100000 in
set_option maxHeartbeats 4000000 in
theorem tX3_enterPart_b36 {a0 a1 a2 a3 a4 a5 a6 a7 a8 a9 a10 a11 a12 a13 a14 a15 p0 p1 p2 p3 p4 p5 p6 p7 p8 p9 p10 p11 p12 p13 p14 p15 : Nat} {wf : SX3 → va_W} (L : LnX3 a0 a1 a2 a3 a4 a5 a6 a7 a8 a9 a10 a11 a12 a13 a14 a15 p0 p1 p2 p3 p4 p5 p6 p7 p8 p9 p10 p11 p12 p13 p14 p15 cI wf) {d : Nat} (hd : 2 ≤ d) (B : Bd RX3 cX3_enterPart 4 none d A g D [(cI, .int), (cB, .byte)] p R S m args meth c) {q : SX3} : ∀ (x3 : Int32) (z : SX3) (H : Heap) (locs : List Loc) (ls : Array Slot), Hx A D S.heap (wf z) H locs → lv_has ls 4 [(0, .ref a0), (3, .int x3)] → fX3_enterPart_b36 x3 z = some q → W p l e R S m args below meth c H locs 0 0 (MQ below (QV A D (wf q)) args S 0 0 A) (F0 m 36 ls []) := by
  have hx := B.1
  have hb := B.2.1
  have hd1 : 1 ≤ d := by omega
  intro x3 z H locs ls X hl h
  unfold fX3_enterPart_b36 at h
  refine lv_aload_n hx hb dX3_enterPart_36 rfl (lv_at hl 0 rfl) ?_
  refine fG B X (LnX3_g L z) 3 rfl inTX3 (by decide) kw261 rfl dX3_enterPart_37 ?_
  refine lv_iconst (v := 4) hx hb dX3_enterPart_40 (by decide) ?_
  refine lv_aload_n hx hb dX3_enterPart_41 rfl (lv_at hl 0 rfl) ?_
  refine fG B X (LnX3_g L z) 3 rfl inTX3 (by decide) kw261 rfl dX3_enterPart_42 ?_
  refine lv_iconst (v := 4) hx hb dX3_enterPart_45 (by decide) ?_
  refine aG B X (LnX3_a3 L z) 0 rfl (by decide) dX3_enterPart_46 ?_
  refine lv_iload_n hx hb dX3_enterPart_47 rfl (lv_at hl 1 rfl) ?_
  refine kMax B kw640 hd1 (Nat.le_of_ble_eq_true rfl) hl.1 ⟨Nat.zero_le _, Nat.zero_le _⟩ dX3_enterPart_48 ?_
  refine aP B X (LnX3_a3 L z) (LnX3_b3 L z _) 0 rfl (by decide) dX3_enterPart_51 (fun H locs X => ?_)
  have X : Hx A D S.heap (wf (z.1, z.2.1, z.2.2.1, (upd z.2.2.2.1 (4 : Int32).toNatClampNeg (if (z.2.2.2.1 (4 : Int32).toNatClampNeg) < x3 then x3 else (z.2.2.2.1 (4 : Int32).toNatClampNeg))), z.2.2.2.2)) H locs := X
  exact rV B X (congrArg wf (Option.some.inj h)) dX3_enterPart_52
def fX3_enterPart_b21 (x1 : Int32) (x3 : Int32) (z : SX3) : Option SX3 :=
    if x1 = 0 then (fX3_enterPart_b36 x3 (z.1, z.2.1, z.2.2.1, (upd z.2.2.2.1 (8 : Int32).toNatClampNeg ((z.2.2.2.1 (8 : Int32).toNatClampNeg) + 1)), z.2.2.2.2)) else
    (fX3_enterPart_b36 x3 z)
set_option maxRecDepth 100000 in
set_option maxHeartbeats 4000000 in
theorem tX3_enterPart_b21 {a0 a1 a2 a3 a4 a5 a6 a7 a8 a9 a10 a11 a12 a13 a14 a15 p0 p1 p2 p3 p4 p5 p6 p7 p8 p9 p10 p11 p12 p13 p14 p15 : Nat} {wf : SX3 → va_W} (L : LnX3 a0 a1 a2 a3 a4 a5 a6 a7 a8 a9 a10 a11 a12 a13 a14 a15 p0 p1 p2 p3 p4 p5 p6 p7 p8 p9 p10 p11 p12 p13 p14 p15 cI wf) {d : Nat} (hd : 2 ≤ d) (B : Bd RX3 cX3_enterPart 4 none d A g D [(cI, .int), (cB, .byte)] p R S m args meth c) {q : SX3} : ∀ (x1 : Int32) (x3 : Int32) (z : SX3) (H : Heap) (locs : List Loc) (ls : Array Slot), Hx A D S.heap (wf z) H locs → lv_has ls 4 [(0, .ref a0), (1, .int x1), (3, .int x3)] → fX3_enterPart_b21 x1 x3 z = some q → W p l e R S m args below meth c H locs 0 0 (MQ below (QV A D (wf q)) args S 0 0 A) (F0 m 21 ls []) := by
  have hx := B.1
  have hb := B.2.1
  have hd1 : 1 ≤ d := by omega
  intro x1 x3 z H locs ls X hl h
  unfold fX3_enterPart_b21 at h
  refine lv_iload_n hx hb dX3_enterPart_21 rfl (lv_at hl 1 rfl) ?_
  refine lv_if_ne (tgt := 36) hx hb dX3_enterPart_22 (by decide) (fun hc1 => ?_) (fun hc1 => ?_)
  · have h := ie h hc1
    exact tX3_enterPart_b36 L hd B x3 z _ _ _ X (lv_sub hl [0, 2] rfl) h
  · have h := it h hc1
    refine lv_aload_n hx hb dX3_enterPart_25 rfl (lv_at hl 0 rfl) ?_
    refine fG B X (LnX3_g L z) 3 rfl inTX3 (by decide) kw261 rfl dX3_enterPart_26 ?_
    refine lv_bipush (v := 8) hx hb dX3_enterPart_29 (by decide) ?_
    refine lv_dup2_11 hx hb dX3_enterPart_31 rfl rfl ?_
    refine aG B X (LnX3_a3 L z) 0 rfl (by decide) dX3_enterPart_32 ?_
    refine lv_iconst (v := 1) hx hb dX3_enterPart_33 (by decide) ?_
    refine lv_iadd hx hb dX3_enterPart_34 ?_
    refine aP B X (LnX3_a3 L z) (LnX3_b3 L z _) 0 rfl (by decide) dX3_enterPart_35 (fun H locs X => ?_)
    have X : Hx A D S.heap (wf (z.1, z.2.1, z.2.2.1, (upd z.2.2.2.1 (8 : Int32).toNatClampNeg ((z.2.2.2.1 (8 : Int32).toNatClampNeg) + 1)), z.2.2.2.2)) H locs := X
    exact tX3_enterPart_b36 L hd B x3 (z.1, z.2.1, z.2.2.1, (upd z.2.2.2.1 (8 : Int32).toNatClampNeg ((z.2.2.2.1 (8 : Int32).toNatClampNeg) + 1)), z.2.2.2.2) _ _ _ X (lv_sub hl [0, 2] rfl) h
def fX3_enterPart (z : SX3) (x1 : Int32) (x2 : Int32) (x3 : Int32) : Option SX3 :=
    if x2 < 0 then (fX3_enterPart_b21 x1 x3 z) else
    (if 2 < x2 then (fX3_enterPart_b21 x1 x3 z) else
    (if (5 + x2) < 0 ∨ 10 ≤ (5 + x2).toNatClampNeg then none else
    (if (5 + x2) < 0 ∨ 10 ≤ (5 + x2).toNatClampNeg then none else
    (fX3_enterPart_b21 x1 x3 (z.1, z.2.1, z.2.2.1, (upd z.2.2.2.1 (5 + x2).toNatClampNeg ((z.2.2.2.1 (5 + x2).toNatClampNeg) + 1)), z.2.2.2.2)))))
set_option maxRecDepth 100000 in
set_option maxHeartbeats 4000000 in
theorem tX3_enterPart {a0 a1 a2 a3 a4 a5 a6 a7 a8 a9 a10 a11 a12 a13 a14 a15 p0 p1 p2 p3 p4 p5 p6 p7 p8 p9 p10 p11 p12 p13 p14 p15 : Nat} {wf : SX3 → va_W} (L : LnX3 a0 a1 a2 a3 a4 a5 a6 a7 a8 a9 a10 a11 a12 a13 a14 a15 p0 p1 p2 p3 p4 p5 p6 p7 p8 p9 p10 p11 p12 p13 p14 p15 cI wf) {d : Nat} (hd : 2 ≤ d) {z : SX3} {x1 x2 x3 : Int32} {q : SX3} (h : fX3_enterPart z x1 x2 x3 = some q) : Ct l yX3_enterPart cX3_enterPart 4 none d A g D [(cI, .int), (cB, .byte)] [.ref a0, .int x1, .int x2, .int x3] (wf z) (QV A D (wf q)) := by
  refine mkM (by decide) (Nat.le_of_ble_eq_true rfl) ?_
  intro p e S m args below meth c B X ls hl
  have B : Bd RX3 cX3_enterPart 4 none d A g D [(cI, .int), (cB, .byte)] p (rmd d) S m args meth c := B
  have hx := B.1
  have hb := B.2.1
  have hd1 : 1 ≤ d := by omega
  have hl : lv_has ls 4 [(0, .ref a0), (1, .int x1), (2, .int x2), (3, .int x3)] := hl
  unfold fX3_enterPart at h
  refine lv_iload_n hx hb dX3_enterPart_0 rfl (lv_at hl 2 rfl) ?_
  refine lv_if_lt (tgt := 21) hx hb dX3_enterPart_1 (by decide) (fun hc1 => ?_) (fun hc1 => ?_)
  · have h := it h hc1
    exact tX3_enterPart_b21 L hd B x1 x3 z _ _ _ X (lv_sub hl [0, 1, 3] rfl) h
  · have h := ie h hc1
    refine lv_iload_n hx hb dX3_enterPart_4 rfl (lv_at hl 2 rfl) ?_
    refine lv_iconst (v := 2) hx hb dX3_enterPart_5 (by decide) ?_
    refine lv_icmp_gt (tgt := 21) hx hb dX3_enterPart_6 (by decide) (fun hc2 => ?_) (fun hc2 => ?_)
    · have h := it h hc2
      exact tX3_enterPart_b21 L hd B x1 x3 z _ _ _ X (lv_sub hl [0, 1, 3] rfl) h
    · have h := ie h hc2
      refine lv_aload_n hx hb dX3_enterPart_9 rfl (lv_at hl 0 rfl) ?_
      refine fG B X (LnX3_g L z) 3 rfl inTX3 (by decide) kw261 rfl dX3_enterPart_10 ?_
      refine lv_iconst (v := 5) hx hb dX3_enterPart_13 (by decide) ?_
      refine lv_iload_n hx hb dX3_enterPart_14 rfl (lv_at hl 2 rfl) ?_
      refine lv_iadd hx hb dX3_enterPart_15 ?_
      refine lv_dup2_11 hx hb dX3_enterPart_16 rfl rfl ?_
      by_cases hc3 : ((5 + x2) < 0 ∨ 10 ≤ (5 + x2).toNatClampNeg)
      · cases it h hc3
      have h := ie h hc3
      refine aG B X (LnX3_a3 L z) 0 rfl hc3 dX3_enterPart_17 ?_
      refine lv_iconst (v := 1) hx hb dX3_enterPart_18 (by decide) ?_
      refine lv_iadd hx hb dX3_enterPart_19 ?_
      by_cases hc4 : ((5 + x2) < 0 ∨ 10 ≤ (5 + x2).toNatClampNeg)
      · cases it h hc4
      have h := ie h hc4
      refine aP B X (LnX3_a3 L z) (LnX3_b3 L z _) 0 rfl hc4 dX3_enterPart_20 (fun H locs X => ?_)
      have X : Hx A D S.heap (wf (z.1, z.2.1, z.2.2.1, (upd z.2.2.2.1 (5 + x2).toNatClampNeg ((z.2.2.2.1 (5 + x2).toNatClampNeg) + 1)), z.2.2.2.2)) H locs := X
      exact tX3_enterPart_b21 L hd B x1 x3 (z.1, z.2.1, z.2.2.1, (upd z.2.2.2.1 (5 + x2).toNatClampNeg ((z.2.2.2.1 (5 + x2).toNatClampNeg) + 1)), z.2.2.2.2) _ _ _ X (lv_sub hl [0, 1, 3] rfl) h
def fX3_natureOf (z : SX3) (x1 : Int32) (x2 : Int32) (x3 : Int32) : Option Int32 :=
    (fJ6_bitCount_0f7a4 x2).bind fun q1 =>
    if z.1.2.2.1 < q1 then (if 4 ≤ x3 then (some 1) else
    (if x1 = 0 then ((fX5_haveOneKey z.1.1 x2).bind fun q5 =>
    if q5 = 0 then (some 2) else
    (some 1)) else
    ((fX5_haveOneKey z.1.2.1 x2).bind fun q7 =>
    if q7 = 0 then (some 2) else
    (some 1)))) else
    (some 0)
set_option maxRecDepth 100000 in
set_option maxHeartbeats 4000000 in
theorem tX3_natureOf {a0 a1 a2 a3 a4 a5 a6 a7 a8 a9 a10 a11 a12 a13 a14 a15 p0 p1 p2 p3 p4 p5 p6 p7 p8 p9 p10 p11 p12 p13 p14 p15 : Nat} {wf : SX3 → va_W} (L : LnX3 a0 a1 a2 a3 a4 a5 a6 a7 a8 a9 a10 a11 a12 a13 a14 a15 p0 p1 p2 p3 p4 p5 p6 p7 p8 p9 p10 p11 p12 p13 p14 p15 cI wf) {d : Nat} (hd : 3 ≤ d) {z : SX3} {x1 x2 x3 : Int32} {q : Int32} (h : fX3_natureOf z x1 x2 x3 = some q) : Ct l yX3_natureOf cX3_natureOf 4 (some .int) d A g D [(cI, .int), (cB, .byte)] [.ref a0, .int x1, .int x2, .int x3] (wf z) (QI A D (wf z) q) := by
  refine mkM (by decide) (Nat.le_of_ble_eq_true rfl) ?_
  intro p e S m args below meth c B X ls hl
  have B : Bd RX3 cX3_natureOf 4 (some .int) d A g D [(cI, .int), (cB, .byte)] p (rmd d) S m args meth c := B
  have hx := B.1
  have hb := B.2.1
  have hd1 : 1 ≤ d := by omega
  have hl : lv_has ls 4 [(0, .ref a0), (1, .int x1), (2, .int x2), (3, .int x3)] := hl
  unfold fX3_natureOf at h
  refine lv_iload_n hx hb dX3_natureOf_0 rfl (lv_at hl 2 rfl) ?_
  obtain ⟨q1, h1, h⟩ := bs h
  refine kI X (cS (As := [.int x2]) (rest := []) B X (tJ6_bitCount_0f7a4 (d := d - 1) (by omega) h1) msJ6_bitCount_0f7a4 kw617 (by omega) rfl (Nat.le_of_ble_eq_true rfl) hl.1 ⟨Nat.zero_le _, Nat.zero_le _⟩ dX3_natureOf_1) (fun H locs X => ?_)
  have X : Hx A D S.heap (wf z) H locs := X
  refine lv_aload_n hx hb dX3_natureOf_4 rfl (lv_at hl 0 rfl) ?_
  refine fG B X (LnX3_g L z) 0 rfl inTX3 (by decide) kw255 rfl dX3_natureOf_5 ?_
  refine fGN B X (LnX6_g (LnX3_s0 L z) z.1) 2 rfl inTX6 (by decide) kn182 rfl dX3_natureOf_8 ?_
  refine lv_icmp_gt (tgt := 16) hx hb dX3_natureOf_11 (by decide) (fun hc2 => ?_) (fun hc2 => ?_)
  · have h := it h hc2
    refine lv_iload_n hx hb dX3_natureOf_16 rfl (lv_at hl 3 rfl) ?_
    refine lv_iconst (v := 4) hx hb dX3_natureOf_17 (by decide) ?_
    refine lv_icmp_ge (tgt := 36) hx hb dX3_natureOf_18 (by decide) (fun hc3 => ?_) (fun hc3 => ?_)
    · have h := it h hc3
      refine lv_iconst (v := 1) hx hb dX3_natureOf_36 (by decide) ?_
      refine lv_goto (tgt := 41) hx hb dX3_natureOf_37 (by decide) ?_
      exact rI B X rfl (Option.some.inj h) dX3_natureOf_41
    · have h := ie h hc3
      refine lv_aload_n hx hb dX3_natureOf_21 rfl (lv_at hl 0 rfl) ?_
      refine fG B X (LnX3_g L z) 0 rfl inTX3 (by decide) kw255 rfl dX3_natureOf_22 ?_
      refine lv_iload_n hx hb dX3_natureOf_25 rfl (lv_at hl 1 rfl) ?_
      by_cases hc4 : (x1 = 0)
      · have h := it h hc4
        refine kR X (cVN (As := [.int x1]) (rest := []) B X (tX6_sideOf_L (d := d - 1) (LnX3_s0 L z) (by omega) hc4) mfX6_sideOf kn618 (by omega) (LnX6_g (LnX3_s0 L z) z.1) rfl rfl (Nat.le_of_ble_eq_true rfl) hl.1 ⟨Nat.zero_le _, Nat.zero_le _⟩ dX3_natureOf_26) (fun H locs X => ?_)
        have X : Hx A D S.heap (wf z) H locs := X
        refine lv_iload_n hx hb dX3_natureOf_29 rfl (lv_at hl 2 rfl) ?_
        obtain ⟨q5, h5, h⟩ := bs h
        refine kI X (cVN (As := [.int x2]) (rest := []) B X (tX5_haveOneKey (d := d - 1) (LnX6_s0 (LnX3_s0 L z) z.1) (by omega) h5) mfX5_haveOneKey kn619 (by omega) (LnX5_g (LnX6_s0 (LnX3_s0 L z) z.1) z.1.1) rfl rfl (Nat.le_of_ble_eq_true rfl) hl.1 ⟨Nat.zero_le _, Nat.zero_le _⟩ dX3_natureOf_30) (fun H locs X => ?_)
        have X : Hx A D S.heap (wf z) H locs := X
        refine lv_if_eq (tgt := 40) hx hb dX3_natureOf_33 (by decide) (fun hc6 => ?_) (fun hc6 => ?_)
        · have h := it h hc6
          refine lv_iconst (v := 2) hx hb dX3_natureOf_40 (by decide) ?_
          exact rI B X rfl (Option.some.inj h) dX3_natureOf_41
        · have h := ie h hc6
          refine lv_iconst (v := 1) hx hb dX3_natureOf_36 (by decide) ?_
          refine lv_goto (tgt := 41) hx hb dX3_natureOf_37 (by decide) ?_
          exact rI B X rfl (Option.some.inj h) dX3_natureOf_41
      · have h := ie h hc4
        refine kR X (cVN (As := [.int x1]) (rest := []) B X (tX6_sideOf_R (d := d - 1) (LnX3_s0 L z) (by omega) hc4) mfX6_sideOf kn618 (by omega) (LnX6_g (LnX3_s0 L z) z.1) rfl rfl (Nat.le_of_ble_eq_true rfl) hl.1 ⟨Nat.zero_le _, Nat.zero_le _⟩ dX3_natureOf_26) (fun H locs X => ?_)
        have X : Hx A D S.heap (wf z) H locs := X
        refine lv_iload_n hx hb dX3_natureOf_29 rfl (lv_at hl 2 rfl) ?_
        obtain ⟨q7, h7, h⟩ := bs h
        refine kI X (cVN (As := [.int x2]) (rest := []) B X (tX5_haveOneKey (d := d - 1) (LnX6_s1 (LnX3_s0 L z) z.1) (by omega) h7) mfX5_haveOneKey kn619 (by omega) (LnX5_g (LnX6_s1 (LnX3_s0 L z) z.1) z.1.2.1) rfl rfl (Nat.le_of_ble_eq_true rfl) hl.1 ⟨Nat.zero_le _, Nat.zero_le _⟩ dX3_natureOf_30) (fun H locs X => ?_)
        have X : Hx A D S.heap (wf z) H locs := X
        refine lv_if_eq (tgt := 40) hx hb dX3_natureOf_33 (by decide) (fun hc8 => ?_) (fun hc8 => ?_)
        · have h := it h hc8
          refine lv_iconst (v := 2) hx hb dX3_natureOf_40 (by decide) ?_
          exact rI B X rfl (Option.some.inj h) dX3_natureOf_41
        · have h := ie h hc8
          refine lv_iconst (v := 1) hx hb dX3_natureOf_36 (by decide) ?_
          refine lv_goto (tgt := 41) hx hb dX3_natureOf_37 (by decide) ?_
          exact rI B X rfl (Option.some.inj h) dX3_natureOf_41
  · have h := ie h hc2
    refine lv_iconst (v := 0) hx hb dX3_natureOf_14 (by decide) ?_
    exact rI B X rfl (Option.some.inj h) dX3_natureOf_15
def fX3_firstOf_b4 : Nat → Int32 → Int32 → Int32 → Int32 → Option Int32
  | 0, _, _, _, _ => none
  | n + 1, x0, x1, x2, x3 =>
    if 14 ≤ x3 then (some x2) else
    ((fJ6_bitCount_0f7a4 x2).bind fun q2 =>
    if x1 ≤ q2 then (some x2) else
    (fX3_firstOf_b4 n x0 x1 (x2 ||| (x0 &&& (1 <<< (x3 &&& 31)))) (x3 + 1)))
set_option maxRecDepth 100000 in
set_option maxHeartbeats 4000000 in
theorem tX3_firstOf_b4 {w : va_W} {d : Nat} (hd : 2 ≤ d) (B : Bd RX3 cX3_firstOf 4 (some .int) d A g D [(cI, .int), (cB, .byte)] p R S m args meth c) {q : Int32} : ∀ (n : Nat) (x0 : Int32) (x1 : Int32) (x2 : Int32) (x3 : Int32) (H : Heap) (locs : List Loc) (ls : Array Slot), Hx A D S.heap (w) H locs → lv_has ls 4 [(0, .int x0), (1, .int x1), (2, .int x2), (3, .int x3)] → fX3_firstOf_b4 n x0 x1 x2 x3 = some q → W p l e R S m args below meth c H locs 0 0 (MQ below (QI A D w q) args S 0 0 A) (F0 m 4 ls []) := by
  have hx := B.1
  have hb := B.2.1
  have hd1 : 1 ≤ d := by omega
  intro n
  induction n with
  | zero =>
    intro x0 x1 x2 x3 H locs ls X hl h
    cases h
  | succ n ih =>
    intro x0 x1 x2 x3 H locs ls X hl h
    rw [fX3_firstOf_b4] at h
    refine lv_iload_n hx hb dX3_firstOf_4 rfl (lv_at hl 3 rfl) ?_
    refine lv_bipush (v := 14) hx hb dX3_firstOf_5 (by decide) ?_
    refine lv_icmp_ge (tgt := 32) hx hb dX3_firstOf_7 (by decide) (fun hc1 => ?_) (fun hc1 => ?_)
    · have h := it h hc1
      refine lv_iload_n hx hb dX3_firstOf_32 rfl (lv_at hl 2 rfl) ?_
      exact rI B X rfl (Option.some.inj h) dX3_firstOf_33
    · have h := ie h hc1
      refine lv_iload_n hx hb dX3_firstOf_10 rfl (lv_at hl 2 rfl) ?_
      obtain ⟨q2, h2, h⟩ := bs h
      refine kI X (cS (As := [.int x2]) (rest := []) B X (tJ6_bitCount_0f7a4 (d := d - 1) (by omega) h2) msJ6_bitCount_0f7a4 kw617 (by omega) rfl (Nat.le_of_ble_eq_true rfl) hl.1 ⟨Nat.zero_le _, Nat.zero_le _⟩ dX3_firstOf_11) (fun H locs X => ?_)
      refine lv_iload_n hx hb dX3_firstOf_14 rfl (lv_at hl 1 rfl) ?_
      refine lv_icmp_ge (tgt := 32) hx hb dX3_firstOf_15 (by decide) (fun hc3 => ?_) (fun hc3 => ?_)
      · have h := it h hc3
        refine lv_iload_n hx hb dX3_firstOf_32 rfl (lv_at hl 2 rfl) ?_
        exact rI B X rfl (Option.some.inj h) dX3_firstOf_33
      · have h := ie h hc3
        refine lv_iload_n hx hb dX3_firstOf_18 rfl (lv_at hl 2 rfl) ?_
        refine lv_iload_n hx hb dX3_firstOf_19 rfl (lv_at hl 0 rfl) ?_
        refine lv_iconst (v := 1) hx hb dX3_firstOf_20 (by decide) ?_
        refine lv_iload_n hx hb dX3_firstOf_21 rfl (lv_at hl 3 rfl) ?_
        refine lv_ishl hx hb dX3_firstOf_22 ?_
        refine lv_iand hx hb dX3_firstOf_23 ?_
        refine lv_ior hx hb dX3_firstOf_24 ?_
        refine lv_istore_n (lv' := [(2, .int (x2 ||| (x0 &&& (1 <<< (x3 &&& 31))))), (0, .int x0), (1, .int x1), (3, .int x3)]) hx hb dX3_firstOf_25 rfl hl (by decide) rfl (fun ls hl => ?_)
        refine lv_iinc (v := x3 + 1) (lv' := [(3, .int (x3 + 1)), (2, .int (x2 ||| (x0 &&& (1 <<< (x3 &&& 31))))), (0, .int x0), (1, .int x1)]) hx hb dX3_firstOf_26 hl (k := 3) rfl rfl (by decide) rfl (fun ls hl => ?_)
        refine lv_goto (tgt := 4) hx hb dX3_firstOf_29 (by decide) ?_
        exact ih x0 x1 (x2 ||| (x0 &&& (1 <<< (x3 &&& 31)))) (x3 + 1) _ _ _ X (lv_sub hl [2, 3, 1, 0] rfl) h
def fX3_firstOf (x0 : Int32) (x1 : Int32) : Option Int32 :=
    fX3_firstOf_b4 1000 x0 x1 0 0
set_option maxRecDepth 100000 in
set_option maxHeartbeats 4000000 in
theorem tX3_firstOf {w : va_W} {d : Nat} (hd : 2 ≤ d) {x0 x1 : Int32} {q : Int32} (h : fX3_firstOf x0 x1 = some q) : Ct l yX3_firstOf cX3_firstOf 4 (some .int) d A g D [(cI, .int), (cB, .byte)] [.int x0, .int x1] (w) (QI A D w q) := by
  refine mkM (by decide) (Nat.le_of_ble_eq_true rfl) ?_
  intro p e S m args below meth c B X ls hl
  have B : Bd RX3 cX3_firstOf 4 (some .int) d A g D [(cI, .int), (cB, .byte)] p (rmd d) S m args meth c := B
  have hx := B.1
  have hb := B.2.1
  have hd1 : 1 ≤ d := by omega
  have hl : lv_has ls 4 [(0, .int x0), (1, .int x1)] := hl
  unfold fX3_firstOf at h
  refine lv_iconst (v := 0) hx hb dX3_firstOf_0 (by decide) ?_
  refine lv_istore_n (lv' := [(2, .int 0), (0, .int x0), (1, .int x1)]) hx hb dX3_firstOf_1 rfl hl (by decide) rfl (fun ls hl => ?_)
  refine lv_iconst (v := 0) hx hb dX3_firstOf_2 (by decide) ?_
  refine lv_istore_n (lv' := [(3, .int 0), (2, .int 0), (0, .int x0), (1, .int x1)]) hx hb dX3_firstOf_3 rfl hl (by decide) rfl (fun ls hl => ?_)
  exact tX3_firstOf_b4 hd B 1000 x0 x1 0 0 _ _ _ X (lv_sub hl [2, 3, 1, 0] rfl) h
def fX3_residentHalf_b55 (z : SX3) (x3 : Int32) (x4 : Int32) : Option Int32 :=
    if x3 = 0 then (if x4 = 0 then (some (-1)) else
    (some 1)) else
    (some 0)
set_option maxRecDepth 100000 in
set_option maxHeartbeats 4000000 in
theorem tX3_residentHalf_b55 {a0 a1 a2 a3 a4 a5 a6 a7 a8 a9 a10 a11 a12 a13 a14 a15 p0 p1 p2 p3 p4 p5 p6 p7 p8 p9 p10 p11 p12 p13 p14 p15 : Nat} {wf : SX3 → va_W} (L : LnX3 a0 a1 a2 a3 a4 a5 a6 a7 a8 a9 a10 a11 a12 a13 a14 a15 p0 p1 p2 p3 p4 p5 p6 p7 p8 p9 p10 p11 p12 p13 p14 p15 cI wf) {d : Nat} (hd : 1 ≤ d) {z : SX3} (B : Bd RX3 cX3_residentHalf 5 (some .int) d A g D [(cI, .int), (cB, .byte)] p R S m args meth c) {q : Int32} : ∀ (x3 : Int32) (x4 : Int32) (H : Heap) (locs : List Loc) (ls : Array Slot), Hx A D S.heap (wf z) H locs → lv_has ls 5 [(3, .int x3), (4, .int x4)] → fX3_residentHalf_b55 z x3 x4 = some q → W p l e R S m args below meth c H locs 0 0 (MQ below (QI A D (wf z) q) args S 0 0 A) (F0 m 55 ls []) := by
  have hx := B.1
  have hb := B.2.1
  have hd1 : 1 ≤ d := by omega
  intro x3 x4 H locs ls X hl h
  unfold fX3_residentHalf_b55 at h
  refine lv_iload_n hx hb dX3_residentHalf_55 rfl (lv_at hl 0 rfl) ?_
  refine lv_if_eq (tgt := 61) hx hb dX3_residentHalf_56 (by decide) (fun hc1 => ?_) (fun hc1 => ?_)
  · have h := it h hc1
    refine lv_iload hx hb dX3_residentHalf_61 (lv_at hl 1 rfl) ?_
    refine lv_if_eq (tgt := 70) hx hb dX3_residentHalf_63 (by decide) (fun hc2 => ?_) (fun hc2 => ?_)
    · have h := it h hc2
      refine lv_iconst (v := (-1)) hx hb dX3_residentHalf_70 (by decide) ?_
      exact rI B X rfl (Option.some.inj h) dX3_residentHalf_71
    · have h := ie h hc2
      refine lv_iconst (v := 1) hx hb dX3_residentHalf_66 (by decide) ?_
      refine lv_goto (tgt := 71) hx hb dX3_residentHalf_67 (by decide) ?_
      exact rI B X rfl (Option.some.inj h) dX3_residentHalf_71
  · have h := ie h hc1
    refine lv_iconst (v := 0) hx hb dX3_residentHalf_59 (by decide) ?_
    exact rI B X rfl (Option.some.inj h) dX3_residentHalf_60
def fX3_residentHalf_b33 (z : SX3) (x1 : Int32) (x2 : Int32) (x3 : Int32) (y0 : Int32) : Option Int32 :=
    if x3 = 0 then (fX3_residentHalf_b55 z x3 y0) else
    (if y0 = 0 then (fX3_residentHalf_b55 z x3 y0) else
    (if x2 ≤ x1 then (some 0) else
    (some 1)))
set_option maxRecDepth 100000 in
set_option maxHeartbeats 4000000 in
theorem tX3_residentHalf_b33 {a0 a1 a2 a3 a4 a5 a6 a7 a8 a9 a10 a11 a12 a13 a14 a15 p0 p1 p2 p3 p4 p5 p6 p7 p8 p9 p10 p11 p12 p13 p14 p15 : Nat} {wf : SX3 → va_W} (L : LnX3 a0 a1 a2 a3 a4 a5 a6 a7 a8 a9 a10 a11 a12 a13 a14 a15 p0 p1 p2 p3 p4 p5 p6 p7 p8 p9 p10 p11 p12 p13 p14 p15 cI wf) {d : Nat} (hd : 1 ≤ d) {z : SX3} (B : Bd RX3 cX3_residentHalf 5 (some .int) d A g D [(cI, .int), (cB, .byte)] p R S m args meth c) {q : Int32} : ∀ (x1 : Int32) (x2 : Int32) (x3 : Int32) (y0 : Int32) (H : Heap) (locs : List Loc) (ls : Array Slot), Hx A D S.heap (wf z) H locs → lv_has ls 5 [(1, .int x1), (2, .int x2), (3, .int x3)] → fX3_residentHalf_b33 z x1 x2 x3 y0 = some q → W p l e R S m args below meth c H locs 0 0 (MQ below (QI A D (wf z) q) args S 0 0 A) (F0 m 33 ls [.int y0]) := by
  have hx := B.1
  have hb := B.2.1
  have hd1 : 1 ≤ d := by omega
  intro x1 x2 x3 y0 H locs ls X hl h
  unfold fX3_residentHalf_b33 at h
  refine lv_istore (lv' := [(4, .int y0), (1, .int x1), (2, .int x2), (3, .int x3)]) hx hb dX3_residentHalf_33 hl (by decide) rfl (fun ls hl => ?_)
  refine lv_iload_n hx hb dX3_residentHalf_35 rfl (lv_at hl 3 rfl) ?_
  refine lv_if_eq (tgt := 55) hx hb dX3_residentHalf_36 (by decide) (fun hc1 => ?_) (fun hc1 => ?_)
  · have h := it h hc1
    exact tX3_residentHalf_b55 L hd B x3 y0 _ _ _ X (lv_sub hl [3, 0] rfl) h
  · have h := ie h hc1
    refine lv_iload hx hb dX3_residentHalf_39 (lv_at hl 0 rfl) ?_
    refine lv_if_eq (tgt := 55) hx hb dX3_residentHalf_41 (by decide) (fun hc2 => ?_) (fun hc2 => ?_)
    · have h := it h hc2
      exact tX3_residentHalf_b55 L hd B x3 y0 _ _ _ X (lv_sub hl [3, 0] rfl) h
    · have h := ie h hc2
      refine lv_iload_n hx hb dX3_residentHalf_44 rfl (lv_at hl 2 rfl) ?_
      refine lv_iload_n hx hb dX3_residentHalf_45 rfl (lv_at hl 1 rfl) ?_
      refine lv_icmp_le (tgt := 53) hx hb dX3_residentHalf_46 (by decide) (fun hc3 => ?_) (fun hc3 => ?_)
      · have h := it h hc3
        refine lv_iconst (v := 0) hx hb dX3_residentHalf_53 (by decide) ?_
        exact rI B X rfl (Option.some.inj h) dX3_residentHalf_54
      · have h := ie h hc3
        refine lv_iconst (v := 1) hx hb dX3_residentHalf_49 (by decide) ?_
        refine lv_goto (tgt := 54) hx hb dX3_residentHalf_50 (by decide) ?_
        exact rI B X rfl (Option.some.inj h) dX3_residentHalf_54
def fX3_residentHalf_b16 (z : SX3) (x1 : Int32) (x2 : Int32) (y0 : Int32) : Option Int32 :=
    if z.1.2.2.1 < x2 then (fX3_residentHalf_b33 z x1 x2 y0 0) else
    (fX3_residentHalf_b33 z x1 x2 y0 1)
set_option maxRecDepth 100000 in
set_option maxHeartbeats 4000000 in
theorem tX3_residentHalf_b16 {a0 a1 a2 a3 a4 a5 a6 a7 a8 a9 a10 a11 a12 a13 a14 a15 p0 p1 p2 p3 p4 p5 p6 p7 p8 p9 p10 p11 p12 p13 p14 p15 : Nat} {wf : SX3 → va_W} (L : LnX3 a0 a1 a2 a3 a4 a5 a6 a7 a8 a9 a10 a11 a12 a13 a14 a15 p0 p1 p2 p3 p4 p5 p6 p7 p8 p9 p10 p11 p12 p13 p14 p15 cI wf) {d : Nat} (hd : 1 ≤ d) {z : SX3} (B : Bd RX3 cX3_residentHalf 5 (some .int) d A g D [(cI, .int), (cB, .byte)] p R S m args meth c) {q : Int32} : ∀ (x1 : Int32) (x2 : Int32) (y0 : Int32) (H : Heap) (locs : List Loc) (ls : Array Slot), Hx A D S.heap (wf z) H locs → lv_has ls 5 [(0, .ref a0), (1, .int x1), (2, .int x2)] → fX3_residentHalf_b16 z x1 x2 y0 = some q → W p l e R S m args below meth c H locs 0 0 (MQ below (QI A D (wf z) q) args S 0 0 A) (F0 m 16 ls [.int y0]) := by
  have hx := B.1
  have hb := B.2.1
  have hd1 : 1 ≤ d := by omega
  intro x1 x2 y0 H locs ls X hl h
  unfold fX3_residentHalf_b16 at h
  refine lv_istore_n (lv' := [(3, .int y0), (0, .ref a0), (1, .int x1), (2, .int x2)]) hx hb dX3_residentHalf_16 rfl hl (by decide) rfl (fun ls hl => ?_)
  refine lv_iload_n hx hb dX3_residentHalf_17 rfl (lv_at hl 3 rfl) ?_
  refine lv_aload_n hx hb dX3_residentHalf_18 rfl (lv_at hl 1 rfl) ?_
  refine fG B X (LnX3_g L z) 0 rfl inTX3 (by decide) kw255 rfl dX3_residentHalf_19 ?_
  refine fGN B X (LnX6_g (LnX3_s0 L z) z.1) 2 rfl inTX6 (by decide) kn182 rfl dX3_residentHalf_22 ?_
  refine lv_icmp_gt (tgt := 32) hx hb dX3_residentHalf_25 (by decide) (fun hc1 => ?_) (fun hc1 => ?_)
  · have h := it h hc1
    refine lv_iconst (v := 0) hx hb dX3_residentHalf_32 (by decide) ?_
    exact tX3_residentHalf_b33 L hd B x1 x2 y0 0 _ _ _ X (lv_sub hl [2, 3, 0] rfl) h
  · have h := ie h hc1
    refine lv_iconst (v := 1) hx hb dX3_residentHalf_28 (by decide) ?_
    refine lv_goto (tgt := 33) hx hb dX3_residentHalf_29 (by decide) ?_
    exact tX3_residentHalf_b33 L hd B x1 x2 y0 1 _ _ _ X (lv_sub hl [2, 3, 0] rfl) h
def fX3_residentHalf (z : SX3) (x1 : Int32) (x2 : Int32) : Option Int32 :=
    if z.1.2.2.1 < x1 then (fX3_residentHalf_b16 z x1 x2 0) else
    (fX3_residentHalf_b16 z x1 x2 1)
set_option maxRecDepth 100000 in
set_option maxHeartbeats 4000000 in
theorem tX3_residentHalf {a0 a1 a2 a3 a4 a5 a6 a7 a8 a9 a10 a11 a12 a13 a14 a15 p0 p1 p2 p3 p4 p5 p6 p7 p8 p9 p10 p11 p12 p13 p14 p15 : Nat} {wf : SX3 → va_W} (L : LnX3 a0 a1 a2 a3 a4 a5 a6 a7 a8 a9 a10 a11 a12 a13 a14 a15 p0 p1 p2 p3 p4 p5 p6 p7 p8 p9 p10 p11 p12 p13 p14 p15 cI wf) {d : Nat} (hd : 1 ≤ d) {z : SX3} {x1 x2 : Int32} {q : Int32} (h : fX3_residentHalf z x1 x2 = some q) : Ct l yX3_residentHalf cX3_residentHalf 5 (some .int) d A g D [(cI, .int), (cB, .byte)] [.ref a0, .int x1, .int x2] (wf z) (QI A D (wf z) q) := by
  refine mkM (by decide) (Nat.le_of_ble_eq_true rfl) ?_
  intro p e S m args below meth c B X ls hl
  have B : Bd RX3 cX3_residentHalf 5 (some .int) d A g D [(cI, .int), (cB, .byte)] p (rmd d) S m args meth c := B
  have hx := B.1
  have hb := B.2.1
  have hd1 : 1 ≤ d := by omega
  have hl : lv_has ls 5 [(0, .ref a0), (1, .int x1), (2, .int x2)] := hl
  unfold fX3_residentHalf at h
  refine lv_iload_n hx hb dX3_residentHalf_0 rfl (lv_at hl 1 rfl) ?_
  refine lv_aload_n hx hb dX3_residentHalf_1 rfl (lv_at hl 0 rfl) ?_
  refine fG B X (LnX3_g L z) 0 rfl inTX3 (by decide) kw255 rfl dX3_residentHalf_2 ?_
  refine fGN B X (LnX6_g (LnX3_s0 L z) z.1) 2 rfl inTX6 (by decide) kn182 rfl dX3_residentHalf_5 ?_
  refine lv_icmp_gt (tgt := 15) hx hb dX3_residentHalf_8 (by decide) (fun hc1 => ?_) (fun hc1 => ?_)
  · have h := it h hc1
    refine lv_iconst (v := 0) hx hb dX3_residentHalf_15 (by decide) ?_
    exact tX3_residentHalf_b16 L hd B x1 x2 0 _ _ _ X (lv_sub hl [0, 1, 2] rfl) h
  · have h := ie h hc1
    refine lv_iconst (v := 1) hx hb dX3_residentHalf_11 (by decide) ?_
    refine lv_goto (tgt := 16) hx hb dX3_residentHalf_12 (by decide) ?_
    exact tX3_residentHalf_b16 L hd B x1 x2 1 _ _ _ X (lv_sub hl [0, 1, 2] rfl) h
def fX3_spill (z : SX3) (x1 : Int32) (x2 : Int32) : Option SX3 :=
    if (x1 ||| x2) = 0 then (some z) else
    ((fX0_open z.2.2.1 3).bind fun q2 =>
    (fX0_open q2 3).bind fun q3 =>
    (fJ6_bitCount_0f7a4 x1).bind fun q5 =>
    (fJ6_bitCount_0f7a4 x2).bind fun q6 =>
    some (z.1, z.2.1, q3, (upd z.2.2.2.1 (1 : Int32).toNatClampNeg ((z.2.2.2.1 (1 : Int32).toNatClampNeg) + (q5 + q6))), z.2.2.2.2))
set_option maxRecDepth 100000 in
set_option maxHeartbeats 4000000 in
theorem tX3_spill {a0 a1 a2 a3 a4 a5 a6 a7 a8 a9 a10 a11 a12 a13 a14 a15 p0 p1 p2 p3 p4 p5 p6 p7 p8 p9 p10 p11 p12 p13 p14 p15 : Nat} {wf : SX3 → va_W} (L : LnX3 a0 a1 a2 a3 a4 a5 a6 a7 a8 a9 a10 a11 a12 a13 a14 a15 p0 p1 p2 p3 p4 p5 p6 p7 p8 p9 p10 p11 p12 p13 p14 p15 cI wf) {d : Nat} (hd : 3 ≤ d) {z : SX3} {x1 x2 : Int32} {q : SX3} (h : fX3_spill z x1 x2 = some q) : Ct l yX3_spill cX3_spill 3 none d A g D [(cI, .int), (cB, .byte)] [.ref a0, .int x1, .int x2] (wf z) (QV A D (wf q)) := by
  refine mkM (by decide) (Nat.le_of_ble_eq_true rfl) ?_
  intro p e S m args below meth c B X ls hl
  have B : Bd RX3 cX3_spill 3 none d A g D [(cI, .int), (cB, .byte)] p (rmd d) S m args meth c := B
  have hx := B.1
  have hb := B.2.1
  have hd1 : 1 ≤ d := by omega
  have hl : lv_has ls 3 [(0, .ref a0), (1, .int x1), (2, .int x2)] := hl
  unfold fX3_spill at h
  refine lv_iload_n hx hb dX3_spill_0 rfl (lv_at hl 1 rfl) ?_
  refine lv_iload_n hx hb dX3_spill_1 rfl (lv_at hl 2 rfl) ?_
  refine lv_ior hx hb dX3_spill_2 ?_
  refine lv_if_eq (tgt := 40) hx hb dX3_spill_3 (by decide) (fun hc1 => ?_) (fun hc1 => ?_)
  · have h := it h hc1
    exact rV B X (congrArg wf (Option.some.inj h)) dX3_spill_40
  · have h := ie h hc1
    refine lv_aload_n hx hb dX3_spill_6 rfl (lv_at hl 0 rfl) ?_
    refine fG B X (LnX3_g L z) 2 rfl inTX3 (by decide) kw259 rfl dX3_spill_7 ?_
    refine lv_iconst (v := 3) hx hb dX3_spill_10 (by decide) ?_
    obtain ⟨q2, h2, h⟩ := bs h
    refine kV X (cVN (As := [.int 3]) (rest := []) B X (tX0_open (d := d - 1) (LnX3_s2 L z) (by omega) h2) mfX0_open kn628 (by omega) (LnX0_g (LnX3_s2 L z) z.2.2.1) rfl rfl (Nat.le_of_ble_eq_true rfl) hl.1 ⟨Nat.zero_le _, Nat.zero_le _⟩ dX3_spill_11) (fun H locs X => ?_)
    have X : Hx A D S.heap (wf (z.1, z.2.1, q2, z.2.2.2.1, z.2.2.2.2)) H locs := X
    refine lv_aload_n hx hb dX3_spill_14 rfl (lv_at hl 0 rfl) ?_
    refine fG B X (LnX3_g L (z.1, z.2.1, q2, z.2.2.2.1, z.2.2.2.2)) 2 rfl inTX3 (by decide) kw259 rfl dX3_spill_15 ?_
    refine lv_iconst (v := 3) hx hb dX3_spill_18 (by decide) ?_
    obtain ⟨q3, h3, h⟩ := bs h
    refine kV X (cVN (As := [.int 3]) (rest := []) B X (tX0_open (d := d - 1) (LnX3_s2 L (z.1, z.2.1, q2, z.2.2.2.1, z.2.2.2.2)) (by omega) h3) mfX0_open kn628 (by omega) (LnX0_g (LnX3_s2 L (z.1, z.2.1, q2, z.2.2.2.1, z.2.2.2.2)) q2) rfl rfl (Nat.le_of_ble_eq_true rfl) hl.1 ⟨Nat.zero_le _, Nat.zero_le _⟩ dX3_spill_19) (fun H locs X => ?_)
    have X : Hx A D S.heap (wf (z.1, z.2.1, q3, z.2.2.2.1, z.2.2.2.2)) H locs := X
    refine lv_aload_n hx hb dX3_spill_22 rfl (lv_at hl 0 rfl) ?_
    refine fG B X (LnX3_g L (z.1, z.2.1, q3, z.2.2.2.1, z.2.2.2.2)) 3 rfl inTX3 (by decide) kw261 rfl dX3_spill_23 ?_
    refine lv_iconst (v := 1) hx hb dX3_spill_26 (by decide) ?_
    refine lv_dup2_11 hx hb dX3_spill_27 rfl rfl ?_
    refine aG B X (LnX3_a3 L (z.1, z.2.1, q3, z.2.2.2.1, z.2.2.2.2)) 0 rfl (by decide) dX3_spill_28 ?_
    refine lv_iload_n hx hb dX3_spill_29 rfl (lv_at hl 1 rfl) ?_
    obtain ⟨q5, h5, h⟩ := bs h
    refine kI X (cS (As := [.int x1]) (rest := [.int (z.2.2.2.1 (1 : Int32).toNatClampNeg), .int 1, .ref a15]) B X (tJ6_bitCount_0f7a4 (d := d - 1) (by omega) h5) msJ6_bitCount_0f7a4 kw617 (by omega) rfl (Nat.le_of_ble_eq_true rfl) hl.1 ⟨Nat.zero_le _, Nat.zero_le _⟩ dX3_spill_30) (fun H locs X => ?_)
    have X : Hx A D S.heap (wf (z.1, z.2.1, q3, z.2.2.2.1, z.2.2.2.2)) H locs := X
    refine lv_iload_n hx hb dX3_spill_33 rfl (lv_at hl 2 rfl) ?_
    obtain ⟨q6, h6, h⟩ := bs h
    refine kI X (cS (As := [.int x2]) (rest := [.int q5, .int (z.2.2.2.1 (1 : Int32).toNatClampNeg), .int 1, .ref a15]) B X (tJ6_bitCount_0f7a4 (d := d - 1) (by omega) h6) msJ6_bitCount_0f7a4 kw617 (by omega) rfl (Nat.le_of_ble_eq_true rfl) hl.1 ⟨Nat.zero_le _, Nat.zero_le _⟩ dX3_spill_34) (fun H locs X => ?_)
    have X : Hx A D S.heap (wf (z.1, z.2.1, q3, z.2.2.2.1, z.2.2.2.2)) H locs := X
    refine lv_iadd hx hb dX3_spill_37 ?_
    refine lv_iadd hx hb dX3_spill_38 ?_
    refine aP B X (LnX3_a3 L (z.1, z.2.1, q3, z.2.2.2.1, z.2.2.2.2)) (LnX3_b3 L (z.1, z.2.1, q3, z.2.2.2.1, z.2.2.2.2) _) 0 rfl (by decide) dX3_spill_39 (fun H locs X => ?_)
    have X : Hx A D S.heap (wf (z.1, z.2.1, q3, (upd z.2.2.2.1 (1 : Int32).toNatClampNeg ((z.2.2.2.1 (1 : Int32).toNatClampNeg) + (q5 + q6))), z.2.2.2.2)) H locs := X
    exact rV B X (congrArg wf (Option.some.inj h)) dX3_spill_40
end
