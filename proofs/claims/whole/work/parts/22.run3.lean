section
variable {l : Launch} {p : Program} {e : Env} {R : Room} {S : State} {m : MethodId} {args : Array Value} {below : List Frame} {meth : Method} {c : Code} {A : Nat → Prop} {g : Nat → Nat} {D : va_G} {cI cB : ClassId}
def fX3_goOn_b50 (tk : SX3 → Int32 → Int32 → Int32 → Option SX3) (x1 : Int32) (x2 : Int32) (x3 : Int32) (x4 : Int32) (y0 : Int32) (z : SX3) : Option SX3 :=
    if x1 = 0 then ((tk z y0 x3 (x4 + 1)).bind fun q3 =>
    some q3) else
    ((tk z y0 x2 (x4 + 1)).bind fun q2 =>
    some q2)
set_option maxRecDepth 100000 in
set_option maxHeartbeats 4000000 in
theorem tX3_goOn_b50 {a0 a1 a2 a3 a4 a5 a6 a7 a8 a9 a10 a11 a12 a13 a14 a15 p0 p1 p2 p3 p4 p5 p6 p7 p8 p9 p10 p11 p12 p13 p14 p15 : Nat} {wf : SX3 → va_W} (L : LnX3 a0 a1 a2 a3 a4 a5 a6 a7 a8 a9 a10 a11 a12 a13 a14 a15 p0 p1 p2 p3 p4 p5 p6 p7 p8 p9 p10 p11 p12 p13 p14 p15 cI wf) {d : Nat} (hd : 2 ≤ d) {tk : SX3 → Int32 → Int32 → Int32 → Option SX3} {dT : Nat} (hdT : dT + 1 ≤ d) (HT : ∀ (z : SX3) (x1 x2 x3 : Int32) (q : SX3), tk z x1 x2 x3 = some q → Ct l yX3_turn cX3_turn 9 none dT A g D [(cI, .int), (cB, .byte)] [.ref a0, .int x1, .int x2, .int x3] (wf z) (QV A D (wf q))) (B : Bd RX3 cX3_goOn 5 none d A g D [(cI, .int), (cB, .byte)] p R S m args meth c) {q : SX3} : ∀ (x1 : Int32) (x2 : Int32) (x3 : Int32) (x4 : Int32) (y0 : Int32) (z : SX3) (H : Heap) (locs : List Loc) (ls : Array Slot), Hx A D S.heap (wf z) H locs → lv_has ls 5 [(1, .int x1), (2, .int x2), (3, .int x3), (4, .int x4)] → fX3_goOn_b50 tk x1 x2 x3 x4 y0 z = some q → W p l e R S m args below meth c H locs 0 0 (MQ below (QV A D (wf q)) args S 0 0 A) (F0 m 50 ls [.int y0, .ref a0]) := by
  have hx := B.1
  have hb := B.2.1
  have hd1 : 1 ≤ d := by omega
  intro x1 x2 x3 x4 y0 z H locs ls X hl h
  unfold fX3_goOn_b50 at h
  refine lv_iload_n hx hb dX3_goOn_50 rfl (lv_at hl 0 rfl) ?_
  refine lv_if_ne (tgt := 58) hx hb dX3_goOn_51 (by decide) (fun hc1 => ?_) (fun hc1 => ?_)
  · have h := ie h hc1
    refine lv_iload_n hx hb dX3_goOn_58 rfl (lv_at hl 1 rfl) ?_
    refine lv_iload hx hb dX3_goOn_59 (lv_at hl 3 rfl) ?_
    refine lv_iconst (v := 1) hx hb dX3_goOn_61 (by decide) ?_
    refine lv_iadd hx hb dX3_goOn_62 ?_
    obtain ⟨q2, h2, h⟩ := bs h
    refine kV X (cV (As := [.int y0, .int x2, .int (x4 + 1)]) (rest := []) B X (HT z y0 x2 (x4 + 1) _ h2) mfX3_turn kw604 hdT (LnX3_g L z) rfl rfl (Nat.le_of_ble_eq_true rfl) hl.1 ⟨Nat.zero_le _, Nat.zero_le _⟩ dX3_goOn_63) (fun H locs X => ?_)
    have X : Hx A D S.heap (wf q2) H locs := X
    exact rV B X (congrArg wf (Option.some.inj h)) dX3_goOn_66
  · have h := it h hc1
    refine lv_iload_n hx hb dX3_goOn_54 rfl (lv_at hl 2 rfl) ?_
    refine lv_goto (tgt := 59) hx hb dX3_goOn_55 (by decide) ?_
    refine lv_iload hx hb dX3_goOn_59 (lv_at hl 3 rfl) ?_
    refine lv_iconst (v := 1) hx hb dX3_goOn_61 (by decide) ?_
    refine lv_iadd hx hb dX3_goOn_62 ?_
    obtain ⟨q3, h3, h⟩ := bs h
    refine kV X (cV (As := [.int y0, .int x3, .int (x4 + 1)]) (rest := []) B X (HT z y0 x3 (x4 + 1) _ h3) mfX3_turn kw604 hdT (LnX3_g L z) rfl rfl (Nat.le_of_ble_eq_true rfl) hl.1 ⟨Nat.zero_le _, Nat.zero_le _⟩ dX3_goOn_63) (fun H locs X => ?_)
    have X : Hx A D S.heap (wf q3) H locs := X
    exact rV B X (congrArg wf (Option.some.inj h)) dX3_goOn_66
def fX3_goOn (z : SX3) (tk : SX3 → Int32 → Int32 → Int32 → Option SX3) (x1 : Int32) (x2 : Int32) (x3 : Int32) (x4 : Int32) : Option SX3 :=
    if (x2 ||| x3) = 0 then (some z) else
    (if 4 ≤ x4 then (some z) else
    (if z.2.1.2.2.2.2 = 0 then ((fJ6_bitCount_0f7a4 x2).bind fun q5 =>
    (fJ6_bitCount_0f7a4 x3).bind fun q6 =>
    if x1 = 0 then (fX3_goOn_b50 tk x1 x2 x3 x4 x2 (z.1, z.2.1, z.2.2.1, (upd z.2.2.2.1 (2 : Int32).toNatClampNeg ((z.2.2.2.1 (2 : Int32).toNatClampNeg) + (q5 + q6))), z.2.2.2.2)) else
    (fX3_goOn_b50 tk x1 x2 x3 x4 x3 (z.1, z.2.1, z.2.2.1, (upd z.2.2.2.1 (2 : Int32).toNatClampNeg ((z.2.2.2.1 (2 : Int32).toNatClampNeg) + (q5 + q6))), z.2.2.2.2))) else
    (some z)))
set_option maxRecDepth 100000 in
set_option maxHeartbeats 4000000 in
theorem tX3_goOn {a0 a1 a2 a3 a4 a5 a6 a7 a8 a9 a10 a11 a12 a13 a14 a15 p0 p1 p2 p3 p4 p5 p6 p7 p8 p9 p10 p11 p12 p13 p14 p15 : Nat} {wf : SX3 → va_W} (L : LnX3 a0 a1 a2 a3 a4 a5 a6 a7 a8 a9 a10 a11 a12 a13 a14 a15 p0 p1 p2 p3 p4 p5 p6 p7 p8 p9 p10 p11 p12 p13 p14 p15 cI wf) {d : Nat} (hd : 2 ≤ d) {tk : SX3 → Int32 → Int32 → Int32 → Option SX3} {dT : Nat} (hdT : dT + 1 ≤ d) (HT : ∀ (z : SX3) (x1 x2 x3 : Int32) (q : SX3), tk z x1 x2 x3 = some q → Ct l yX3_turn cX3_turn 9 none dT A g D [(cI, .int), (cB, .byte)] [.ref a0, .int x1, .int x2, .int x3] (wf z) (QV A D (wf q))) {z : SX3} {x1 x2 x3 x4 : Int32} {q : SX3} (h : fX3_goOn z tk x1 x2 x3 x4 = some q) : Ct l yX3_goOn cX3_goOn 5 none d A g D [(cI, .int), (cB, .byte)] [.ref a0, .int x1, .int x2, .int x3, .int x4] (wf z) (QV A D (wf q)) := by
  refine mkM (by decide) (Nat.le_of_ble_eq_true rfl) ?_
  intro p e S m args below meth c B X ls hl
  have B : Bd RX3 cX3_goOn 5 none d A g D [(cI, .int), (cB, .byte)] p (rmd d) S m args meth c := B
  have hx := B.1
  have hb := B.2.1
  have hd1 : 1 ≤ d := by omega
  have hl : lv_has ls 5 [(0, .ref a0), (1, .int x1), (2, .int x2), (3, .int x3), (4, .int x4)] := hl
  unfold fX3_goOn at h
  refine lv_iload_n hx hb dX3_goOn_0 rfl (lv_at hl 2 rfl) ?_
  refine lv_iload_n hx hb dX3_goOn_1 rfl (lv_at hl 3 rfl) ?_
  refine lv_ior hx hb dX3_goOn_2 ?_
  refine lv_if_eq (tgt := 66) hx hb dX3_goOn_3 (by decide) (fun hc1 => ?_) (fun hc1 => ?_)
  · have h := it h hc1
    exact rV B X (congrArg wf (Option.some.inj h)) dX3_goOn_66
  · have h := ie h hc1
    refine lv_iload hx hb dX3_goOn_6 (lv_at hl 4 rfl) ?_
    refine lv_iconst (v := 4) hx hb dX3_goOn_8 (by decide) ?_
    refine lv_icmp_ge (tgt := 66) hx hb dX3_goOn_9 (by decide) (fun hc2 => ?_) (fun hc2 => ?_)
    · have h := it h hc2
      exact rV B X (congrArg wf (Option.some.inj h)) dX3_goOn_66
    · have h := ie h hc2
      refine lv_aload_n hx hb dX3_goOn_12 rfl (lv_at hl 0 rfl) ?_
      refine fG B X (LnX3_g L z) 1 rfl inTX3 (by decide) kw257 rfl dX3_goOn_13 ?_
      refine fGN B X (LnX1_g (LnX3_s1 L z) z.2.1) 4 rfl inTX1 (by decide) kn208 rfl dX3_goOn_16 ?_
      refine lv_if_ne (tgt := 66) hx hb dX3_goOn_19 (by decide) (fun hc3 => ?_) (fun hc3 => ?_)
      · have h := ie h hc3
        exact rV B X (congrArg wf (Option.some.inj h)) dX3_goOn_66
      · have h := it h hc3
        refine lv_aload_n hx hb dX3_goOn_22 rfl (lv_at hl 0 rfl) ?_
        refine fG B X (LnX3_g L z) 3 rfl inTX3 (by decide) kw261 rfl dX3_goOn_23 ?_
        refine lv_iconst (v := 2) hx hb dX3_goOn_26 (by decide) ?_
        refine lv_dup2_11 hx hb dX3_goOn_27 rfl rfl ?_
        refine aG B X (LnX3_a3 L z) 0 rfl (by decide) dX3_goOn_28 ?_
        refine lv_iload_n hx hb dX3_goOn_29 rfl (lv_at hl 2 rfl) ?_
        obtain ⟨q5, h5, h⟩ := bs h
        refine kI X (cS (As := [.int x2]) (rest := [.int (z.2.2.2.1 (2 : Int32).toNatClampNeg), .int 2, .ref a15]) B X (tJ6_bitCount_0f7a4 (d := d - 1) (by omega) h5) msJ6_bitCount_0f7a4 kw617 (by omega) rfl (Nat.le_of_ble_eq_true rfl) hl.1 ⟨Nat.zero_le _, Nat.zero_le _⟩ dX3_goOn_30) (fun H locs X => ?_)
        have X : Hx A D S.heap (wf z) H locs := X
        refine lv_iload_n hx hb dX3_goOn_33 rfl (lv_at hl 3 rfl) ?_
        obtain ⟨q6, h6, h⟩ := bs h
        refine kI X (cS (As := [.int x3]) (rest := [.int q5, .int (z.2.2.2.1 (2 : Int32).toNatClampNeg), .int 2, .ref a15]) B X (tJ6_bitCount_0f7a4 (d := d - 1) (by omega) h6) msJ6_bitCount_0f7a4 kw617 (by omega) rfl (Nat.le_of_ble_eq_true rfl) hl.1 ⟨Nat.zero_le _, Nat.zero_le _⟩ dX3_goOn_34) (fun H locs X => ?_)
        have X : Hx A D S.heap (wf z) H locs := X
        refine lv_iadd hx hb dX3_goOn_37 ?_
        refine lv_iadd hx hb dX3_goOn_38 ?_
        refine aP B X (LnX3_a3 L z) (LnX3_b3 L z _) 0 rfl (by decide) dX3_goOn_39 (fun H locs X => ?_)
        have X : Hx A D S.heap (wf (z.1, z.2.1, z.2.2.1, (upd z.2.2.2.1 (2 : Int32).toNatClampNeg ((z.2.2.2.1 (2 : Int32).toNatClampNeg) + (q5 + q6))), z.2.2.2.2)) H locs := X
        refine lv_aload_n hx hb dX3_goOn_40 rfl (lv_at hl 0 rfl) ?_
        refine lv_iload_n hx hb dX3_goOn_41 rfl (lv_at hl 1 rfl) ?_
        refine lv_if_ne (tgt := 49) hx hb dX3_goOn_42 (by decide) (fun hc8 => ?_) (fun hc8 => ?_)
        · have h := ie h hc8
          refine lv_iload_n hx hb dX3_goOn_49 rfl (lv_at hl 3 rfl) ?_
          exact tX3_goOn_b50 L hd hdT HT B x1 x2 x3 x4 x3 (z.1, z.2.1, z.2.2.1, (upd z.2.2.2.1 (2 : Int32).toNatClampNeg ((z.2.2.2.1 (2 : Int32).toNatClampNeg) + (q5 + q6))), z.2.2.2.2) _ _ _ X (lv_sub hl [1, 2, 3, 4] rfl) h
        · have h := it h hc8
          refine lv_iload_n hx hb dX3_goOn_45 rfl (lv_at hl 2 rfl) ?_
          refine lv_goto (tgt := 50) hx hb dX3_goOn_46 (by decide) ?_
          exact tX3_goOn_b50 L hd hdT HT B x1 x2 x3 x4 x2 (z.1, z.2.1, z.2.2.1, (upd z.2.2.2.1 (2 : Int32).toNatClampNeg ((z.2.2.2.1 (2 : Int32).toNatClampNeg) + (q5 + q6))), z.2.2.2.2) _ _ _ X (lv_sub hl [1, 2, 3, 4] rfl) h
def fX3_split_b155 (tk : SX3 → Int32 → Int32 → Int32 → Option SX3) (x1 : Int32) (x4 : Int32) (x8 : Int32) (x10 : Int32) (x11 : Int32) (z : SX3) : Option SX3 :=
    if x11 = 1 then (some z) else
    ((fX3_goOn z tk x1 x8 x10 x4).bind fun q2 =>
    some q2)
set_option maxRecDepth 100000 in
set_option maxHeartbeats 4000000 in
theorem tX3_split_b155 {a0 a1 a2 a3 a4 a5 a6 a7 a8 a9 a10 a11 a12 a13 a14 a15 p0 p1 p2 p3 p4 p5 p6 p7 p8 p9 p10 p11 p12 p13 p14 p15 : Nat} {wf : SX3 → va_W} (L : LnX3 a0 a1 a2 a3 a4 a5 a6 a7 a8 a9 a10 a11 a12 a13 a14 a15 p0 p1 p2 p3 p4 p5 p6 p7 p8 p9 p10 p11 p12 p13 p14 p15 cI wf) {d : Nat} (hd : 5 ≤ d) {tk : SX3 → Int32 → Int32 → Int32 → Option SX3} {dT : Nat} (hdT : dT + 1 ≤ d - 1) (HT : ∀ (z : SX3) (x1 x2 x3 : Int32) (q : SX3), tk z x1 x2 x3 = some q → Ct l yX3_turn cX3_turn 9 none dT A g D [(cI, .int), (cB, .byte)] [.ref a0, .int x1, .int x2, .int x3] (wf z) (QV A D (wf q))) (B : Bd RX3 cX3_split 12 none d A g D [(cI, .int), (cB, .byte)] p R S m args meth c) {q : SX3} : ∀ (x1 : Int32) (x4 : Int32) (x8 : Int32) (x10 : Int32) (x11 : Int32) (z : SX3) (H : Heap) (locs : List Loc) (ls : Array Slot), Hx A D S.heap (wf z) H locs → lv_has ls 12 [(0, .ref a0), (1, .int x1), (4, .int x4), (8, .int x8), (10, .int x10), (11, .int x11)] → fX3_split_b155 tk x1 x4 x8 x10 x11 z = some q → W p l e R S m args below meth c H locs 0 0 (MQ below (QV A D (wf q)) args S 0 0 A) (F0 m 155 ls []) := by
  have hx := B.1
  have hb := B.2.1
  have hd1 : 1 ≤ d := by omega
  intro x1 x4 x8 x10 x11 z H locs ls X hl h
  unfold fX3_split_b155 at h
  refine lv_iload hx hb dX3_split_155 (lv_at hl 5 rfl) ?_
  refine lv_iconst (v := 1) hx hb dX3_split_157 (by decide) ?_
  refine lv_icmp_eq (tgt := 172) hx hb dX3_split_158 (by decide) (fun hc1 => ?_) (fun hc1 => ?_)
  · have h := it h hc1
    exact rV B X (congrArg wf (Option.some.inj h)) dX3_split_172
  · have h := ie h hc1
    refine lv_aload_n hx hb dX3_split_161 rfl (lv_at hl 0 rfl) ?_
    refine lv_iload_n hx hb dX3_split_162 rfl (lv_at hl 1 rfl) ?_
    refine lv_iload hx hb dX3_split_163 (lv_at hl 3 rfl) ?_
    refine lv_iload hx hb dX3_split_165 (lv_at hl 4 rfl) ?_
    refine lv_iload hx hb dX3_split_167 (lv_at hl 2 rfl) ?_
    obtain ⟨q2, h2, h⟩ := bs h
    refine kV X (cV (As := [.int x1, .int x8, .int x10, .int x4]) (rest := []) B X (tX3_goOn (d := d - 1) L (by omega) (by omega) HT h2) mfX3_goOn kw698 (by omega) (LnX3_g L z) rfl rfl (Nat.le_of_ble_eq_true rfl) hl.1 ⟨Nat.zero_le _, Nat.zero_le _⟩ dX3_split_169) (fun H locs X => ?_)
    have X : Hx A D S.heap (wf q2) H locs := X
    exact rV B X (congrArg wf (Option.some.inj h)) dX3_split_172
def fX3_split_b139 (tk : SX3 → Int32 → Int32 → Int32 → Option SX3) (x1 : Int32) (x4 : Int32) (x7 : Int32) (x8 : Int32) (x9 : Int32) (x10 : Int32) (x11 : Int32) (z : SX3) : Option SX3 :=
    if x11 = 0 then (fX3_split_b155 tk x1 x4 x8 x10 x11 z) else
    ((fX3_goOn z tk x1 x7 x9 x4).bind fun q2 =>
    fX3_split_b155 tk x1 x4 x8 x10 x11 q2)
set_option maxRecDepth 100000 in
set_option maxHeartbeats 4000000 in
theorem tX3_split_b139 {a0 a1 a2 a3 a4 a5 a6 a7 a8 a9 a10 a11 a12 a13 a14 a15 p0 p1 p2 p3 p4 p5 p6 p7 p8 p9 p10 p11 p12 p13 p14 p15 : Nat} {wf : SX3 → va_W} (L : LnX3 a0 a1 a2 a3 a4 a5 a6 a7 a8 a9 a10 a11 a12 a13 a14 a15 p0 p1 p2 p3 p4 p5 p6 p7 p8 p9 p10 p11 p12 p13 p14 p15 cI wf) {d : Nat} (hd : 5 ≤ d) {tk : SX3 → Int32 → Int32 → Int32 → Option SX3} {dT : Nat} (hdT : dT + 1 ≤ d - 1) (HT : ∀ (z : SX3) (x1 x2 x3 : Int32) (q : SX3), tk z x1 x2 x3 = some q → Ct l yX3_turn cX3_turn 9 none dT A g D [(cI, .int), (cB, .byte)] [.ref a0, .int x1, .int x2, .int x3] (wf z) (QV A D (wf q))) (B : Bd RX3 cX3_split 12 none d A g D [(cI, .int), (cB, .byte)] p R S m args meth c) {q : SX3} : ∀ (x1 : Int32) (x4 : Int32) (x7 : Int32) (x8 : Int32) (x9 : Int32) (x10 : Int32) (x11 : Int32) (z : SX3) (H : Heap) (locs : List Loc) (ls : Array Slot), Hx A D S.heap (wf z) H locs → lv_has ls 12 [(0, .ref a0), (1, .int x1), (4, .int x4), (7, .int x7), (8, .int x8), (9, .int x9), (10, .int x10), (11, .int x11)] → fX3_split_b139 tk x1 x4 x7 x8 x9 x10 x11 z = some q → W p l e R S m args below meth c H locs 0 0 (MQ below (QV A D (wf q)) args S 0 0 A) (F0 m 139 ls []) := by
  have hx := B.1
  have hb := B.2.1
  have hd1 : 1 ≤ d := by omega
  intro x1 x4 x7 x8 x9 x10 x11 z H locs ls X hl h
  unfold fX3_split_b139 at h
  refine lv_iload hx hb dX3_split_139 (lv_at hl 7 rfl) ?_
  refine lv_if_eq (tgt := 155) hx hb dX3_split_141 (by decide) (fun hc1 => ?_) (fun hc1 => ?_)
  · have h := it h hc1
    exact tX3_split_b155 L hd hdT HT B x1 x4 x8 x10 x11 z _ _ _ X (lv_sub hl [0, 1, 2, 4, 6, 7] rfl) h
  · have h := ie h hc1
    refine lv_aload_n hx hb dX3_split_144 rfl (lv_at hl 0 rfl) ?_
    refine lv_iload_n hx hb dX3_split_145 rfl (lv_at hl 1 rfl) ?_
    refine lv_iload hx hb dX3_split_146 (lv_at hl 3 rfl) ?_
    refine lv_iload hx hb dX3_split_148 (lv_at hl 5 rfl) ?_
    refine lv_iload hx hb dX3_split_150 (lv_at hl 2 rfl) ?_
    obtain ⟨q2, h2, h⟩ := bs h
    refine kV X (cV (As := [.int x1, .int x7, .int x9, .int x4]) (rest := []) B X (tX3_goOn (d := d - 1) L (by omega) (by omega) HT h2) mfX3_goOn kw698 (by omega) (LnX3_g L z) rfl rfl (Nat.le_of_ble_eq_true rfl) hl.1 ⟨Nat.zero_le _, Nat.zero_le _⟩ dX3_split_152) (fun H locs X => ?_)
    have X : Hx A D S.heap (wf q2) H locs := X
    exact tX3_split_b155 L hd hdT HT B x1 x4 x8 x10 x11 q2 _ _ _ X (lv_sub hl [0, 1, 2, 4, 6, 7] rfl) h
def fX3_split_b136 (tk : SX3 → Int32 → Int32 → Int32 → Option SX3) (x1 : Int32) (x4 : Int32) (x7 : Int32) (x8 : Int32) (x9 : Int32) (x10 : Int32) (x11 : Int32) (y0 : Int32) (y1 : Int32) (y2 : Int32) (z : SX3) : Option SX3 :=
    (fX3_hold z y2 y1 y0).bind fun q1 =>
    fX3_split_b139 tk x1 x4 x7 x8 x9 x10 x11 q1
set_option maxRecDepth 100000 in
set_option maxHeartbeats 4000000 in
theorem tX3_split_b136 {a0 a1 a2 a3 a4 a5 a6 a7 a8 a9 a10 a11 a12 a13 a14 a15 p0 p1 p2 p3 p4 p5 p6 p7 p8 p9 p10 p11 p12 p13 p14 p15 : Nat} {wf : SX3 → va_W} (L : LnX3 a0 a1 a2 a3 a4 a5 a6 a7 a8 a9 a10 a11 a12 a13 a14 a15 p0 p1 p2 p3 p4 p5 p6 p7 p8 p9 p10 p11 p12 p13 p14 p15 cI wf) {d : Nat} (hd : 5 ≤ d) {tk : SX3 → Int32 → Int32 → Int32 → Option SX3} {dT : Nat} (hdT : dT + 1 ≤ d - 1) (HT : ∀ (z : SX3) (x1 x2 x3 : Int32) (q : SX3), tk z x1 x2 x3 = some q → Ct l yX3_turn cX3_turn 9 none dT A g D [(cI, .int), (cB, .byte)] [.ref a0, .int x1, .int x2, .int x3] (wf z) (QV A D (wf q))) (B : Bd RX3 cX3_split 12 none d A g D [(cI, .int), (cB, .byte)] p R S m args meth c) {q : SX3} : ∀ (x1 : Int32) (x4 : Int32) (x7 : Int32) (x8 : Int32) (x9 : Int32) (x10 : Int32) (x11 : Int32) (y0 : Int32) (y1 : Int32) (y2 : Int32) (z : SX3) (H : Heap) (locs : List Loc) (ls : Array Slot), Hx A D S.heap (wf z) H locs → lv_has ls 12 [(0, .ref a0), (1, .int x1), (4, .int x4), (7, .int x7), (8, .int x8), (9, .int x9), (10, .int x10), (11, .int x11)] → fX3_split_b136 tk x1 x4 x7 x8 x9 x10 x11 y0 y1 y2 z = some q → W p l e R S m args below meth c H locs 0 0 (MQ below (QV A D (wf q)) args S 0 0 A) (F0 m 136 ls [.int y0, .int y1, .int y2, .ref a0]) := by
  have hx := B.1
  have hb := B.2.1
  have hd1 : 1 ≤ d := by omega
  intro x1 x4 x7 x8 x9 x10 x11 y0 y1 y2 z H locs ls X hl h
  unfold fX3_split_b136 at h
  obtain ⟨q1, h1, h⟩ := bs h
  refine kV X (cV (As := [.int y2, .int y1, .int y0]) (rest := []) B X (tX3_hold (d := d - 1) L (by omega) h1) mfX3_hold kw641 (by omega) (LnX3_g L z) rfl rfl (Nat.le_of_ble_eq_true rfl) hl.1 ⟨Nat.zero_le _, Nat.zero_le _⟩ dX3_split_136) (fun H locs X => ?_)
  have X : Hx A D S.heap (wf q1) H locs := X
  exact tX3_split_b139 L hd hdT HT B x1 x4 x7 x8 x9 x10 x11 q1 _ _ _ X (lv_sub hl [0, 1, 2, 3, 4, 5, 6, 7] rfl) h
def fX3_split_b124 (tk : SX3 → Int32 → Int32 → Int32 → Option SX3) (x1 : Int32) (x4 : Int32) (x7 : Int32) (x8 : Int32) (x9 : Int32) (x10 : Int32) (x11 : Int32) (y0 : Int32) (y1 : Int32) (z : SX3) : Option SX3 :=
    if x11 = 0 then (fX3_split_b136 tk x1 x4 x7 x8 x9 x10 x11 x9 y0 y1 z) else
    (fX3_split_b136 tk x1 x4 x7 x8 x9 x10 x11 x10 y0 y1 z)
set_option maxRecDepth 100000 in
set_option maxHeartbeats 4000000 in
theorem tX3_split_b124 {a0 a1 a2 a3 a4 a5 a6 a7 a8 a9 a10 a11 a12 a13 a14 a15 p0 p1 p2 p3 p4 p5 p6 p7 p8 p9 p10 p11 p12 p13 p14 p15 : Nat} {wf : SX3 → va_W} (L : LnX3 a0 a1 a2 a3 a4 a5 a6 a7 a8 a9 a10 a11 a12 a13 a14 a15 p0 p1 p2 p3 p4 p5 p6 p7 p8 p9 p10 p11 p12 p13 p14 p15 cI wf) {d : Nat} (hd : 5 ≤ d) {tk : SX3 → Int32 → Int32 → Int32 → Option SX3} {dT : Nat} (hdT : dT + 1 ≤ d - 1) (HT : ∀ (z : SX3) (x1 x2 x3 : Int32) (q : SX3), tk z x1 x2 x3 = some q → Ct l yX3_turn cX3_turn 9 none dT A g D [(cI, .int), (cB, .byte)] [.ref a0, .int x1, .int x2, .int x3] (wf z) (QV A D (wf q))) (B : Bd RX3 cX3_split 12 none d A g D [(cI, .int), (cB, .byte)] p R S m args meth c) {q : SX3} : ∀ (x1 : Int32) (x4 : Int32) (x7 : Int32) (x8 : Int32) (x9 : Int32) (x10 : Int32) (x11 : Int32) (y0 : Int32) (y1 : Int32) (z : SX3) (H : Heap) (locs : List Loc) (ls : Array Slot), Hx A D S.heap (wf z) H locs → lv_has ls 12 [(0, .ref a0), (1, .int x1), (4, .int x4), (7, .int x7), (8, .int x8), (9, .int x9), (10, .int x10), (11, .int x11)] → fX3_split_b124 tk x1 x4 x7 x8 x9 x10 x11 y0 y1 z = some q → W p l e R S m args below meth c H locs 0 0 (MQ below (QV A D (wf q)) args S 0 0 A) (F0 m 124 ls [.int y0, .int y1, .ref a0]) := by
  have hx := B.1
  have hb := B.2.1
  have hd1 : 1 ≤ d := by omega
  intro x1 x4 x7 x8 x9 x10 x11 y0 y1 z H locs ls X hl h
  unfold fX3_split_b124 at h
  refine lv_iload hx hb dX3_split_124 (lv_at hl 7 rfl) ?_
  refine lv_if_ne (tgt := 134) hx hb dX3_split_126 (by decide) (fun hc1 => ?_) (fun hc1 => ?_)
  · have h := ie h hc1
    refine lv_iload hx hb dX3_split_134 (lv_at hl 6 rfl) ?_
    exact tX3_split_b136 L hd hdT HT B x1 x4 x7 x8 x9 x10 x11 x10 y0 y1 z _ _ _ X (lv_sub hl [0, 1, 2, 3, 4, 5, 6, 7] rfl) h
  · have h := it h hc1
    refine lv_iload hx hb dX3_split_129 (lv_at hl 5 rfl) ?_
    refine lv_goto (tgt := 136) hx hb dX3_split_131 (by decide) ?_
    exact tX3_split_b136 L hd hdT HT B x1 x4 x7 x8 x9 x10 x11 x9 y0 y1 z _ _ _ X (lv_sub hl [0, 1, 2, 3, 4, 5, 6, 7] rfl) h
def fX3_split_b104 (tk : SX3 → Int32 → Int32 → Int32 → Option SX3) (x1 : Int32) (x4 : Int32) (x7 : Int32) (x8 : Int32) (x9 : Int32) (x10 : Int32) (x11 : Int32) (z : SX3) : Option SX3 :=
    if x11 = (-1) then (fX3_split_b139 tk x1 x4 x7 x8 x9 x10 x11 z) else
    (if x11 = 0 then (fX3_split_b124 tk x1 x4 x7 x8 x9 x10 x11 x7 x1 z) else
    (fX3_split_b124 tk x1 x4 x7 x8 x9 x10 x11 x8 x1 z))
set_option maxRecDepth 100000 in
set_option maxHeartbeats 4000000 in
theorem tX3_split_b104 {a0 a1 a2 a3 a4 a5 a6 a7 a8 a9 a10 a11 a12 a13 a14 a15 p0 p1 p2 p3 p4 p5 p6 p7 p8 p9 p10 p11 p12 p13 p14 p15 : Nat} {wf : SX3 → va_W} (L : LnX3 a0 a1 a2 a3 a4 a5 a6 a7 a8 a9 a10 a11 a12 a13 a14 a15 p0 p1 p2 p3 p4 p5 p6 p7 p8 p9 p10 p11 p12 p13 p14 p15 cI wf) {d : Nat} (hd : 5 ≤ d) {tk : SX3 → Int32 → Int32 → Int32 → Option SX3} {dT : Nat} (hdT : dT + 1 ≤ d - 1) (HT : ∀ (z : SX3) (x1 x2 x3 : Int32) (q : SX3), tk z x1 x2 x3 = some q → Ct l yX3_turn cX3_turn 9 none dT A g D [(cI, .int), (cB, .byte)] [.ref a0, .int x1, .int x2, .int x3] (wf z) (QV A D (wf q))) (B : Bd RX3 cX3_split 12 none d A g D [(cI, .int), (cB, .byte)] p R S m args meth c) {q : SX3} : ∀ (x1 : Int32) (x4 : Int32) (x7 : Int32) (x8 : Int32) (x9 : Int32) (x10 : Int32) (x11 : Int32) (z : SX3) (H : Heap) (locs : List Loc) (ls : Array Slot), Hx A D S.heap (wf z) H locs → lv_has ls 12 [(0, .ref a0), (1, .int x1), (4, .int x4), (7, .int x7), (8, .int x8), (9, .int x9), (10, .int x10), (11, .int x11)] → fX3_split_b104 tk x1 x4 x7 x8 x9 x10 x11 z = some q → W p l e R S m args below meth c H locs 0 0 (MQ below (QV A D (wf q)) args S 0 0 A) (F0 m 104 ls []) := by
  have hx := B.1
  have hb := B.2.1
  have hd1 : 1 ≤ d := by omega
  intro x1 x4 x7 x8 x9 x10 x11 z H locs ls X hl h
  unfold fX3_split_b104 at h
  refine lv_iload hx hb dX3_split_104 (lv_at hl 7 rfl) ?_
  refine lv_iconst (v := (-1)) hx hb dX3_split_106 (by decide) ?_
  refine lv_icmp_eq (tgt := 139) hx hb dX3_split_107 (by decide) (fun hc1 => ?_) (fun hc1 => ?_)
  · have h := it h hc1
    exact tX3_split_b139 L hd hdT HT B x1 x4 x7 x8 x9 x10 x11 z _ _ _ X (lv_sub hl [0, 1, 2, 3, 4, 5, 6, 7] rfl) h
  · have h := ie h hc1
    refine lv_aload_n hx hb dX3_split_110 rfl (lv_at hl 0 rfl) ?_
    refine lv_iload_n hx hb dX3_split_111 rfl (lv_at hl 1 rfl) ?_
    refine lv_iload hx hb dX3_split_112 (lv_at hl 7 rfl) ?_
    refine lv_if_ne (tgt := 122) hx hb dX3_split_114 (by decide) (fun hc2 => ?_) (fun hc2 => ?_)
    · have h := ie h hc2
      refine lv_iload hx hb dX3_split_122 (lv_at hl 4 rfl) ?_
      exact tX3_split_b124 L hd hdT HT B x1 x4 x7 x8 x9 x10 x11 x8 x1 z _ _ _ X (lv_sub hl [0, 1, 2, 3, 4, 5, 6, 7] rfl) h
    · have h := it h hc2
      refine lv_iload hx hb dX3_split_117 (lv_at hl 3 rfl) ?_
      refine lv_goto (tgt := 124) hx hb dX3_split_119 (by decide) ?_
      exact tX3_split_b124 L hd hdT HT B x1 x4 x7 x8 x9 x10 x11 x7 x1 z _ _ _ X (lv_sub hl [0, 1, 2, 3, 4, 5, 6, 7] rfl) h
def fX3_split_b90 (tk : SX3 → Int32 → Int32 → Int32 → Option SX3) (x1 : Int32) (x4 : Int32) (x7 : Int32) (x8 : Int32) (x9 : Int32) (x10 : Int32) (x11 : Int32) (z : SX3) : Option SX3 :=
    if x11 = 1 then (fX3_split_b104 tk x1 x4 x7 x8 x9 x10 x11 z) else
    ((fX3_spill z x8 x10).bind fun q2 =>
    fX3_split_b104 tk x1 x4 x7 x8 x9 x10 x11 q2)
set_option maxRecDepth 100000 in
set_option maxHeartbeats 4000000 in
theorem tX3_split_b90 {a0 a1 a2 a3 a4 a5 a6 a7 a8 a9 a10 a11 a12 a13 a14 a15 p0 p1 p2 p3 p4 p5 p6 p7 p8 p9 p10 p11 p12 p13 p14 p15 : Nat} {wf : SX3 → va_W} (L : LnX3 a0 a1 a2 a3 a4 a5 a6 a7 a8 a9 a10 a11 a12 a13 a14 a15 p0 p1 p2 p3 p4 p5 p6 p7 p8 p9 p10 p11 p12 p13 p14 p15 cI wf) {d : Nat} (hd : 5 ≤ d) {tk : SX3 → Int32 → Int32 → Int32 → Option SX3} {dT : Nat} (hdT : dT + 1 ≤ d - 1) (HT : ∀ (z : SX3) (x1 x2 x3 : Int32) (q : SX3), tk z x1 x2 x3 = some q → Ct l yX3_turn cX3_turn 9 none dT A g D [(cI, .int), (cB, .byte)] [.ref a0, .int x1, .int x2, .int x3] (wf z) (QV A D (wf q))) (B : Bd RX3 cX3_split 12 none d A g D [(cI, .int), (cB, .byte)] p R S m args meth c) {q : SX3} : ∀ (x1 : Int32) (x4 : Int32) (x7 : Int32) (x8 : Int32) (x9 : Int32) (x10 : Int32) (x11 : Int32) (z : SX3) (H : Heap) (locs : List Loc) (ls : Array Slot), Hx A D S.heap (wf z) H locs → lv_has ls 12 [(0, .ref a0), (1, .int x1), (4, .int x4), (7, .int x7), (8, .int x8), (9, .int x9), (10, .int x10), (11, .int x11)] → fX3_split_b90 tk x1 x4 x7 x8 x9 x10 x11 z = some q → W p l e R S m args below meth c H locs 0 0 (MQ below (QV A D (wf q)) args S 0 0 A) (F0 m 90 ls []) := by
  have hx := B.1
  have hb := B.2.1
  have hd1 : 1 ≤ d := by omega
  intro x1 x4 x7 x8 x9 x10 x11 z H locs ls X hl h
  unfold fX3_split_b90 at h
  refine lv_iload hx hb dX3_split_90 (lv_at hl 7 rfl) ?_
  refine lv_iconst (v := 1) hx hb dX3_split_92 (by decide) ?_
  refine lv_icmp_eq (tgt := 104) hx hb dX3_split_93 (by decide) (fun hc1 => ?_) (fun hc1 => ?_)
  · have h := it h hc1
    exact tX3_split_b104 L hd hdT HT B x1 x4 x7 x8 x9 x10 x11 z _ _ _ X (lv_sub hl [0, 1, 2, 3, 4, 5, 6, 7] rfl) h
  · have h := ie h hc1
    refine lv_aload_n hx hb dX3_split_96 rfl (lv_at hl 0 rfl) ?_
    refine lv_iload hx hb dX3_split_97 (lv_at hl 4 rfl) ?_
    refine lv_iload hx hb dX3_split_99 (lv_at hl 6 rfl) ?_
    obtain ⟨q2, h2, h⟩ := bs h
    refine kV X (cV (As := [.int x8, .int x10]) (rest := []) B X (tX3_spill (d := d - 1) L (by omega) h2) mfX3_spill kw694 (by omega) (LnX3_g L z) rfl rfl (Nat.le_of_ble_eq_true rfl) hl.1 ⟨Nat.zero_le _, Nat.zero_le _⟩ dX3_split_101) (fun H locs X => ?_)
    have X : Hx A D S.heap (wf q2) H locs := X
    exact tX3_split_b104 L hd hdT HT B x1 x4 x7 x8 x9 x10 x11 q2 _ _ _ X (lv_sub hl [0, 1, 2, 3, 4, 5, 6, 7] rfl) h
def fX3_split_b31 (tk : SX3 → Int32 → Int32 → Int32 → Option SX3) (x1 : Int32) (x2 : Int32) (x3 : Int32) (x4 : Int32) (x5 : Int32) (y0 : Int32) (z : SX3) : Option SX3 :=
    (fJ6_bitCount_0f7a4 (x2 &&& (x5 ^^^ (-1)))).bind fun q1 =>
    (fJ6_bitCount_0f7a4 (x2 &&& x5)).bind fun q2 =>
    (fX3_residentHalf z q1 q2).bind fun q3 =>
    if q3 = 0 then (fX3_split_b90 tk x1 x4 (x2 &&& (x5 ^^^ (-1))) (x2 &&& x5) (x3 &&& (y0 ^^^ (-1))) (x3 &&& y0) q3 z) else
    ((fX3_spill z (x2 &&& (x5 ^^^ (-1))) (x3 &&& (y0 ^^^ (-1)))).bind fun q5 =>
    fX3_split_b90 tk x1 x4 (x2 &&& (x5 ^^^ (-1))) (x2 &&& x5) (x3 &&& (y0 ^^^ (-1))) (x3 &&& y0) q3 q5)
set_option maxRecDepth 100000 in
set_option maxHeartbeats 4000000 in
theorem tX3_split_b31 {a0 a1 a2 a3 a4 a5 a6 a7 a8 a9 a10 a11 a12 a13 a14 a15 p0 p1 p2 p3 p4 p5 p6 p7 p8 p9 p10 p11 p12 p13 p14 p15 : Nat} {wf : SX3 → va_W} (L : LnX3 a0 a1 a2 a3 a4 a5 a6 a7 a8 a9 a10 a11 a12 a13 a14 a15 p0 p1 p2 p3 p4 p5 p6 p7 p8 p9 p10 p11 p12 p13 p14 p15 cI wf) {d : Nat} (hd : 5 ≤ d) {tk : SX3 → Int32 → Int32 → Int32 → Option SX3} {dT : Nat} (hdT : dT + 1 ≤ d - 1) (HT : ∀ (z : SX3) (x1 x2 x3 : Int32) (q : SX3), tk z x1 x2 x3 = some q → Ct l yX3_turn cX3_turn 9 none dT A g D [(cI, .int), (cB, .byte)] [.ref a0, .int x1, .int x2, .int x3] (wf z) (QV A D (wf q))) (B : Bd RX3 cX3_split 12 none d A g D [(cI, .int), (cB, .byte)] p R S m args meth c) {q : SX3} : ∀ (x1 : Int32) (x2 : Int32) (x3 : Int32) (x4 : Int32) (x5 : Int32) (y0 : Int32) (z : SX3) (H : Heap) (locs : List Loc) (ls : Array Slot), Hx A D S.heap (wf z) H locs → lv_has ls 12 [(0, .ref a0), (1, .int x1), (2, .int x2), (3, .int x3), (4, .int x4), (5, .int x5)] → fX3_split_b31 tk x1 x2 x3 x4 x5 y0 z = some q → W p l e R S m args below meth c H locs 0 0 (MQ below (QV A D (wf q)) args S 0 0 A) (F0 m 31 ls [.int y0]) := by
  have hx := B.1
  have hb := B.2.1
  have hd1 : 1 ≤ d := by omega
  intro x1 x2 x3 x4 x5 y0 z H locs ls X hl h
  unfold fX3_split_b31 at h
  refine lv_istore (lv' := [(6, .int y0), (0, .ref a0), (1, .int x1), (2, .int x2), (3, .int x3), (4, .int x4), (5, .int x5)]) hx hb dX3_split_31 hl (by decide) rfl (fun ls hl => ?_)
  refine lv_iload_n hx hb dX3_split_33 rfl (lv_at hl 3 rfl) ?_
  refine lv_iload hx hb dX3_split_34 (lv_at hl 6 rfl) ?_
  refine lv_iconst (v := (-1)) hx hb dX3_split_36 (by decide) ?_
  refine lv_ixor hx hb dX3_split_37 ?_
  refine lv_iand hx hb dX3_split_38 ?_
  refine lv_istore (lv' := [(7, .int (x2 &&& (x5 ^^^ (-1)))), (6, .int y0), (0, .ref a0), (1, .int x1), (2, .int x2), (3, .int x3), (4, .int x4), (5, .int x5)]) hx hb dX3_split_39 hl (by decide) rfl (fun ls hl => ?_)
  refine lv_iload_n hx hb dX3_split_41 rfl (lv_at hl 4 rfl) ?_
  refine lv_iload hx hb dX3_split_42 (lv_at hl 7 rfl) ?_
  refine lv_iand hx hb dX3_split_44 ?_
  refine lv_istore (lv' := [(8, .int (x2 &&& x5)), (7, .int (x2 &&& (x5 ^^^ (-1)))), (6, .int y0), (0, .ref a0), (1, .int x1), (2, .int x2), (3, .int x3), (4, .int x4), (5, .int x5)]) hx hb dX3_split_45 hl (by decide) rfl (fun ls hl => ?_)
  refine lv_iload_n hx hb dX3_split_47 rfl (lv_at hl 6 rfl) ?_
  refine lv_iload hx hb dX3_split_48 (lv_at hl 2 rfl) ?_
  refine lv_iconst (v := (-1)) hx hb dX3_split_50 (by decide) ?_
  refine lv_ixor hx hb dX3_split_51 ?_
  refine lv_iand hx hb dX3_split_52 ?_
  refine lv_istore (lv' := [(9, .int (x3 &&& (y0 ^^^ (-1)))), (8, .int (x2 &&& x5)), (7, .int (x2 &&& (x5 ^^^ (-1)))), (6, .int y0), (0, .ref a0), (1, .int x1), (2, .int x2), (3, .int x3), (4, .int x4), (5, .int x5)]) hx hb dX3_split_53 hl (by decide) rfl (fun ls hl => ?_)
  refine lv_iload_n hx hb dX3_split_55 rfl (lv_at hl 7 rfl) ?_
  refine lv_iload hx hb dX3_split_56 (lv_at hl 3 rfl) ?_
  refine lv_iand hx hb dX3_split_58 ?_
  refine lv_istore (lv' := [(10, .int (x3 &&& y0)), (9, .int (x3 &&& (y0 ^^^ (-1)))), (8, .int (x2 &&& x5)), (7, .int (x2 &&& (x5 ^^^ (-1)))), (6, .int y0), (0, .ref a0), (1, .int x1), (2, .int x2), (3, .int x3), (4, .int x4), (5, .int x5)]) hx hb dX3_split_59 hl (by decide) rfl (fun ls hl => ?_)
  refine lv_aload_n hx hb dX3_split_61 rfl (lv_at hl 5 rfl) ?_
  refine lv_iload hx hb dX3_split_62 (lv_at hl 3 rfl) ?_
  obtain ⟨q1, h1, h⟩ := bs h
  refine kI X (cS (As := [.int (x2 &&& (x5 ^^^ (-1)))]) (rest := [.ref a0]) B X (tJ6_bitCount_0f7a4 (d := d - 1) (by omega) h1) msJ6_bitCount_0f7a4 kw617 (by omega) rfl (Nat.le_of_ble_eq_true rfl) hl.1 ⟨Nat.zero_le _, Nat.zero_le _⟩ dX3_split_64) (fun H locs X => ?_)
  have X : Hx A D S.heap (wf z) H locs := X
  refine lv_iload hx hb dX3_split_67 (lv_at hl 2 rfl) ?_
  obtain ⟨q2, h2, h⟩ := bs h
  refine kI X (cS (As := [.int (x2 &&& x5)]) (rest := [.int q1, .ref a0]) B X (tJ6_bitCount_0f7a4 (d := d - 1) (by omega) h2) msJ6_bitCount_0f7a4 kw617 (by omega) rfl (Nat.le_of_ble_eq_true rfl) hl.1 ⟨Nat.zero_le _, Nat.zero_le _⟩ dX3_split_69) (fun H locs X => ?_)
  have X : Hx A D S.heap (wf z) H locs := X
  obtain ⟨q3, h3, h⟩ := bs h
  refine kI X (cV (As := [.int q1, .int q2]) (rest := []) B X (tX3_residentHalf (d := d - 1) L (by omega) h3) mfX3_residentHalf kw690 (by omega) (LnX3_g L z) rfl rfl (Nat.le_of_ble_eq_true rfl) hl.1 ⟨Nat.zero_le _, Nat.zero_le _⟩ dX3_split_72) (fun H locs X => ?_)
  have X : Hx A D S.heap (wf z) H locs := X
  refine lv_istore (lv' := [(11, .int q3), (10, .int (x3 &&& y0)), (9, .int (x3 &&& (y0 ^^^ (-1)))), (8, .int (x2 &&& x5)), (7, .int (x2 &&& (x5 ^^^ (-1)))), (6, .int y0), (0, .ref a0), (1, .int x1), (2, .int x2), (3, .int x3), (4, .int x4), (5, .int x5)]) hx hb dX3_split_75 hl (by decide) rfl (fun ls hl => ?_)
  refine lv_iload hx hb dX3_split_77 (lv_at hl 0 rfl) ?_
  refine lv_if_eq (tgt := 90) hx hb dX3_split_79 (by decide) (fun hc4 => ?_) (fun hc4 => ?_)
  · have h := it h hc4
    exact tX3_split_b90 L hd hdT HT B x1 x4 (x2 &&& (x5 ^^^ (-1))) (x2 &&& x5) (x3 &&& (y0 ^^^ (-1))) (x3 &&& y0) q3 z _ _ _ X (lv_sub hl [6, 7, 10, 4, 3, 2, 1, 0] rfl) h
  · have h := ie h hc4
    refine lv_aload_n hx hb dX3_split_82 rfl (lv_at hl 6 rfl) ?_
    refine lv_iload hx hb dX3_split_83 (lv_at hl 4 rfl) ?_
    refine lv_iload hx hb dX3_split_85 (lv_at hl 2 rfl) ?_
    obtain ⟨q5, h5, h⟩ := bs h
    refine kV X (cV (As := [.int (x2 &&& (x5 ^^^ (-1))), .int (x3 &&& (y0 ^^^ (-1)))]) (rest := []) B X (tX3_spill (d := d - 1) L (by omega) h5) mfX3_spill kw694 (by omega) (LnX3_g L z) rfl rfl (Nat.le_of_ble_eq_true rfl) hl.1 ⟨Nat.zero_le _, Nat.zero_le _⟩ dX3_split_87) (fun H locs X => ?_)
    have X : Hx A D S.heap (wf q5) H locs := X
    exact tX3_split_b90 L hd hdT HT B x1 x4 (x2 &&& (x5 ^^^ (-1))) (x2 &&& x5) (x3 &&& (y0 ^^^ (-1))) (x3 &&& y0) q3 q5 _ _ _ X (lv_sub hl [6, 7, 10, 4, 3, 2, 1, 0] rfl) h
def fX3_split_b13 (tk : SX3 → Int32 → Int32 → Int32 → Option SX3) (x1 : Int32) (x2 : Int32) (x3 : Int32) (x4 : Int32) (y0 : Int32) (z : SX3) : Option SX3 :=
    (fX7_otherSide x1).bind fun q1 =>
    if q1 = 0 then ((fX5_rowsWithBit z.1.1 x4).bind fun q3 =>
    fX3_split_b31 tk x1 x2 x3 x4 y0 q3 z) else
    ((fX5_rowsWithBit z.1.2.1 x4).bind fun q4 =>
    fX3_split_b31 tk x1 x2 x3 x4 y0 q4 z)
set_option maxRecDepth 100000 in
set_option maxHeartbeats 4000000 in
theorem tX3_split_b13 {a0 a1 a2 a3 a4 a5 a6 a7 a8 a9 a10 a11 a12 a13 a14 a15 p0 p1 p2 p3 p4 p5 p6 p7 p8 p9 p10 p11 p12 p13 p14 p15 : Nat} {wf : SX3 → va_W} (L : LnX3 a0 a1 a2 a3 a4 a5 a6 a7 a8 a9 a10 a11 a12 a13 a14 a15 p0 p1 p2 p3 p4 p5 p6 p7 p8 p9 p10 p11 p12 p13 p14 p15 cI wf) {d : Nat} (hd : 5 ≤ d) {tk : SX3 → Int32 → Int32 → Int32 → Option SX3} {dT : Nat} (hdT : dT + 1 ≤ d - 1) (HT : ∀ (z : SX3) (x1 x2 x3 : Int32) (q : SX3), tk z x1 x2 x3 = some q → Ct l yX3_turn cX3_turn 9 none dT A g D [(cI, .int), (cB, .byte)] [.ref a0, .int x1, .int x2, .int x3] (wf z) (QV A D (wf q))) (B : Bd RX3 cX3_split 12 none d A g D [(cI, .int), (cB, .byte)] p R S m args meth c) {q : SX3} : ∀ (x1 : Int32) (x2 : Int32) (x3 : Int32) (x4 : Int32) (y0 : Int32) (z : SX3) (H : Heap) (locs : List Loc) (ls : Array Slot), Hx A D S.heap (wf z) H locs → lv_has ls 12 [(0, .ref a0), (1, .int x1), (2, .int x2), (3, .int x3), (4, .int x4)] → fX3_split_b13 tk x1 x2 x3 x4 y0 z = some q → W p l e R S m args below meth c H locs 0 0 (MQ below (QV A D (wf q)) args S 0 0 A) (F0 m 13 ls [.int y0]) := by
  have hx := B.1
  have hb := B.2.1
  have hd1 : 1 ≤ d := by omega
  intro x1 x2 x3 x4 y0 z H locs ls X hl h
  unfold fX3_split_b13 at h
  refine lv_istore (lv' := [(5, .int y0), (0, .ref a0), (1, .int x1), (2, .int x2), (3, .int x3), (4, .int x4)]) hx hb dX3_split_13 hl (by decide) rfl (fun ls hl => ?_)
  refine lv_aload_n hx hb dX3_split_15 rfl (lv_at hl 1 rfl) ?_
  refine fG B X (LnX3_g L z) 0 rfl inTX3 (by decide) kw255 rfl dX3_split_16 ?_
  refine lv_iload_n hx hb dX3_split_19 rfl (lv_at hl 2 rfl) ?_
  obtain ⟨q1, h1, h⟩ := bs h
  refine kI X (cSN (As := [.int x1]) (rest := [.ref a1]) B X (tX7_otherSide (d := d - 1) (by omega) h1) msX7_otherSide kn649 (by omega) rfl (Nat.le_of_ble_eq_true rfl) hl.1 ⟨Nat.zero_le _, Nat.zero_le _⟩ dX3_split_20) (fun H locs X => ?_)
  have X : Hx A D S.heap (wf z) H locs := X
  by_cases hc2 : (q1 = 0)
  · have h := it h hc2
    refine kR X (cVN (As := [.int q1]) (rest := []) B X (tX6_sideOf_L (d := d - 1) (LnX3_s0 L z) (by omega) hc2) mfX6_sideOf kn618 (by omega) (LnX6_g (LnX3_s0 L z) z.1) rfl rfl (Nat.le_of_ble_eq_true rfl) hl.1 ⟨Nat.zero_le _, Nat.zero_le _⟩ dX3_split_23) (fun H locs X => ?_)
    have X : Hx A D S.heap (wf z) H locs := X
    refine lv_iload hx hb dX3_split_26 (lv_at hl 5 rfl) ?_
    obtain ⟨q3, h3, h⟩ := bs h
    refine kI X (cVN (As := [.int x4]) (rest := []) B X (tX5_rowsWithBit (d := d - 1) (LnX6_s0 (LnX3_s0 L z) z.1) (by omega) h3) mfX5_rowsWithBit kn686 (by omega) (LnX5_g (LnX6_s0 (LnX3_s0 L z) z.1) z.1.1) rfl rfl (Nat.le_of_ble_eq_true rfl) hl.1 ⟨Nat.zero_le _, Nat.zero_le _⟩ dX3_split_28) (fun H locs X => ?_)
    have X : Hx A D S.heap (wf z) H locs := X
    exact tX3_split_b31 L hd hdT HT B x1 x2 x3 x4 y0 q3 z _ _ _ X (lv_sub hl [1, 2, 3, 4, 5, 0] rfl) h
  · have h := ie h hc2
    refine kR X (cVN (As := [.int q1]) (rest := []) B X (tX6_sideOf_R (d := d - 1) (LnX3_s0 L z) (by omega) hc2) mfX6_sideOf kn618 (by omega) (LnX6_g (LnX3_s0 L z) z.1) rfl rfl (Nat.le_of_ble_eq_true rfl) hl.1 ⟨Nat.zero_le _, Nat.zero_le _⟩ dX3_split_23) (fun H locs X => ?_)
    have X : Hx A D S.heap (wf z) H locs := X
    refine lv_iload hx hb dX3_split_26 (lv_at hl 5 rfl) ?_
    obtain ⟨q4, h4, h⟩ := bs h
    refine kI X (cVN (As := [.int x4]) (rest := []) B X (tX5_rowsWithBit (d := d - 1) (LnX6_s1 (LnX3_s0 L z) z.1) (by omega) h4) mfX5_rowsWithBit kn686 (by omega) (LnX5_g (LnX6_s1 (LnX3_s0 L z) z.1) z.1.2.1) rfl rfl (Nat.le_of_ble_eq_true rfl) hl.1 ⟨Nat.zero_le _, Nat.zero_le _⟩ dX3_split_28) (fun H locs X => ?_)
    have X : Hx A D S.heap (wf z) H locs := X
    exact tX3_split_b31 L hd hdT HT B x1 x2 x3 x4 y0 q4 z _ _ _ X (lv_sub hl [1, 2, 3, 4, 5, 0] rfl) h
def fX3_split (z : SX3) (tk : SX3 → Int32 → Int32 → Int32 → Option SX3) (x1 : Int32) (x2 : Int32) (x3 : Int32) (x4 : Int32) : Option SX3 :=
    if x1 = 0 then ((fX5_rowsWithBit z.1.1 x4).bind fun q2 =>
    fX3_split_b13 tk x1 x2 x3 x4 q2 z) else
    ((fX5_rowsWithBit z.1.2.1 x4).bind fun q3 =>
    fX3_split_b13 tk x1 x2 x3 x4 q3 z)
set_option maxRecDepth 100000 in
set_option maxHeartbeats 4000000 in
theorem tX3_split {a0 a1 a2 a3 a4 a5 a6 a7 a8 a9 a10 a11 a12 a13 a14 a15 p0 p1 p2 p3 p4 p5 p6 p7 p8 p9 p10 p11 p12 p13 p14 p15 : Nat} {wf : SX3 → va_W} (L : LnX3 a0 a1 a2 a3 a4 a5 a6 a7 a8 a9 a10 a11 a12 a13 a14 a15 p0 p1 p2 p3 p4 p5 p6 p7 p8 p9 p10 p11 p12 p13 p14 p15 cI wf) {d : Nat} (hd : 5 ≤ d) {tk : SX3 → Int32 → Int32 → Int32 → Option SX3} {dT : Nat} (hdT : dT + 1 ≤ d - 1) (HT : ∀ (z : SX3) (x1 x2 x3 : Int32) (q : SX3), tk z x1 x2 x3 = some q → Ct l yX3_turn cX3_turn 9 none dT A g D [(cI, .int), (cB, .byte)] [.ref a0, .int x1, .int x2, .int x3] (wf z) (QV A D (wf q))) {z : SX3} {x1 x2 x3 x4 : Int32} {q : SX3} (h : fX3_split z tk x1 x2 x3 x4 = some q) : Ct l yX3_split cX3_split 12 none d A g D [(cI, .int), (cB, .byte)] [.ref a0, .int x1, .int x2, .int x3, .int x4] (wf z) (QV A D (wf q)) := by
  refine mkM (by decide) (Nat.le_of_ble_eq_true rfl) ?_
  intro p e S m args below meth c B X ls hl
  have B : Bd RX3 cX3_split 12 none d A g D [(cI, .int), (cB, .byte)] p (rmd d) S m args meth c := B
  have hx := B.1
  have hb := B.2.1
  have hd1 : 1 ≤ d := by omega
  have hl : lv_has ls 12 [(0, .ref a0), (1, .int x1), (2, .int x2), (3, .int x3), (4, .int x4)] := hl
  unfold fX3_split at h
  refine lv_aload_n hx hb dX3_split_0 rfl (lv_at hl 0 rfl) ?_
  refine fG B X (LnX3_g L z) 0 rfl inTX3 (by decide) kw255 rfl dX3_split_1 ?_
  refine lv_iload_n hx hb dX3_split_4 rfl (lv_at hl 1 rfl) ?_
  by_cases hc1 : (x1 = 0)
  · have h := it h hc1
    refine kR X (cVN (As := [.int x1]) (rest := []) B X (tX6_sideOf_L (d := d - 1) (LnX3_s0 L z) (by omega) hc1) mfX6_sideOf kn618 (by omega) (LnX6_g (LnX3_s0 L z) z.1) rfl rfl (Nat.le_of_ble_eq_true rfl) hl.1 ⟨Nat.zero_le _, Nat.zero_le _⟩ dX3_split_5) (fun H locs X => ?_)
    have X : Hx A D S.heap (wf z) H locs := X
    refine lv_iload hx hb dX3_split_8 (lv_at hl 4 rfl) ?_
    obtain ⟨q2, h2, h⟩ := bs h
    refine kI X (cVN (As := [.int x4]) (rest := []) B X (tX5_rowsWithBit (d := d - 1) (LnX6_s0 (LnX3_s0 L z) z.1) (by omega) h2) mfX5_rowsWithBit kn686 (by omega) (LnX5_g (LnX6_s0 (LnX3_s0 L z) z.1) z.1.1) rfl rfl (Nat.le_of_ble_eq_true rfl) hl.1 ⟨Nat.zero_le _, Nat.zero_le _⟩ dX3_split_10) (fun H locs X => ?_)
    have X : Hx A D S.heap (wf z) H locs := X
    exact tX3_split_b13 L hd hdT HT B x1 x2 x3 x4 q2 z _ _ _ X (lv_sub hl [0, 1, 2, 3, 4] rfl) h
  · have h := ie h hc1
    refine kR X (cVN (As := [.int x1]) (rest := []) B X (tX6_sideOf_R (d := d - 1) (LnX3_s0 L z) (by omega) hc1) mfX6_sideOf kn618 (by omega) (LnX6_g (LnX3_s0 L z) z.1) rfl rfl (Nat.le_of_ble_eq_true rfl) hl.1 ⟨Nat.zero_le _, Nat.zero_le _⟩ dX3_split_5) (fun H locs X => ?_)
    have X : Hx A D S.heap (wf z) H locs := X
    refine lv_iload hx hb dX3_split_8 (lv_at hl 4 rfl) ?_
    obtain ⟨q3, h3, h⟩ := bs h
    refine kI X (cVN (As := [.int x4]) (rest := []) B X (tX5_rowsWithBit (d := d - 1) (LnX6_s1 (LnX3_s0 L z) z.1) (by omega) h3) mfX5_rowsWithBit kn686 (by omega) (LnX5_g (LnX6_s1 (LnX3_s0 L z) z.1) z.1.2.1) rfl rfl (Nat.le_of_ble_eq_true rfl) hl.1 ⟨Nat.zero_le _, Nat.zero_le _⟩ dX3_split_10) (fun H locs X => ?_)
    have X : Hx A D S.heap (wf z) H locs := X
    exact tX3_split_b13 L hd hdT HT B x1 x2 x3 x4 q3 z _ _ _ X (lv_sub hl [0, 1, 2, 3, 4] rfl) h
def fX3_turnB_b33 (tk : SX3 → Int32 → Int32 → Int32 → Option SX3) (x3 : Int32) (x4 : Int32) (x5 : Int32) (y0 : Int32) (z : SX3) : Option SX3 :=
    (fX3_natureOf z x4 x5 x3).bind fun q1 =>
    (fX0_open z.2.2.1 q1).bind fun q2 =>
    (fX3_enterPart (z.1, z.2.1, q2, z.2.2.2.1, z.2.2.2.2) x4 q1 x3).bind fun q3 =>
    if q1 = 0 then ((fX3_hold q3 x4 x5 y0).bind fun q10 =>
    (fX0_shutDownTo q10.2.2.1 z.2.2.1.2.2.2.2.2.2.1).bind fun q11 =>
    some (q10.1, q10.2.1, q11, q10.2.2.2.1, q10.2.2.2.2)) else
    (if q1 = 1 then ((fX3_goByBlocks q3 x4 x5 y0).bind fun q8 =>
    (fX0_shutDownTo q8.2.2.1 z.2.2.1.2.2.2.2.2.2.1).bind fun q9 =>
    some (q8.1, q8.2.1, q9, q8.2.2.2.1, q8.2.2.2.2)) else
    ((fX3_split q3 tk x4 x5 y0 x3).bind fun q6 =>
    (fX0_shutDownTo q6.2.2.1 z.2.2.1.2.2.2.2.2.2.1).bind fun q7 =>
    some (q6.1, q6.2.1, q7, q6.2.2.2.1, q6.2.2.2.2)))
set_option maxRecDepth 100000 in
set_option maxHeartbeats 4000000 in
theorem tX3_turnB_b33 {a0 a1 a2 a3 a4 a5 a6 a7 a8 a9 a10 a11 a12 a13 a14 a15 p0 p1 p2 p3 p4 p5 p6 p7 p8 p9 p10 p11 p12 p13 p14 p15 : Nat} {wf : SX3 → va_W} (L : LnX3 a0 a1 a2 a3 a4 a5 a6 a7 a8 a9 a10 a11 a12 a13 a14 a15 p0 p1 p2 p3 p4 p5 p6 p7 p8 p9 p10 p11 p12 p13 p14 p15 cI wf) {d : Nat} (hd : 6 ≤ d) {tk : SX3 → Int32 → Int32 → Int32 → Option SX3} {dT : Nat} (hdT : dT + 1 ≤ d - 2) (HT : ∀ (z : SX3) (x1 x2 x3 : Int32) (q : SX3), tk z x1 x2 x3 = some q → Ct l yX3_turn cX3_turn 9 none dT A g D [(cI, .int), (cB, .byte)] [.ref a0, .int x1, .int x2, .int x3] (wf z) (QV A D (wf q))) (B : Bd RX3 cX3_turn 9 none d A g D [(cI, .int), (cB, .byte)] p R S m args meth c) {q : SX3} : ∀ (x3 : Int32) (x4 : Int32) (x5 : Int32) (y0 : Int32) (z : SX3) (H : Heap) (locs : List Loc) (ls : Array Slot), Hx A D S.heap (wf z) H locs → lv_has ls 9 [(0, .ref a0), (3, .int x3), (4, .int x4), (5, .int x5)] → fX3_turnB_b33 tk x3 x4 x5 y0 z = some q → W p l e R S m args below meth c H locs 0 0 (MQ below (QV A D (wf q)) args S 0 0 A) (F0 m 33 ls [.int y0]) := by
  have hx := B.1
  have hb := B.2.1
  have hd1 : 1 ≤ d := by omega
  intro x3 x4 x5 y0 z H locs ls X hl h
  unfold fX3_turnB_b33 at h
  refine lv_istore (lv' := [(6, .int y0), (0, .ref a0), (3, .int x3), (4, .int x4), (5, .int x5)]) hx hb dX3_turn_33 hl (by decide) rfl (fun ls hl => ?_)
  refine lv_aload_n hx hb dX3_turn_35 rfl (lv_at hl 1 rfl) ?_
  refine lv_iload hx hb dX3_turn_36 (lv_at hl 3 rfl) ?_
  refine lv_iload hx hb dX3_turn_38 (lv_at hl 4 rfl) ?_
  refine lv_iload_n hx hb dX3_turn_40 rfl (lv_at hl 2 rfl) ?_
  obtain ⟨q1, h1, h⟩ := bs h
  refine kI X (cV (As := [.int x4, .int x5, .int x3]) (rest := []) B X (tX3_natureOf (d := d - 1) L (by omega) h1) mfX3_natureOf kw613 (by omega) (LnX3_g L z) rfl rfl (Nat.le_of_ble_eq_true rfl) hl.1 ⟨Nat.zero_le _, Nat.zero_le _⟩ dX3_turn_41) (fun H locs X => ?_)
  have X : Hx A D S.heap (wf z) H locs := X
  refine lv_istore (lv' := [(7, .int q1), (6, .int y0), (0, .ref a0), (3, .int x3), (4, .int x4), (5, .int x5)]) hx hb dX3_turn_44 hl (by decide) rfl (fun ls hl => ?_)
  refine lv_aload_n hx hb dX3_turn_46 rfl (lv_at hl 2 rfl) ?_
  refine fG B X (LnX3_g L z) 2 rfl inTX3 (by decide) kw259 rfl dX3_turn_47 ?_
  refine fGN B X (LnX0_g (LnX3_s2 L z) z.2.2.1) 6 rfl inTX0 (by decide) kn236 rfl dX3_turn_50 ?_
  refine lv_istore (lv' := [(8, .int z.2.2.1.2.2.2.2.2.2.1), (7, .int q1), (6, .int y0), (0, .ref a0), (3, .int x3), (4, .int x4), (5, .int x5)]) hx hb dX3_turn_53 hl (by decide) rfl (fun ls hl => ?_)
  refine lv_aload_n hx hb dX3_turn_55 rfl (lv_at hl 3 rfl) ?_
  refine fG B X (LnX3_g L z) 2 rfl inTX3 (by decide) kw259 rfl dX3_turn_56 ?_
  refine lv_iload hx hb dX3_turn_59 (lv_at hl 1 rfl) ?_
  obtain ⟨q2, h2, h⟩ := bs h
  refine kV X (cVN (As := [.int q1]) (rest := []) B X (tX0_open (d := d - 1) (LnX3_s2 L z) (by omega) h2) mfX0_open kn628 (by omega) (LnX0_g (LnX3_s2 L z) z.2.2.1) rfl rfl (Nat.le_of_ble_eq_true rfl) hl.1 ⟨Nat.zero_le _, Nat.zero_le _⟩ dX3_turn_61) (fun H locs X => ?_)
  have X : Hx A D S.heap (wf (z.1, z.2.1, q2, z.2.2.2.1, z.2.2.2.2)) H locs := X
  refine lv_aload_n hx hb dX3_turn_64 rfl (lv_at hl 3 rfl) ?_
  refine lv_iload hx hb dX3_turn_65 (lv_at hl 5 rfl) ?_
  refine lv_iload hx hb dX3_turn_67 (lv_at hl 1 rfl) ?_
  refine lv_iload_n hx hb dX3_turn_69 rfl (lv_at hl 4 rfl) ?_
  obtain ⟨q3, h3, h⟩ := bs h
  refine kV X (cV (As := [.int x4, .int q1, .int x3]) (rest := []) B X (tX3_enterPart (d := d - 1) L (by omega) h3) mfX3_enterPart kw636 (by omega) (LnX3_g L (z.1, z.2.1, q2, z.2.2.2.1, z.2.2.2.2)) rfl rfl (Nat.le_of_ble_eq_true rfl) hl.1 ⟨Nat.zero_le _, Nat.zero_le _⟩ dX3_turn_70) (fun H locs X => ?_)
  have X : Hx A D S.heap (wf q3) H locs := X
  refine lv_iload hx hb dX3_turn_73 (lv_at hl 1 rfl) ?_
  refine lv_if_ne (tgt := 91) hx hb dX3_turn_75 (by decide) (fun hc4 => ?_) (fun hc4 => ?_)
  · have h := ie h hc4
    refine lv_iload hx hb dX3_turn_91 (lv_at hl 1 rfl) ?_
    refine lv_iconst (v := 1) hx hb dX3_turn_93 (by decide) ?_
    refine lv_icmp_ne (tgt := 110) hx hb dX3_turn_94 (by decide) (fun hc5 => ?_) (fun hc5 => ?_)
    · have h := ie h hc5
      refine lv_aload_n hx hb dX3_turn_110 rfl (lv_at hl 3 rfl) ?_
      refine lv_iload hx hb dX3_turn_111 (lv_at hl 5 rfl) ?_
      refine lv_iload hx hb dX3_turn_113 (lv_at hl 6 rfl) ?_
      refine lv_iload hx hb dX3_turn_115 (lv_at hl 2 rfl) ?_
      refine lv_iload_n hx hb dX3_turn_117 rfl (lv_at hl 4 rfl) ?_
      obtain ⟨q6, h6, h⟩ := bs h
      refine kV X (cV (As := [.int x4, .int x5, .int y0, .int x3]) (rest := []) B X (tX3_split (d := d - 1) L (by omega) (by omega) HT h6) mfX3_split kw682 (by omega) (LnX3_g L q3) rfl rfl (Nat.le_of_ble_eq_true rfl) hl.1 ⟨Nat.zero_le _, Nat.zero_le _⟩ dX3_turn_118) (fun H locs X => ?_)
      have X : Hx A D S.heap (wf q6) H locs := X
      refine lv_aload_n hx hb dX3_turn_121 rfl (lv_at hl 3 rfl) ?_
      refine fG B X (LnX3_g L q6) 2 rfl inTX3 (by decide) kw259 rfl dX3_turn_122 ?_
      refine lv_iload hx hb dX3_turn_125 (lv_at hl 0 rfl) ?_
      obtain ⟨q7, h7, h⟩ := bs h
      refine kV X (cVN (As := [.int z.2.2.1.2.2.2.2.2.2.1]) (rest := []) B X (tX0_shutDownTo (d := d - 1) (LnX3_s2 L q6) (by omega) h7) mfX0_shutDownTo kn702 (by omega) (LnX0_g (LnX3_s2 L q6) q6.2.2.1) rfl rfl (Nat.le_of_ble_eq_true rfl) hl.1 ⟨Nat.zero_le _, Nat.zero_le _⟩ dX3_turn_127) (fun H locs X => ?_)
      have X : Hx A D S.heap (wf (q6.1, q6.2.1, q7, q6.2.2.2.1, q6.2.2.2.2)) H locs := X
      exact rV B X (congrArg wf (Option.some.inj h)) dX3_turn_130
    · have h := it h hc5
      refine lv_aload_n hx hb dX3_turn_97 rfl (lv_at hl 3 rfl) ?_
      refine lv_iload hx hb dX3_turn_98 (lv_at hl 5 rfl) ?_
      refine lv_iload hx hb dX3_turn_100 (lv_at hl 6 rfl) ?_
      refine lv_iload hx hb dX3_turn_102 (lv_at hl 2 rfl) ?_
      obtain ⟨q8, h8, h⟩ := bs h
      refine kV X (cV (As := [.int x4, .int x5, .int y0]) (rest := []) B X (tX3_goByBlocks (d := d - 1) L (by omega) h8) mfX3_goByBlocks kw675 (by omega) (LnX3_g L q3) rfl rfl (Nat.le_of_ble_eq_true rfl) hl.1 ⟨Nat.zero_le _, Nat.zero_le _⟩ dX3_turn_104) (fun H locs X => ?_)
      have X : Hx A D S.heap (wf q8) H locs := X
      refine lv_goto (tgt := 121) hx hb dX3_turn_107 (by decide) ?_
      refine lv_aload_n hx hb dX3_turn_121 rfl (lv_at hl 3 rfl) ?_
      refine fG B X (LnX3_g L q8) 2 rfl inTX3 (by decide) kw259 rfl dX3_turn_122 ?_
      refine lv_iload hx hb dX3_turn_125 (lv_at hl 0 rfl) ?_
      obtain ⟨q9, h9, h⟩ := bs h
      refine kV X (cVN (As := [.int z.2.2.1.2.2.2.2.2.2.1]) (rest := []) B X (tX0_shutDownTo (d := d - 1) (LnX3_s2 L q8) (by omega) h9) mfX0_shutDownTo kn702 (by omega) (LnX0_g (LnX3_s2 L q8) q8.2.2.1) rfl rfl (Nat.le_of_ble_eq_true rfl) hl.1 ⟨Nat.zero_le _, Nat.zero_le _⟩ dX3_turn_127) (fun H locs X => ?_)
      have X : Hx A D S.heap (wf (q8.1, q8.2.1, q9, q8.2.2.2.1, q8.2.2.2.2)) H locs := X
      exact rV B X (congrArg wf (Option.some.inj h)) dX3_turn_130
  · have h := it h hc4
    refine lv_aload_n hx hb dX3_turn_78 rfl (lv_at hl 3 rfl) ?_
    refine lv_iload hx hb dX3_turn_79 (lv_at hl 5 rfl) ?_
    refine lv_iload hx hb dX3_turn_81 (lv_at hl 6 rfl) ?_
    refine lv_iload hx hb dX3_turn_83 (lv_at hl 2 rfl) ?_
    obtain ⟨q10, h10, h⟩ := bs h
    refine kV X (cV (As := [.int x4, .int x5, .int y0]) (rest := []) B X (tX3_hold (d := d - 1) L (by omega) h10) mfX3_hold kw641 (by omega) (LnX3_g L q3) rfl rfl (Nat.le_of_ble_eq_true rfl) hl.1 ⟨Nat.zero_le _, Nat.zero_le _⟩ dX3_turn_85) (fun H locs X => ?_)
    have X : Hx A D S.heap (wf q10) H locs := X
    refine lv_goto (tgt := 121) hx hb dX3_turn_88 (by decide) ?_
    refine lv_aload_n hx hb dX3_turn_121 rfl (lv_at hl 3 rfl) ?_
    refine fG B X (LnX3_g L q10) 2 rfl inTX3 (by decide) kw259 rfl dX3_turn_122 ?_
    refine lv_iload hx hb dX3_turn_125 (lv_at hl 0 rfl) ?_
    obtain ⟨q11, h11, h⟩ := bs h
    refine kV X (cVN (As := [.int z.2.2.1.2.2.2.2.2.2.1]) (rest := []) B X (tX0_shutDownTo (d := d - 1) (LnX3_s2 L q10) (by omega) h11) mfX0_shutDownTo kn702 (by omega) (LnX0_g (LnX3_s2 L q10) q10.2.2.1) rfl rfl (Nat.le_of_ble_eq_true rfl) hl.1 ⟨Nat.zero_le _, Nat.zero_le _⟩ dX3_turn_127) (fun H locs X => ?_)
    have X : Hx A D S.heap (wf (q10.1, q10.2.1, q11, q10.2.2.2.1, q10.2.2.2.2)) H locs := X
    exact rV B X (congrArg wf (Option.some.inj h)) dX3_turn_130
def fX3_turnB_b21 (tk : SX3 → Int32 → Int32 → Int32 → Option SX3) (x1 : Int32) (x2 : Int32) (x3 : Int32) (x4 : Int32) (y0 : Int32) (z : SX3) : Option SX3 :=
    if x4 = 0 then (fX3_turnB_b33 tk x3 x4 y0 x2 z) else
    (fX3_turnB_b33 tk x3 x4 y0 x1 z)
set_option maxRecDepth 100000 in
set_option maxHeartbeats 4000000 in
theorem tX3_turnB_b21 {a0 a1 a2 a3 a4 a5 a6 a7 a8 a9 a10 a11 a12 a13 a14 a15 p0 p1 p2 p3 p4 p5 p6 p7 p8 p9 p10 p11 p12 p13 p14 p15 : Nat} {wf : SX3 → va_W} (L : LnX3 a0 a1 a2 a3 a4 a5 a6 a7 a8 a9 a10 a11 a12 a13 a14 a15 p0 p1 p2 p3 p4 p5 p6 p7 p8 p9 p10 p11 p12 p13 p14 p15 cI wf) {d : Nat} (hd : 6 ≤ d) {tk : SX3 → Int32 → Int32 → Int32 → Option SX3} {dT : Nat} (hdT : dT + 1 ≤ d - 2) (HT : ∀ (z : SX3) (x1 x2 x3 : Int32) (q : SX3), tk z x1 x2 x3 = some q → Ct l yX3_turn cX3_turn 9 none dT A g D [(cI, .int), (cB, .byte)] [.ref a0, .int x1, .int x2, .int x3] (wf z) (QV A D (wf q))) (B : Bd RX3 cX3_turn 9 none d A g D [(cI, .int), (cB, .byte)] p R S m args meth c) {q : SX3} : ∀ (x1 : Int32) (x2 : Int32) (x3 : Int32) (x4 : Int32) (y0 : Int32) (z : SX3) (H : Heap) (locs : List Loc) (ls : Array Slot), Hx A D S.heap (wf z) H locs → lv_has ls 9 [(0, .ref a0), (1, .int x1), (2, .int x2), (3, .int x3), (4, .int x4)] → fX3_turnB_b21 tk x1 x2 x3 x4 y0 z = some q → W p l e R S m args below meth c H locs 0 0 (MQ below (QV A D (wf q)) args S 0 0 A) (F0 m 21 ls [.int y0]) := by
  have hx := B.1
  have hb := B.2.1
  have hd1 : 1 ≤ d := by omega
  intro x1 x2 x3 x4 y0 z H locs ls X hl h
  unfold fX3_turnB_b21 at h
  refine lv_istore (lv' := [(5, .int y0), (0, .ref a0), (1, .int x1), (2, .int x2), (3, .int x3), (4, .int x4)]) hx hb dX3_turn_21 hl (by decide) rfl (fun ls hl => ?_)
  refine lv_iload hx hb dX3_turn_23 (lv_at hl 5 rfl) ?_
  refine lv_if_ne (tgt := 32) hx hb dX3_turn_25 (by decide) (fun hc1 => ?_) (fun hc1 => ?_)
  · have h := ie h hc1
    refine lv_iload_n hx hb dX3_turn_32 rfl (lv_at hl 2 rfl) ?_
    exact tX3_turnB_b33 L hd hdT HT B x3 x4 y0 x1 z _ _ _ X (lv_sub hl [1, 4, 5, 0] rfl) h
  · have h := it h hc1
    refine lv_iload_n hx hb dX3_turn_28 rfl (lv_at hl 3 rfl) ?_
    refine lv_goto (tgt := 33) hx hb dX3_turn_29 (by decide) ?_
    exact tX3_turnB_b33 L hd hdT HT B x3 x4 y0 x2 z _ _ _ X (lv_sub hl [1, 4, 5, 0] rfl) h
def fX3_turnB (z : SX3) (tk : SX3 → Int32 → Int32 → Int32 → Option SX3) (x1 : Int32) (x2 : Int32) (x3 : Int32) : Option SX3 :=
    (fX6_buildSide z.1 x1 x2).bind fun q1 =>
    if q1 = 0 then (fX3_turnB_b21 tk x1 x2 x3 q1 x1 z) else
    (fX3_turnB_b21 tk x1 x2 x3 q1 x2 z)
set_option maxRecDepth 100000 in
set_option maxHeartbeats 4000000 in
theorem tX3_turnB {a0 a1 a2 a3 a4 a5 a6 a7 a8 a9 a10 a11 a12 a13 a14 a15 p0 p1 p2 p3 p4 p5 p6 p7 p8 p9 p10 p11 p12 p13 p14 p15 : Nat} {wf : SX3 → va_W} (L : LnX3 a0 a1 a2 a3 a4 a5 a6 a7 a8 a9 a10 a11 a12 a13 a14 a15 p0 p1 p2 p3 p4 p5 p6 p7 p8 p9 p10 p11 p12 p13 p14 p15 cI wf) {d : Nat} (hd : 6 ≤ d) {tk : SX3 → Int32 → Int32 → Int32 → Option SX3} {dT : Nat} (hdT : dT + 1 ≤ d - 2) (HT : ∀ (z : SX3) (x1 x2 x3 : Int32) (q : SX3), tk z x1 x2 x3 = some q → Ct l yX3_turn cX3_turn 9 none dT A g D [(cI, .int), (cB, .byte)] [.ref a0, .int x1, .int x2, .int x3] (wf z) (QV A D (wf q))) {z : SX3} {x1 x2 x3 : Int32} {q : SX3} (h : fX3_turnB z tk x1 x2 x3 = some q) : Ct l yX3_turn cX3_turn 9 none d A g D [(cI, .int), (cB, .byte)] [.ref a0, .int x1, .int x2, .int x3] (wf z) (QV A D (wf q)) := by
  refine mkM (by decide) (Nat.le_of_ble_eq_true rfl) ?_
  intro p e S m args below meth c B X ls hl
  have B : Bd RX3 cX3_turn 9 none d A g D [(cI, .int), (cB, .byte)] p (rmd d) S m args meth c := B
  have hx := B.1
  have hb := B.2.1
  have hd1 : 1 ≤ d := by omega
  have hl : lv_has ls 9 [(0, .ref a0), (1, .int x1), (2, .int x2), (3, .int x3)] := hl
  unfold fX3_turnB at h
  refine lv_aload_n hx hb dX3_turn_0 rfl (lv_at hl 0 rfl) ?_
  refine fG B X (LnX3_g L z) 0 rfl inTX3 (by decide) kw255 rfl dX3_turn_1 ?_
  refine lv_iload_n hx hb dX3_turn_4 rfl (lv_at hl 1 rfl) ?_
  refine lv_iload_n hx hb dX3_turn_5 rfl (lv_at hl 2 rfl) ?_
  obtain ⟨q1, h1, h⟩ := bs h
  refine kI X (cVN (As := [.int x1, .int x2]) (rest := []) B X (tX6_buildSide (d := d - 1) (LnX3_s0 L z) (by omega) h1) mfX6_buildSide kn608 (by omega) (LnX6_g (LnX3_s0 L z) z.1) rfl rfl (Nat.le_of_ble_eq_true rfl) hl.1 ⟨Nat.zero_le _, Nat.zero_le _⟩ dX3_turn_6) (fun H locs X => ?_)
  have X : Hx A D S.heap (wf z) H locs := X
  refine lv_istore (lv' := [(4, .int q1), (0, .ref a0), (1, .int x1), (2, .int x2), (3, .int x3)]) hx hb dX3_turn_9 hl (by decide) rfl (fun ls hl => ?_)
  refine lv_iload hx hb dX3_turn_11 (lv_at hl 0 rfl) ?_
  refine lv_if_ne (tgt := 20) hx hb dX3_turn_13 (by decide) (fun hc2 => ?_) (fun hc2 => ?_)
  · have h := ie h hc2
    refine lv_iload_n hx hb dX3_turn_20 rfl (lv_at hl 3 rfl) ?_
    exact tX3_turnB_b21 L hd hdT HT B x1 x2 x3 q1 x2 z _ _ _ X (lv_sub hl [1, 2, 3, 4, 0] rfl) h
  · have h := it h hc2
    refine lv_iload_n hx hb dX3_turn_16 rfl (lv_at hl 2 rfl) ?_
    refine lv_goto (tgt := 21) hx hb dX3_turn_17 (by decide) ?_
    exact tX3_turnB_b21 L hd hdT HT B x1 x2 x3 q1 x1 z _ _ _ X (lv_sub hl [1, 2, 3, 4, 0] rfl) h
/-- the turn of a part, n levels deep at most -/
def fX3_turn : Nat → SX3 → Int32 → Int32 → Int32 → Option SX3
  | 0, _, _, _, _ => none
  | n + 1, z, x1, x2, x3 => fX3_turnB z (fX3_turn n) x1 x2 x3
theorem tX3_turn : ∀ (n : Nat) {a0 a1 a2 a3 a4 a5 a6 a7 a8 a9 a10 a11 a12 a13 a14 a15 p0 p1 p2 p3 p4 p5 p6 p7 p8 p9 p10 p11 p12 p13 p14 p15 : Nat} {wf : SX3 → va_W} (L : LnX3 a0 a1 a2 a3 a4 a5 a6 a7 a8 a9 a10 a11 a12 a13 a14 a15 p0 p1 p2 p3 p4 p5 p6 p7 p8 p9 p10 p11 p12 p13 p14 p15 cI wf) {d : Nat} (hd : 6 + 3 * n ≤ d) {z : SX3} {x1 x2 x3 : Int32} {q : SX3} (h : fX3_turn n z x1 x2 x3 = some q), Ct l yX3_turn cX3_turn 9 none d A g D [(cI, .int), (cB, .byte)] [.ref a0, .int x1, .int x2, .int x3] (wf z) (QV A D (wf q)) := by
  intro n
  induction n with
  | zero =>
    intro a0 a1 a2 a3 a4 a5 a6 a7 a8 a9 a10 a11 a12 a13 a14 a15 p0 p1 p2 p3 p4 p5 p6 p7 p8 p9 p10 p11 p12 p13 p14 p15 wf L d hd z x1 x2 x3 q h
    cases h
  | succ n ih =>
    intro a0 a1 a2 a3 a4 a5 a6 a7 a8 a9 a10 a11 a12 a13 a14 a15 p0 p1 p2 p3 p4 p5 p6 p7 p8 p9 p10 p11 p12 p13 p14 p15 wf L d hd z x1 x2 x3 q h
    rw [fX3_turn] at h
    exact tX3_turnB (dT := d - 3) L (by omega) (by omega) (fun z x1 x2 x3 q hq => ih (d := d - 3) L (by omega) hq) h
end
