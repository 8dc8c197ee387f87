section
variable {l : Launch} {p : Program} {e : Env} {R : Room} {S : State} {m : MethodId} {args : Array Value} {below : List Frame} {meth : Method} {c : Code} {A : Nat → Prop} {g : Nat → Nat} {D : va_G} {cI cB : ClassId}
def fX7_letter (z : SX7) (x1 : Int32) : Option (Int32 × SX7) :=
    if x1 < 32 then (some ((-102), z)) else
    (if x1 ≤ 126 then ((fX2_isFull z.1).bind fun q3 =>
    if q3 = 0 then ((fX2_add z.1 x1).bind fun q5 =>
    some (q5.2, (q5, z.2.1, z.2.2.1, z.2.2.2.1, z.2.2.2.2.1, z.2.2.2.2.2.1, z.2.2.2.2.2.2.1, z.2.2.2.2.2.2.2.1, z.2.2.2.2.2.2.2.2))) else
    (some ((-104), z))) else
    (some ((-102), z)))
set_option maxRecDepth 100000 in
set_option maxHeartbeats 4000000 in
theorem tX7_letter {a0 a1 a2 a3 a4 a5 a6 a7 a8 a9 a10 a11 a12 a13 a14 a15 a16 a17 a18 a19 a20 a21 a22 a23 a24 a25 a26 a27 a28 a29 a30 a31 a32 a33 a34 a35 a36 a37 a38 a39 a40 a41 p0 p1 p2 p3 p4 p5 p6 p7 p8 p9 p10 p11 p12 p13 p14 p15 p16 p17 p18 p19 p20 p21 p22 p23 p24 p25 p26 p27 p28 p29 p30 p31 p32 p33 p34 p35 p36 p37 p38 p39 p40 p41 : Nat} {wf : SX7 → va_W} (L : LnX7 a0 a1 a2 a3 a4 a5 a6 a7 a8 a9 a10 a11 a12 a13 a14 a15 a16 a17 a18 a19 a20 a21 a22 a23 a24 a25 a26 a27 a28 a29 a30 a31 a32 a33 a34 a35 a36 a37 a38 a39 a40 a41 p0 p1 p2 p3 p4 p5 p6 p7 p8 p9 p10 p11 p12 p13 p14 p15 p16 p17 p18 p19 p20 p21 p22 p23 p24 p25 p26 p27 p28 p29 p30 p31 p32 p33 p34 p35 p36 p37 p38 p39 p40 p41 cI wf) {d : Nat} (hd : 2 ≤ d) {z : SX7} {x1 : Int32} {q : Int32 × SX7} (h : fX7_letter z x1 = some q) : Ct l yX7_letter cX7_letter 2 (some .int) d A g D [(cI, .int), (cB, .byte)] [.ref a0, .int x1] (wf z) (QI A D (wf q.2) q.1) := by
  refine mkM (by decide) (Nat.le_of_ble_eq_true rfl) ?_
  intro p e S m args below meth c B X ls hl
  have B : Bd RX7 cX7_letter 2 (some .int) d A g D [(cI, .int), (cB, .byte)] p (rmd d) S m args meth c := B
  have hx := B.1
  have hb := B.2.1
  have hd1 : 1 ≤ d := by omega
  have hl : lv_has ls 2 [(0, .ref a0), (1, .int x1)] := hl
  unfold fX7_letter at h
  refine lv_iload_n hx hb dX7_letter_0 rfl (lv_at hl 1 rfl) ?_
  refine lv_bipush (v := 32) hx hb dX7_letter_1 (by decide) ?_
  refine lv_icmp_lt (tgt := 12) hx hb dX7_letter_3 (by decide) (fun hc1 => ?_) (fun hc1 => ?_)
  · have h := it h hc1
    refine lv_bipush (v := (-102)) hx hb dX7_letter_12 (by decide) ?_
    exact rI B X (congrArg (fun q => wf q.2) (Option.some.inj h)) (congrArg (fun q => q.1) (Option.some.inj h)) dX7_letter_14
  · have h := ie h hc1
    refine lv_iload_n hx hb dX7_letter_6 rfl (lv_at hl 1 rfl) ?_
    refine lv_bipush (v := 126) hx hb dX7_letter_7 (by decide) ?_
    refine lv_icmp_le (tgt := 15) hx hb dX7_letter_9 (by decide) (fun hc2 => ?_) (fun hc2 => ?_)
    · have h := it h hc2
      refine lv_aload_n hx hb dX7_letter_15 rfl (lv_at hl 0 rfl) ?_
      refine fG B X (LnX7_g L z) 0 rfl inTX7 (by decide) kw291 rfl dX7_letter_16 ?_
      obtain ⟨q3, h3, h⟩ := bs h
      refine kI X (cVN (As := []) (rest := []) B X (tX2_isFull (d := d - 1) (LnX7_s0 L z) (by omega) h3) mfX2_isFull kn326 (by omega) (LnX2_g (LnX7_s0 L z) z.1) rfl rfl (Nat.le_of_ble_eq_true rfl) hl.1 ⟨Nat.zero_le _, Nat.zero_le _⟩ dX7_letter_19) (fun H locs X => ?_)
      have X : Hx A D S.heap (wf z) H locs := X
      refine lv_if_eq (tgt := 28) hx hb dX7_letter_22 (by decide) (fun hc4 => ?_) (fun hc4 => ?_)
      · have h := it h hc4
        refine lv_aload_n hx hb dX7_letter_28 rfl (lv_at hl 0 rfl) ?_
        refine fG B X (LnX7_g L z) 0 rfl inTX7 (by decide) kw291 rfl dX7_letter_29 ?_
        refine lv_iload_n hx hb dX7_letter_32 rfl (lv_at hl 1 rfl) ?_
        obtain ⟨q5, h5, h⟩ := bs h
        refine kV X (cVN (As := [.int x1]) (rest := []) B X (tX2_add (d := d - 1) (LnX7_s0 L z) (by omega) h5) mfX2_add kn330 (by omega) (LnX2_g (LnX7_s0 L z) z.1) rfl rfl (Nat.le_of_ble_eq_true rfl) hl.1 ⟨Nat.zero_le _, Nat.zero_le _⟩ dX7_letter_33) (fun H locs X => ?_)
        have X : Hx A D S.heap (wf (q5, z.2.1, z.2.2.1, z.2.2.2.1, z.2.2.2.2.1, z.2.2.2.2.2.1, z.2.2.2.2.2.2.1, z.2.2.2.2.2.2.2.1, z.2.2.2.2.2.2.2.2)) H locs := X
        refine lv_aload_n hx hb dX7_letter_36 rfl (lv_at hl 0 rfl) ?_
        refine fG B X (LnX7_g L (q5, z.2.1, z.2.2.1, z.2.2.2.1, z.2.2.2.2.1, z.2.2.2.2.2.1, z.2.2.2.2.2.2.1, z.2.2.2.2.2.2.2.1, z.2.2.2.2.2.2.2.2)) 0 rfl inTX7 (by decide) kw291 rfl dX7_letter_37 ?_
        refine fGN B X (LnX2_g (LnX7_s0 L (q5, z.2.1, z.2.2.1, z.2.2.2.1, z.2.2.2.2.1, z.2.2.2.2.2.1, z.2.2.2.2.2.2.1, z.2.2.2.2.2.2.2.1, z.2.2.2.2.2.2.2.2)) q5) 1 rfl inTX2 (by decide) kn139 rfl dX7_letter_40 ?_
        exact rI B X (congrArg (fun q => wf q.2) (Option.some.inj h)) (congrArg (fun q => q.1) (Option.some.inj h)) dX7_letter_43
      · have h := ie h hc4
        refine lv_bipush (v := (-104)) hx hb dX7_letter_25 (by decide) ?_
        exact rI B X (congrArg (fun q => wf q.2) (Option.some.inj h)) (congrArg (fun q => q.1) (Option.some.inj h)) dX7_letter_27
    · have h := ie h hc2
      refine lv_bipush (v := (-102)) hx hb dX7_letter_12 (by decide) ?_
      exact rI B X (congrArg (fun q => wf q.2) (Option.some.inj h)) (congrArg (fun q => q.1) (Option.some.inj h)) dX7_letter_14
def fX7_blank (z : SX7) : Option (Int32 × SX7) :=
    (fX2_clear z.1).bind fun q1 =>
    some (z.1.2, (q1, z.2.1, z.2.2.1, z.2.2.2.1, z.2.2.2.2.1, z.2.2.2.2.2.1, z.2.2.2.2.2.2.1, z.2.2.2.2.2.2.2.1, z.2.2.2.2.2.2.2.2))
set_option maxRecDepth 100000 in
set_option maxHeartbeats 4000000 in
theorem tX7_blank {a0 a1 a2 a3 a4 a5 a6 a7 a8 a9 a10 a11 a12 a13 a14 a15 a16 a17 a18 a19 a20 a21 a22 a23 a24 a25 a26 a27 a28 a29 a30 a31 a32 a33 a34 a35 a36 a37 a38 a39 a40 a41 p0 p1 p2 p3 p4 p5 p6 p7 p8 p9 p10 p11 p12 p13 p14 p15 p16 p17 p18 p19 p20 p21 p22 p23 p24 p25 p26 p27 p28 p29 p30 p31 p32 p33 p34 p35 p36 p37 p38 p39 p40 p41 : Nat} {wf : SX7 → va_W} (L : LnX7 a0 a1 a2 a3 a4 a5 a6 a7 a8 a9 a10 a11 a12 a13 a14 a15 a16 a17 a18 a19 a20 a21 a22 a23 a24 a25 a26 a27 a28 a29 a30 a31 a32 a33 a34 a35 a36 a37 a38 a39 a40 a41 p0 p1 p2 p3 p4 p5 p6 p7 p8 p9 p10 p11 p12 p13 p14 p15 p16 p17 p18 p19 p20 p21 p22 p23 p24 p25 p26 p27 p28 p29 p30 p31 p32 p33 p34 p35 p36 p37 p38 p39 p40 p41 cI wf) {d : Nat} (hd : 2 ≤ d) {z : SX7} {q : Int32 × SX7} (h : fX7_blank z = some q) : Ct l yX7_blank cX7_blank 2 (some .int) d A g D [(cI, .int), (cB, .byte)] [.ref a0] (wf z) (QI A D (wf q.2) q.1) := by
  refine mkM (by decide) (Nat.le_of_ble_eq_true rfl) ?_
  intro p e S m args below meth c B X ls hl
  have B : Bd RX7 cX7_blank 2 (some .int) d A g D [(cI, .int), (cB, .byte)] p (rmd d) S m args meth c := B
  have hx := B.1
  have hb := B.2.1
  have hd1 : 1 ≤ d := by omega
  have hl : lv_has ls 2 [(0, .ref a0)] := hl
  unfold fX7_blank at h
  refine lv_aload_n hx hb dX7_blank_0 rfl (lv_at hl 0 rfl) ?_
  refine fG B X (LnX7_g L z) 0 rfl inTX7 (by decide) kw291 rfl dX7_blank_1 ?_
  refine fGN B X (LnX2_g (LnX7_s0 L z) z.1) 1 rfl inTX2 (by decide) kn139 rfl dX7_blank_4 ?_
  refine lv_istore_n (lv' := [(1, .int z.1.2), (0, .ref a0)]) hx hb dX7_blank_7 rfl hl (by decide) rfl (fun ls hl => ?_)
  refine lv_aload_n hx hb dX7_blank_8 rfl (lv_at hl 1 rfl) ?_
  refine fG B X (LnX7_g L z) 0 rfl inTX7 (by decide) kw291 rfl dX7_blank_9 ?_
  obtain ⟨q1, h1, h⟩ := bs h
  refine kV X (cVN (As := []) (rest := []) B X (tX2_clear (d := d - 1) (LnX7_s0 L z) (by omega) h1) mfX2_clear kn338 (by omega) (LnX2_g (LnX7_s0 L z) z.1) rfl rfl (Nat.le_of_ble_eq_true rfl) hl.1 ⟨Nat.zero_le _, Nat.zero_le _⟩ dX7_blank_12) (fun H locs X => ?_)
  have X : Hx A D S.heap (wf (q1, z.2.1, z.2.2.1, z.2.2.2.1, z.2.2.2.2.1, z.2.2.2.2.2.1, z.2.2.2.2.2.2.1, z.2.2.2.2.2.2.2.1, z.2.2.2.2.2.2.2.2)) H locs := X
  refine lv_iload_n hx hb dX7_blank_15 rfl (lv_at hl 0 rfl) ?_
  exact rI B X (congrArg (fun q => wf q.2) (Option.some.inj h)) (congrArg (fun q => q.1) (Option.some.inj h)) dX7_blank_16
def fX7_fault (z : SX7) : Option Int32 :=
    (fX2_firstFault z.1).bind fun q1 =>
    some q1
set_option maxRecDepth 100000 in
set_option maxHeartbeats 4000000 in
theorem tX7_fault {a0 a1 a2 a3 a4 a5 a6 a7 a8 a9 a10 a11 a12 a13 a14 a15 a16 a17 a18 a19 a20 a21 a22 a23 a24 a25 a26 a27 a28 a29 a30 a31 a32 a33 a34 a35 a36 a37 a38 a39 a40 a41 p0 p1 p2 p3 p4 p5 p6 p7 p8 p9 p10 p11 p12 p13 p14 p15 p16 p17 p18 p19 p20 p21 p22 p23 p24 p25 p26 p27 p28 p29 p30 p31 p32 p33 p34 p35 p36 p37 p38 p39 p40 p41 : Nat} {wf : SX7 → va_W} (L : LnX7 a0 a1 a2 a3 a4 a5 a6 a7 a8 a9 a10 a11 a12 a13 a14 a15 a16 a17 a18 a19 a20 a21 a22 a23 a24 a25 a26 a27 a28 a29 a30 a31 a32 a33 a34 a35 a36 a37 a38 a39 a40 a41 p0 p1 p2 p3 p4 p5 p6 p7 p8 p9 p10 p11 p12 p13 p14 p15 p16 p17 p18 p19 p20 p21 p22 p23 p24 p25 p26 p27 p28 p29 p30 p31 p32 p33 p34 p35 p36 p37 p38 p39 p40 p41 cI wf) {d : Nat} (hd : 8 ≤ d) {z : SX7} {q : Int32} (h : fX7_fault z = some q) : Ct l yX7_fault cX7_fault 1 (some .int) d A g D [(cI, .int), (cB, .byte)] [.ref a0] (wf z) (QI A D (wf z) q) := by
  refine mkM (by decide) (Nat.le_of_ble_eq_true rfl) ?_
  intro p e S m args below meth c B X ls hl
  have B : Bd RX7 cX7_fault 1 (some .int) d A g D [(cI, .int), (cB, .byte)] p (rmd d) S m args meth c := B
  have hx := B.1
  have hb := B.2.1
  have hd1 : 1 ≤ d := by omega
  have hl : lv_has ls 1 [(0, .ref a0)] := hl
  unfold fX7_fault at h
  refine lv_aload_n hx hb dX7_fault_0 rfl (lv_at hl 0 rfl) ?_
  refine fG B X (LnX7_g L z) 0 rfl inTX7 (by decide) kw291 rfl dX7_fault_1 ?_
  obtain ⟨q1, h1, h⟩ := bs h
  refine kI X (cVN (As := []) (rest := []) B X (tX2_firstFault (d := d - 1) (LnX7_s0 L z) (by omega) h1) mfX2_firstFault kn346 (by omega) (LnX2_g (LnX7_s0 L z) z.1) rfl rfl (Nat.le_of_ble_eq_true rfl) hl.1 ⟨Nat.zero_le _, Nat.zero_le _⟩ dX7_fault_4) (fun H locs X => ?_)
  have X : Hx A D S.heap (wf z) H locs := X
  exact rI B X rfl (Option.some.inj h) dX7_fault_7
def fX7_tables (z : SX7) : Option (Int32 × SX7) :=
    (fX2_isWhole z.1).bind fun q1 =>
    if q1 = 0 then (some ((-103), z)) else
    ((fX2_secondMark z.1).bind fun q3 =>
    (fX2_codeAt z.1 0).bind fun q4 =>
    (fX2_codeAt z.1 1).bind fun q5 =>
    (fX2_kindOf q5).bind fun q6 =>
    (fX2_readRows (z.1, z.2.1.1.1) 3 q3).bind fun q7 =>
    (fX2_readRows (q7.1, z.2.1.1.2.1) (q3 + 1) q7.1.2).bind fun q8 =>
    (fX2_clear q8.1).bind fun q9 =>
    (fX4_clear z.2.2.1).bind fun q10 =>
    (fX3_clear ((q7.2, q8.2, (q4 - 48), q6), z.2.1.2.1, z.2.1.2.2.1, z.2.1.2.2.2.1, z.2.1.2.2.2.2) 0).bind fun q11 =>
    (fX6_size q11.1).bind fun q12 =>
    some (q12, (q9, q11, q10, z.2.2.2.1, z.2.2.2.2.1, 0, z.2.2.2.2.2.2.1, 0, (z.2.2.2.2.2.2.2.2 + 1))))
set_option maxRecDepth 100000 in
set_option maxHeartbeats 4000000 in
theorem tX7_tables {a0 a1 a2 a3 a4 a5 a6 a7 a8 a9 a10 a11 a12 a13 a14 a15 a16 a17 a18 a19 a20 a21 a22 a23 a24 a25 a26 a27 a28 a29 a30 a31 a32 a33 a34 a35 a36 a37 a38 a39 a40 a41 p0 p1 p2 p3 p4 p5 p6 p7 p8 p9 p10 p11 p12 p13 p14 p15 p16 p17 p18 p19 p20 p21 p22 p23 p24 p25 p26 p27 p28 p29 p30 p31 p32 p33 p34 p35 p36 p37 p38 p39 p40 p41 : Nat} {wf : SX7 → va_W} (L : LnX7 a0 a1 a2 a3 a4 a5 a6 a7 a8 a9 a10 a11 a12 a13 a14 a15 a16 a17 a18 a19 a20 a21 a22 a23 a24 a25 a26 a27 a28 a29 a30 a31 a32 a33 a34 a35 a36 a37 a38 a39 a40 a41 p0 p1 p2 p3 p4 p5 p6 p7 p8 p9 p10 p11 p12 p13 p14 p15 p16 p17 p18 p19 p20 p21 p22 p23 p24 p25 p26 p27 p28 p29 p30 p31 p32 p33 p34 p35 p36 p37 p38 p39 p40 p41 cI wf) {d : Nat} (hd : 9 ≤ d) {z : SX7} {q : Int32 × SX7} (h : fX7_tables z = some q) : Ct l yX7_tables cX7_tables 2 (some .int) d A g D [(cI, .int), (cB, .byte)] [.ref a0] (wf z) (QI A D (wf q.2) q.1) := by
  refine mkM (by decide) (Nat.le_of_ble_eq_true rfl) ?_
  intro p e S m args below meth c B X ls hl
  have B : Bd RX7 cX7_tables 2 (some .int) d A g D [(cI, .int), (cB, .byte)] p (rmd d) S m args meth c := B
  have hx := B.1
  have hb := B.2.1
  have hd1 : 1 ≤ d := by omega
  have hl : lv_has ls 2 [(0, .ref a0)] := hl
  unfold fX7_tables at h
  refine lv_aload_n hx hb dX7_tables_0 rfl (lv_at hl 0 rfl) ?_
  refine fG B X (LnX7_g L z) 0 rfl inTX7 (by decide) kw291 rfl dX7_tables_1 ?_
  obtain ⟨q1, h1, h⟩ := bs h
  refine kI X (cVN (As := []) (rest := []) B X (tX2_isWhole (d := d - 1) (LnX7_s0 L z) (by omega) h1) mfX2_isWhole kn455 (by omega) (LnX2_g (LnX7_s0 L z) z.1) rfl rfl (Nat.le_of_ble_eq_true rfl) hl.1 ⟨Nat.zero_le _, Nat.zero_le _⟩ dX7_tables_4) (fun H locs X => ?_)
  have X : Hx A D S.heap (wf z) H locs := X
  refine lv_if_ne (tgt := 13) hx hb dX7_tables_7 (by decide) (fun hc2 => ?_) (fun hc2 => ?_)
  · have h := ie h hc2
    refine lv_aload_n hx hb dX7_tables_13 rfl (lv_at hl 0 rfl) ?_
    refine fG B X (LnX7_g L z) 0 rfl inTX7 (by decide) kw291 rfl dX7_tables_14 ?_
    obtain ⟨q3, h3, h⟩ := bs h
    refine kI X (cVN (As := []) (rest := []) B X (tX2_secondMark (d := d - 1) (LnX7_s0 L z) (by omega) h3) mfX2_secondMark kn464 (by omega) (LnX2_g (LnX7_s0 L z) z.1) rfl rfl (Nat.le_of_ble_eq_true rfl) hl.1 ⟨Nat.zero_le _, Nat.zero_le _⟩ dX7_tables_17) (fun H locs X => ?_)
    have X : Hx A D S.heap (wf z) H locs := X
    refine lv_istore_n (lv' := [(1, .int q3), (0, .ref a0)]) hx hb dX7_tables_20 rfl hl (by decide) rfl (fun ls hl => ?_)
    refine lv_aload_n hx hb dX7_tables_21 rfl (lv_at hl 1 rfl) ?_
    refine fG B X (LnX7_g L z) 2 rfl inTX7 (by decide) kw293 rfl dX7_tables_22 ?_
    refine lv_aload_n hx hb dX7_tables_25 rfl (lv_at hl 1 rfl) ?_
    refine fG B X (LnX7_g L z) 0 rfl inTX7 (by decide) kw291 rfl dX7_tables_26 ?_
    refine lv_iconst (v := 0) hx hb dX7_tables_29 (by decide) ?_
    obtain ⟨q4, h4, h⟩ := bs h
    refine kI X (cVN (As := [.int 0]) (rest := [.ref a4]) B X (tX2_codeAt (d := d - 1) (LnX7_s0 L z) (by omega) h4) mfX2_codeAt kn465 (by omega) (LnX2_g (LnX7_s0 L z) z.1) rfl rfl (Nat.le_of_ble_eq_true rfl) hl.1 ⟨Nat.zero_le _, Nat.zero_le _⟩ dX7_tables_30) (fun H locs X => ?_)
    have X : Hx A D S.heap (wf z) H locs := X
    refine lv_bipush (v := 48) hx hb dX7_tables_33 (by decide) ?_
    refine lv_isub hx hb dX7_tables_35 ?_
    refine fPN tyX6 B X (LnX6_g (LnX3_s0 (LnX7_s1 L z) z.2.1) z.2.1.1) 2 (LnX6_i2 (LnX3_s0 (LnX7_s1 L z) z.2.1) z.2.1.1 _) rfl inTX6 tyX6_ok nmX6 (by decide) kn181 rfl rfl rfl rfl (Nat.le_of_ble_eq_true rfl) dX7_tables_36 (fun H locs X => ?_)
    have X : Hx A D S.heap (wf (z.1, ((z.2.1.1.1, z.2.1.1.2.1, (q4 - 48), z.2.1.1.2.2.2), z.2.1.2.1, z.2.1.2.2.1, z.2.1.2.2.2.1, z.2.1.2.2.2.2), z.2.2.1, z.2.2.2.1, z.2.2.2.2.1, z.2.2.2.2.2.1, z.2.2.2.2.2.2.1, z.2.2.2.2.2.2.2.1, z.2.2.2.2.2.2.2.2)) H locs := X
    refine lv_aload_n hx hb dX7_tables_39 rfl (lv_at hl 1 rfl) ?_
    refine fG B X (LnX7_g L (z.1, ((z.2.1.1.1, z.2.1.1.2.1, (q4 - 48), z.2.1.1.2.2.2), z.2.1.2.1, z.2.1.2.2.1, z.2.1.2.2.2.1, z.2.1.2.2.2.2), z.2.2.1, z.2.2.2.1, z.2.2.2.2.1, z.2.2.2.2.2.1, z.2.2.2.2.2.2.1, z.2.2.2.2.2.2.2.1, z.2.2.2.2.2.2.2.2)) 2 rfl inTX7 (by decide) kw293 rfl dX7_tables_40 ?_
    refine lv_aload_n hx hb dX7_tables_43 rfl (lv_at hl 1 rfl) ?_
    refine fG B X (LnX7_g L (z.1, ((z.2.1.1.1, z.2.1.1.2.1, (q4 - 48), z.2.1.1.2.2.2), z.2.1.2.1, z.2.1.2.2.1, z.2.1.2.2.2.1, z.2.1.2.2.2.2), z.2.2.1, z.2.2.2.1, z.2.2.2.2.1, z.2.2.2.2.2.1, z.2.2.2.2.2.2.1, z.2.2.2.2.2.2.2.1, z.2.2.2.2.2.2.2.2)) 0 rfl inTX7 (by decide) kw291 rfl dX7_tables_44 ?_
    refine lv_iconst (v := 1) hx hb dX7_tables_47 (by decide) ?_
    obtain ⟨q5, h5, h⟩ := bs h
    refine kI X (cVN (As := [.int 1]) (rest := [.ref a4]) B X (tX2_codeAt (d := d - 1) (LnX7_s0 L (z.1, ((z.2.1.1.1, z.2.1.1.2.1, (q4 - 48), z.2.1.1.2.2.2), z.2.1.2.1, z.2.1.2.2.1, z.2.1.2.2.2.1, z.2.1.2.2.2.2), z.2.2.1, z.2.2.2.1, z.2.2.2.2.1, z.2.2.2.2.2.1, z.2.2.2.2.2.2.1, z.2.2.2.2.2.2.2.1, z.2.2.2.2.2.2.2.2)) (by omega) h5) mfX2_codeAt kn465 (by omega) (LnX2_g (LnX7_s0 L (z.1, ((z.2.1.1.1, z.2.1.1.2.1, (q4 - 48), z.2.1.1.2.2.2), z.2.1.2.1, z.2.1.2.2.1, z.2.1.2.2.2.1, z.2.1.2.2.2.2), z.2.2.1, z.2.2.2.1, z.2.2.2.2.1, z.2.2.2.2.2.1, z.2.2.2.2.2.2.1, z.2.2.2.2.2.2.2.1, z.2.2.2.2.2.2.2.2)) z.1) rfl rfl (Nat.le_of_ble_eq_true rfl) hl.1 ⟨Nat.zero_le _, Nat.zero_le _⟩ dX7_tables_48) (fun H locs X => ?_)
    have X : Hx A D S.heap (wf (z.1, ((z.2.1.1.1, z.2.1.1.2.1, (q4 - 48), z.2.1.1.2.2.2), z.2.1.2.1, z.2.1.2.2.1, z.2.1.2.2.2.1, z.2.1.2.2.2.2), z.2.2.1, z.2.2.2.1, z.2.2.2.2.1, z.2.2.2.2.2.1, z.2.2.2.2.2.2.1, z.2.2.2.2.2.2.2.1, z.2.2.2.2.2.2.2.2)) H locs := X
    obtain ⟨q6, h6, h⟩ := bs h
    refine kI X (cSN (As := [.int q5]) (rest := [.ref a4]) B X (tX2_kindOf (d := d - 1) (by omega) h6) msX2_kindOf kn466 (by omega) rfl (Nat.le_of_ble_eq_true rfl) hl.1 ⟨Nat.zero_le _, Nat.zero_le _⟩ dX7_tables_51) (fun H locs X => ?_)
    have X : Hx A D S.heap (wf (z.1, ((z.2.1.1.1, z.2.1.1.2.1, (q4 - 48), z.2.1.1.2.2.2), z.2.1.2.1, z.2.1.2.2.1, z.2.1.2.2.2.1, z.2.1.2.2.2.2), z.2.2.1, z.2.2.2.1, z.2.2.2.2.1, z.2.2.2.2.2.1, z.2.2.2.2.2.2.1, z.2.2.2.2.2.2.2.1, z.2.2.2.2.2.2.2.2)) H locs := X
    refine fPN tyX6 B X (LnX6_g (LnX3_s0 (LnX7_s1 L (z.1, ((z.2.1.1.1, z.2.1.1.2.1, (q4 - 48), z.2.1.1.2.2.2), z.2.1.2.1, z.2.1.2.2.1, z.2.1.2.2.2.1, z.2.1.2.2.2.2), z.2.2.1, z.2.2.2.1, z.2.2.2.2.1, z.2.2.2.2.2.1, z.2.2.2.2.2.2.1, z.2.2.2.2.2.2.2.1, z.2.2.2.2.2.2.2.2)) ((z.2.1.1.1, z.2.1.1.2.1, (q4 - 48), z.2.1.1.2.2.2), z.2.1.2.1, z.2.1.2.2.1, z.2.1.2.2.2.1, z.2.1.2.2.2.2)) (z.2.1.1.1, z.2.1.1.2.1, (q4 - 48), z.2.1.1.2.2.2)) 3 (LnX6_i3 (LnX3_s0 (LnX7_s1 L (z.1, ((z.2.1.1.1, z.2.1.1.2.1, (q4 - 48), z.2.1.1.2.2.2), z.2.1.2.1, z.2.1.2.2.1, z.2.1.2.2.2.1, z.2.1.2.2.2.2), z.2.2.1, z.2.2.2.1, z.2.2.2.2.1, z.2.2.2.2.2.1, z.2.2.2.2.2.2.1, z.2.2.2.2.2.2.2.1, z.2.2.2.2.2.2.2.2)) ((z.2.1.1.1, z.2.1.1.2.1, (q4 - 48), z.2.1.1.2.2.2), z.2.1.2.1, z.2.1.2.2.1, z.2.1.2.2.2.1, z.2.1.2.2.2.2)) (z.2.1.1.1, z.2.1.1.2.1, (q4 - 48), z.2.1.1.2.2.2) _) rfl inTX6 tyX6_ok nmX6 (by decide) kn184 rfl rfl rfl rfl (Nat.le_of_ble_eq_true rfl) dX7_tables_54 (fun H locs X => ?_)
    have X : Hx A D S.heap (wf (z.1, ((z.2.1.1.1, z.2.1.1.2.1, (q4 - 48), q6), z.2.1.2.1, z.2.1.2.2.1, z.2.1.2.2.2.1, z.2.1.2.2.2.2), z.2.2.1, z.2.2.2.1, z.2.2.2.2.1, z.2.2.2.2.2.1, z.2.2.2.2.2.2.1, z.2.2.2.2.2.2.2.1, z.2.2.2.2.2.2.2.2)) H locs := X
    refine lv_aload_n hx hb dX7_tables_57 rfl (lv_at hl 1 rfl) ?_
    refine fG B X (LnX7_g L (z.1, ((z.2.1.1.1, z.2.1.1.2.1, (q4 - 48), q6), z.2.1.2.1, z.2.1.2.2.1, z.2.1.2.2.2.1, z.2.1.2.2.2.2), z.2.2.1, z.2.2.2.1, z.2.2.2.2.1, z.2.2.2.2.2.1, z.2.2.2.2.2.2.1, z.2.2.2.2.2.2.2.1, z.2.2.2.2.2.2.2.2)) 0 rfl inTX7 (by decide) kw291 rfl dX7_tables_58 ?_
    refine lv_aload_n hx hb dX7_tables_61 rfl (lv_at hl 1 rfl) ?_
    refine fG B X (LnX7_g L (z.1, ((z.2.1.1.1, z.2.1.1.2.1, (q4 - 48), q6), z.2.1.2.1, z.2.1.2.2.1, z.2.1.2.2.2.1, z.2.1.2.2.2.2), z.2.2.1, z.2.2.2.1, z.2.2.2.2.1, z.2.2.2.2.2.1, z.2.2.2.2.2.2.1, z.2.2.2.2.2.2.2.1, z.2.2.2.2.2.2.2.2)) 2 rfl inTX7 (by decide) kw293 rfl dX7_tables_62 ?_
    refine fGN B X (LnX6_g (LnX3_s0 (LnX7_s1 L (z.1, ((z.2.1.1.1, z.2.1.1.2.1, (q4 - 48), q6), z.2.1.2.1, z.2.1.2.2.1, z.2.1.2.2.2.1, z.2.1.2.2.2.2), z.2.2.1, z.2.2.2.1, z.2.2.2.2.1, z.2.2.2.2.2.1, z.2.2.2.2.2.2.1, z.2.2.2.2.2.2.2.1, z.2.2.2.2.2.2.2.2)) ((z.2.1.1.1, z.2.1.1.2.1, (q4 - 48), q6), z.2.1.2.1, z.2.1.2.2.1, z.2.1.2.2.2.1, z.2.1.2.2.2.2)) (z.2.1.1.1, z.2.1.1.2.1, (q4 - 48), q6)) 0 rfl inTX6 (by decide) kn176 rfl dX7_tables_65 ?_
    refine lv_iconst (v := 3) hx hb dX7_tables_68 (by decide) ?_
    refine lv_iload_n hx hb dX7_tables_69 rfl (lv_at hl 0 rfl) ?_
    obtain ⟨q7, h7, h⟩ := bs h
    refine kV X (cVN (As := [.ref a5, .int 3, .int q3]) (rest := []) B X (tX2_readRows (d := d - 1) (LnP25_mk (wf := fun t : SP25 => wf (t.1, ((t.2, z.2.1.1.2.1, (q4 - 48), q6), z.2.1.2.1, z.2.1.2.2.1, z.2.1.2.2.2.1, z.2.1.2.2.2.2), z.2.2.1, z.2.2.2.1, z.2.2.2.2.1, z.2.2.2.2.2.1, z.2.2.2.2.2.2.1, z.2.2.2.2.2.2.2.1, z.2.2.2.2.2.2.2.2)) (fun t => (LnX7_s0 L (t.1, ((t.2, z.2.1.1.2.1, (q4 - 48), q6), z.2.1.2.1, z.2.1.2.2.1, z.2.1.2.2.2.1, z.2.1.2.2.2.2), z.2.2.1, z.2.2.2.1, z.2.2.2.2.1, z.2.2.2.2.2.1, z.2.2.2.2.2.2.1, z.2.2.2.2.2.2.2.1, z.2.2.2.2.2.2.2.2))) (fun t => (LnX6_s0 (LnX3_s0 (LnX7_s1 L (t.1, ((t.2, z.2.1.1.2.1, (q4 - 48), q6), z.2.1.2.1, z.2.1.2.2.1, z.2.1.2.2.2.1, z.2.1.2.2.2.2), z.2.2.1, z.2.2.2.1, z.2.2.2.2.1, z.2.2.2.2.2.1, z.2.2.2.2.2.2.1, z.2.2.2.2.2.2.2.1, z.2.2.2.2.2.2.2.2)) ((t.2, z.2.1.1.2.1, (q4 - 48), q6), z.2.1.2.1, z.2.1.2.2.1, z.2.1.2.2.2.1, z.2.1.2.2.2.2)) (t.2, z.2.1.1.2.1, (q4 - 48), q6)))) (by omega) h7) mfX2_readRows kn467 (by omega) (LnX2_g (LnX7_s0 L (z.1, ((z.2.1.1.1, z.2.1.1.2.1, (q4 - 48), q6), z.2.1.2.1, z.2.1.2.2.1, z.2.1.2.2.2.1, z.2.1.2.2.2.2), z.2.2.1, z.2.2.2.1, z.2.2.2.2.1, z.2.2.2.2.2.1, z.2.2.2.2.2.2.1, z.2.2.2.2.2.2.2.1, z.2.2.2.2.2.2.2.2)) z.1) rfl rfl (Nat.le_of_ble_eq_true rfl) hl.1 ⟨Nat.zero_le _, Nat.zero_le _⟩ dX7_tables_70) (fun H locs X => ?_)
    have X : Hx A D S.heap (wf (q7.1, ((q7.2, z.2.1.1.2.1, (q4 - 48), q6), z.2.1.2.1, z.2.1.2.2.1, z.2.1.2.2.2.1, z.2.1.2.2.2.2), z.2.2.1, z.2.2.2.1, z.2.2.2.2.1, z.2.2.2.2.2.1, z.2.2.2.2.2.2.1, z.2.2.2.2.2.2.2.1, z.2.2.2.2.2.2.2.2)) H locs := X
    refine lv_aload_n hx hb dX7_tables_73 rfl (lv_at hl 1 rfl) ?_
    refine fG B X (LnX7_g L (q7.1, ((q7.2, z.2.1.1.2.1, (q4 - 48), q6), z.2.1.2.1, z.2.1.2.2.1, z.2.1.2.2.2.1, z.2.1.2.2.2.2), z.2.2.1, z.2.2.2.1, z.2.2.2.2.1, z.2.2.2.2.2.1, z.2.2.2.2.2.2.1, z.2.2.2.2.2.2.2.1, z.2.2.2.2.2.2.2.2)) 0 rfl inTX7 (by decide) kw291 rfl dX7_tables_74 ?_
    refine lv_aload_n hx hb dX7_tables_77 rfl (lv_at hl 1 rfl) ?_
    refine fG B X (LnX7_g L (q7.1, ((q7.2, z.2.1.1.2.1, (q4 - 48), q6), z.2.1.2.1, z.2.1.2.2.1, z.2.1.2.2.2.1, z.2.1.2.2.2.2), z.2.2.1, z.2.2.2.1, z.2.2.2.2.1, z.2.2.2.2.2.1, z.2.2.2.2.2.2.1, z.2.2.2.2.2.2.2.1, z.2.2.2.2.2.2.2.2)) 2 rfl inTX7 (by decide) kw293 rfl dX7_tables_78 ?_
    refine fGN B X (LnX6_g (LnX3_s0 (LnX7_s1 L (q7.1, ((q7.2, z.2.1.1.2.1, (q4 - 48), q6), z.2.1.2.1, z.2.1.2.2.1, z.2.1.2.2.2.1, z.2.1.2.2.2.2), z.2.2.1, z.2.2.2.1, z.2.2.2.2.1, z.2.2.2.2.2.1, z.2.2.2.2.2.2.1, z.2.2.2.2.2.2.2.1, z.2.2.2.2.2.2.2.2)) ((q7.2, z.2.1.1.2.1, (q4 - 48), q6), z.2.1.2.1, z.2.1.2.2.1, z.2.1.2.2.2.1, z.2.1.2.2.2.2)) (q7.2, z.2.1.1.2.1, (q4 - 48), q6)) 1 rfl inTX6 (by decide) kn179 rfl dX7_tables_81 ?_
    refine lv_iload_n hx hb dX7_tables_84 rfl (lv_at hl 0 rfl) ?_
    refine lv_iconst (v := 1) hx hb dX7_tables_85 (by decide) ?_
    refine lv_iadd hx hb dX7_tables_86 ?_
    refine lv_aload_n hx hb dX7_tables_87 rfl (lv_at hl 1 rfl) ?_
    refine fG B X (LnX7_g L (q7.1, ((q7.2, z.2.1.1.2.1, (q4 - 48), q6), z.2.1.2.1, z.2.1.2.2.1, z.2.1.2.2.2.1, z.2.1.2.2.2.2), z.2.2.1, z.2.2.2.1, z.2.2.2.2.1, z.2.2.2.2.2.1, z.2.2.2.2.2.2.1, z.2.2.2.2.2.2.2.1, z.2.2.2.2.2.2.2.2)) 0 rfl inTX7 (by decide) kw291 rfl dX7_tables_88 ?_
    refine fGN B X (LnX2_g (LnX7_s0 L (q7.1, ((q7.2, z.2.1.1.2.1, (q4 - 48), q6), z.2.1.2.1, z.2.1.2.2.1, z.2.1.2.2.2.1, z.2.1.2.2.2.2), z.2.2.1, z.2.2.2.1, z.2.2.2.2.1, z.2.2.2.2.2.1, z.2.2.2.2.2.2.1, z.2.2.2.2.2.2.2.1, z.2.2.2.2.2.2.2.2)) q7.1) 1 rfl inTX2 (by decide) kn139 rfl dX7_tables_91 ?_
    obtain ⟨q8, h8, h⟩ := bs h
    refine kV X (cVN (As := [.ref a7, .int (q3 + 1), .int q7.1.2]) (rest := []) B X (tX2_readRows (d := d - 1) (LnP25_mk (wf := fun t : SP25 => wf (t.1, ((q7.2, t.2, (q4 - 48), q6), z.2.1.2.1, z.2.1.2.2.1, z.2.1.2.2.2.1, z.2.1.2.2.2.2), z.2.2.1, z.2.2.2.1, z.2.2.2.2.1, z.2.2.2.2.2.1, z.2.2.2.2.2.2.1, z.2.2.2.2.2.2.2.1, z.2.2.2.2.2.2.2.2)) (fun t => (LnX7_s0 L (t.1, ((q7.2, t.2, (q4 - 48), q6), z.2.1.2.1, z.2.1.2.2.1, z.2.1.2.2.2.1, z.2.1.2.2.2.2), z.2.2.1, z.2.2.2.1, z.2.2.2.2.1, z.2.2.2.2.2.1, z.2.2.2.2.2.2.1, z.2.2.2.2.2.2.2.1, z.2.2.2.2.2.2.2.2))) (fun t => (LnX6_s1 (LnX3_s0 (LnX7_s1 L (t.1, ((q7.2, t.2, (q4 - 48), q6), z.2.1.2.1, z.2.1.2.2.1, z.2.1.2.2.2.1, z.2.1.2.2.2.2), z.2.2.1, z.2.2.2.1, z.2.2.2.2.1, z.2.2.2.2.2.1, z.2.2.2.2.2.2.1, z.2.2.2.2.2.2.2.1, z.2.2.2.2.2.2.2.2)) ((q7.2, t.2, (q4 - 48), q6), z.2.1.2.1, z.2.1.2.2.1, z.2.1.2.2.2.1, z.2.1.2.2.2.2)) (q7.2, t.2, (q4 - 48), q6)))) (by omega) h8) mfX2_readRows kn467 (by omega) (LnX2_g (LnX7_s0 L (q7.1, ((q7.2, z.2.1.1.2.1, (q4 - 48), q6), z.2.1.2.1, z.2.1.2.2.1, z.2.1.2.2.2.1, z.2.1.2.2.2.2), z.2.2.1, z.2.2.2.1, z.2.2.2.2.1, z.2.2.2.2.2.1, z.2.2.2.2.2.2.1, z.2.2.2.2.2.2.2.1, z.2.2.2.2.2.2.2.2)) q7.1) rfl rfl (Nat.le_of_ble_eq_true rfl) hl.1 ⟨Nat.zero_le _, Nat.zero_le _⟩ dX7_tables_94) (fun H locs X => ?_)
    have X : Hx A D S.heap (wf (q8.1, ((q7.2, q8.2, (q4 - 48), q6), z.2.1.2.1, z.2.1.2.2.1, z.2.1.2.2.2.1, z.2.1.2.2.2.2), z.2.2.1, z.2.2.2.1, z.2.2.2.2.1, z.2.2.2.2.2.1, z.2.2.2.2.2.2.1, z.2.2.2.2.2.2.2.1, z.2.2.2.2.2.2.2.2)) H locs := X
    refine lv_aload_n hx hb dX7_tables_97 rfl (lv_at hl 1 rfl) ?_
    refine fG B X (LnX7_g L (q8.1, ((q7.2, q8.2, (q4 - 48), q6), z.2.1.2.1, z.2.1.2.2.1, z.2.1.2.2.2.1, z.2.1.2.2.2.2), z.2.2.1, z.2.2.2.1, z.2.2.2.2.1, z.2.2.2.2.2.1, z.2.2.2.2.2.2.1, z.2.2.2.2.2.2.2.1, z.2.2.2.2.2.2.2.2)) 0 rfl inTX7 (by decide) kw291 rfl dX7_tables_98 ?_
    obtain ⟨q9, h9, h⟩ := bs h
    refine kV X (cVN (As := []) (rest := []) B X (tX2_clear (d := d - 1) (LnX7_s0 L (q8.1, ((q7.2, q8.2, (q4 - 48), q6), z.2.1.2.1, z.2.1.2.2.1, z.2.1.2.2.2.1, z.2.1.2.2.2.2), z.2.2.1, z.2.2.2.1, z.2.2.2.2.1, z.2.2.2.2.2.1, z.2.2.2.2.2.2.1, z.2.2.2.2.2.2.2.1, z.2.2.2.2.2.2.2.2)) (by omega) h9) mfX2_clear kn338 (by omega) (LnX2_g (LnX7_s0 L (q8.1, ((q7.2, q8.2, (q4 - 48), q6), z.2.1.2.1, z.2.1.2.2.1, z.2.1.2.2.2.1, z.2.1.2.2.2.2), z.2.2.1, z.2.2.2.1, z.2.2.2.2.1, z.2.2.2.2.2.1, z.2.2.2.2.2.2.1, z.2.2.2.2.2.2.2.1, z.2.2.2.2.2.2.2.2)) q8.1) rfl rfl (Nat.le_of_ble_eq_true rfl) hl.1 ⟨Nat.zero_le _, Nat.zero_le _⟩ dX7_tables_101) (fun H locs X => ?_)
    have X : Hx A D S.heap (wf (q9, ((q7.2, q8.2, (q4 - 48), q6), z.2.1.2.1, z.2.1.2.2.1, z.2.1.2.2.2.1, z.2.1.2.2.2.2), z.2.2.1, z.2.2.2.1, z.2.2.2.2.1, z.2.2.2.2.2.1, z.2.2.2.2.2.2.1, z.2.2.2.2.2.2.2.1, z.2.2.2.2.2.2.2.2)) H locs := X
    refine lv_aload_n hx hb dX7_tables_104 rfl (lv_at hl 1 rfl) ?_
    refine fG B X (LnX7_g L (q9, ((q7.2, q8.2, (q4 - 48), q6), z.2.1.2.1, z.2.1.2.2.1, z.2.1.2.2.2.1, z.2.1.2.2.2.2), z.2.2.1, z.2.2.2.1, z.2.2.2.2.1, z.2.2.2.2.2.1, z.2.2.2.2.2.2.1, z.2.2.2.2.2.2.2.1, z.2.2.2.2.2.2.2.2)) 3 rfl inTX7 (by decide) kw294 rfl dX7_tables_105 ?_
    obtain ⟨q10, h10, h⟩ := bs h
    refine kV X (cVN (As := []) (rest := []) B X (tX4_clear (d := d - 1) (LnX7_s2 L (q9, ((q7.2, q8.2, (q4 - 48), q6), z.2.1.2.1, z.2.1.2.2.1, z.2.1.2.2.2.1, z.2.1.2.2.2.2), z.2.2.1, z.2.2.2.1, z.2.2.2.2.1, z.2.2.2.2.2.1, z.2.2.2.2.2.2.1, z.2.2.2.2.2.2.2.1, z.2.2.2.2.2.2.2.2)) (by omega) h10) mfX4_clear kn479 (by omega) (LnX4_g (LnX7_s2 L (q9, ((q7.2, q8.2, (q4 - 48), q6), z.2.1.2.1, z.2.1.2.2.1, z.2.1.2.2.2.1, z.2.1.2.2.2.2), z.2.2.1, z.2.2.2.1, z.2.2.2.2.1, z.2.2.2.2.2.1, z.2.2.2.2.2.2.1, z.2.2.2.2.2.2.2.1, z.2.2.2.2.2.2.2.2)) z.2.2.1) rfl rfl (Nat.le_of_ble_eq_true rfl) hl.1 ⟨Nat.zero_le _, Nat.zero_le _⟩ dX7_tables_108) (fun H locs X => ?_)
    have X : Hx A D S.heap (wf (q9, ((q7.2, q8.2, (q4 - 48), q6), z.2.1.2.1, z.2.1.2.2.1, z.2.1.2.2.2.1, z.2.1.2.2.2.2), q10, z.2.2.2.1, z.2.2.2.2.1, z.2.2.2.2.2.1, z.2.2.2.2.2.2.1, z.2.2.2.2.2.2.2.1, z.2.2.2.2.2.2.2.2)) H locs := X
    refine lv_aload_n hx hb dX7_tables_111 rfl (lv_at hl 1 rfl) ?_
    refine fG B X (LnX7_g L (q9, ((q7.2, q8.2, (q4 - 48), q6), z.2.1.2.1, z.2.1.2.2.1, z.2.1.2.2.2.1, z.2.1.2.2.2.2), q10, z.2.2.2.1, z.2.2.2.2.1, z.2.2.2.2.2.1, z.2.2.2.2.2.2.1, z.2.2.2.2.2.2.2.1, z.2.2.2.2.2.2.2.2)) 1 rfl inTX7 (by decide) kw292 rfl dX7_tables_112 ?_
    refine lv_iconst (v := 0) hx hb dX7_tables_115 (by decide) ?_
    obtain ⟨q11, h11, h⟩ := bs h
    refine kV X (cVN (As := [.int 0]) (rest := []) B X (tX3_clear (d := d - 1) (LnX7_s1 L (q9, ((q7.2, q8.2, (q4 - 48), q6), z.2.1.2.1, z.2.1.2.2.1, z.2.1.2.2.2.1, z.2.1.2.2.2.2), q10, z.2.2.2.1, z.2.2.2.2.1, z.2.2.2.2.2.1, z.2.2.2.2.2.2.1, z.2.2.2.2.2.2.2.1, z.2.2.2.2.2.2.2.2)) (by omega) h11) mfX3_clear kn483 (by omega) (LnX3_g (LnX7_s1 L (q9, ((q7.2, q8.2, (q4 - 48), q6), z.2.1.2.1, z.2.1.2.2.1, z.2.1.2.2.2.1, z.2.1.2.2.2.2), q10, z.2.2.2.1, z.2.2.2.2.1, z.2.2.2.2.2.1, z.2.2.2.2.2.2.1, z.2.2.2.2.2.2.2.1, z.2.2.2.2.2.2.2.2)) ((q7.2, q8.2, (q4 - 48), q6), z.2.1.2.1, z.2.1.2.2.1, z.2.1.2.2.2.1, z.2.1.2.2.2.2)) rfl rfl (Nat.le_of_ble_eq_true rfl) hl.1 ⟨Nat.zero_le _, Nat.zero_le _⟩ dX7_tables_116) (fun H locs X => ?_)
    have X : Hx A D S.heap (wf (q9, q11, q10, z.2.2.2.1, z.2.2.2.2.1, z.2.2.2.2.2.1, z.2.2.2.2.2.2.1, z.2.2.2.2.2.2.2.1, z.2.2.2.2.2.2.2.2)) H locs := X
    refine lv_aload_n hx hb dX7_tables_119 rfl (lv_at hl 1 rfl) ?_
    refine lv_iconst (v := 0) hx hb dX7_tables_120 (by decide) ?_
    refine fP tyX7 B X (LnX7_g L (q9, q11, q10, z.2.2.2.1, z.2.2.2.2.1, z.2.2.2.2.2.1, z.2.2.2.2.2.2.1, z.2.2.2.2.2.2.2.1, z.2.2.2.2.2.2.2.2)) 6 (LnX7_i5 L (q9, q11, q10, z.2.2.2.1, z.2.2.2.2.1, z.2.2.2.2.2.1, z.2.2.2.2.2.2.1, z.2.2.2.2.2.2.2.1, z.2.2.2.2.2.2.2.2) _) rfl inTX7 tyX7_ok nmX7 (by decide) kw297 rfl rfl rfl rfl (Nat.le_of_ble_eq_true rfl) dX7_tables_121 (fun H locs X => ?_)
    have X : Hx A D S.heap (wf (q9, q11, q10, z.2.2.2.1, z.2.2.2.2.1, 0, z.2.2.2.2.2.2.1, z.2.2.2.2.2.2.2.1, z.2.2.2.2.2.2.2.2)) H locs := X
    refine lv_aload_n hx hb dX7_tables_124 rfl (lv_at hl 1 rfl) ?_
    refine lv_iconst (v := 0) hx hb dX7_tables_125 (by decide) ?_
    refine fP tyX7 B X (LnX7_g L (q9, q11, q10, z.2.2.2.1, z.2.2.2.2.1, 0, z.2.2.2.2.2.2.1, z.2.2.2.2.2.2.2.1, z.2.2.2.2.2.2.2.2)) 8 (LnX7_i7 L (q9, q11, q10, z.2.2.2.1, z.2.2.2.2.1, 0, z.2.2.2.2.2.2.1, z.2.2.2.2.2.2.2.1, z.2.2.2.2.2.2.2.2) _) rfl inTX7 tyX7_ok nmX7 (by decide) kw299 rfl rfl rfl rfl (Nat.le_of_ble_eq_true rfl) dX7_tables_126 (fun H locs X => ?_)
    have X : Hx A D S.heap (wf (q9, q11, q10, z.2.2.2.1, z.2.2.2.2.1, 0, z.2.2.2.2.2.2.1, 0, z.2.2.2.2.2.2.2.2)) H locs := X
    refine lv_aload_n hx hb dX7_tables_129 rfl (lv_at hl 1 rfl) ?_
    refine lv_dup hx hb dX7_tables_130 rfl ?_
    refine fG B X (LnX7_g L (q9, q11, q10, z.2.2.2.1, z.2.2.2.2.1, 0, z.2.2.2.2.2.2.1, 0, z.2.2.2.2.2.2.2.2)) 9 rfl inTX7 (by decide) kw300 rfl dX7_tables_131 ?_
    refine lv_iconst (v := 1) hx hb dX7_tables_134 (by decide) ?_
    refine lv_iadd hx hb dX7_tables_135 ?_
    refine fP tyX7 B X (LnX7_g L (q9, q11, q10, z.2.2.2.1, z.2.2.2.2.1, 0, z.2.2.2.2.2.2.1, 0, z.2.2.2.2.2.2.2.2)) 9 (LnX7_i8 L (q9, q11, q10, z.2.2.2.1, z.2.2.2.2.1, 0, z.2.2.2.2.2.2.1, 0, z.2.2.2.2.2.2.2.2) _) rfl inTX7 tyX7_ok nmX7 (by decide) kw300 rfl rfl rfl rfl (Nat.le_of_ble_eq_true rfl) dX7_tables_136 (fun H locs X => ?_)
    have X : Hx A D S.heap (wf (q9, q11, q10, z.2.2.2.1, z.2.2.2.2.1, 0, z.2.2.2.2.2.2.1, 0, (z.2.2.2.2.2.2.2.2 + 1))) H locs := X
    refine lv_aload_n hx hb dX7_tables_139 rfl (lv_at hl 1 rfl) ?_
    refine fG B X (LnX7_g L (q9, q11, q10, z.2.2.2.1, z.2.2.2.2.1, 0, z.2.2.2.2.2.2.1, 0, (z.2.2.2.2.2.2.2.2 + 1))) 2 rfl inTX7 (by decide) kw293 rfl dX7_tables_140 ?_
    obtain ⟨q12, h12, h⟩ := bs h
    refine kI X (cVN (As := []) (rest := []) B X (tX6_size (d := d - 1) (LnX3_s0 (LnX7_s1 L (q9, q11, q10, z.2.2.2.1, z.2.2.2.2.1, 0, z.2.2.2.2.2.2.1, 0, (z.2.2.2.2.2.2.2.2 + 1))) q11) (by omega) h12) mfX6_size kn498 (by omega) (LnX6_g (LnX3_s0 (LnX7_s1 L (q9, q11, q10, z.2.2.2.1, z.2.2.2.2.1, 0, z.2.2.2.2.2.2.1, 0, (z.2.2.2.2.2.2.2.2 + 1))) q11) q11.1) rfl rfl (Nat.le_of_ble_eq_true rfl) hl.1 ⟨Nat.zero_le _, Nat.zero_le _⟩ dX7_tables_143) (fun H locs X => ?_)
    have X : Hx A D S.heap (wf (q9, q11, q10, z.2.2.2.1, z.2.2.2.2.1, 0, z.2.2.2.2.2.2.1, 0, (z.2.2.2.2.2.2.2.2 + 1))) H locs := X
    exact rI B X (congrArg (fun q => wf q.2) (Option.some.inj h)) (congrArg (fun q => q.1) (Option.some.inj h)) dX7_tables_146
  · have h := it h hc2
    refine lv_bipush (v := (-103)) hx hb dX7_tables_10 (by decide) ?_
    exact rI B X (congrArg (fun q => wf q.2) (Option.some.inj h)) (congrArg (fun q => q.1) (Option.some.inj h)) dX7_tables_12
def fX7_row (z : SX7) (x1 : Int32) (x2 : Int32) (x3 : Int32) : Option Int32 :=
    (fX6_hasRow z.2.1.1 x1 x2).bind fun q1 =>
    if q1 = 0 then (some (-101)) else
    (if x3 < 0 then (some (-102)) else
    (if x3 ≤ 1 then (if x3 = 0 then (if x1 = 0 then ((fX5_keyAt z.2.1.1.1 x2).bind fun q9 =>
    some q9) else
    ((fX5_keyAt z.2.1.1.2.1 x2).bind fun q10 =>
    some q10)) else
    ((fX6_partners z.2.1.1 x1 x2).bind fun q6 =>
    (fJ6_bitCount_0f7a4 q6).bind fun q7 =>
    some q7)) else
    (some (-102))))
set_option maxRecDepth 100000 in
set_option maxHeartbeats 4000000 in
theorem tX7_row {a0 a1 a2 a3 a4 a5 a6 a7 a8 a9 a10 a11 a12 a13 a14 a15 a16 a17 a18 a19 a20 a21 a22 a23 a24 a25 a26 a27 a28 a29 a30 a31 a32 a33 a34 a35 a36 a37 a38 a39 a40 a41 p0 p1 p2 p3 p4 p5 p6 p7 p8 p9 p10 p11 p12 p13 p14 p15 p16 p17 p18 p19 p20 p21 p22 p23 p24 p25 p26 p27 p28 p29 p30 p31 p32 p33 p34 p35 p36 p37 p38 p39 p40 p41 : Nat} {wf : SX7 → va_W} (L : LnX7 a0 a1 a2 a3 a4 a5 a6 a7 a8 a9 a10 a11 a12 a13 a14 a15 a16 a17 a18 a19 a20 a21 a22 a23 a24 a25 a26 a27 a28 a29 a30 a31 a32 a33 a34 a35 a36 a37 a38 a39 a40 a41 p0 p1 p2 p3 p4 p5 p6 p7 p8 p9 p10 p11 p12 p13 p14 p15 p16 p17 p18 p19 p20 p21 p22 p23 p24 p25 p26 p27 p28 p29 p30 p31 p32 p33 p34 p35 p36 p37 p38 p39 p40 p41 cI wf) {d : Nat} (hd : 3 ≤ d) {z : SX7} {x1 x2 x3 : Int32} {q : Int32} (h : fX7_row z x1 x2 x3 = some q) : Ct l yX7_row cX7_row 4 (some .int) d A g D [(cI, .int), (cB, .byte)] [.ref a0, .int x1, .int x2, .int x3] (wf z) (QI A D (wf z) q) := by
  refine mkM (by decide) (Nat.le_of_ble_eq_true rfl) ?_
  intro p e S m args below meth c B X ls hl
  have B : Bd RX7 cX7_row 4 (some .int) d A g D [(cI, .int), (cB, .byte)] p (rmd d) S m args meth c := B
  have hx := B.1
  have hb := B.2.1
  have hd1 : 1 ≤ d := by omega
  have hl : lv_has ls 4 [(0, .ref a0), (1, .int x1), (2, .int x2), (3, .int x3)] := hl
  unfold fX7_row at h
  refine lv_aload_n hx hb dX7_row_0 rfl (lv_at hl 0 rfl) ?_
  refine fG B X (LnX7_g L z) 2 rfl inTX7 (by decide) kw293 rfl dX7_row_1 ?_
  refine lv_iload_n hx hb dX7_row_4 rfl (lv_at hl 1 rfl) ?_
  refine lv_iload_n hx hb dX7_row_5 rfl (lv_at hl 2 rfl) ?_
  obtain ⟨q1, h1, h⟩ := bs h
  refine kI X (cVN (As := [.int x1, .int x2]) (rest := []) B X (tX6_hasRow (d := d - 1) (LnX3_s0 (LnX7_s1 L z) z.2.1) (by omega) h1) mfX6_hasRow kn506 (by omega) (LnX6_g (LnX3_s0 (LnX7_s1 L z) z.2.1) z.2.1.1) rfl rfl (Nat.le_of_ble_eq_true rfl) hl.1 ⟨Nat.zero_le _, Nat.zero_le _⟩ dX7_row_6) (fun H locs X => ?_)
  have X : Hx A D S.heap (wf z) H locs := X
  refine lv_if_ne (tgt := 15) hx hb dX7_row_9 (by decide) (fun hc2 => ?_) (fun hc2 => ?_)
  · have h := ie h hc2
    refine lv_iload_n hx hb dX7_row_15 rfl (lv_at hl 3 rfl) ?_
    refine lv_if_lt (tgt := 24) hx hb dX7_row_16 (by decide) (fun hc3 => ?_) (fun hc3 => ?_)
    · have h := it h hc3
      refine lv_bipush (v := (-102)) hx hb dX7_row_24 (by decide) ?_
      exact rI B X rfl (Option.some.inj h) dX7_row_26
    · have h := ie h hc3
      refine lv_iload_n hx hb dX7_row_19 rfl (lv_at hl 3 rfl) ?_
      refine lv_iconst (v := 1) hx hb dX7_row_20 (by decide) ?_
      refine lv_icmp_le (tgt := 27) hx hb dX7_row_21 (by decide) (fun hc4 => ?_) (fun hc4 => ?_)
      · have h := it h hc4
        refine lv_iload_n hx hb dX7_row_27 rfl (lv_at hl 3 rfl) ?_
        refine lv_if_ne (tgt := 46) hx hb dX7_row_28 (by decide) (fun hc5 => ?_) (fun hc5 => ?_)
        · have h := ie h hc5
          refine lv_aload_n hx hb dX7_row_46 rfl (lv_at hl 0 rfl) ?_
          refine fG B X (LnX7_g L z) 2 rfl inTX7 (by decide) kw293 rfl dX7_row_47 ?_
          refine lv_iload_n hx hb dX7_row_50 rfl (lv_at hl 1 rfl) ?_
          refine lv_iload_n hx hb dX7_row_51 rfl (lv_at hl 2 rfl) ?_
          obtain ⟨q6, h6, h⟩ := bs h
          refine kI X (cVN (As := [.int x1, .int x2]) (rest := []) B X (tX6_partners (d := d - 1) (LnX3_s0 (LnX7_s1 L z) z.2.1) (by omega) h6) mfX6_partners kn526 (by omega) (LnX6_g (LnX3_s0 (LnX7_s1 L z) z.2.1) z.2.1.1) rfl rfl (Nat.le_of_ble_eq_true rfl) hl.1 ⟨Nat.zero_le _, Nat.zero_le _⟩ dX7_row_52) (fun H locs X => ?_)
          have X : Hx A D S.heap (wf z) H locs := X
          obtain ⟨q7, h7, h⟩ := bs h
          refine kI X (cS (As := [.int q6]) (rest := []) B X (tJ6_bitCount_0f7a4 (d := d - 1) (by omega) h7) msJ6_bitCount_0f7a4 kw538 (by omega) rfl (Nat.le_of_ble_eq_true rfl) hl.1 ⟨Nat.zero_le _, Nat.zero_le _⟩ dX7_row_55) (fun H locs X => ?_)
          have X : Hx A D S.heap (wf z) H locs := X
          exact rI B X rfl (Option.some.inj h) dX7_row_58
        · have h := it h hc5
          refine lv_aload_n hx hb dX7_row_31 rfl (lv_at hl 0 rfl) ?_
          refine fG B X (LnX7_g L z) 2 rfl inTX7 (by decide) kw293 rfl dX7_row_32 ?_
          refine lv_iload_n hx hb dX7_row_35 rfl (lv_at hl 1 rfl) ?_
          by_cases hc8 : (x1 = 0)
          · have h := it h hc8
            refine kR X (cVN (As := [.int x1]) (rest := []) B X (tX6_sideOf_L (d := d - 1) (LnX3_s0 (LnX7_s1 L z) z.2.1) (by omega) hc8) mfX6_sideOf kn521 (by omega) (LnX6_g (LnX3_s0 (LnX7_s1 L z) z.2.1) z.2.1.1) rfl rfl (Nat.le_of_ble_eq_true rfl) hl.1 ⟨Nat.zero_le _, Nat.zero_le _⟩ dX7_row_36) (fun H locs X => ?_)
            have X : Hx A D S.heap (wf z) H locs := X
            refine lv_iload_n hx hb dX7_row_39 rfl (lv_at hl 2 rfl) ?_
            obtain ⟨q9, h9, h⟩ := bs h
            refine kI X (cVN (As := [.int x2]) (rest := []) B X (tX5_keyAt (d := d - 1) (LnX6_s0 (LnX3_s0 (LnX7_s1 L z) z.2.1) z.2.1.1) (by omega) h9) mfX5_keyAt kn522 (by omega) (LnX5_g (LnX6_s0 (LnX3_s0 (LnX7_s1 L z) z.2.1) z.2.1.1) z.2.1.1.1) rfl rfl (Nat.le_of_ble_eq_true rfl) hl.1 ⟨Nat.zero_le _, Nat.zero_le _⟩ dX7_row_40) (fun H locs X => ?_)
            have X : Hx A D S.heap (wf z) H locs := X
            refine lv_goto (tgt := 58) hx hb dX7_row_43 (by decide) ?_
            exact rI B X rfl (Option.some.inj h) dX7_row_58
          · have h := ie h hc8
            refine kR X (cVN (As := [.int x1]) (rest := []) B X (tX6_sideOf_R (d := d - 1) (LnX3_s0 (LnX7_s1 L z) z.2.1) (by omega) hc8) mfX6_sideOf kn521 (by omega) (LnX6_g (LnX3_s0 (LnX7_s1 L z) z.2.1) z.2.1.1) rfl rfl (Nat.le_of_ble_eq_true rfl) hl.1 ⟨Nat.zero_le _, Nat.zero_le _⟩ dX7_row_36) (fun H locs X => ?_)
            have X : Hx A D S.heap (wf z) H locs := X
            refine lv_iload_n hx hb dX7_row_39 rfl (lv_at hl 2 rfl) ?_
            obtain ⟨q10, h10, h⟩ := bs h
            refine kI X (cVN (As := [.int x2]) (rest := []) B X (tX5_keyAt (d := d - 1) (LnX6_s1 (LnX3_s0 (LnX7_s1 L z) z.2.1) z.2.1.1) (by omega) h10) mfX5_keyAt kn522 (by omega) (LnX5_g (LnX6_s1 (LnX3_s0 (LnX7_s1 L z) z.2.1) z.2.1.1) z.2.1.1.2.1) rfl rfl (Nat.le_of_ble_eq_true rfl) hl.1 ⟨Nat.zero_le _, Nat.zero_le _⟩ dX7_row_40) (fun H locs X => ?_)
            have X : Hx A D S.heap (wf z) H locs := X
            refine lv_goto (tgt := 58) hx hb dX7_row_43 (by decide) ?_
            exact rI B X rfl (Option.some.inj h) dX7_row_58
      · have h := ie h hc4
        refine lv_bipush (v := (-102)) hx hb dX7_row_24 (by decide) ?_
        exact rI B X rfl (Option.some.inj h) dX7_row_26
  · have h := it h hc2
    refine lv_bipush (v := (-101)) hx hb dX7_row_12 (by decide) ?_
    exact rI B X rfl (Option.some.inj h) dX7_row_14
def fX7_as_b58 (z : SX7) : Option Int32 :=
    some (-1)
set_option maxRecDepth 100000 in
set_option maxHeartbeats 4000000 in
theorem tX7_as_b58 {a0 a1 a2 a3 a4 a5 a6 a7 a8 a9 a10 a11 a12 a13 a14 a15 a16 a17 a18 a19 a20 a21 a22 a23 a24 a25 a26 a27 a28 a29 a30 a31 a32 a33 a34 a35 a36 a37 a38 a39 a40 a41 p0 p1 p2 p3 p4 p5 p6 p7 p8 p9 p10 p11 p12 p13 p14 p15 p16 p17 p18 p19 p20 p21 p22 p23 p24 p25 p26 p27 p28 p29 p30 p31 p32 p33 p34 p35 p36 p37 p38 p39 p40 p41 : Nat} {wf : SX7 → va_W} (L : LnX7 a0 a1 a2 a3 a4 a5 a6 a7 a8 a9 a10 a11 a12 a13 a14 a15 a16 a17 a18 a19 a20 a21 a22 a23 a24 a25 a26 a27 a28 a29 a30 a31 a32 a33 a34 a35 a36 a37 a38 a39 a40 a41 p0 p1 p2 p3 p4 p5 p6 p7 p8 p9 p10 p11 p12 p13 p14 p15 p16 p17 p18 p19 p20 p21 p22 p23 p24 p25 p26 p27 p28 p29 p30 p31 p32 p33 p34 p35 p36 p37 p38 p39 p40 p41 cI wf) {d : Nat} (hd : 2 ≤ d) {z : SX7} (B : Bd RX7 cX7_as 3 (some .int) d A g D [(cI, .int), (cB, .byte)] p R S m args meth c) {q : Int32} : ∀  (H : Heap) (locs : List Loc) (ls : Array Slot), Hx A D S.heap (wf z) H locs → lv_has ls 3 [(0, .ref a0)] → fX7_as_b58 z = some q → W p l e R S m args below meth c H locs 0 0 (MQ below (QI A D (wf z) q) args S 0 0 A) (F0 m 58 ls []) := by
  have hx := B.1
  have hb := B.2.1
  have hd1 : 1 ≤ d := by omega
  intro  H locs ls X hl h
  unfold fX7_as_b58 at h
  refine lv_iconst (v := 0) hx hb dX7_as_58 (by decide) ?_
  refine lv_istore_n (lv' := [(2, .int 0), (0, .ref a0)]) hx hb dX7_as_59 rfl hl (by decide) rfl (fun ls hl => ?_)
  refine lv_iload_n hx hb dX7_as_60 rfl (lv_at hl 0 rfl) ?_
  refine lv_if_eq (tgt := 74) hx hb dX7_as_61 (by decide) (fun hc1 => ?_) (fun hc1 => ?_)
  · refine lv_iconst (v := (-1)) hx hb dX7_as_74 (by decide) ?_
    exact rI B X rfl (Option.some.inj h) dX7_as_75
  · exact absurd hc1 (by decide)
def fX7_as_b54 (z : SX7) : Option Int32 :=
    some z.2.1.1.2.2.2
set_option maxRecDepth 100000 in
set_option maxHeartbeats 4000000 in
theorem tX7_as_b54 {a0 a1 a2 a3 a4 a5 a6 a7 a8 a9 a10 a11 a12 a13 a14 a15 a16 a17 a18 a19 a20 a21 a22 a23 a24 a25 a26 a27 a28 a29 a30 a31 a32 a33 a34 a35 a36 a37 a38 a39 a40 a41 p0 p1 p2 p3 p4 p5 p6 p7 p8 p9 p10 p11 p12 p13 p14 p15 p16 p17 p18 p19 p20 p21 p22 p23 p24 p25 p26 p27 p28 p29 p30 p31 p32 p33 p34 p35 p36 p37 p38 p39 p40 p41 : Nat} {wf : SX7 → va_W} (L : LnX7 a0 a1 a2 a3 a4 a5 a6 a7 a8 a9 a10 a11 a12 a13 a14 a15 a16 a17 a18 a19 a20 a21 a22 a23 a24 a25 a26 a27 a28 a29 a30 a31 a32 a33 a34 a35 a36 a37 a38 a39 a40 a41 p0 p1 p2 p3 p4 p5 p6 p7 p8 p9 p10 p11 p12 p13 p14 p15 p16 p17 p18 p19 p20 p21 p22 p23 p24 p25 p26 p27 p28 p29 p30 p31 p32 p33 p34 p35 p36 p37 p38 p39 p40 p41 cI wf) {d : Nat} (hd : 2 ≤ d) {z : SX7} (B : Bd RX7 cX7_as 3 (some .int) d A g D [(cI, .int), (cB, .byte)] p R S m args meth c) {q : Int32} : ∀  (H : Heap) (locs : List Loc) (ls : Array Slot), Hx A D S.heap (wf z) H locs → lv_has ls 3 [(0, .ref a0)] → fX7_as_b54 z = some q → W p l e R S m args below meth c H locs 0 0 (MQ below (QI A D (wf z) q) args S 0 0 A) (F0 m 54 ls []) := by
  have hx := B.1
  have hb := B.2.1
  have hd1 : 1 ≤ d := by omega
  intro  H locs ls X hl h
  unfold fX7_as_b54 at h
  refine lv_iconst (v := 1) hx hb dX7_as_54 (by decide) ?_
  refine lv_goto (tgt := 59) hx hb dX7_as_55 (by decide) ?_
  refine lv_istore_n (lv' := [(2, .int 1), (0, .ref a0)]) hx hb dX7_as_59 rfl hl (by decide) rfl (fun ls hl => ?_)
  refine lv_iload_n hx hb dX7_as_60 rfl (lv_at hl 0 rfl) ?_
  refine lv_if_eq (tgt := 74) hx hb dX7_as_61 (by decide) (fun hc1 => ?_) (fun hc1 => ?_)
  · exact absurd hc1 (by decide)
  refine lv_aload_n hx hb dX7_as_64 rfl (lv_at hl 1 rfl) ?_
  refine fG B X (LnX7_g L z) 2 rfl inTX7 (by decide) kw293 rfl dX7_as_65 ?_
  refine fGN B X (LnX6_g (LnX3_s0 (LnX7_s1 L z) z.2.1) z.2.1.1) 3 rfl inTX6 (by decide) kn184 rfl dX7_as_68 ?_
  refine lv_goto (tgt := 75) hx hb dX7_as_71 (by decide) ?_
  exact rI B X rfl (Option.some.inj h) dX7_as_75
def fX7_as (z : SX7) (x1 : Int32) : Option Int32 :=
    (fX7_isKind x1).bind fun q1 =>
    if q1 = 0 then (some (-102)) else
    ((fX6_areThere z.2.1.1).bind fun q3 =>
    if q3 = 0 then (some (-103)) else
    (if x1 = 0 then (fX7_as_b54 z) else
    (if x1 = z.2.1.1.2.2.2 then (fX7_as_b54 z) else
    (if x1 = 1 then (if z.2.1.1.2.2.2 = 4 then (fX7_as_b54 z) else
    (fX7_as_b58 z)) else
    (fX7_as_b58 z)))))
set_option maxRecDepth 100000 in
set_option maxHeartbeats 4000000 in
theorem tX7_as {a0 a1 a2 a3 a4 a5 a6 a7 a8 a9 a10 a11 a12 a13 a14 a15 a16 a17 a18 a19 a20 a21 a22 a23 a24 a25 a26 a27 a28 a29 a30 a31 a32 a33 a34 a35 a36 a37 a38 a39 a40 a41 p0 p1 p2 p3 p4 p5 p6 p7 p8 p9 p10 p11 p12 p13 p14 p15 p16 p17 p18 p19 p20 p21 p22 p23 p24 p25 p26 p27 p28 p29 p30 p31 p32 p33 p34 p35 p36 p37 p38 p39 p40 p41 : Nat} {wf : SX7 → va_W} (L : LnX7 a0 a1 a2 a3 a4 a5 a6 a7 a8 a9 a10 a11 a12 a13 a14 a15 a16 a17 a18 a19 a20 a21 a22 a23 a24 a25 a26 a27 a28 a29 a30 a31 a32 a33 a34 a35 a36 a37 a38 a39 a40 a41 p0 p1 p2 p3 p4 p5 p6 p7 p8 p9 p10 p11 p12 p13 p14 p15 p16 p17 p18 p19 p20 p21 p22 p23 p24 p25 p26 p27 p28 p29 p30 p31 p32 p33 p34 p35 p36 p37 p38 p39 p40 p41 cI wf) {d : Nat} (hd : 2 ≤ d) {z : SX7} {x1 : Int32} {q : Int32} (h : fX7_as z x1 = some q) : Ct l yX7_as cX7_as 3 (some .int) d A g D [(cI, .int), (cB, .byte)] [.ref a0, .int x1] (wf z) (QI A D (wf z) q) := by
  refine mkM (by decide) (Nat.le_of_ble_eq_true rfl) ?_
  intro p e S m args below meth c B X ls hl
  have B : Bd RX7 cX7_as 3 (some .int) d A g D [(cI, .int), (cB, .byte)] p (rmd d) S m args meth c := B
  have hx := B.1
  have hb := B.2.1
  have hd1 : 1 ≤ d := by omega
  have hl : lv_has ls 3 [(0, .ref a0), (1, .int x1)] := hl
  unfold fX7_as at h
  refine lv_iload_n hx hb dX7_as_0 rfl (lv_at hl 1 rfl) ?_
  obtain ⟨q1, h1, h⟩ := bs h
  refine kI X (cS (As := [.int x1]) (rest := []) B X (tX7_isKind (d := d - 1) (by omega) h1) msX7_isKind kw548 (by omega) rfl (Nat.le_of_ble_eq_true rfl) hl.1 ⟨Nat.zero_le _, Nat.zero_le _⟩ dX7_as_1) (fun H locs X => ?_)
  have X : Hx A D S.heap (wf z) H locs := X
  refine lv_if_ne (tgt := 10) hx hb dX7_as_4 (by decide) (fun hc2 => ?_) (fun hc2 => ?_)
  · have h := ie h hc2
    refine lv_aload_n hx hb dX7_as_10 rfl (lv_at hl 0 rfl) ?_
    refine fG B X (LnX7_g L z) 2 rfl inTX7 (by decide) kw293 rfl dX7_as_11 ?_
    obtain ⟨q3, h3, h⟩ := bs h
    refine kI X (cVN (As := []) (rest := []) B X (tX6_areThere (d := d - 1) (LnX3_s0 (LnX7_s1 L z) z.2.1) (by omega) h3) mfX6_areThere kn551 (by omega) (LnX6_g (LnX3_s0 (LnX7_s1 L z) z.2.1) z.2.1.1) rfl rfl (Nat.le_of_ble_eq_true rfl) hl.1 ⟨Nat.zero_le _, Nat.zero_le _⟩ dX7_as_14) (fun H locs X => ?_)
    have X : Hx A D S.heap (wf z) H locs := X
    refine lv_if_ne (tgt := 23) hx hb dX7_as_17 (by decide) (fun hc4 => ?_) (fun hc4 => ?_)
    · have h := ie h hc4
      refine lv_iload_n hx hb dX7_as_23 rfl (lv_at hl 1 rfl) ?_
      refine lv_if_eq (tgt := 54) hx hb dX7_as_24 (by decide) (fun hc5 => ?_) (fun hc5 => ?_)
      · have h := it h hc5
        exact tX7_as_b54 L hd B _ _ _ X (lv_sub hl [0] rfl) h
      · have h := ie h hc5
        refine lv_iload_n hx hb dX7_as_27 rfl (lv_at hl 1 rfl) ?_
        refine lv_aload_n hx hb dX7_as_28 rfl (lv_at hl 0 rfl) ?_
        refine fG B X (LnX7_g L z) 2 rfl inTX7 (by decide) kw293 rfl dX7_as_29 ?_
        refine fGN B X (LnX6_g (LnX3_s0 (LnX7_s1 L z) z.2.1) z.2.1.1) 3 rfl inTX6 (by decide) kn184 rfl dX7_as_32 ?_
        refine lv_icmp_eq (tgt := 54) hx hb dX7_as_35 (by decide) (fun hc6 => ?_) (fun hc6 => ?_)
        · have h := it h hc6
          exact tX7_as_b54 L hd B _ _ _ X (lv_sub hl [0] rfl) h
        · have h := ie h hc6
          refine lv_iload_n hx hb dX7_as_38 rfl (lv_at hl 1 rfl) ?_
          refine lv_iconst (v := 1) hx hb dX7_as_39 (by decide) ?_
          refine lv_icmp_ne (tgt := 58) hx hb dX7_as_40 (by decide) (fun hc7 => ?_) (fun hc7 => ?_)
          · have h := ie h hc7
            exact tX7_as_b58 L hd B _ _ _ X (lv_sub hl [0] rfl) h
          · have h := it h hc7
            refine lv_aload_n hx hb dX7_as_43 rfl (lv_at hl 0 rfl) ?_
            refine fG B X (LnX7_g L z) 2 rfl inTX7 (by decide) kw293 rfl dX7_as_44 ?_
            refine fGN B X (LnX6_g (LnX3_s0 (LnX7_s1 L z) z.2.1) z.2.1.1) 3 rfl inTX6 (by decide) kn184 rfl dX7_as_47 ?_
            refine lv_iconst (v := 4) hx hb dX7_as_50 (by decide) ?_
            refine lv_icmp_ne (tgt := 58) hx hb dX7_as_51 (by decide) (fun hc8 => ?_) (fun hc8 => ?_)
            · have h := ie h hc8
              exact tX7_as_b58 L hd B _ _ _ X (lv_sub hl [0] rfl) h
            · have h := it h hc8
              exact tX7_as_b54 L hd B _ _ _ X (lv_sub hl [0] rfl) h
    · have h := it h hc4
      refine lv_bipush (v := (-103)) hx hb dX7_as_20 (by decide) ?_
      exact rI B X rfl (Option.some.inj h) dX7_as_22
  · have h := it h hc2
    refine lv_bipush (v := (-102)) hx hb dX7_as_7 (by decide) ?_
    exact rI B X rfl (Option.some.inj h) dX7_as_9
def fX7_put (z : SX7) (x1 : Int32) (x2 : Int32) : Option (Int32 × SX7) :=
    (fX7_isSide x1).bind fun q1 =>
    if q1 = 0 then (some ((-101), z)) else
    ((fX7_isKeyOrNone x2).bind fun q3 =>
    if q3 = 0 then (some ((-102), z)) else
    ((fX6_areThere z.2.1.1).bind fun q5 =>
    if q5 = 0 then (some ((-103), z)) else
    (if x1 = 0 then (if z.2.1.1.1.2 < 14 then ((fX5_add z.2.1.1.1 x2).bind fun q9 =>
    some (q9.2, (z.1, ((q9, z.2.1.1.2.1, z.2.1.1.2.2.1, z.2.1.1.2.2.2), z.2.1.2.1, z.2.1.2.2.1, z.2.1.2.2.2.1, z.2.1.2.2.2.2), z.2.2.1, z.2.2.2.1, z.2.2.2.2.1, z.2.2.2.2.2.1, z.2.2.2.2.2.2.1, z.2.2.2.2.2.2.2.1, z.2.2.2.2.2.2.2.2))) else
    (some ((-104), z))) else
    (if z.2.1.1.2.1.2 < 14 then ((fX5_add z.2.1.1.2.1 x2).bind fun q11 =>
    some (q11.2, (z.1, ((z.2.1.1.1, q11, z.2.1.1.2.2.1, z.2.1.1.2.2.2), z.2.1.2.1, z.2.1.2.2.1, z.2.1.2.2.2.1, z.2.1.2.2.2.2), z.2.2.1, z.2.2.2.1, z.2.2.2.2.1, z.2.2.2.2.2.1, z.2.2.2.2.2.2.1, z.2.2.2.2.2.2.2.1, z.2.2.2.2.2.2.2.2))) else
    (some ((-104), z))))))
set_option maxRecDepth 100000 in
set_option maxHeartbeats 4000000 in
theorem tX7_put {a0 a1 a2 a3 a4 a5 a6 a7 a8 a9 a10 a11 a12 a13 a14 a15 a16 a17 a18 a19 a20 a21 a22 a23 a24 a25 a26 a27 a28 a29 a30 a31 a32 a33 a34 a35 a36 a37 a38 a39 a40 a41 p0 p1 p2 p3 p4 p5 p6 p7 p8 p9 p10 p11 p12 p13 p14 p15 p16 p17 p18 p19 p20 p21 p22 p23 p24 p25 p26 p27 p28 p29 p30 p31 p32 p33 p34 p35 p36 p37 p38 p39 p40 p41 : Nat} {wf : SX7 → va_W} (L : LnX7 a0 a1 a2 a3 a4 a5 a6 a7 a8 a9 a10 a11 a12 a13 a14 a15 a16 a17 a18 a19 a20 a21 a22 a23 a24 a25 a26 a27 a28 a29 a30 a31 a32 a33 a34 a35 a36 a37 a38 a39 a40 a41 p0 p1 p2 p3 p4 p5 p6 p7 p8 p9 p10 p11 p12 p13 p14 p15 p16 p17 p18 p19 p20 p21 p22 p23 p24 p25 p26 p27 p28 p29 p30 p31 p32 p33 p34 p35 p36 p37 p38 p39 p40 p41 cI wf) {d : Nat} (hd : 2 ≤ d) {z : SX7} {x1 x2 : Int32} {q : Int32 × SX7} (h : fX7_put z x1 x2 = some q) : Ct l yX7_put cX7_put 4 (some .int) d A g D [(cI, .int), (cB, .byte)] [.ref a0, .int x1, .int x2] (wf z) (QI A D (wf q.2) q.1) := by
  refine mkM (by decide) (Nat.le_of_ble_eq_true rfl) ?_
  intro p e S m args below meth c B X ls hl
  have B : Bd RX7 cX7_put 4 (some .int) d A g D [(cI, .int), (cB, .byte)] p (rmd d) S m args meth c := B
  have hx := B.1
  have hb := B.2.1
  have hd1 : 1 ≤ d := by omega
  have hl : lv_has ls 4 [(0, .ref a0), (1, .int x1), (2, .int x2)] := hl
  unfold fX7_put at h
  refine lv_iload_n hx hb dX7_put_0 rfl (lv_at hl 1 rfl) ?_
  obtain ⟨q1, h1, h⟩ := bs h
  refine kI X (cS (As := [.int x1]) (rest := []) B X (tX7_isSide (d := d - 1) (by omega) h1) msX7_isSide kw559 (by omega) rfl (Nat.le_of_ble_eq_true rfl) hl.1 ⟨Nat.zero_le _, Nat.zero_le _⟩ dX7_put_1) (fun H locs X => ?_)
  have X : Hx A D S.heap (wf z) H locs := X
  refine lv_if_ne (tgt := 10) hx hb dX7_put_4 (by decide) (fun hc2 => ?_) (fun hc2 => ?_)
  · have h := ie h hc2
    refine lv_iload_n hx hb dX7_put_10 rfl (lv_at hl 2 rfl) ?_
    obtain ⟨q3, h3, h⟩ := bs h
    refine kI X (cS (As := [.int x2]) (rest := []) B X (tX7_isKeyOrNone (d := d - 1) (by omega) h3) msX7_isKeyOrNone kw560 (by omega) rfl (Nat.le_of_ble_eq_true rfl) hl.1 ⟨Nat.zero_le _, Nat.zero_le _⟩ dX7_put_11) (fun H locs X => ?_)
    have X : Hx A D S.heap (wf z) H locs := X
    refine lv_if_ne (tgt := 20) hx hb dX7_put_14 (by decide) (fun hc4 => ?_) (fun hc4 => ?_)
    · have h := ie h hc4
      refine lv_aload_n hx hb dX7_put_20 rfl (lv_at hl 0 rfl) ?_
      refine fG B X (LnX7_g L z) 2 rfl inTX7 (by decide) kw293 rfl dX7_put_21 ?_
      obtain ⟨q5, h5, h⟩ := bs h
      refine kI X (cVN (As := []) (rest := []) B X (tX6_areThere (d := d - 1) (LnX3_s0 (LnX7_s1 L z) z.2.1) (by omega) h5) mfX6_areThere kn551 (by omega) (LnX6_g (LnX3_s0 (LnX7_s1 L z) z.2.1) z.2.1.1) rfl rfl (Nat.le_of_ble_eq_true rfl) hl.1 ⟨Nat.zero_le _, Nat.zero_le _⟩ dX7_put_24) (fun H locs X => ?_)
      have X : Hx A D S.heap (wf z) H locs := X
      refine lv_if_ne (tgt := 33) hx hb dX7_put_27 (by decide) (fun hc6 => ?_) (fun hc6 => ?_)
      · have h := ie h hc6
        refine lv_aload_n hx hb dX7_put_33 rfl (lv_at hl 0 rfl) ?_
        refine fG B X (LnX7_g L z) 2 rfl inTX7 (by decide) kw293 rfl dX7_put_34 ?_
        refine lv_iload_n hx hb dX7_put_37 rfl (lv_at hl 1 rfl) ?_
        by_cases hc7 : (x1 = 0)
        · have h := it h hc7
          refine kR X (cVN (As := [.int x1]) (rest := []) B X (tX6_sideOf_L (d := d - 1) (LnX3_s0 (LnX7_s1 L z) z.2.1) (by omega) hc7) mfX6_sideOf kn521 (by omega) (LnX6_g (LnX3_s0 (LnX7_s1 L z) z.2.1) z.2.1.1) rfl rfl (Nat.le_of_ble_eq_true rfl) hl.1 ⟨Nat.zero_le _, Nat.zero_le _⟩ dX7_put_38) (fun H locs X => ?_)
          have X : Hx A D S.heap (wf z) H locs := X
          refine lv_astore_n (lv' := [(3, .ref a5), (0, .ref a0), (1, .int x1), (2, .int x2)]) hx hb dX7_put_41 rfl hl (by decide) rfl (fun ls hl => ?_)
          refine lv_aload_n hx hb dX7_put_42 rfl (lv_at hl 0 rfl) ?_
          refine fGN B X (LnX5_g (LnX6_s0 (LnX3_s0 (LnX7_s1 L z) z.2.1) z.2.1.1) z.2.1.1.1) 1 rfl inTX5 (by decide) kn168 rfl dX7_put_43 ?_
          refine lv_bipush (v := 14) hx hb dX7_put_46 (by decide) ?_
          refine lv_icmp_lt (tgt := 54) hx hb dX7_put_48 (by decide) (fun hc8 => ?_) (fun hc8 => ?_)
          · have h := it h hc8
            refine lv_aload_n hx hb dX7_put_54 rfl (lv_at hl 0 rfl) ?_
            refine lv_iload_n hx hb dX7_put_55 rfl (lv_at hl 3 rfl) ?_
            obtain ⟨q9, h9, h⟩ := bs h
            refine kV X (cVN (As := [.int x2]) (rest := []) B X (tX5_add (d := d - 1) (LnX6_s0 (LnX3_s0 (LnX7_s1 L z) z.2.1) z.2.1.1) (by omega) h9) mfX5_add kn563 (by omega) (LnX5_g (LnX6_s0 (LnX3_s0 (LnX7_s1 L z) z.2.1) z.2.1.1) z.2.1.1.1) rfl rfl (Nat.le_of_ble_eq_true rfl) hl.1 ⟨Nat.zero_le _, Nat.zero_le _⟩ dX7_put_56) (fun H locs X => ?_)
            have X : Hx A D S.heap (wf (z.1, ((q9, z.2.1.1.2.1, z.2.1.1.2.2.1, z.2.1.1.2.2.2), z.2.1.2.1, z.2.1.2.2.1, z.2.1.2.2.2.1, z.2.1.2.2.2.2), z.2.2.1, z.2.2.2.1, z.2.2.2.2.1, z.2.2.2.2.2.1, z.2.2.2.2.2.2.1, z.2.2.2.2.2.2.2.1, z.2.2.2.2.2.2.2.2)) H locs := X
            refine lv_aload_n hx hb dX7_put_59 rfl (lv_at hl 0 rfl) ?_
            refine fGN B X (LnX5_g (LnX6_s0 (LnX3_s0 (LnX7_s1 L (z.1, ((q9, z.2.1.1.2.1, z.2.1.1.2.2.1, z.2.1.1.2.2.2), z.2.1.2.1, z.2.1.2.2.1, z.2.1.2.2.2.1, z.2.1.2.2.2.2), z.2.2.1, z.2.2.2.1, z.2.2.2.2.1, z.2.2.2.2.2.1, z.2.2.2.2.2.2.1, z.2.2.2.2.2.2.2.1, z.2.2.2.2.2.2.2.2)) ((q9, z.2.1.1.2.1, z.2.1.1.2.2.1, z.2.1.1.2.2.2), z.2.1.2.1, z.2.1.2.2.1, z.2.1.2.2.2.1, z.2.1.2.2.2.2)) (q9, z.2.1.1.2.1, z.2.1.1.2.2.1, z.2.1.1.2.2.2)) q9) 1 rfl inTX5 (by decide) kn168 rfl dX7_put_60 ?_
            exact rI B X (congrArg (fun q => wf q.2) (Option.some.inj h)) (congrArg (fun q => q.1) (Option.some.inj h)) dX7_put_63
          · have h := ie h hc8
            refine lv_bipush (v := (-104)) hx hb dX7_put_51 (by decide) ?_
            exact rI B X (congrArg (fun q => wf q.2) (Option.some.inj h)) (congrArg (fun q => q.1) (Option.some.inj h)) dX7_put_53
        · have h := ie h hc7
          refine kR X (cVN (As := [.int x1]) (rest := []) B X (tX6_sideOf_R (d := d - 1) (LnX3_s0 (LnX7_s1 L z) z.2.1) (by omega) hc7) mfX6_sideOf kn521 (by omega) (LnX6_g (LnX3_s0 (LnX7_s1 L z) z.2.1) z.2.1.1) rfl rfl (Nat.le_of_ble_eq_true rfl) hl.1 ⟨Nat.zero_le _, Nat.zero_le _⟩ dX7_put_38) (fun H locs X => ?_)
          have X : Hx A D S.heap (wf z) H locs := X
          refine lv_astore_n (lv' := [(3, .ref a7), (0, .ref a0), (1, .int x1), (2, .int x2)]) hx hb dX7_put_41 rfl hl (by decide) rfl (fun ls hl => ?_)
          refine lv_aload_n hx hb dX7_put_42 rfl (lv_at hl 0 rfl) ?_
          refine fGN B X (LnX5_g (LnX6_s1 (LnX3_s0 (LnX7_s1 L z) z.2.1) z.2.1.1) z.2.1.1.2.1) 1 rfl inTX5 (by decide) kn168 rfl dX7_put_43 ?_
          refine lv_bipush (v := 14) hx hb dX7_put_46 (by decide) ?_
          refine lv_icmp_lt (tgt := 54) hx hb dX7_put_48 (by decide) (fun hc10 => ?_) (fun hc10 => ?_)
          · have h := it h hc10
            refine lv_aload_n hx hb dX7_put_54 rfl (lv_at hl 0 rfl) ?_
            refine lv_iload_n hx hb dX7_put_55 rfl (lv_at hl 3 rfl) ?_
            obtain ⟨q11, h11, h⟩ := bs h
            refine kV X (cVN (As := [.int x2]) (rest := []) B X (tX5_add (d := d - 1) (LnX6_s1 (LnX3_s0 (LnX7_s1 L z) z.2.1) z.2.1.1) (by omega) h11) mfX5_add kn563 (by omega) (LnX5_g (LnX6_s1 (LnX3_s0 (LnX7_s1 L z) z.2.1) z.2.1.1) z.2.1.1.2.1) rfl rfl (Nat.le_of_ble_eq_true rfl) hl.1 ⟨Nat.zero_le _, Nat.zero_le _⟩ dX7_put_56) (fun H locs X => ?_)
            have X : Hx A D S.heap (wf (z.1, ((z.2.1.1.1, q11, z.2.1.1.2.2.1, z.2.1.1.2.2.2), z.2.1.2.1, z.2.1.2.2.1, z.2.1.2.2.2.1, z.2.1.2.2.2.2), z.2.2.1, z.2.2.2.1, z.2.2.2.2.1, z.2.2.2.2.2.1, z.2.2.2.2.2.2.1, z.2.2.2.2.2.2.2.1, z.2.2.2.2.2.2.2.2)) H locs := X
            refine lv_aload_n hx hb dX7_put_59 rfl (lv_at hl 0 rfl) ?_
            refine fGN B X (LnX5_g (LnX6_s1 (LnX3_s0 (LnX7_s1 L (z.1, ((z.2.1.1.1, q11, z.2.1.1.2.2.1, z.2.1.1.2.2.2), z.2.1.2.1, z.2.1.2.2.1, z.2.1.2.2.2.1, z.2.1.2.2.2.2), z.2.2.1, z.2.2.2.1, z.2.2.2.2.1, z.2.2.2.2.2.1, z.2.2.2.2.2.2.1, z.2.2.2.2.2.2.2.1, z.2.2.2.2.2.2.2.2)) ((z.2.1.1.1, q11, z.2.1.1.2.2.1, z.2.1.1.2.2.2), z.2.1.2.1, z.2.1.2.2.1, z.2.1.2.2.2.1, z.2.1.2.2.2.2)) (z.2.1.1.1, q11, z.2.1.1.2.2.1, z.2.1.1.2.2.2)) q11) 1 rfl inTX5 (by decide) kn168 rfl dX7_put_60 ?_
            exact rI B X (congrArg (fun q => wf q.2) (Option.some.inj h)) (congrArg (fun q => q.1) (Option.some.inj h)) dX7_put_63
          · have h := ie h hc10
            refine lv_bipush (v := (-104)) hx hb dX7_put_51 (by decide) ?_
            exact rI B X (congrArg (fun q => wf q.2) (Option.some.inj h)) (congrArg (fun q => q.1) (Option.some.inj h)) dX7_put_53
      · have h := it h hc6
        refine lv_bipush (v := (-103)) hx hb dX7_put_30 (by decide) ?_
        exact rI B X (congrArg (fun q => wf q.2) (Option.some.inj h)) (congrArg (fun q => q.1) (Option.some.inj h)) dX7_put_32
    · have h := it h hc4
      refine lv_bipush (v := (-102)) hx hb dX7_put_17 (by decide) ?_
      exact rI B X (congrArg (fun q => wf q.2) (Option.some.inj h)) (congrArg (fun q => q.1) (Option.some.inj h)) dX7_put_19
  · have h := it h hc2
    refine lv_bipush (v := (-101)) hx hb dX7_put_7 (by decide) ?_
    exact rI B X (congrArg (fun q => wf q.2) (Option.some.inj h)) (congrArg (fun q => q.1) (Option.some.inj h)) dX7_put_9
def fX7_take (z : SX7) (x1 : Int32) (x2 : Int32) : Option (Int32 × SX7) :=
    (fX6_hasRow z.2.1.1 x1 x2).bind fun q1 =>
    if q1 = 0 then (some ((-101), z)) else
    (if x1 = 0 then ((fX5_keyAt z.2.1.1.1 x2).bind fun q4 =>
    (fX5_remove z.2.1.1.1 x2).bind fun q5 =>
    some (q4, (z.1, ((q5, z.2.1.1.2.1, z.2.1.1.2.2.1, z.2.1.1.2.2.2), z.2.1.2.1, z.2.1.2.2.1, z.2.1.2.2.2.1, z.2.1.2.2.2.2), z.2.2.1, z.2.2.2.1, z.2.2.2.2.1, z.2.2.2.2.2.1, z.2.2.2.2.2.2.1, z.2.2.2.2.2.2.2.1, z.2.2.2.2.2.2.2.2))) else
    ((fX5_keyAt z.2.1.1.2.1 x2).bind fun q6 =>
    (fX5_remove z.2.1.1.2.1 x2).bind fun q7 =>
    some (q6, (z.1, ((z.2.1.1.1, q7, z.2.1.1.2.2.1, z.2.1.1.2.2.2), z.2.1.2.1, z.2.1.2.2.1, z.2.1.2.2.2.1, z.2.1.2.2.2.2), z.2.2.1, z.2.2.2.1, z.2.2.2.2.1, z.2.2.2.2.2.1, z.2.2.2.2.2.2.1, z.2.2.2.2.2.2.2.1, z.2.2.2.2.2.2.2.2))))
set_option maxRecDepth 100000 in
set_option maxHeartbeats 4000000 in
theorem tX7_take {a0 a1 a2 a3 a4 a5 a6 a7 a8 a9 a10 a11 a12 a13 a14 a15 a16 a17 a18 a19 a20 a21 a22 a23 a24 a25 a26 a27 a28 a29 a30 a31 a32 a33 a34 a35 a36 a37 a38 a39 a40 a41 p0 p1 p2 p3 p4 p5 p6 p7 p8 p9 p10 p11 p12 p13 p14 p15 p16 p17 p18 p19 p20 p21 p22 p23 p24 p25 p26 p27 p28 p29 p30 p31 p32 p33 p34 p35 p36 p37 p38 p39 p40 p41 : Nat} {wf : SX7 → va_W} (L : LnX7 a0 a1 a2 a3 a4 a5 a6 a7 a8 a9 a10 a11 a12 a13 a14 a15 a16 a17 a18 a19 a20 a21 a22 a23 a24 a25 a26 a27 a28 a29 a30 a31 a32 a33 a34 a35 a36 a37 a38 a39 a40 a41 p0 p1 p2 p3 p4 p5 p6 p7 p8 p9 p10 p11 p12 p13 p14 p15 p16 p17 p18 p19 p20 p21 p22 p23 p24 p25 p26 p27 p28 p29 p30 p31 p32 p33 p34 p35 p36 p37 p38 p39 p40 p41 cI wf) {d : Nat} (hd : 4 ≤ d) {z : SX7} {x1 x2 : Int32} {q : Int32 × SX7} (h : fX7_take z x1 x2 = some q) : Ct l yX7_take cX7_take 5 (some .int) d A g D [(cI, .int), (cB, .byte)] [.ref a0, .int x1, .int x2] (wf z) (QI A D (wf q.2) q.1) := by
  refine mkM (by decide) (Nat.le_of_ble_eq_true rfl) ?_
  intro p e S m args below meth c B X ls hl
  have B : Bd RX7 cX7_take 5 (some .int) d A g D [(cI, .int), (cB, .byte)] p (rmd d) S m args meth c := B
  have hx := B.1
  have hb := B.2.1
  have hd1 : 1 ≤ d := by omega
  have hl : lv_has ls 5 [(0, .ref a0), (1, .int x1), (2, .int x2)] := hl
  unfold fX7_take at h
  refine lv_aload_n hx hb dX7_take_0 rfl (lv_at hl 0 rfl) ?_
  refine fG B X (LnX7_g L z) 2 rfl inTX7 (by decide) kw293 rfl dX7_take_1 ?_
  refine lv_iload_n hx hb dX7_take_4 rfl (lv_at hl 1 rfl) ?_
  refine lv_iload_n hx hb dX7_take_5 rfl (lv_at hl 2 rfl) ?_
  obtain ⟨q1, h1, h⟩ := bs h
  refine kI X (cVN (As := [.int x1, .int x2]) (rest := []) B X (tX6_hasRow (d := d - 1) (LnX3_s0 (LnX7_s1 L z) z.2.1) (by omega) h1) mfX6_hasRow kn506 (by omega) (LnX6_g (LnX3_s0 (LnX7_s1 L z) z.2.1) z.2.1.1) rfl rfl (Nat.le_of_ble_eq_true rfl) hl.1 ⟨Nat.zero_le _, Nat.zero_le _⟩ dX7_take_6) (fun H locs X => ?_)
  have X : Hx A D S.heap (wf z) H locs := X
  refine lv_if_ne (tgt := 15) hx hb dX7_take_9 (by decide) (fun hc2 => ?_) (fun hc2 => ?_)
  · have h := ie h hc2
    refine lv_aload_n hx hb dX7_take_15 rfl (lv_at hl 0 rfl) ?_
    refine fG B X (LnX7_g L z) 2 rfl inTX7 (by decide) kw293 rfl dX7_take_16 ?_
    refine lv_iload_n hx hb dX7_take_19 rfl (lv_at hl 1 rfl) ?_
    by_cases hc3 : (x1 = 0)
    · have h := it h hc3
      refine kR X (cVN (As := [.int x1]) (rest := []) B X (tX6_sideOf_L (d := d - 1) (LnX3_s0 (LnX7_s1 L z) z.2.1) (by omega) hc3) mfX6_sideOf kn521 (by omega) (LnX6_g (LnX3_s0 (LnX7_s1 L z) z.2.1) z.2.1.1) rfl rfl (Nat.le_of_ble_eq_true rfl) hl.1 ⟨Nat.zero_le _, Nat.zero_le _⟩ dX7_take_20) (fun H locs X => ?_)
      have X : Hx A D S.heap (wf z) H locs := X
      refine lv_astore_n (lv' := [(3, .ref a5), (0, .ref a0), (1, .int x1), (2, .int x2)]) hx hb dX7_take_23 rfl hl (by decide) rfl (fun ls hl => ?_)
      refine lv_aload_n hx hb dX7_take_24 rfl (lv_at hl 0 rfl) ?_
      refine lv_iload_n hx hb dX7_take_25 rfl (lv_at hl 3 rfl) ?_
      obtain ⟨q4, h4, h⟩ := bs h
      refine kI X (cVN (As := [.int x2]) (rest := []) B X (tX5_keyAt (d := d - 1) (LnX6_s0 (LnX3_s0 (LnX7_s1 L z) z.2.1) z.2.1.1) (by omega) h4) mfX5_keyAt kn522 (by omega) (LnX5_g (LnX6_s0 (LnX3_s0 (LnX7_s1 L z) z.2.1) z.2.1.1) z.2.1.1.1) rfl rfl (Nat.le_of_ble_eq_true rfl) hl.1 ⟨Nat.zero_le _, Nat.zero_le _⟩ dX7_take_26) (fun H locs X => ?_)
      have X : Hx A D S.heap (wf z) H locs := X
      refine lv_istore (lv' := [(4, .int q4), (3, .ref a5), (0, .ref a0), (1, .int x1), (2, .int x2)]) hx hb dX7_take_29 hl (by decide) rfl (fun ls hl => ?_)
      refine lv_aload_n hx hb dX7_take_31 rfl (lv_at hl 1 rfl) ?_
      refine lv_iload_n hx hb dX7_take_32 rfl (lv_at hl 4 rfl) ?_
      obtain ⟨q5, h5, h⟩ := bs h
      refine kV X (cVN (As := [.int x2]) (rest := []) B X (tX5_remove (d := d - 1) (LnX6_s0 (LnX3_s0 (LnX7_s1 L z) z.2.1) z.2.1.1) (by omega) h5) mfX5_remove kn568 (by omega) (LnX5_g (LnX6_s0 (LnX3_s0 (LnX7_s1 L z) z.2.1) z.2.1.1) z.2.1.1.1) rfl rfl (Nat.le_of_ble_eq_true rfl) hl.1 ⟨Nat.zero_le _, Nat.zero_le _⟩ dX7_take_33) (fun H locs X => ?_)
      have X : Hx A D S.heap (wf (z.1, ((q5, z.2.1.1.2.1, z.2.1.1.2.2.1, z.2.1.1.2.2.2), z.2.1.2.1, z.2.1.2.2.1, z.2.1.2.2.2.1, z.2.1.2.2.2.2), z.2.2.1, z.2.2.2.1, z.2.2.2.2.1, z.2.2.2.2.2.1, z.2.2.2.2.2.2.1, z.2.2.2.2.2.2.2.1, z.2.2.2.2.2.2.2.2)) H locs := X
      refine lv_iload hx hb dX7_take_36 (lv_at hl 0 rfl) ?_
      exact rI B X (congrArg (fun q => wf q.2) (Option.some.inj h)) (congrArg (fun q => q.1) (Option.some.inj h)) dX7_take_38
    · have h := ie h hc3
      refine kR X (cVN (As := [.int x1]) (rest := []) B X (tX6_sideOf_R (d := d - 1) (LnX3_s0 (LnX7_s1 L z) z.2.1) (by omega) hc3) mfX6_sideOf kn521 (by omega) (LnX6_g (LnX3_s0 (LnX7_s1 L z) z.2.1) z.2.1.1) rfl rfl (Nat.le_of_ble_eq_true rfl) hl.1 ⟨Nat.zero_le _, Nat.zero_le _⟩ dX7_take_20) (fun H locs X => ?_)
      have X : Hx A D S.heap (wf z) H locs := X
      refine lv_astore_n (lv' := [(3, .ref a7), (0, .ref a0), (1, .int x1), (2, .int x2)]) hx hb dX7_take_23 rfl hl (by decide) rfl (fun ls hl => ?_)
      refine lv_aload_n hx hb dX7_take_24 rfl (lv_at hl 0 rfl) ?_
      refine lv_iload_n hx hb dX7_take_25 rfl (lv_at hl 3 rfl) ?_
      obtain ⟨q6, h6, h⟩ := bs h
      refine kI X (cVN (As := [.int x2]) (rest := []) B X (tX5_keyAt (d := d - 1) (LnX6_s1 (LnX3_s0 (LnX7_s1 L z) z.2.1) z.2.1.1) (by omega) h6) mfX5_keyAt kn522 (by omega) (LnX5_g (LnX6_s1 (LnX3_s0 (LnX7_s1 L z) z.2.1) z.2.1.1) z.2.1.1.2.1) rfl rfl (Nat.le_of_ble_eq_true rfl) hl.1 ⟨Nat.zero_le _, Nat.zero_le _⟩ dX7_take_26) (fun H locs X => ?_)
      have X : Hx A D S.heap (wf z) H locs := X
      refine lv_istore (lv' := [(4, .int q6), (3, .ref a7), (0, .ref a0), (1, .int x1), (2, .int x2)]) hx hb dX7_take_29 hl (by decide) rfl (fun ls hl => ?_)
      refine lv_aload_n hx hb dX7_take_31 rfl (lv_at hl 1 rfl) ?_
      refine lv_iload_n hx hb dX7_take_32 rfl (lv_at hl 4 rfl) ?_
      obtain ⟨q7, h7, h⟩ := bs h
      refine kV X (cVN (As := [.int x2]) (rest := []) B X (tX5_remove (d := d - 1) (LnX6_s1 (LnX3_s0 (LnX7_s1 L z) z.2.1) z.2.1.1) (by omega) h7) mfX5_remove kn568 (by omega) (LnX5_g (LnX6_s1 (LnX3_s0 (LnX7_s1 L z) z.2.1) z.2.1.1) z.2.1.1.2.1) rfl rfl (Nat.le_of_ble_eq_true rfl) hl.1 ⟨Nat.zero_le _, Nat.zero_le _⟩ dX7_take_33) (fun H locs X => ?_)
      have X : Hx A D S.heap (wf (z.1, ((z.2.1.1.1, q7, z.2.1.1.2.2.1, z.2.1.1.2.2.2), z.2.1.2.1, z.2.1.2.2.1, z.2.1.2.2.2.1, z.2.1.2.2.2.2), z.2.2.1, z.2.2.2.1, z.2.2.2.2.1, z.2.2.2.2.2.1, z.2.2.2.2.2.2.1, z.2.2.2.2.2.2.2.1, z.2.2.2.2.2.2.2.2)) H locs := X
      refine lv_iload hx hb dX7_take_36 (lv_at hl 0 rfl) ?_
      exact rI B X (congrArg (fun q => wf q.2) (Option.some.inj h)) (congrArg (fun q => q.1) (Option.some.inj h)) dX7_take_38
  · have h := it h hc2
    refine lv_bipush (v := (-101)) hx hb dX7_take_12 (by decide) ?_
    exact rI B X (congrArg (fun q => wf q.2) (Option.some.inj h)) (congrArg (fun q => q.1) (Option.some.inj h)) dX7_take_14
def fX7_key (z : SX7) (x1 : Int32) (x2 : Int32) (x3 : Int32) : Option (Int32 × SX7) :=
    (fX6_hasRow z.2.1.1 x1 x2).bind fun q1 =>
    if q1 = 0 then (some ((-101), z)) else
    ((fX7_isKeyOrNone x3).bind fun q3 =>
    if q3 = 0 then (some ((-102), z)) else
    (if x1 = 0 then ((fX5_keyAt z.2.1.1.1 x2).bind fun q6 =>
    (fX5_change z.2.1.1.1 x2 x3).bind fun q7 =>
    some (q6, (z.1, ((q7, z.2.1.1.2.1, z.2.1.1.2.2.1, z.2.1.1.2.2.2), z.2.1.2.1, z.2.1.2.2.1, z.2.1.2.2.2.1, z.2.1.2.2.2.2), z.2.2.1, z.2.2.2.1, z.2.2.2.2.1, z.2.2.2.2.2.1, z.2.2.2.2.2.2.1, z.2.2.2.2.2.2.2.1, z.2.2.2.2.2.2.2.2))) else
    ((fX5_keyAt z.2.1.1.2.1 x2).bind fun q8 =>
    (fX5_change z.2.1.1.2.1 x2 x3).bind fun q9 =>
    some (q8, (z.1, ((z.2.1.1.1, q9, z.2.1.1.2.2.1, z.2.1.1.2.2.2), z.2.1.2.1, z.2.1.2.2.1, z.2.1.2.2.2.1, z.2.1.2.2.2.2), z.2.2.1, z.2.2.2.1, z.2.2.2.2.1, z.2.2.2.2.2.1, z.2.2.2.2.2.2.1, z.2.2.2.2.2.2.2.1, z.2.2.2.2.2.2.2.2)))))
set_option maxRecDepth 100000 in
set_option maxHeartbeats 4000000 in
theorem tX7_key {a0 a1 a2 a3 a4 a5 a6 a7 a8 a9 a10 a11 a12 a13 a14 a15 a16 a17 a18 a19 a20 a21 a22 a23 a24 a25 a26 a27 a28 a29 a30 a31 a32 a33 a34 a35 a36 a37 a38 a39 a40 a41 p0 p1 p2 p3 p4 p5 p6 p7 p8 p9 p10 p11 p12 p13 p14 p15 p16 p17 p18 p19 p20 p21 p22 p23 p24 p25 p26 p27 p28 p29 p30 p31 p32 p33 p34 p35 p36 p37 p38 p39 p40 p41 : Nat} {wf : SX7 → va_W} (L : LnX7 a0 a1 a2 a3 a4 a5 a6 a7 a8 a9 a10 a11 a12 a13 a14 a15 a16 a17 a18 a19 a20 a21 a22 a23 a24 a25 a26 a27 a28 a29 a30 a31 a32 a33 a34 a35 a36 a37 a38 a39 a40 a41 p0 p1 p2 p3 p4 p5 p6 p7 p8 p9 p10 p11 p12 p13 p14 p15 p16 p17 p18 p19 p20 p21 p22 p23 p24 p25 p26 p27 p28 p29 p30 p31 p32 p33 p34 p35 p36 p37 p38 p39 p40 p41 cI wf) {d : Nat} (hd : 3 ≤ d) {z : SX7} {x1 x2 x3 : Int32} {q : Int32 × SX7} (h : fX7_key z x1 x2 x3 = some q) : Ct l yX7_key cX7_key 6 (some .int) d A g D [(cI, .int), (cB, .byte)] [.ref a0, .int x1, .int x2, .int x3] (wf z) (QI A D (wf q.2) q.1) := by
  refine mkM (by decide) (Nat.le_of_ble_eq_true rfl) ?_
  intro p e S m args below meth c B X ls hl
  have B : Bd RX7 cX7_key 6 (some .int) d A g D [(cI, .int), (cB, .byte)] p (rmd d) S m args meth c := B
  have hx := B.1
  have hb := B.2.1
  have hd1 : 1 ≤ d := by omega
  have hl : lv_has ls 6 [(0, .ref a0), (1, .int x1), (2, .int x2), (3, .int x3)] := hl
  unfold fX7_key at h
  refine lv_aload_n hx hb dX7_key_0 rfl (lv_at hl 0 rfl) ?_
  refine fG B X (LnX7_g L z) 2 rfl inTX7 (by decide) kw293 rfl dX7_key_1 ?_
  refine lv_iload_n hx hb dX7_key_4 rfl (lv_at hl 1 rfl) ?_
  refine lv_iload_n hx hb dX7_key_5 rfl (lv_at hl 2 rfl) ?_
  obtain ⟨q1, h1, h⟩ := bs h
  refine kI X (cVN (As := [.int x1, .int x2]) (rest := []) B X (tX6_hasRow (d := d - 1) (LnX3_s0 (LnX7_s1 L z) z.2.1) (by omega) h1) mfX6_hasRow kn506 (by omega) (LnX6_g (LnX3_s0 (LnX7_s1 L z) z.2.1) z.2.1.1) rfl rfl (Nat.le_of_ble_eq_true rfl) hl.1 ⟨Nat.zero_le _, Nat.zero_le _⟩ dX7_key_6) (fun H locs X => ?_)
  have X : Hx A D S.heap (wf z) H locs := X
  refine lv_if_ne (tgt := 15) hx hb dX7_key_9 (by decide) (fun hc2 => ?_) (fun hc2 => ?_)
  · have h := ie h hc2
    refine lv_iload_n hx hb dX7_key_15 rfl (lv_at hl 3 rfl) ?_
    obtain ⟨q3, h3, h⟩ := bs h
    refine kI X (cS (As := [.int x3]) (rest := []) B X (tX7_isKeyOrNone (d := d - 1) (by omega) h3) msX7_isKeyOrNone kw560 (by omega) rfl (Nat.le_of_ble_eq_true rfl) hl.1 ⟨Nat.zero_le _, Nat.zero_le _⟩ dX7_key_16) (fun H locs X => ?_)
    have X : Hx A D S.heap (wf z) H locs := X
    refine lv_if_ne (tgt := 25) hx hb dX7_key_19 (by decide) (fun hc4 => ?_) (fun hc4 => ?_)
    · have h := ie h hc4
      refine lv_aload_n hx hb dX7_key_25 rfl (lv_at hl 0 rfl) ?_
      refine fG B X (LnX7_g L z) 2 rfl inTX7 (by decide) kw293 rfl dX7_key_26 ?_
      refine lv_iload_n hx hb dX7_key_29 rfl (lv_at hl 1 rfl) ?_
      by_cases hc5 : (x1 = 0)
      · have h := it h hc5
        refine kR X (cVN (As := [.int x1]) (rest := []) B X (tX6_sideOf_L (d := d - 1) (LnX3_s0 (LnX7_s1 L z) z.2.1) (by omega) hc5) mfX6_sideOf kn521 (by omega) (LnX6_g (LnX3_s0 (LnX7_s1 L z) z.2.1) z.2.1.1) rfl rfl (Nat.le_of_ble_eq_true rfl) hl.1 ⟨Nat.zero_le _, Nat.zero_le _⟩ dX7_key_30) (fun H locs X => ?_)
        have X : Hx A D S.heap (wf z) H locs := X
        refine lv_astore (lv' := [(4, .ref a5), (0, .ref a0), (1, .int x1), (2, .int x2), (3, .int x3)]) hx hb dX7_key_33 hl (by decide) rfl (fun ls hl => ?_)
        refine lv_aload hx hb dX7_key_35 (lv_at hl 0 rfl) ?_
        refine lv_iload_n hx hb dX7_key_37 rfl (lv_at hl 3 rfl) ?_
        obtain ⟨q6, h6, h⟩ := bs h
        refine kI X (cVN (As := [.int x2]) (rest := []) B X (tX5_keyAt (d := d - 1) (LnX6_s0 (LnX3_s0 (LnX7_s1 L z) z.2.1) z.2.1.1) (by omega) h6) mfX5_keyAt kn522 (by omega) (LnX5_g (LnX6_s0 (LnX3_s0 (LnX7_s1 L z) z.2.1) z.2.1.1) z.2.1.1.1) rfl rfl (Nat.le_of_ble_eq_true rfl) hl.1 ⟨Nat.zero_le _, Nat.zero_le _⟩ dX7_key_38) (fun H locs X => ?_)
        have X : Hx A D S.heap (wf z) H locs := X
        refine lv_istore (lv' := [(5, .int q6), (4, .ref a5), (0, .ref a0), (1, .int x1), (2, .int x2), (3, .int x3)]) hx hb dX7_key_41 hl (by decide) rfl (fun ls hl => ?_)
        refine lv_aload hx hb dX7_key_43 (lv_at hl 1 rfl) ?_
        refine lv_iload_n hx hb dX7_key_45 rfl (lv_at hl 4 rfl) ?_
        refine lv_iload_n hx hb dX7_key_46 rfl (lv_at hl 5 rfl) ?_
        obtain ⟨q7, h7, h⟩ := bs h
        refine kV X (cVN (As := [.int x2, .int x3]) (rest := []) B X (tX5_change (d := d - 1) (LnX6_s0 (LnX3_s0 (LnX7_s1 L z) z.2.1) z.2.1.1) (by omega) h7) mfX5_change kn582 (by omega) (LnX5_g (LnX6_s0 (LnX3_s0 (LnX7_s1 L z) z.2.1) z.2.1.1) z.2.1.1.1) rfl rfl (Nat.le_of_ble_eq_true rfl) hl.1 ⟨Nat.zero_le _, Nat.zero_le _⟩ dX7_key_47) (fun H locs X => ?_)
        have X : Hx A D S.heap (wf (z.1, ((q7, z.2.1.1.2.1, z.2.1.1.2.2.1, z.2.1.1.2.2.2), z.2.1.2.1, z.2.1.2.2.1, z.2.1.2.2.2.1, z.2.1.2.2.2.2), z.2.2.1, z.2.2.2.1, z.2.2.2.2.1, z.2.2.2.2.2.1, z.2.2.2.2.2.2.1, z.2.2.2.2.2.2.2.1, z.2.2.2.2.2.2.2.2)) H locs := X
        refine lv_iload hx hb dX7_key_50 (lv_at hl 0 rfl) ?_
        exact rI B X (congrArg (fun q => wf q.2) (Option.some.inj h)) (congrArg (fun q => q.1) (Option.some.inj h)) dX7_key_52
      · have h := ie h hc5
        refine kR X (cVN (As := [.int x1]) (rest := []) B X (tX6_sideOf_R (d := d - 1) (LnX3_s0 (LnX7_s1 L z) z.2.1) (by omega) hc5) mfX6_sideOf kn521 (by omega) (LnX6_g (LnX3_s0 (LnX7_s1 L z) z.2.1) z.2.1.1) rfl rfl (Nat.le_of_ble_eq_true rfl) hl.1 ⟨Nat.zero_le _, Nat.zero_le _⟩ dX7_key_30) (fun H locs X => ?_)
        have X : Hx A D S.heap (wf z) H locs := X
        refine lv_astore (lv' := [(4, .ref a7), (0, .ref a0), (1, .int x1), (2, .int x2), (3, .int x3)]) hx hb dX7_key_33 hl (by decide) rfl (fun ls hl => ?_)
        refine lv_aload hx hb dX7_key_35 (lv_at hl 0 rfl) ?_
        refine lv_iload_n hx hb dX7_key_37 rfl (lv_at hl 3 rfl) ?_
        obtain ⟨q8, h8, h⟩ := bs h
        refine kI X (cVN (As := [.int x2]) (rest := []) B X (tX5_keyAt (d := d - 1) (LnX6_s1 (LnX3_s0 (LnX7_s1 L z) z.2.1) z.2.1.1) (by omega) h8) mfX5_keyAt kn522 (by omega) (LnX5_g (LnX6_s1 (LnX3_s0 (LnX7_s1 L z) z.2.1) z.2.1.1) z.2.1.1.2.1) rfl rfl (Nat.le_of_ble_eq_true rfl) hl.1 ⟨Nat.zero_le _, Nat.zero_le _⟩ dX7_key_38) (fun H locs X => ?_)
        have X : Hx A D S.heap (wf z) H locs := X
        refine lv_istore (lv' := [(5, .int q8), (4, .ref a7), (0, .ref a0), (1, .int x1), (2, .int x2), (3, .int x3)]) hx hb dX7_key_41 hl (by decide) rfl (fun ls hl => ?_)
        refine lv_aload hx hb dX7_key_43 (lv_at hl 1 rfl) ?_
        refine lv_iload_n hx hb dX7_key_45 rfl (lv_at hl 4 rfl) ?_
        refine lv_iload_n hx hb dX7_key_46 rfl (lv_at hl 5 rfl) ?_
        obtain ⟨q9, h9, h⟩ := bs h
        refine kV X (cVN (As := [.int x2, .int x3]) (rest := []) B X (tX5_change (d := d - 1) (LnX6_s1 (LnX3_s0 (LnX7_s1 L z) z.2.1) z.2.1.1) (by omega) h9) mfX5_change kn582 (by omega) (LnX5_g (LnX6_s1 (LnX3_s0 (LnX7_s1 L z) z.2.1) z.2.1.1) z.2.1.1.2.1) rfl rfl (Nat.le_of_ble_eq_true rfl) hl.1 ⟨Nat.zero_le _, Nat.zero_le _⟩ dX7_key_47) (fun H locs X => ?_)
        have X : Hx A D S.heap (wf (z.1, ((z.2.1.1.1, q9, z.2.1.1.2.2.1, z.2.1.1.2.2.2), z.2.1.2.1, z.2.1.2.2.1, z.2.1.2.2.2.1, z.2.1.2.2.2.2), z.2.2.1, z.2.2.2.1, z.2.2.2.2.1, z.2.2.2.2.2.1, z.2.2.2.2.2.2.1, z.2.2.2.2.2.2.2.1, z.2.2.2.2.2.2.2.2)) H locs := X
        refine lv_iload hx hb dX7_key_50 (lv_at hl 0 rfl) ?_
        exact rI B X (congrArg (fun q => wf q.2) (Option.some.inj h)) (congrArg (fun q => q.1) (Option.some.inj h)) dX7_key_52
    · have h := it h hc4
      refine lv_bipush (v := (-102)) hx hb dX7_key_22 (by decide) ?_
      exact rI B X (congrArg (fun q => wf q.2) (Option.some.inj h)) (congrArg (fun q => q.1) (Option.some.inj h)) dX7_key_24
  · have h := it h hc2
    refine lv_bipush (v := (-101)) hx hb dX7_key_12 (by decide) ?_
    exact rI B X (congrArg (fun q => wf q.2) (Option.some.inj h)) (congrArg (fun q => q.1) (Option.some.inj h)) dX7_key_14
def fX7_memory (z : SX7) (x1 : Int32) : Option (Int32 × SX7) :=
    if x1 < 1 then (some ((-102), z)) else
    (if x1 ≤ 9 then ((fX6_areThere z.2.1.1).bind fun q3 =>
    if q3 = 0 then (some ((-103), z)) else
    (some (z.2.1.1.2.2.1, (z.1, ((z.2.1.1.1, z.2.1.1.2.1, x1, z.2.1.1.2.2.2), z.2.1.2.1, z.2.1.2.2.1, z.2.1.2.2.2.1, z.2.1.2.2.2.2), z.2.2.1, z.2.2.2.1, z.2.2.2.2.1, z.2.2.2.2.2.1, z.2.2.2.2.2.2.1, z.2.2.2.2.2.2.2.1, z.2.2.2.2.2.2.2.2)))) else
    (some ((-102), z)))
set_option maxRecDepth 100000 in
set_option maxHeartbeats 4000000 in
theorem tX7_memory {a0 a1 a2 a3 a4 a5 a6 a7 a8 a9 a10 a11 a12 a13 a14 a15 a16 a17 a18 a19 a20 a21 a22 a23 a24 a25 a26 a27 a28 a29 a30 a31 a32 a33 a34 a35 a36 a37 a38 a39 a40 a41 p0 p1 p2 p3 p4 p5 p6 p7 p8 p9 p10 p11 p12 p13 p14 p15 p16 p17 p18 p19 p20 p21 p22 p23 p24 p25 p26 p27 p28 p29 p30 p31 p32 p33 p34 p35 p36 p37 p38 p39 p40 p41 : Nat} {wf : SX7 → va_W} (L : LnX7 a0 a1 a2 a3 a4 a5 a6 a7 a8 a9 a10 a11 a12 a13 a14 a15 a16 a17 a18 a19 a20 a21 a22 a23 a24 a25 a26 a27 a28 a29 a30 a31 a32 a33 a34 a35 a36 a37 a38 a39 a40 a41 p0 p1 p2 p3 p4 p5 p6 p7 p8 p9 p10 p11 p12 p13 p14 p15 p16 p17 p18 p19 p20 p21 p22 p23 p24 p25 p26 p27 p28 p29 p30 p31 p32 p33 p34 p35 p36 p37 p38 p39 p40 p41 cI wf) {d : Nat} (hd : 2 ≤ d) {z : SX7} {x1 : Int32} {q : Int32 × SX7} (h : fX7_memory z x1 = some q) : Ct l yX7_memory cX7_memory 3 (some .int) d A g D [(cI, .int), (cB, .byte)] [.ref a0, .int x1] (wf z) (QI A D (wf q.2) q.1) := by
  refine mkM (by decide) (Nat.le_of_ble_eq_true rfl) ?_
  intro p e S m args below meth c B X ls hl
  have B : Bd RX7 cX7_memory 3 (some .int) d A g D [(cI, .int), (cB, .byte)] p (rmd d) S m args meth c := B
  have hx := B.1
  have hb := B.2.1
  have hd1 : 1 ≤ d := by omega
  have hl : lv_has ls 3 [(0, .ref a0), (1, .int x1)] := hl
  unfold fX7_memory at h
  refine lv_iload_n hx hb dX7_memory_0 rfl (lv_at hl 1 rfl) ?_
  refine lv_iconst (v := 1) hx hb dX7_memory_1 (by decide) ?_
  refine lv_icmp_lt (tgt := 11) hx hb dX7_memory_2 (by decide) (fun hc1 => ?_) (fun hc1 => ?_)
  · have h := it h hc1
    refine lv_bipush (v := (-102)) hx hb dX7_memory_11 (by decide) ?_
    exact rI B X (congrArg (fun q => wf q.2) (Option.some.inj h)) (congrArg (fun q => q.1) (Option.some.inj h)) dX7_memory_13
  · have h := ie h hc1
    refine lv_iload_n hx hb dX7_memory_5 rfl (lv_at hl 1 rfl) ?_
    refine lv_bipush (v := 9) hx hb dX7_memory_6 (by decide) ?_
    refine lv_icmp_le (tgt := 14) hx hb dX7_memory_8 (by decide) (fun hc2 => ?_) (fun hc2 => ?_)
    · have h := it h hc2
      refine lv_aload_n hx hb dX7_memory_14 rfl (lv_at hl 0 rfl) ?_
      refine fG B X (LnX7_g L z) 2 rfl inTX7 (by decide) kw293 rfl dX7_memory_15 ?_
      obtain ⟨q3, h3, h⟩ := bs h
      refine kI X (cVN (As := []) (rest := []) B X (tX6_areThere (d := d - 1) (LnX3_s0 (LnX7_s1 L z) z.2.1) (by omega) h3) mfX6_areThere kn551 (by omega) (LnX6_g (LnX3_s0 (LnX7_s1 L z) z.2.1) z.2.1.1) rfl rfl (Nat.le_of_ble_eq_true rfl) hl.1 ⟨Nat.zero_le _, Nat.zero_le _⟩ dX7_memory_18) (fun H locs X => ?_)
      have X : Hx A D S.heap (wf z) H locs := X
      refine lv_if_ne (tgt := 27) hx hb dX7_memory_21 (by decide) (fun hc4 => ?_) (fun hc4 => ?_)
      · have h := ie h hc4
        refine lv_aload_n hx hb dX7_memory_27 rfl (lv_at hl 0 rfl) ?_
        refine fG B X (LnX7_g L z) 2 rfl inTX7 (by decide) kw293 rfl dX7_memory_28 ?_
        refine fGN B X (LnX6_g (LnX3_s0 (LnX7_s1 L z) z.2.1) z.2.1.1) 2 rfl inTX6 (by decide) kn181 rfl dX7_memory_31 ?_
        refine lv_istore_n (lv' := [(2, .int z.2.1.1.2.2.1), (0, .ref a0), (1, .int x1)]) hx hb dX7_memory_34 rfl hl (by decide) rfl (fun ls hl => ?_)
        refine lv_aload_n hx hb dX7_memory_35 rfl (lv_at hl 1 rfl) ?_
        refine fG B X (LnX7_g L z) 2 rfl inTX7 (by decide) kw293 rfl dX7_memory_36 ?_
        refine lv_iload_n hx hb dX7_memory_39 rfl (lv_at hl 2 rfl) ?_
        refine fPN tyX6 B X (LnX6_g (LnX3_s0 (LnX7_s1 L z) z.2.1) z.2.1.1) 2 (LnX6_i2 (LnX3_s0 (LnX7_s1 L z) z.2.1) z.2.1.1 _) rfl inTX6 tyX6_ok nmX6 (by decide) kn181 rfl rfl rfl rfl (Nat.le_of_ble_eq_true rfl) dX7_memory_40 (fun H locs X => ?_)
        have X : Hx A D S.heap (wf (z.1, ((z.2.1.1.1, z.2.1.1.2.1, x1, z.2.1.1.2.2.2), z.2.1.2.1, z.2.1.2.2.1, z.2.1.2.2.2.1, z.2.1.2.2.2.2), z.2.2.1, z.2.2.2.1, z.2.2.2.2.1, z.2.2.2.2.2.1, z.2.2.2.2.2.2.1, z.2.2.2.2.2.2.2.1, z.2.2.2.2.2.2.2.2)) H locs := X
        refine lv_iload_n hx hb dX7_memory_43 rfl (lv_at hl 0 rfl) ?_
        exact rI B X (congrArg (fun q => wf q.2) (Option.some.inj h)) (congrArg (fun q => q.1) (Option.some.inj h)) dX7_memory_44
      · have h := it h hc4
        refine lv_bipush (v := (-103)) hx hb dX7_memory_24 (by decide) ?_
        exact rI B X (congrArg (fun q => wf q.2) (Option.some.inj h)) (congrArg (fun q => q.1) (Option.some.inj h)) dX7_memory_26
    · have h := ie h hc2
      refine lv_bipush (v := (-102)) hx hb dX7_memory_11 (by decide) ?_
      exact rI B X (congrArg (fun q => wf q.2) (Option.some.inj h)) (congrArg (fun q => q.1) (Option.some.inj h)) dX7_memory_13
def fX7_be (z : SX7) (x1 : Int32) : Option (Int32 × SX7) :=
    (fX7_isKind x1).bind fun q1 =>
    if q1 = 0 then (some ((-102), z)) else
    ((fX6_areThere z.2.1.1).bind fun q3 =>
    if q3 = 0 then (some ((-103), z)) else
    (some (z.2.1.1.2.2.2, (z.1, ((z.2.1.1.1, z.2.1.1.2.1, z.2.1.1.2.2.1, x1), z.2.1.2.1, z.2.1.2.2.1, z.2.1.2.2.2.1, z.2.1.2.2.2.2), z.2.2.1, z.2.2.2.1, z.2.2.2.2.1, z.2.2.2.2.2.1, z.2.2.2.2.2.2.1, z.2.2.2.2.2.2.2.1, z.2.2.2.2.2.2.2.2))))
set_option maxRecDepth 100000 in
set_option maxHeartbeats 4000000 in
theorem tX7_be {a0 a1 a2 a3 a4 a5 a6 a7 a8 a9 a10 a11 a12 a13 a14 a15 a16 a17 a18 a19 a20 a21 a22 a23 a24 a25 a26 a27 a28 a29 a30 a31 a32 a33 a34 a35 a36 a37 a38 a39 a40 a41 p0 p1 p2 p3 p4 p5 p6 p7 p8 p9 p10 p11 p12 p13 p14 p15 p16 p17 p18 p19 p20 p21 p22 p23 p24 p25 p26 p27 p28 p29 p30 p31 p32 p33 p34 p35 p36 p37 p38 p39 p40 p41 : Nat} {wf : SX7 → va_W} (L : LnX7 a0 a1 a2 a3 a4 a5 a6 a7 a8 a9 a10 a11 a12 a13 a14 a15 a16 a17 a18 a19 a20 a21 a22 a23 a24 a25 a26 a27 a28 a29 a30 a31 a32 a33 a34 a35 a36 a37 a38 a39 a40 a41 p0 p1 p2 p3 p4 p5 p6 p7 p8 p9 p10 p11 p12 p13 p14 p15 p16 p17 p18 p19 p20 p21 p22 p23 p24 p25 p26 p27 p28 p29 p30 p31 p32 p33 p34 p35 p36 p37 p38 p39 p40 p41 cI wf) {d : Nat} (hd : 2 ≤ d) {z : SX7} {x1 : Int32} {q : Int32 × SX7} (h : fX7_be z x1 = some q) : Ct l yX7_be cX7_be 3 (some .int) d A g D [(cI, .int), (cB, .byte)] [.ref a0, .int x1] (wf z) (QI A D (wf q.2) q.1) := by
  refine mkM (by decide) (Nat.le_of_ble_eq_true rfl) ?_
  intro p e S m args below meth c B X ls hl
  have B : Bd RX7 cX7_be 3 (some .int) d A g D [(cI, .int), (cB, .byte)] p (rmd d) S m args meth c := B
  have hx := B.1
  have hb := B.2.1
  have hd1 : 1 ≤ d := by omega
  have hl : lv_has ls 3 [(0, .ref a0), (1, .int x1)] := hl
  unfold fX7_be at h
  refine lv_iload_n hx hb dX7_be_0 rfl (lv_at hl 1 rfl) ?_
  obtain ⟨q1, h1, h⟩ := bs h
  refine kI X (cS (As := [.int x1]) (rest := []) B X (tX7_isKind (d := d - 1) (by omega) h1) msX7_isKind kw548 (by omega) rfl (Nat.le_of_ble_eq_true rfl) hl.1 ⟨Nat.zero_le _, Nat.zero_le _⟩ dX7_be_1) (fun H locs X => ?_)
  have X : Hx A D S.heap (wf z) H locs := X
  refine lv_if_ne (tgt := 10) hx hb dX7_be_4 (by decide) (fun hc2 => ?_) (fun hc2 => ?_)
  · have h := ie h hc2
    refine lv_aload_n hx hb dX7_be_10 rfl (lv_at hl 0 rfl) ?_
    refine fG B X (LnX7_g L z) 2 rfl inTX7 (by decide) kw293 rfl dX7_be_11 ?_
    obtain ⟨q3, h3, h⟩ := bs h
    refine kI X (cVN (As := []) (rest := []) B X (tX6_areThere (d := d - 1) (LnX3_s0 (LnX7_s1 L z) z.2.1) (by omega) h3) mfX6_areThere kn551 (by omega) (LnX6_g (LnX3_s0 (LnX7_s1 L z) z.2.1) z.2.1.1) rfl rfl (Nat.le_of_ble_eq_true rfl) hl.1 ⟨Nat.zero_le _, Nat.zero_le _⟩ dX7_be_14) (fun H locs X => ?_)
    have X : Hx A D S.heap (wf z) H locs := X
    refine lv_if_ne (tgt := 23) hx hb dX7_be_17 (by decide) (fun hc4 => ?_) (fun hc4 => ?_)
    · have h := ie h hc4
      refine lv_aload_n hx hb dX7_be_23 rfl (lv_at hl 0 rfl) ?_
      refine fG B X (LnX7_g L z) 2 rfl inTX7 (by decide) kw293 rfl dX7_be_24 ?_
      refine fGN B X (LnX6_g (LnX3_s0 (LnX7_s1 L z) z.2.1) z.2.1.1) 3 rfl inTX6 (by decide) kn184 rfl dX7_be_27 ?_
      refine lv_istore_n (lv' := [(2, .int z.2.1.1.2.2.2), (0, .ref a0), (1, .int x1)]) hx hb dX7_be_30 rfl hl (by decide) rfl (fun ls hl => ?_)
      refine lv_aload_n hx hb dX7_be_31 rfl (lv_at hl 1 rfl) ?_
      refine fG B X (LnX7_g L z) 2 rfl inTX7 (by decide) kw293 rfl dX7_be_32 ?_
      refine lv_iload_n hx hb dX7_be_35 rfl (lv_at hl 2 rfl) ?_
      refine fPN tyX6 B X (LnX6_g (LnX3_s0 (LnX7_s1 L z) z.2.1) z.2.1.1) 3 (LnX6_i3 (LnX3_s0 (LnX7_s1 L z) z.2.1) z.2.1.1 _) rfl inTX6 tyX6_ok nmX6 (by decide) kn184 rfl rfl rfl rfl (Nat.le_of_ble_eq_true rfl) dX7_be_36 (fun H locs X => ?_)
      have X : Hx A D S.heap (wf (z.1, ((z.2.1.1.1, z.2.1.1.2.1, z.2.1.1.2.2.1, x1), z.2.1.2.1, z.2.1.2.2.1, z.2.1.2.2.2.1, z.2.1.2.2.2.2), z.2.2.1, z.2.2.2.1, z.2.2.2.2.1, z.2.2.2.2.2.1, z.2.2.2.2.2.2.1, z.2.2.2.2.2.2.2.1, z.2.2.2.2.2.2.2.2)) H locs := X
      refine lv_iload_n hx hb dX7_be_39 rfl (lv_at hl 0 rfl) ?_
      exact rI B X (congrArg (fun q => wf q.2) (Option.some.inj h)) (congrArg (fun q => q.1) (Option.some.inj h)) dX7_be_40
    · have h := it h hc4
      refine lv_bipush (v := (-103)) hx hb dX7_be_20 (by decide) ?_
      exact rI B X (congrArg (fun q => wf q.2) (Option.some.inj h)) (congrArg (fun q => q.1) (Option.some.inj h)) dX7_be_22
  · have h := it h hc2
    refine lv_bipush (v := (-102)) hx hb dX7_be_7 (by decide) ?_
    exact rI B X (congrArg (fun q => wf q.2) (Option.some.inj h)) (congrArg (fun q => q.1) (Option.some.inj h)) dX7_be_9
def fX7_run (z : SX7) (x1 : Int32) : Option (Int32 × SX7) :=
    if x1 < 0 then (some ((-102), z)) else
    (if x1 ≤ 250 then ((fX6_areThere z.2.1.1).bind fun q3 =>
    if q3 = 0 then (some ((-103), z)) else
    ((fX3_go z.2.1 x1).bind fun q5 =>
    if q5.2.1.2.2.2.2 = 0 then (some (q5.2.1.2.2.1, (z.1, q5, z.2.2.1, z.2.2.2.1, z.2.2.2.2.1, z.2.2.2.2.2.1, z.2.2.2.2.2.2.1, (z.2.2.2.2.2.2.2.1 + 1), z.2.2.2.2.2.2.2.2))) else
    (some ((-2), (z.1, q5, z.2.2.1, z.2.2.2.1, z.2.2.2.2.1, z.2.2.2.2.2.1, z.2.2.2.2.2.2.1, (z.2.2.2.2.2.2.2.1 + 1), z.2.2.2.2.2.2.2.2))))) else
    (some ((-102), z)))
set_option maxRecDepth 100000 in
set_option maxHeartbeats 4000000 in
theorem tX7_run {a0 a1 a2 a3 a4 a5 a6 a7 a8 a9 a10 a11 a12 a13 a14 a15 a16 a17 a18 a19 a20 a21 a22 a23 a24 a25 a26 a27 a28 a29 a30 a31 a32 a33 a34 a35 a36 a37 a38 a39 a40 a41 p0 p1 p2 p3 p4 p5 p6 p7 p8 p9 p10 p11 p12 p13 p14 p15 p16 p17 p18 p19 p20 p21 p22 p23 p24 p25 p26 p27 p28 p29 p30 p31 p32 p33 p34 p35 p36 p37 p38 p39 p40 p41 : Nat} {wf : SX7 → va_W} (L : LnX7 a0 a1 a2 a3 a4 a5 a6 a7 a8 a9 a10 a11 a12 a13 a14 a15 a16 a17 a18 a19 a20 a21 a22 a23 a24 a25 a26 a27 a28 a29 a30 a31 a32 a33 a34 a35 a36 a37 a38 a39 a40 a41 p0 p1 p2 p3 p4 p5 p6 p7 p8 p9 p10 p11 p12 p13 p14 p15 p16 p17 p18 p19 p20 p21 p22 p23 p24 p25 p26 p27 p28 p29 p30 p31 p32 p33 p34 p35 p36 p37 p38 p39 p40 p41 cI wf) {d : Nat} (hd : 26 ≤ d) {z : SX7} {x1 : Int32} {q : Int32 × SX7} (h : fX7_run z x1 = some q) : Ct l yX7_run cX7_run 2 (some .int) d A g D [(cI, .int), (cB, .byte)] [.ref a0, .int x1] (wf z) (QI A D (wf q.2) q.1) := by
  refine mkM (by decide) (Nat.le_of_ble_eq_true rfl) ?_
  intro p e S m args below meth c B X ls hl
  have B : Bd RX7 cX7_run 2 (some .int) d A g D [(cI, .int), (cB, .byte)] p (rmd d) S m args meth c := B
  have hx := B.1
  have hb := B.2.1
  have hd1 : 1 ≤ d := by omega
  have hl : lv_has ls 2 [(0, .ref a0), (1, .int x1)] := hl
  unfold fX7_run at h
  refine lv_iload_n hx hb dX7_run_0 rfl (lv_at hl 1 rfl) ?_
  refine lv_if_lt (tgt := 11) hx hb dX7_run_1 (by decide) (fun hc1 => ?_) (fun hc1 => ?_)
  · have h := it h hc1
    refine lv_bipush (v := (-102)) hx hb dX7_run_11 (by decide) ?_
    exact rI B X (congrArg (fun q => wf q.2) (Option.some.inj h)) (congrArg (fun q => q.1) (Option.some.inj h)) dX7_run_13
  · have h := ie h hc1
    refine lv_iload_n hx hb dX7_run_4 rfl (lv_at hl 1 rfl) ?_
    refine lv_sipush (v := 250) hx hb dX7_run_5 (by decide) ?_
    refine lv_icmp_le (tgt := 14) hx hb dX7_run_8 (by decide) (fun hc2 => ?_) (fun hc2 => ?_)
    · have h := it h hc2
      refine lv_aload_n hx hb dX7_run_14 rfl (lv_at hl 0 rfl) ?_
      refine fG B X (LnX7_g L z) 2 rfl inTX7 (by decide) kw293 rfl dX7_run_15 ?_
      obtain ⟨q3, h3, h⟩ := bs h
      refine kI X (cVN (As := []) (rest := []) B X (tX6_areThere (d := d - 1) (LnX3_s0 (LnX7_s1 L z) z.2.1) (by omega) h3) mfX6_areThere kn551 (by omega) (LnX6_g (LnX3_s0 (LnX7_s1 L z) z.2.1) z.2.1.1) rfl rfl (Nat.le_of_ble_eq_true rfl) hl.1 ⟨Nat.zero_le _, Nat.zero_le _⟩ dX7_run_18) (fun H locs X => ?_)
      have X : Hx A D S.heap (wf z) H locs := X
      refine lv_if_ne (tgt := 27) hx hb dX7_run_21 (by decide) (fun hc4 => ?_) (fun hc4 => ?_)
      · have h := ie h hc4
        refine lv_aload_n hx hb dX7_run_27 rfl (lv_at hl 0 rfl) ?_
        refine lv_dup hx hb dX7_run_28 rfl ?_
        refine fG B X (LnX7_g L z) 8 rfl inTX7 (by decide) kw299 rfl dX7_run_29 ?_
        refine lv_iconst (v := 1) hx hb dX7_run_32 (by decide) ?_
        refine lv_iadd hx hb dX7_run_33 ?_
        refine fP tyX7 B X (LnX7_g L z) 8 (LnX7_i7 L z _) rfl inTX7 tyX7_ok nmX7 (by decide) kw299 rfl rfl rfl rfl (Nat.le_of_ble_eq_true rfl) dX7_run_34 (fun H locs X => ?_)
        have X : Hx A D S.heap (wf (z.1, z.2.1, z.2.2.1, z.2.2.2.1, z.2.2.2.2.1, z.2.2.2.2.2.1, z.2.2.2.2.2.2.1, (z.2.2.2.2.2.2.2.1 + 1), z.2.2.2.2.2.2.2.2)) H locs := X
        refine lv_aload_n hx hb dX7_run_37 rfl (lv_at hl 0 rfl) ?_
        refine fG B X (LnX7_g L (z.1, z.2.1, z.2.2.1, z.2.2.2.1, z.2.2.2.2.1, z.2.2.2.2.2.1, z.2.2.2.2.2.2.1, (z.2.2.2.2.2.2.2.1 + 1), z.2.2.2.2.2.2.2.2)) 1 rfl inTX7 (by decide) kw292 rfl dX7_run_38 ?_
        refine lv_iload_n hx hb dX7_run_41 rfl (lv_at hl 1 rfl) ?_
        obtain ⟨q5, h5, h⟩ := bs h
        refine kV X (cVN (As := [.int x1]) (rest := []) B X (tX3_go (d := d - 1) (LnX7_s1 L (z.1, z.2.1, z.2.2.1, z.2.2.2.1, z.2.2.2.2.1, z.2.2.2.2.2.1, z.2.2.2.2.2.2.1, (z.2.2.2.2.2.2.2.1 + 1), z.2.2.2.2.2.2.2.2)) (by omega) h5) mfX3_go kn595 (by omega) (LnX3_g (LnX7_s1 L (z.1, z.2.1, z.2.2.1, z.2.2.2.1, z.2.2.2.2.1, z.2.2.2.2.2.1, z.2.2.2.2.2.2.1, (z.2.2.2.2.2.2.2.1 + 1), z.2.2.2.2.2.2.2.2)) z.2.1) rfl rfl (Nat.le_of_ble_eq_true rfl) hl.1 ⟨Nat.zero_le _, Nat.zero_le _⟩ dX7_run_42) (fun H locs X => ?_)
        have X : Hx A D S.heap (wf (z.1, q5, z.2.2.1, z.2.2.2.1, z.2.2.2.2.1, z.2.2.2.2.2.1, z.2.2.2.2.2.2.1, (z.2.2.2.2.2.2.2.1 + 1), z.2.2.2.2.2.2.2.2)) H locs := X
        refine lv_aload_n hx hb dX7_run_45 rfl (lv_at hl 0 rfl) ?_
        refine fG B X (LnX7_g L (z.1, q5, z.2.2.1, z.2.2.2.1, z.2.2.2.2.1, z.2.2.2.2.2.1, z.2.2.2.2.2.2.1, (z.2.2.2.2.2.2.2.1 + 1), z.2.2.2.2.2.2.2.2)) 1 rfl inTX7 (by decide) kw292 rfl dX7_run_46 ?_
        refine fGN B X (LnX3_g (LnX7_s1 L (z.1, q5, z.2.2.1, z.2.2.2.1, z.2.2.2.2.1, z.2.2.2.2.2.1, z.2.2.2.2.2.2.1, (z.2.2.2.2.2.2.2.1 + 1), z.2.2.2.2.2.2.2.2)) q5) 1 rfl inTX3 (by decide) kn258 rfl dX7_run_49 ?_
        refine fGN B X (LnX1_g (LnX3_s1 (LnX7_s1 L (z.1, q5, z.2.2.1, z.2.2.2.1, z.2.2.2.2.1, z.2.2.2.2.2.1, z.2.2.2.2.2.2.1, (z.2.2.2.2.2.2.2.1 + 1), z.2.2.2.2.2.2.2.2)) q5) q5.2.1) 4 rfl inTX1 (by decide) kn209 rfl dX7_run_52 ?_
        refine lv_if_eq (tgt := 63) hx hb dX7_run_55 (by decide) (fun hc6 => ?_) (fun hc6 => ?_)
        · have h := it h hc6
          refine lv_aload_n hx hb dX7_run_63 rfl (lv_at hl 0 rfl) ?_
          refine fG B X (LnX7_g L (z.1, q5, z.2.2.1, z.2.2.2.1, z.2.2.2.2.1, z.2.2.2.2.2.1, z.2.2.2.2.2.2.1, (z.2.2.2.2.2.2.2.1 + 1), z.2.2.2.2.2.2.2.2)) 1 rfl inTX7 (by decide) kw292 rfl dX7_run_64 ?_
          refine fGN B X (LnX3_g (LnX7_s1 L (z.1, q5, z.2.2.1, z.2.2.2.1, z.2.2.2.2.1, z.2.2.2.2.2.1, z.2.2.2.2.2.2.1, (z.2.2.2.2.2.2.2.1 + 1), z.2.2.2.2.2.2.2.2)) q5) 1 rfl inTX3 (by decide) kn258 rfl dX7_run_67 ?_
          refine fGN B X (LnX1_g (LnX3_s1 (LnX7_s1 L (z.1, q5, z.2.2.1, z.2.2.2.1, z.2.2.2.2.1, z.2.2.2.2.2.1, z.2.2.2.2.2.2.1, (z.2.2.2.2.2.2.2.1 + 1), z.2.2.2.2.2.2.2.2)) q5) q5.2.1) 2 rfl inTX1 (by decide) kn205 rfl dX7_run_70 ?_
          exact rI B X (congrArg (fun q => wf q.2) (Option.some.inj h)) (congrArg (fun q => q.1) (Option.some.inj h)) dX7_run_73
        · have h := ie h hc6
          refine lv_bipush (v := (-2)) hx hb dX7_run_58 (by decide) ?_
          refine lv_goto (tgt := 73) hx hb dX7_run_60 (by decide) ?_
          exact rI B X (congrArg (fun q => wf q.2) (Option.some.inj h)) (congrArg (fun q => q.1) (Option.some.inj h)) dX7_run_73
      · have h := it h hc4
        refine lv_bipush (v := (-103)) hx hb dX7_run_24 (by decide) ?_
        exact rI B X (congrArg (fun q => wf q.2) (Option.some.inj h)) (congrArg (fun q => q.1) (Option.some.inj h)) dX7_run_26
    · have h := ie h hc2
      refine lv_bipush (v := (-102)) hx hb dX7_run_11 (by decide) ?_
      exact rI B X (congrArg (fun q => wf q.2) (Option.some.inj h)) (congrArg (fun q => q.1) (Option.some.inj h)) dX7_run_13
def fX7_out (z : SX7) (x1 : Int32) (x2 : Int32) : Option Int32 :=
    if x1 < 0 then (some (-101)) else
    (if x1 < z.2.1.2.1.2.2.1 then (if x2 < 0 then (some (-102)) else
    (if x2 ≤ 1 then ((fX1_at z.2.1.2.1 x1 x2).bind fun q5 =>
    some q5) else
    (some (-102)))) else
    (some (-101)))
set_option maxRecDepth 100000 in
set_option maxHeartbeats 4000000 in
theorem tX7_out {a0 a1 a2 a3 a4 a5 a6 a7 a8 a9 a10 a11 a12 a13 a14 a15 a16 a17 a18 a19 a20 a21 a22 a23 a24 a25 a26 a27 a28 a29 a30 a31 a32 a33 a34 a35 a36 a37 a38 a39 a40 a41 p0 p1 p2 p3 p4 p5 p6 p7 p8 p9 p10 p11 p12 p13 p14 p15 p16 p17 p18 p19 p20 p21 p22 p23 p24 p25 p26 p27 p28 p29 p30 p31 p32 p33 p34 p35 p36 p37 p38 p39 p40 p41 : Nat} {wf : SX7 → va_W} (L : LnX7 a0 a1 a2 a3 a4 a5 a6 a7 a8 a9 a10 a11 a12 a13 a14 a15 a16 a17 a18 a19 a20 a21 a22 a23 a24 a25 a26 a27 a28 a29 a30 a31 a32 a33 a34 a35 a36 a37 a38 a39 a40 a41 p0 p1 p2 p3 p4 p5 p6 p7 p8 p9 p10 p11 p12 p13 p14 p15 p16 p17 p18 p19 p20 p21 p22 p23 p24 p25 p26 p27 p28 p29 p30 p31 p32 p33 p34 p35 p36 p37 p38 p39 p40 p41 cI wf) {d : Nat} (hd : 2 ≤ d) {z : SX7} {x1 x2 : Int32} {q : Int32} (h : fX7_out z x1 x2 = some q) : Ct l yX7_out cX7_out 3 (some .int) d A g D [(cI, .int), (cB, .byte)] [.ref a0, .int x1, .int x2] (wf z) (QI A D (wf z) q) := by
  refine mkM (by decide) (Nat.le_of_ble_eq_true rfl) ?_
  intro p e S m args below meth c B X ls hl
  have B : Bd RX7 cX7_out 3 (some .int) d A g D [(cI, .int), (cB, .byte)] p (rmd d) S m args meth c := B
  have hx := B.1
  have hb := B.2.1
  have hd1 : 1 ≤ d := by omega
  have hl : lv_has ls 3 [(0, .ref a0), (1, .int x1), (2, .int x2)] := hl
  unfold fX7_out at h
  refine lv_iload_n hx hb dX7_out_0 rfl (lv_at hl 1 rfl) ?_
  refine lv_if_lt (tgt := 18) hx hb dX7_out_1 (by decide) (fun hc1 => ?_) (fun hc1 => ?_)
  · have h := it h hc1
    refine lv_bipush (v := (-101)) hx hb dX7_out_18 (by decide) ?_
    exact rI B X rfl (Option.some.inj h) dX7_out_20
  · have h := ie h hc1
    refine lv_iload_n hx hb dX7_out_4 rfl (lv_at hl 1 rfl) ?_
    refine lv_aload_n hx hb dX7_out_5 rfl (lv_at hl 0 rfl) ?_
    refine fG B X (LnX7_g L z) 1 rfl inTX7 (by decide) kw292 rfl dX7_out_6 ?_
    refine fGN B X (LnX3_g (LnX7_s1 L z) z.2.1) 1 rfl inTX3 (by decide) kn258 rfl dX7_out_9 ?_
    refine fGN B X (LnX1_g (LnX3_s1 (LnX7_s1 L z) z.2.1) z.2.1.2.1) 2 rfl inTX1 (by decide) kn205 rfl dX7_out_12 ?_
    refine lv_icmp_lt (tgt := 21) hx hb dX7_out_15 (by decide) (fun hc2 => ?_) (fun hc2 => ?_)
    · have h := it h hc2
      refine lv_iload_n hx hb dX7_out_21 rfl (lv_at hl 2 rfl) ?_
      refine lv_if_lt (tgt := 30) hx hb dX7_out_22 (by decide) (fun hc3 => ?_) (fun hc3 => ?_)
      · have h := it h hc3
        refine lv_bipush (v := (-102)) hx hb dX7_out_30 (by decide) ?_
        exact rI B X rfl (Option.some.inj h) dX7_out_32
      · have h := ie h hc3
        refine lv_iload_n hx hb dX7_out_25 rfl (lv_at hl 2 rfl) ?_
        refine lv_iconst (v := 1) hx hb dX7_out_26 (by decide) ?_
        refine lv_icmp_le (tgt := 33) hx hb dX7_out_27 (by decide) (fun hc4 => ?_) (fun hc4 => ?_)
        · have h := it h hc4
          refine lv_aload_n hx hb dX7_out_33 rfl (lv_at hl 0 rfl) ?_
          refine fG B X (LnX7_g L z) 1 rfl inTX7 (by decide) kw292 rfl dX7_out_34 ?_
          refine fGN B X (LnX3_g (LnX7_s1 L z) z.2.1) 1 rfl inTX3 (by decide) kn258 rfl dX7_out_37 ?_
          refine lv_iload_n hx hb dX7_out_40 rfl (lv_at hl 1 rfl) ?_
          refine lv_iload_n hx hb dX7_out_41 rfl (lv_at hl 2 rfl) ?_
          obtain ⟨q5, h5, h⟩ := bs h
          refine kI X (cVN (As := [.int x1, .int x2]) (rest := []) B X (tX1_at (d := d - 1) (LnX3_s1 (LnX7_s1 L z) z.2.1) (by omega) h5) mfX1_at kn715 (by omega) (LnX1_g (LnX3_s1 (LnX7_s1 L z) z.2.1) z.2.1.2.1) rfl rfl (Nat.le_of_ble_eq_true rfl) hl.1 ⟨Nat.zero_le _, Nat.zero_le _⟩ dX7_out_42) (fun H locs X => ?_)
          have X : Hx A D S.heap (wf z) H locs := X
          exact rI B X rfl (Option.some.inj h) dX7_out_45
        · have h := ie h hc4
          refine lv_bipush (v := (-102)) hx hb dX7_out_30 (by decide) ?_
          exact rI B X rfl (Option.some.inj h) dX7_out_32
    · have h := ie h hc2
      refine lv_bipush (v := (-101)) hx hb dX7_out_18 (by decide) ?_
      exact rI B X rfl (Option.some.inj h) dX7_out_20
def fX7_log (z : SX7) (x1 : Int32) (x2 : Int32) : Option Int32 :=
    if x1 < 0 then (some (-101)) else
    (if x1 < z.2.1.2.2.1.2.2.2.1 then (if x2 < 0 then (some (-102)) else
    (if x2 ≤ 2 then ((fX0_at z.2.1.2.2.1 x1 x2).bind fun q5 =>
    some q5) else
    (some (-102)))) else
    (some (-101)))
set_option maxRecDepth 100000 in
set_option maxHeartbeats 4000000 in
theorem tX7_log {a0 a1 a2 a3 a4 a5 a6 a7 a8 a9 a10 a11 a12 a13 a14 a15 a16 a17 a18 a19 a20 a21 a22 a23 a24 a25 a26 a27 a28 a29 a30 a31 a32 a33 a34 a35 a36 a37 a38 a39 a40 a41 p0 p1 p2 p3 p4 p5 p6 p7 p8 p9 p10 p11 p12 p13 p14 p15 p16 p17 p18 p19 p20 p21 p22 p23 p24 p25 p26 p27 p28 p29 p30 p31 p32 p33 p34 p35 p36 p37 p38 p39 p40 p41 : Nat} {wf : SX7 → va_W} (L : LnX7 a0 a1 a2 a3 a4 a5 a6 a7 a8 a9 a10 a11 a12 a13 a14 a15 a16 a17 a18 a19 a20 a21 a22 a23 a24 a25 a26 a27 a28 a29 a30 a31 a32 a33 a34 a35 a36 a37 a38 a39 a40 a41 p0 p1 p2 p3 p4 p5 p6 p7 p8 p9 p10 p11 p12 p13 p14 p15 p16 p17 p18 p19 p20 p21 p22 p23 p24 p25 p26 p27 p28 p29 p30 p31 p32 p33 p34 p35 p36 p37 p38 p39 p40 p41 cI wf) {d : Nat} (hd : 2 ≤ d) {z : SX7} {x1 x2 : Int32} {q : Int32} (h : fX7_log z x1 x2 = some q) : Ct l yX7_log cX7_log 3 (some .int) d A g D [(cI, .int), (cB, .byte)] [.ref a0, .int x1, .int x2] (wf z) (QI A D (wf z) q) := by
  refine mkM (by decide) (Nat.le_of_ble_eq_true rfl) ?_
  intro p e S m args below meth c B X ls hl
  have B : Bd RX7 cX7_log 3 (some .int) d A g D [(cI, .int), (cB, .byte)] p (rmd d) S m args meth c := B
  have hx := B.1
  have hb := B.2.1
  have hd1 : 1 ≤ d := by omega
  have hl : lv_has ls 3 [(0, .ref a0), (1, .int x1), (2, .int x2)] := hl
  unfold fX7_log at h
  refine lv_iload_n hx hb dX7_log_0 rfl (lv_at hl 1 rfl) ?_
  refine lv_if_lt (tgt := 18) hx hb dX7_log_1 (by decide) (fun hc1 => ?_) (fun hc1 => ?_)
  · have h := it h hc1
    refine lv_bipush (v := (-101)) hx hb dX7_log_18 (by decide) ?_
    exact rI B X rfl (Option.some.inj h) dX7_log_20
  · have h := ie h hc1
    refine lv_iload_n hx hb dX7_log_4 rfl (lv_at hl 1 rfl) ?_
    refine lv_aload_n hx hb dX7_log_5 rfl (lv_at hl 0 rfl) ?_
    refine fG B X (LnX7_g L z) 1 rfl inTX7 (by decide) kw292 rfl dX7_log_6 ?_
    refine fGN B X (LnX3_g (LnX7_s1 L z) z.2.1) 2 rfl inTX3 (by decide) kn260 rfl dX7_log_9 ?_
    refine fGN B X (LnX0_g (LnX3_s2 (LnX7_s1 L z) z.2.1) z.2.1.2.2.1) 3 rfl inTX0 (by decide) kn232 rfl dX7_log_12 ?_
    refine lv_icmp_lt (tgt := 21) hx hb dX7_log_15 (by decide) (fun hc2 => ?_) (fun hc2 => ?_)
    · have h := it h hc2
      refine lv_iload_n hx hb dX7_log_21 rfl (lv_at hl 2 rfl) ?_
      refine lv_if_lt (tgt := 30) hx hb dX7_log_22 (by decide) (fun hc3 => ?_) (fun hc3 => ?_)
      · have h := it h hc3
        refine lv_bipush (v := (-102)) hx hb dX7_log_30 (by decide) ?_
        exact rI B X rfl (Option.some.inj h) dX7_log_32
      · have h := ie h hc3
        refine lv_iload_n hx hb dX7_log_25 rfl (lv_at hl 2 rfl) ?_
        refine lv_iconst (v := 2) hx hb dX7_log_26 (by decide) ?_
        refine lv_icmp_le (tgt := 33) hx hb dX7_log_27 (by decide) (fun hc4 => ?_) (fun hc4 => ?_)
        · have h := it h hc4
          refine lv_aload_n hx hb dX7_log_33 rfl (lv_at hl 0 rfl) ?_
          refine fG B X (LnX7_g L z) 1 rfl inTX7 (by decide) kw292 rfl dX7_log_34 ?_
          refine fGN B X (LnX3_g (LnX7_s1 L z) z.2.1) 2 rfl inTX3 (by decide) kn260 rfl dX7_log_37 ?_
          refine lv_iload_n hx hb dX7_log_40 rfl (lv_at hl 1 rfl) ?_
          refine lv_iload_n hx hb dX7_log_41 rfl (lv_at hl 2 rfl) ?_
          obtain ⟨q5, h5, h⟩ := bs h
          refine kI X (cVN (As := [.int x1, .int x2]) (rest := []) B X (tX0_at (d := d - 1) (LnX3_s2 (LnX7_s1 L z) z.2.1) (by omega) h5) mfX0_at kn723 (by omega) (LnX0_g (LnX3_s2 (LnX7_s1 L z) z.2.1) z.2.1.2.2.1) rfl rfl (Nat.le_of_ble_eq_true rfl) hl.1 ⟨Nat.zero_le _, Nat.zero_le _⟩ dX7_log_42) (fun H locs X => ?_)
          have X : Hx A D S.heap (wf z) H locs := X
          exact rI B X rfl (Option.some.inj h) dX7_log_45
        · have h := ie h hc4
          refine lv_bipush (v := (-102)) hx hb dX7_log_30 (by decide) ?_
          exact rI B X rfl (Option.some.inj h) dX7_log_32
    · have h := ie h hc2
      refine lv_bipush (v := (-101)) hx hb dX7_log_18 (by decide) ?_
      exact rI B X rfl (Option.some.inj h) dX7_log_20
def fX7_ledger (z : SX7) (x1 : Int32) : Option Int32 :=
    if x1 < 0 then (some (-102)) else
    (if x1 < 10 then ((fX3_lineAt z.2.1 x1).bind fun q3 =>
    some q3) else
    (some (-102)))
set_option maxRecDepth 100000 in
set_option maxHeartbeats 4000000 in
theorem tX7_ledger {a0 a1 a2 a3 a4 a5 a6 a7 a8 a9 a10 a11 a12 a13 a14 a15 a16 a17 a18 a19 a20 a21 a22 a23 a24 a25 a26 a27 a28 a29 a30 a31 a32 a33 a34 a35 a36 a37 a38 a39 a40 a41 p0 p1 p2 p3 p4 p5 p6 p7 p8 p9 p10 p11 p12 p13 p14 p15 p16 p17 p18 p19 p20 p21 p22 p23 p24 p25 p26 p27 p28 p29 p30 p31 p32 p33 p34 p35 p36 p37 p38 p39 p40 p41 : Nat} {wf : SX7 → va_W} (L : LnX7 a0 a1 a2 a3 a4 a5 a6 a7 a8 a9 a10 a11 a12 a13 a14 a15 a16 a17 a18 a19 a20 a21 a22 a23 a24 a25 a26 a27 a28 a29 a30 a31 a32 a33 a34 a35 a36 a37 a38 a39 a40 a41 p0 p1 p2 p3 p4 p5 p6 p7 p8 p9 p10 p11 p12 p13 p14 p15 p16 p17 p18 p19 p20 p21 p22 p23 p24 p25 p26 p27 p28 p29 p30 p31 p32 p33 p34 p35 p36 p37 p38 p39 p40 p41 cI wf) {d : Nat} (hd : 2 ≤ d) {z : SX7} {x1 : Int32} {q : Int32} (h : fX7_ledger z x1 = some q) : Ct l yX7_ledger cX7_ledger 2 (some .int) d A g D [(cI, .int), (cB, .byte)] [.ref a0, .int x1] (wf z) (QI A D (wf z) q) := by
  refine mkM (by decide) (Nat.le_of_ble_eq_true rfl) ?_
  intro p e S m args below meth c B X ls hl
  have B : Bd RX7 cX7_ledger 2 (some .int) d A g D [(cI, .int), (cB, .byte)] p (rmd d) S m args meth c := B
  have hx := B.1
  have hb := B.2.1
  have hd1 : 1 ≤ d := by omega
  have hl : lv_has ls 2 [(0, .ref a0), (1, .int x1)] := hl
  unfold fX7_ledger at h
  refine lv_iload_n hx hb dX7_ledger_0 rfl (lv_at hl 1 rfl) ?_
  refine lv_if_lt (tgt := 10) hx hb dX7_ledger_1 (by decide) (fun hc1 => ?_) (fun hc1 => ?_)
  · have h := it h hc1
    refine lv_bipush (v := (-102)) hx hb dX7_ledger_10 (by decide) ?_
    exact rI B X rfl (Option.some.inj h) dX7_ledger_12
  · have h := ie h hc1
    refine lv_iload_n hx hb dX7_ledger_4 rfl (lv_at hl 1 rfl) ?_
    refine lv_bipush (v := 10) hx hb dX7_ledger_5 (by decide) ?_
    refine lv_icmp_lt (tgt := 13) hx hb dX7_ledger_7 (by decide) (fun hc2 => ?_) (fun hc2 => ?_)
    · have h := it h hc2
      refine lv_aload_n hx hb dX7_ledger_13 rfl (lv_at hl 0 rfl) ?_
      refine fG B X (LnX7_g L z) 1 rfl inTX7 (by decide) kw292 rfl dX7_ledger_14 ?_
      refine lv_iload_n hx hb dX7_ledger_17 rfl (lv_at hl 1 rfl) ?_
      obtain ⟨q3, h3, h⟩ := bs h
      refine kI X (cVN (As := [.int x1]) (rest := []) B X (tX3_lineAt (d := d - 1) (LnX7_s1 L z) (by omega) h3) mfX3_lineAt kn731 (by omega) (LnX3_g (LnX7_s1 L z) z.2.1) rfl rfl (Nat.le_of_ble_eq_true rfl) hl.1 ⟨Nat.zero_le _, Nat.zero_le _⟩ dX7_ledger_18) (fun H locs X => ?_)
      have X : Hx A D S.heap (wf z) H locs := X
      exact rI B X rfl (Option.some.inj h) dX7_ledger_21
    · have h := ie h hc2
      refine lv_bipush (v := (-102)) hx hb dX7_ledger_10 (by decide) ?_
      exact rI B X rfl (Option.some.inj h) dX7_ledger_12
end
