section
variable {l : Launch} {p : Program} {e : Env} {R : Room} {S : State} {m : MethodId} {args : Array Value} {below : List Frame} {meth : Method} {c : Code} {A : Nat → Prop} {g : Nat → Nat} {D : va_G} {cI cB : ClassId}
def fX7_spare (z : SX7) : Option Int32 :=
    (fX6_areThere z.2.1.1).bind fun q1 =>
    if q1 = 0 then (some (-103)) else
    ((fX5_rowsWithKey z.2.1.1.1).bind fun q3 =>
    (fX5_rowsWithKey z.2.1.1.2.1).bind fun q4 =>
    (fX6_buildSide z.2.1.1 q3 q4).bind fun q5 =>
    if q5 = 0 then ((fX5_rowsWithKey z.2.1.1.1).bind fun q7 =>
    if q5 = 0 then ((fX5_haveOneKey z.2.1.1.1 q7).bind fun q9 =>
    if q9 = 0 then ((fJ6_bitCount_0f7a4 q7).bind fun q11 =>
    if 9 < (if 1 < q11 then q11 else 1) then (some (-1)) else
    (some (if 1 < q11 then q11 else 1))) else
    (some 1)) else
    ((fX5_haveOneKey z.2.1.1.2.1 q7).bind fun q13 =>
    if q13 = 0 then ((fJ6_bitCount_0f7a4 q7).bind fun q15 =>
    if 9 < (if 1 < q15 then q15 else 1) then (some (-1)) else
    (some (if 1 < q15 then q15 else 1))) else
    (some 1))) else
    ((fX5_rowsWithKey z.2.1.1.2.1).bind fun q17 =>
    if q5 = 0 then ((fX5_haveOneKey z.2.1.1.1 q17).bind fun q19 =>
    if q19 = 0 then ((fJ6_bitCount_0f7a4 q17).bind fun q21 =>
    if 9 < (if 1 < q21 then q21 else 1) then (some (-1)) else
    (some (if 1 < q21 then q21 else 1))) else
    (some 1)) else
    ((fX5_haveOneKey z.2.1.1.2.1 q17).bind fun q23 =>
    if q23 = 0 then ((fJ6_bitCount_0f7a4 q17).bind fun q25 =>
    if 9 < (if 1 < q25 then q25 else 1) then (some (-1)) else
    (some (if 1 < q25 then q25 else 1))) else
    (some 1))))
set_option maxRecDepth 100000 in
set_option maxHeartbeats 4000000 in
theorem tX7_spare {a0 a1 a2 a3 a4 a5 a6 a7 a8 a9 a10 a11 a12 a13 a14 a15 a16 a17 a18 a19 a20 a21 a22 a23 a24 a25 a26 a27 a28 a29 a30 a31 a32 a33 a34 a35 a36 a37 a38 a39 a40 a41 p0 p1 p2 p3 p4 p5 p6 p7 p8 p9 p10 p11 p12 p13 p14 p15 p16 p17 p18 p19 p20 p21 p22 p23 p24 p25 p26 p27 p28 p29 p30 p31 p32 p33 p34 p35 p36 p37 p38 p39 p40 p41 : Nat} {wf : SX7 → va_W} (L : LnX7 a0 a1 a2 a3 a4 a5 a6 a7 a8 a9 a10 a11 a12 a13 a14 a15 a16 a17 a18 a19 a20 a21 a22 a23 a24 a25 a26 a27 a28 a29 a30 a31 a32 a33 a34 a35 a36 a37 a38 a39 a40 a41 p0 p1 p2 p3 p4 p5 p6 p7 p8 p9 p10 p11 p12 p13 p14 p15 p16 p17 p18 p19 p20 p21 p22 p23 p24 p25 p26 p27 p28 p29 p30 p31 p32 p33 p34 p35 p36 p37 p38 p39 p40 p41 cI wf) {d : Nat} (hd : 3 ≤ d) {z : SX7} {q : Int32} (h : fX7_spare z = some q) : Ct l yX7_spare cX7_spare 4 (some .int) d A g D [(cI, .int), (cB, .byte)] [.ref a0] (wf z) (QI A D (wf z) q) := by
  refine mkM (by decide) (Nat.le_of_ble_eq_true rfl) ?_
  intro p e S m args below meth c B X ls hl
  have B : Bd RX7 cX7_spare 4 (some .int) d A g D [(cI, .int), (cB, .byte)] p (rmd d) S m args meth c := B
  have hx := B.1
  have hb := B.2.1
  have hd1 : 1 ≤ d := by omega
  have hl : lv_has ls 4 [(0, .ref a0)] := hl
  unfold fX7_spare at h
  refine lv_aload_n hx hb dX7_spare_0 rfl (lv_at hl 0 rfl) ?_
  refine fG B X (LnX7_g L z) 2 rfl inTX7 (by decide) kw293 rfl dX7_spare_1 ?_
  obtain ⟨q1, h1, h⟩ := bs h
  refine kI X (cVN (As := []) (rest := []) B X (tX6_areThere (d := d - 1) (LnX3_s0 (LnX7_s1 L z) z.2.1) (by omega) h1) mfX6_areThere kn551 (by omega) (LnX6_g (LnX3_s0 (LnX7_s1 L z) z.2.1) z.2.1.1) rfl rfl (Nat.le_of_ble_eq_true rfl) hl.1 ⟨Nat.zero_le _, Nat.zero_le _⟩ dX7_spare_4) (fun H locs X => ?_)
  have X : Hx A D S.heap (wf z) H locs := X
  refine lv_if_ne (tgt := 13) hx hb dX7_spare_7 (by decide) (fun hc2 => ?_) (fun hc2 => ?_)
  · have h := ie h hc2
    refine lv_aload_n hx hb dX7_spare_13 rfl (lv_at hl 0 rfl) ?_
    refine fG B X (LnX7_g L z) 2 rfl inTX7 (by decide) kw293 rfl dX7_spare_14 ?_
    refine lv_aload_n hx hb dX7_spare_17 rfl (lv_at hl 0 rfl) ?_
    refine fG B X (LnX7_g L z) 2 rfl inTX7 (by decide) kw293 rfl dX7_spare_18 ?_
    refine fGN B X (LnX6_g (LnX3_s0 (LnX7_s1 L z) z.2.1) z.2.1.1) 0 rfl inTX6 (by decide) kn176 rfl dX7_spare_21 ?_
    obtain ⟨q3, h3, h⟩ := bs h
    refine kI X (cVN (As := []) (rest := [.ref a4]) B X (tX5_rowsWithKey (d := d - 1) (LnX6_s0 (LnX3_s0 (LnX7_s1 L z) z.2.1) z.2.1.1) (by omega) h3) mfX5_rowsWithKey kn739 (by omega) (LnX5_g (LnX6_s0 (LnX3_s0 (LnX7_s1 L z) z.2.1) z.2.1.1) z.2.1.1.1) rfl rfl (Nat.le_of_ble_eq_true rfl) hl.1 ⟨Nat.zero_le _, Nat.zero_le _⟩ dX7_spare_24) (fun H locs X => ?_)
    have X : Hx A D S.heap (wf z) H locs := X
    refine lv_aload_n hx hb dX7_spare_27 rfl (lv_at hl 0 rfl) ?_
    refine fG B X (LnX7_g L z) 2 rfl inTX7 (by decide) kw293 rfl dX7_spare_28 ?_
    refine fGN B X (LnX6_g (LnX3_s0 (LnX7_s1 L z) z.2.1) z.2.1.1) 1 rfl inTX6 (by decide) kn179 rfl dX7_spare_31 ?_
    obtain ⟨q4, h4, h⟩ := bs h
    refine kI X (cVN (As := []) (rest := [.int q3, .ref a4]) B X (tX5_rowsWithKey (d := d - 1) (LnX6_s1 (LnX3_s0 (LnX7_s1 L z) z.2.1) z.2.1.1) (by omega) h4) mfX5_rowsWithKey kn739 (by omega) (LnX5_g (LnX6_s1 (LnX3_s0 (LnX7_s1 L z) z.2.1) z.2.1.1) z.2.1.1.2.1) rfl rfl (Nat.le_of_ble_eq_true rfl) hl.1 ⟨Nat.zero_le _, Nat.zero_le _⟩ dX7_spare_34) (fun H locs X => ?_)
    have X : Hx A D S.heap (wf z) H locs := X
    obtain ⟨q5, h5, h⟩ := bs h
    refine kI X (cVN (As := [.int q3, .int q4]) (rest := []) B X (tX6_buildSide (d := d - 1) (LnX3_s0 (LnX7_s1 L z) z.2.1) (by omega) h5) mfX6_buildSide kn740 (by omega) (LnX6_g (LnX3_s0 (LnX7_s1 L z) z.2.1) z.2.1.1) rfl rfl (Nat.le_of_ble_eq_true rfl) hl.1 ⟨Nat.zero_le _, Nat.zero_le _⟩ dX7_spare_37) (fun H locs X => ?_)
    have X : Hx A D S.heap (wf z) H locs := X
    refine lv_istore_n (lv' := [(1, .int q5), (0, .ref a0)]) hx hb dX7_spare_40 rfl hl (by decide) rfl (fun ls hl => ?_)
    refine lv_aload_n hx hb dX7_spare_41 rfl (lv_at hl 1 rfl) ?_
    refine fG B X (LnX7_g L z) 2 rfl inTX7 (by decide) kw293 rfl dX7_spare_42 ?_
    refine lv_iload_n hx hb dX7_spare_45 rfl (lv_at hl 0 rfl) ?_
    by_cases hc6 : (q5 = 0)
    · have h := it h hc6
      refine kR X (cVN (As := [.int q5]) (rest := []) B X (tX6_sideOf_L (d := d - 1) (LnX3_s0 (LnX7_s1 L z) z.2.1) (by omega) hc6) mfX6_sideOf kn521 (by omega) (LnX6_g (LnX3_s0 (LnX7_s1 L z) z.2.1) z.2.1.1) rfl rfl (Nat.le_of_ble_eq_true rfl) hl.1 ⟨Nat.zero_le _, Nat.zero_le _⟩ dX7_spare_46) (fun H locs X => ?_)
      have X : Hx A D S.heap (wf z) H locs := X
      obtain ⟨q7, h7, h⟩ := bs h
      refine kI X (cVN (As := []) (rest := []) B X (tX5_rowsWithKey (d := d - 1) (LnX6_s0 (LnX3_s0 (LnX7_s1 L z) z.2.1) z.2.1.1) (by omega) h7) mfX5_rowsWithKey kn739 (by omega) (LnX5_g (LnX6_s0 (LnX3_s0 (LnX7_s1 L z) z.2.1) z.2.1.1) z.2.1.1.1) rfl rfl (Nat.le_of_ble_eq_true rfl) hl.1 ⟨Nat.zero_le _, Nat.zero_le _⟩ dX7_spare_49) (fun H locs X => ?_)
      have X : Hx A D S.heap (wf z) H locs := X
      refine lv_istore_n (lv' := [(2, .int q7), (1, .int q5), (0, .ref a0)]) hx hb dX7_spare_52 rfl hl (by decide) rfl (fun ls hl => ?_)
      refine lv_aload_n hx hb dX7_spare_53 rfl (lv_at hl 2 rfl) ?_
      refine fG B X (LnX7_g L z) 2 rfl inTX7 (by decide) kw293 rfl dX7_spare_54 ?_
      refine lv_iload_n hx hb dX7_spare_57 rfl (lv_at hl 1 rfl) ?_
      by_cases hc8 : (q5 = 0)
      · have h := it h hc8
        refine kR X (cVN (As := [.int q5]) (rest := []) B X (tX6_sideOf_L (d := d - 1) (LnX3_s0 (LnX7_s1 L z) z.2.1) (by omega) hc8) mfX6_sideOf kn521 (by omega) (LnX6_g (LnX3_s0 (LnX7_s1 L z) z.2.1) z.2.1.1) rfl rfl (Nat.le_of_ble_eq_true rfl) hl.1 ⟨Nat.zero_le _, Nat.zero_le _⟩ dX7_spare_58) (fun H locs X => ?_)
        have X : Hx A D S.heap (wf z) H locs := X
        refine lv_iload_n hx hb dX7_spare_61 rfl (lv_at hl 0 rfl) ?_
        obtain ⟨q9, h9, h⟩ := bs h
        refine kI X (cVN (As := [.int q7]) (rest := []) B X (tX5_haveOneKey (d := d - 1) (LnX6_s0 (LnX3_s0 (LnX7_s1 L z) z.2.1) z.2.1.1) (by omega) h9) mfX5_haveOneKey kn741 (by omega) (LnX5_g (LnX6_s0 (LnX3_s0 (LnX7_s1 L z) z.2.1) z.2.1.1) z.2.1.1.1) rfl rfl (Nat.le_of_ble_eq_true rfl) hl.1 ⟨Nat.zero_le _, Nat.zero_le _⟩ dX7_spare_62) (fun H locs X => ?_)
        have X : Hx A D S.heap (wf z) H locs := X
        refine lv_if_eq (tgt := 70) hx hb dX7_spare_65 (by decide) (fun hc10 => ?_) (fun hc10 => ?_)
        · have h := it h hc10
          refine lv_iconst (v := 1) hx hb dX7_spare_70 (by decide) ?_
          refine lv_iload_n hx hb dX7_spare_71 rfl (lv_at hl 0 rfl) ?_
          obtain ⟨q11, h11, h⟩ := bs h
          refine kI X (cS (As := [.int q7]) (rest := [.int 1]) B X (tJ6_bitCount_0f7a4 (d := d - 1) (by omega) h11) msJ6_bitCount_0f7a4 kw538 (by omega) rfl (Nat.le_of_ble_eq_true rfl) hl.1 ⟨Nat.zero_le _, Nat.zero_le _⟩ dX7_spare_72) (fun H locs X => ?_)
          have X : Hx A D S.heap (wf z) H locs := X
          refine kMax B kw742 hd1 (Nat.le_of_ble_eq_true rfl) hl.1 ⟨Nat.zero_le _, Nat.zero_le _⟩ dX7_spare_75 ?_
          refine lv_istore_n (lv' := [(3, .int (if 1 < q11 then q11 else 1)), (2, .int q7), (1, .int q5), (0, .ref a0)]) hx hb dX7_spare_78 rfl hl (by decide) rfl (fun ls hl => ?_)
          refine lv_iload_n hx hb dX7_spare_79 rfl (lv_at hl 0 rfl) ?_
          refine lv_bipush (v := 9) hx hb dX7_spare_80 (by decide) ?_
          refine lv_icmp_gt (tgt := 89) hx hb dX7_spare_82 (by decide) (fun hc12 => ?_) (fun hc12 => ?_)
          · have h := it h hc12
            refine lv_iconst (v := (-1)) hx hb dX7_spare_89 (by decide) ?_
            exact rI B X rfl (Option.some.inj h) dX7_spare_90
          · have h := ie h hc12
            refine lv_iload_n hx hb dX7_spare_85 rfl (lv_at hl 0 rfl) ?_
            refine lv_goto (tgt := 90) hx hb dX7_spare_86 (by decide) ?_
            exact rI B X rfl (Option.some.inj h) dX7_spare_90
        · have h := ie h hc10
          refine lv_iconst (v := 1) hx hb dX7_spare_68 (by decide) ?_
          exact rI B X rfl (Option.some.inj h) dX7_spare_69
      · have h := ie h hc8
        refine kR X (cVN (As := [.int q5]) (rest := []) B X (tX6_sideOf_R (d := d - 1) (LnX3_s0 (LnX7_s1 L z) z.2.1) (by omega) hc8) mfX6_sideOf kn521 (by omega) (LnX6_g (LnX3_s0 (LnX7_s1 L z) z.2.1) z.2.1.1) rfl rfl (Nat.le_of_ble_eq_true rfl) hl.1 ⟨Nat.zero_le _, Nat.zero_le _⟩ dX7_spare_58) (fun H locs X => ?_)
        have X : Hx A D S.heap (wf z) H locs := X
        refine lv_iload_n hx hb dX7_spare_61 rfl (lv_at hl 0 rfl) ?_
        obtain ⟨q13, h13, h⟩ := bs h
        refine kI X (cVN (As := [.int q7]) (rest := []) B X (tX5_haveOneKey (d := d - 1) (LnX6_s1 (LnX3_s0 (LnX7_s1 L z) z.2.1) z.2.1.1) (by omega) h13) mfX5_haveOneKey kn741 (by omega) (LnX5_g (LnX6_s1 (LnX3_s0 (LnX7_s1 L z) z.2.1) z.2.1.1) z.2.1.1.2.1) rfl rfl (Nat.le_of_ble_eq_true rfl) hl.1 ⟨Nat.zero_le _, Nat.zero_le _⟩ dX7_spare_62) (fun H locs X => ?_)
        have X : Hx A D S.heap (wf z) H locs := X
        refine lv_if_eq (tgt := 70) hx hb dX7_spare_65 (by decide) (fun hc14 => ?_) (fun hc14 => ?_)
        · have h := it h hc14
          refine lv_iconst (v := 1) hx hb dX7_spare_70 (by decide) ?_
          refine lv_iload_n hx hb dX7_spare_71 rfl (lv_at hl 0 rfl) ?_
          obtain ⟨q15, h15, h⟩ := bs h
          refine kI X (cS (As := [.int q7]) (rest := [.int 1]) B X (tJ6_bitCount_0f7a4 (d := d - 1) (by omega) h15) msJ6_bitCount_0f7a4 kw538 (by omega) rfl (Nat.le_of_ble_eq_true rfl) hl.1 ⟨Nat.zero_le _, Nat.zero_le _⟩ dX7_spare_72) (fun H locs X => ?_)
          have X : Hx A D S.heap (wf z) H locs := X
          refine kMax B kw742 hd1 (Nat.le_of_ble_eq_true rfl) hl.1 ⟨Nat.zero_le _, Nat.zero_le _⟩ dX7_spare_75 ?_
          refine lv_istore_n (lv' := [(3, .int (if 1 < q15 then q15 else 1)), (2, .int q7), (1, .int q5), (0, .ref a0)]) hx hb dX7_spare_78 rfl hl (by decide) rfl (fun ls hl => ?_)
          refine lv_iload_n hx hb dX7_spare_79 rfl (lv_at hl 0 rfl) ?_
          refine lv_bipush (v := 9) hx hb dX7_spare_80 (by decide) ?_
          refine lv_icmp_gt (tgt := 89) hx hb dX7_spare_82 (by decide) (fun hc16 => ?_) (fun hc16 => ?_)
          · have h := it h hc16
            refine lv_iconst (v := (-1)) hx hb dX7_spare_89 (by decide) ?_
            exact rI B X rfl (Option.some.inj h) dX7_spare_90
          · have h := ie h hc16
            refine lv_iload_n hx hb dX7_spare_85 rfl (lv_at hl 0 rfl) ?_
            refine lv_goto (tgt := 90) hx hb dX7_spare_86 (by decide) ?_
            exact rI B X rfl (Option.some.inj h) dX7_spare_90
        · have h := ie h hc14
          refine lv_iconst (v := 1) hx hb dX7_spare_68 (by decide) ?_
          exact rI B X rfl (Option.some.inj h) dX7_spare_69
    · have h := ie h hc6
      refine kR X (cVN (As := [.int q5]) (rest := []) B X (tX6_sideOf_R (d := d - 1) (LnX3_s0 (LnX7_s1 L z) z.2.1) (by omega) hc6) mfX6_sideOf kn521 (by omega) (LnX6_g (LnX3_s0 (LnX7_s1 L z) z.2.1) z.2.1.1) rfl rfl (Nat.le_of_ble_eq_true rfl) hl.1 ⟨Nat.zero_le _, Nat.zero_le _⟩ dX7_spare_46) (fun H locs X => ?_)
      have X : Hx A D S.heap (wf z) H locs := X
      obtain ⟨q17, h17, h⟩ := bs h
      refine kI X (cVN (As := []) (rest := []) B X (tX5_rowsWithKey (d := d - 1) (LnX6_s1 (LnX3_s0 (LnX7_s1 L z) z.2.1) z.2.1.1) (by omega) h17) mfX5_rowsWithKey kn739 (by omega) (LnX5_g (LnX6_s1 (LnX3_s0 (LnX7_s1 L z) z.2.1) z.2.1.1) z.2.1.1.2.1) rfl rfl (Nat.le_of_ble_eq_true rfl) hl.1 ⟨Nat.zero_le _, Nat.zero_le _⟩ dX7_spare_49) (fun H locs X => ?_)
      have X : Hx A D S.heap (wf z) H locs := X
      refine lv_istore_n (lv' := [(2, .int q17), (1, .int q5), (0, .ref a0)]) hx hb dX7_spare_52 rfl hl (by decide) rfl (fun ls hl => ?_)
      refine lv_aload_n hx hb dX7_spare_53 rfl (lv_at hl 2 rfl) ?_
      refine fG B X (LnX7_g L z) 2 rfl inTX7 (by decide) kw293 rfl dX7_spare_54 ?_
      refine lv_iload_n hx hb dX7_spare_57 rfl (lv_at hl 1 rfl) ?_
      by_cases hc18 : (q5 = 0)
      · have h := it h hc18
        refine kR X (cVN (As := [.int q5]) (rest := []) B X (tX6_sideOf_L (d := d - 1) (LnX3_s0 (LnX7_s1 L z) z.2.1) (by omega) hc18) mfX6_sideOf kn521 (by omega) (LnX6_g (LnX3_s0 (LnX7_s1 L z) z.2.1) z.2.1.1) rfl rfl (Nat.le_of_ble_eq_true rfl) hl.1 ⟨Nat.zero_le _, Nat.zero_le _⟩ dX7_spare_58) (fun H locs X => ?_)
        have X : Hx A D S.heap (wf z) H locs := X
        refine lv_iload_n hx hb dX7_spare_61 rfl (lv_at hl 0 rfl) ?_
        obtain ⟨q19, h19, h⟩ := bs h
        refine kI X (cVN (As := [.int q17]) (rest := []) B X (tX5_haveOneKey (d := d - 1) (LnX6_s0 (LnX3_s0 (LnX7_s1 L z) z.2.1) z.2.1.1) (by omega) h19) mfX5_haveOneKey kn741 (by omega) (LnX5_g (LnX6_s0 (LnX3_s0 (LnX7_s1 L z) z.2.1) z.2.1.1) z.2.1.1.1) rfl rfl (Nat.le_of_ble_eq_true rfl) hl.1 ⟨Nat.zero_le _, Nat.zero_le _⟩ dX7_spare_62) (fun H locs X => ?_)
        have X : Hx A D S.heap (wf z) H locs := X
        refine lv_if_eq (tgt := 70) hx hb dX7_spare_65 (by decide) (fun hc20 => ?_) (fun hc20 => ?_)
        · have h := it h hc20
          refine lv_iconst (v := 1) hx hb dX7_spare_70 (by decide) ?_
          refine lv_iload_n hx hb dX7_spare_71 rfl (lv_at hl 0 rfl) ?_
          obtain ⟨q21, h21, h⟩ := bs h
          refine kI X (cS (As := [.int q17]) (rest := [.int 1]) B X (tJ6_bitCount_0f7a4 (d := d - 1) (by omega) h21) msJ6_bitCount_0f7a4 kw538 (by omega) rfl (Nat.le_of_ble_eq_true rfl) hl.1 ⟨Nat.zero_le _, Nat.zero_le _⟩ dX7_spare_72) (fun H locs X => ?_)
          have X : Hx A D S.heap (wf z) H locs := X
          refine kMax B kw742 hd1 (Nat.le_of_ble_eq_true rfl) hl.1 ⟨Nat.zero_le _, Nat.zero_le _⟩ dX7_spare_75 ?_
          refine lv_istore_n (lv' := [(3, .int (if 1 < q21 then q21 else 1)), (2, .int q17), (1, .int q5), (0, .ref a0)]) hx hb dX7_spare_78 rfl hl (by decide) rfl (fun ls hl => ?_)
          refine lv_iload_n hx hb dX7_spare_79 rfl (lv_at hl 0 rfl) ?_
          refine lv_bipush (v := 9) hx hb dX7_spare_80 (by decide) ?_
          refine lv_icmp_gt (tgt := 89) hx hb dX7_spare_82 (by decide) (fun hc22 => ?_) (fun hc22 => ?_)
          · have h := it h hc22
            refine lv_iconst (v := (-1)) hx hb dX7_spare_89 (by decide) ?_
            exact rI B X rfl (Option.some.inj h) dX7_spare_90
          · have h := ie h hc22
            refine lv_iload_n hx hb dX7_spare_85 rfl (lv_at hl 0 rfl) ?_
            refine lv_goto (tgt := 90) hx hb dX7_spare_86 (by decide) ?_
            exact rI B X rfl (Option.some.inj h) dX7_spare_90
        · have h := ie h hc20
          refine lv_iconst (v := 1) hx hb dX7_spare_68 (by decide) ?_
          exact rI B X rfl (Option.some.inj h) dX7_spare_69
      · have h := ie h hc18
        refine kR X (cVN (As := [.int q5]) (rest := []) B X (tX6_sideOf_R (d := d - 1) (LnX3_s0 (LnX7_s1 L z) z.2.1) (by omega) hc18) mfX6_sideOf kn521 (by omega) (LnX6_g (LnX3_s0 (LnX7_s1 L z) z.2.1) z.2.1.1) rfl rfl (Nat.le_of_ble_eq_true rfl) hl.1 ⟨Nat.zero_le _, Nat.zero_le _⟩ dX7_spare_58) (fun H locs X => ?_)
        have X : Hx A D S.heap (wf z) H locs := X
        refine lv_iload_n hx hb dX7_spare_61 rfl (lv_at hl 0 rfl) ?_
        obtain ⟨q23, h23, h⟩ := bs h
        refine kI X (cVN (As := [.int q17]) (rest := []) B X (tX5_haveOneKey (d := d - 1) (LnX6_s1 (LnX3_s0 (LnX7_s1 L z) z.2.1) z.2.1.1) (by omega) h23) mfX5_haveOneKey kn741 (by omega) (LnX5_g (LnX6_s1 (LnX3_s0 (LnX7_s1 L z) z.2.1) z.2.1.1) z.2.1.1.2.1) rfl rfl (Nat.le_of_ble_eq_true rfl) hl.1 ⟨Nat.zero_le _, Nat.zero_le _⟩ dX7_spare_62) (fun H locs X => ?_)
        have X : Hx A D S.heap (wf z) H locs := X
        refine lv_if_eq (tgt := 70) hx hb dX7_spare_65 (by decide) (fun hc24 => ?_) (fun hc24 => ?_)
        · have h := it h hc24
          refine lv_iconst (v := 1) hx hb dX7_spare_70 (by decide) ?_
          refine lv_iload_n hx hb dX7_spare_71 rfl (lv_at hl 0 rfl) ?_
          obtain ⟨q25, h25, h⟩ := bs h
          refine kI X (cS (As := [.int q17]) (rest := [.int 1]) B X (tJ6_bitCount_0f7a4 (d := d - 1) (by omega) h25) msJ6_bitCount_0f7a4 kw538 (by omega) rfl (Nat.le_of_ble_eq_true rfl) hl.1 ⟨Nat.zero_le _, Nat.zero_le _⟩ dX7_spare_72) (fun H locs X => ?_)
          have X : Hx A D S.heap (wf z) H locs := X
          refine kMax B kw742 hd1 (Nat.le_of_ble_eq_true rfl) hl.1 ⟨Nat.zero_le _, Nat.zero_le _⟩ dX7_spare_75 ?_
          refine lv_istore_n (lv' := [(3, .int (if 1 < q25 then q25 else 1)), (2, .int q17), (1, .int q5), (0, .ref a0)]) hx hb dX7_spare_78 rfl hl (by decide) rfl (fun ls hl => ?_)
          refine lv_iload_n hx hb dX7_spare_79 rfl (lv_at hl 0 rfl) ?_
          refine lv_bipush (v := 9) hx hb dX7_spare_80 (by decide) ?_
          refine lv_icmp_gt (tgt := 89) hx hb dX7_spare_82 (by decide) (fun hc26 => ?_) (fun hc26 => ?_)
          · have h := it h hc26
            refine lv_iconst (v := (-1)) hx hb dX7_spare_89 (by decide) ?_
            exact rI B X rfl (Option.some.inj h) dX7_spare_90
          · have h := ie h hc26
            refine lv_iload_n hx hb dX7_spare_85 rfl (lv_at hl 0 rfl) ?_
            refine lv_goto (tgt := 90) hx hb dX7_spare_86 (by decide) ?_
            exact rI B X rfl (Option.some.inj h) dX7_spare_90
        · have h := ie h hc24
          refine lv_iconst (v := 1) hx hb dX7_spare_68 (by decide) ?_
          exact rI B X rfl (Option.some.inj h) dX7_spare_69
  · have h := it h hc2
    refine lv_bipush (v := (-103)) hx hb dX7_spare_10 (by decide) ?_
    exact rI B X rfl (Option.some.inj h) dX7_spare_12
def fX7_see (z : SX7) (x1 : Int32) (x2 : Int32) : Option (Int32 × SX7) :=
    if x1 < 0 then (some ((-102), z)) else
    (if x1 < 4 then ((fX6_areThere z.2.1.1).bind fun q3 =>
    if q3 = 0 then (some ((-103), z)) else
    (if z.2.2.1.1 < 6 then ((fX4_add z.2.2.1 x1 x2).bind fun q6 =>
    some (q6.1, (z.1, z.2.1, q6, z.2.2.2.1, z.2.2.2.2.1, z.2.2.2.2.2.1, z.2.2.2.2.2.2.1, z.2.2.2.2.2.2.2.1, z.2.2.2.2.2.2.2.2))) else
    (some ((-104), z)))) else
    (some ((-102), z)))
set_option maxRecDepth 100000 in
set_option maxHeartbeats 4000000 in
theorem tX7_see {a0 a1 a2 a3 a4 a5 a6 a7 a8 a9 a10 a11 a12 a13 a14 a15 a16 a17 a18 a19 a20 a21 a22 a23 a24 a25 a26 a27 a28 a29 a30 a31 a32 a33 a34 a35 a36 a37 a38 a39 a40 a41 p0 p1 p2 p3 p4 p5 p6 p7 p8 p9 p10 p11 p12 p13 p14 p15 p16 p17 p18 p19 p20 p21 p22 p23 p24 p25 p26 p27 p28 p29 p30 p31 p32 p33 p34 p35 p36 p37 p38 p39 p40 p41 : Nat} {wf : SX7 → va_W} (L : LnX7 a0 a1 a2 a3 a4 a5 a6 a7 a8 a9 a10 a11 a12 a13 a14 a15 a16 a17 a18 a19 a20 a21 a22 a23 a24 a25 a26 a27 a28 a29 a30 a31 a32 a33 a34 a35 a36 a37 a38 a39 a40 a41 p0 p1 p2 p3 p4 p5 p6 p7 p8 p9 p10 p11 p12 p13 p14 p15 p16 p17 p18 p19 p20 p21 p22 p23 p24 p25 p26 p27 p28 p29 p30 p31 p32 p33 p34 p35 p36 p37 p38 p39 p40 p41 cI wf) {d : Nat} (hd : 4 ≤ d) {z : SX7} {x1 x2 : Int32} {q : Int32 × SX7} (h : fX7_see z x1 x2 = some q) : Ct l yX7_see cX7_see 3 (some .int) d A g D [(cI, .int), (cB, .byte)] [.ref a0, .int x1, .int x2] (wf z) (QI A D (wf q.2) q.1) := by
  refine mkM (by decide) (Nat.le_of_ble_eq_true rfl) ?_
  intro p e S m args below meth c B X ls hl
  have B : Bd RX7 cX7_see 3 (some .int) d A g D [(cI, .int), (cB, .byte)] p (rmd d) S m args meth c := B
  have hx := B.1
  have hb := B.2.1
  have hd1 : 1 ≤ d := by omega
  have hl : lv_has ls 3 [(0, .ref a0), (1, .int x1), (2, .int x2)] := hl
  unfold fX7_see at h
  refine lv_iload_n hx hb dX7_see_0 rfl (lv_at hl 1 rfl) ?_
  refine lv_if_lt (tgt := 9) hx hb dX7_see_1 (by decide) (fun hc1 => ?_) (fun hc1 => ?_)
  · have h := it h hc1
    refine lv_bipush (v := (-102)) hx hb dX7_see_9 (by decide) ?_
    exact rI B X (congrArg (fun q => wf q.2) (Option.some.inj h)) (congrArg (fun q => q.1) (Option.some.inj h)) dX7_see_11
  · have h := ie h hc1
    refine lv_iload_n hx hb dX7_see_4 rfl (lv_at hl 1 rfl) ?_
    refine lv_iconst (v := 4) hx hb dX7_see_5 (by decide) ?_
    refine lv_icmp_lt (tgt := 12) hx hb dX7_see_6 (by decide) (fun hc2 => ?_) (fun hc2 => ?_)
    · have h := it h hc2
      refine lv_aload_n hx hb dX7_see_12 rfl (lv_at hl 0 rfl) ?_
      refine fG B X (LnX7_g L z) 2 rfl inTX7 (by decide) kw293 rfl dX7_see_13 ?_
      obtain ⟨q3, h3, h⟩ := bs h
      refine kI X (cVN (As := []) (rest := []) B X (tX6_areThere (d := d - 1) (LnX3_s0 (LnX7_s1 L z) z.2.1) (by omega) h3) mfX6_areThere kn551 (by omega) (LnX6_g (LnX3_s0 (LnX7_s1 L z) z.2.1) z.2.1.1) rfl rfl (Nat.le_of_ble_eq_true rfl) hl.1 ⟨Nat.zero_le _, Nat.zero_le _⟩ dX7_see_16) (fun H locs X => ?_)
      have X : Hx A D S.heap (wf z) H locs := X
      refine lv_if_ne (tgt := 25) hx hb dX7_see_19 (by decide) (fun hc4 => ?_) (fun hc4 => ?_)
      · have h := ie h hc4
        refine lv_aload_n hx hb dX7_see_25 rfl (lv_at hl 0 rfl) ?_
        refine fG B X (LnX7_g L z) 3 rfl inTX7 (by decide) kw294 rfl dX7_see_26 ?_
        refine fGN B X (LnX4_g (LnX7_s2 L z) z.2.2.1) 0 rfl inTX4 (by decide) kn281 rfl dX7_see_29 ?_
        refine lv_bipush (v := 6) hx hb dX7_see_32 (by decide) ?_
        refine lv_icmp_lt (tgt := 40) hx hb dX7_see_34 (by decide) (fun hc5 => ?_) (fun hc5 => ?_)
        · have h := it h hc5
          refine lv_aload_n hx hb dX7_see_40 rfl (lv_at hl 0 rfl) ?_
          refine fG B X (LnX7_g L z) 3 rfl inTX7 (by decide) kw294 rfl dX7_see_41 ?_
          refine lv_iload_n hx hb dX7_see_44 rfl (lv_at hl 1 rfl) ?_
          refine lv_iload_n hx hb dX7_see_45 rfl (lv_at hl 2 rfl) ?_
          obtain ⟨q6, h6, h⟩ := bs h
          refine kV X (cVN (As := [.int x1, .int x2]) (rest := []) B X (tX4_add (d := d - 1) (LnX7_s2 L z) (by omega) h6) mfX4_add kn747 (by omega) (LnX4_g (LnX7_s2 L z) z.2.2.1) rfl rfl (Nat.le_of_ble_eq_true rfl) hl.1 ⟨Nat.zero_le _, Nat.zero_le _⟩ dX7_see_46) (fun H locs X => ?_)
          have X : Hx A D S.heap (wf (z.1, z.2.1, q6, z.2.2.2.1, z.2.2.2.2.1, z.2.2.2.2.2.1, z.2.2.2.2.2.2.1, z.2.2.2.2.2.2.2.1, z.2.2.2.2.2.2.2.2)) H locs := X
          refine lv_aload_n hx hb dX7_see_49 rfl (lv_at hl 0 rfl) ?_
          refine fG B X (LnX7_g L (z.1, z.2.1, q6, z.2.2.2.1, z.2.2.2.2.1, z.2.2.2.2.2.1, z.2.2.2.2.2.2.1, z.2.2.2.2.2.2.2.1, z.2.2.2.2.2.2.2.2)) 3 rfl inTX7 (by decide) kw294 rfl dX7_see_50 ?_
          refine fGN B X (LnX4_g (LnX7_s2 L (z.1, z.2.1, q6, z.2.2.2.1, z.2.2.2.2.1, z.2.2.2.2.2.1, z.2.2.2.2.2.2.1, z.2.2.2.2.2.2.2.1, z.2.2.2.2.2.2.2.2)) q6) 0 rfl inTX4 (by decide) kn281 rfl dX7_see_53 ?_
          exact rI B X (congrArg (fun q => wf q.2) (Option.some.inj h)) (congrArg (fun q => q.1) (Option.some.inj h)) dX7_see_56
        · have h := ie h hc5
          refine lv_bipush (v := (-104)) hx hb dX7_see_37 (by decide) ?_
          exact rI B X (congrArg (fun q => wf q.2) (Option.some.inj h)) (congrArg (fun q => q.1) (Option.some.inj h)) dX7_see_39
      · have h := it h hc4
        refine lv_bipush (v := (-103)) hx hb dX7_see_22 (by decide) ?_
        exact rI B X (congrArg (fun q => wf q.2) (Option.some.inj h)) (congrArg (fun q => q.1) (Option.some.inj h)) dX7_see_24
    · have h := ie h hc2
      refine lv_bipush (v := (-102)) hx hb dX7_see_9 (by decide) ?_
      exact rI B X (congrArg (fun q => wf q.2) (Option.some.inj h)) (congrArg (fun q => q.1) (Option.some.inj h)) dX7_see_11
def fX7_forget (z : SX7) : Option (Int32 × SX7) :=
    (fX4_clear z.2.2.1).bind fun q1 =>
    some (z.2.2.1.1, (z.1, z.2.1, q1, z.2.2.2.1, z.2.2.2.2.1, z.2.2.2.2.2.1, z.2.2.2.2.2.2.1, z.2.2.2.2.2.2.2.1, z.2.2.2.2.2.2.2.2))
set_option maxRecDepth 100000 in
set_option maxHeartbeats 4000000 in
theorem tX7_forget {a0 a1 a2 a3 a4 a5 a6 a7 a8 a9 a10 a11 a12 a13 a14 a15 a16 a17 a18 a19 a20 a21 a22 a23 a24 a25 a26 a27 a28 a29 a30 a31 a32 a33 a34 a35 a36 a37 a38 a39 a40 a41 p0 p1 p2 p3 p4 p5 p6 p7 p8 p9 p10 p11 p12 p13 p14 p15 p16 p17 p18 p19 p20 p21 p22 p23 p24 p25 p26 p27 p28 p29 p30 p31 p32 p33 p34 p35 p36 p37 p38 p39 p40 p41 : Nat} {wf : SX7 → va_W} (L : LnX7 a0 a1 a2 a3 a4 a5 a6 a7 a8 a9 a10 a11 a12 a13 a14 a15 a16 a17 a18 a19 a20 a21 a22 a23 a24 a25 a26 a27 a28 a29 a30 a31 a32 a33 a34 a35 a36 a37 a38 a39 a40 a41 p0 p1 p2 p3 p4 p5 p6 p7 p8 p9 p10 p11 p12 p13 p14 p15 p16 p17 p18 p19 p20 p21 p22 p23 p24 p25 p26 p27 p28 p29 p30 p31 p32 p33 p34 p35 p36 p37 p38 p39 p40 p41 cI wf) {d : Nat} (hd : 2 ≤ d) {z : SX7} {q : Int32 × SX7} (h : fX7_forget z = some q) : Ct l yX7_forget cX7_forget 2 (some .int) d A g D [(cI, .int), (cB, .byte)] [.ref a0] (wf z) (QI A D (wf q.2) q.1) := by
  refine mkM (by decide) (Nat.le_of_ble_eq_true rfl) ?_
  intro p e S m args below meth c B X ls hl
  have B : Bd RX7 cX7_forget 2 (some .int) d A g D [(cI, .int), (cB, .byte)] p (rmd d) S m args meth c := B
  have hx := B.1
  have hb := B.2.1
  have hd1 : 1 ≤ d := by omega
  have hl : lv_has ls 2 [(0, .ref a0)] := hl
  unfold fX7_forget at h
  refine lv_aload_n hx hb dX7_forget_0 rfl (lv_at hl 0 rfl) ?_
  refine fG B X (LnX7_g L z) 3 rfl inTX7 (by decide) kw294 rfl dX7_forget_1 ?_
  refine fGN B X (LnX4_g (LnX7_s2 L z) z.2.2.1) 0 rfl inTX4 (by decide) kn281 rfl dX7_forget_4 ?_
  refine lv_istore_n (lv' := [(1, .int z.2.2.1.1), (0, .ref a0)]) hx hb dX7_forget_7 rfl hl (by decide) rfl (fun ls hl => ?_)
  refine lv_aload_n hx hb dX7_forget_8 rfl (lv_at hl 1 rfl) ?_
  refine fG B X (LnX7_g L z) 3 rfl inTX7 (by decide) kw294 rfl dX7_forget_9 ?_
  obtain ⟨q1, h1, h⟩ := bs h
  refine kV X (cVN (As := []) (rest := []) B X (tX4_clear (d := d - 1) (LnX7_s2 L z) (by omega) h1) mfX4_clear kn479 (by omega) (LnX4_g (LnX7_s2 L z) z.2.2.1) rfl rfl (Nat.le_of_ble_eq_true rfl) hl.1 ⟨Nat.zero_le _, Nat.zero_le _⟩ dX7_forget_12) (fun H locs X => ?_)
  have X : Hx A D S.heap (wf (z.1, z.2.1, q1, z.2.2.2.1, z.2.2.2.2.1, z.2.2.2.2.2.1, z.2.2.2.2.2.2.1, z.2.2.2.2.2.2.2.1, z.2.2.2.2.2.2.2.2)) H locs := X
  refine lv_iload_n hx hb dX7_forget_15 rfl (lv_at hl 0 rfl) ?_
  exact rI B X (congrArg (fun q => wf q.2) (Option.some.inj h)) (congrArg (fun q => q.1) (Option.some.inj h)) dX7_forget_16
def fX7_sorts (z : SX7) (x1 : Int32) : Option Int32 :=
    if x1 < 0 then (some (-102)) else
    (if x1 ≤ 1 then (if x1 = 0 then (some z.2.2.1.2) else
    ((fX4_bestQuestion z.2.2.1).bind fun q4 =>
    some q4)) else
    (some (-102)))
set_option maxRecDepth 100000 in
set_option maxHeartbeats 4000000 in
theorem tX7_sorts {a0 a1 a2 a3 a4 a5 a6 a7 a8 a9 a10 a11 a12 a13 a14 a15 a16 a17 a18 a19 a20 a21 a22 a23 a24 a25 a26 a27 a28 a29 a30 a31 a32 a33 a34 a35 a36 a37 a38 a39 a40 a41 p0 p1 p2 p3 p4 p5 p6 p7 p8 p9 p10 p11 p12 p13 p14 p15 p16 p17 p18 p19 p20 p21 p22 p23 p24 p25 p26 p27 p28 p29 p30 p31 p32 p33 p34 p35 p36 p37 p38 p39 p40 p41 : Nat} {wf : SX7 → va_W} (L : LnX7 a0 a1 a2 a3 a4 a5 a6 a7 a8 a9 a10 a11 a12 a13 a14 a15 a16 a17 a18 a19 a20 a21 a22 a23 a24 a25 a26 a27 a28 a29 a30 a31 a32 a33 a34 a35 a36 a37 a38 a39 a40 a41 p0 p1 p2 p3 p4 p5 p6 p7 p8 p9 p10 p11 p12 p13 p14 p15 p16 p17 p18 p19 p20 p21 p22 p23 p24 p25 p26 p27 p28 p29 p30 p31 p32 p33 p34 p35 p36 p37 p38 p39 p40 p41 cI wf) {d : Nat} (hd : 4 ≤ d) {z : SX7} {x1 : Int32} {q : Int32} (h : fX7_sorts z x1 = some q) : Ct l yX7_sorts cX7_sorts 2 (some .int) d A g D [(cI, .int), (cB, .byte)] [.ref a0, .int x1] (wf z) (QI A D (wf z) q) := by
  refine mkM (by decide) (Nat.le_of_ble_eq_true rfl) ?_
  intro p e S m args below meth c B X ls hl
  have B : Bd RX7 cX7_sorts 2 (some .int) d A g D [(cI, .int), (cB, .byte)] p (rmd d) S m args meth c := B
  have hx := B.1
  have hb := B.2.1
  have hd1 : 1 ≤ d := by omega
  have hl : lv_has ls 2 [(0, .ref a0), (1, .int x1)] := hl
  unfold fX7_sorts at h
  refine lv_iload_n hx hb dX7_sorts_0 rfl (lv_at hl 1 rfl) ?_
  refine lv_if_lt (tgt := 9) hx hb dX7_sorts_1 (by decide) (fun hc1 => ?_) (fun hc1 => ?_)
  · have h := it h hc1
    refine lv_bipush (v := (-102)) hx hb dX7_sorts_9 (by decide) ?_
    exact rI B X rfl (Option.some.inj h) dX7_sorts_11
  · have h := ie h hc1
    refine lv_iload_n hx hb dX7_sorts_4 rfl (lv_at hl 1 rfl) ?_
    refine lv_iconst (v := 1) hx hb dX7_sorts_5 (by decide) ?_
    refine lv_icmp_le (tgt := 12) hx hb dX7_sorts_6 (by decide) (fun hc2 => ?_) (fun hc2 => ?_)
    · have h := it h hc2
      refine lv_iload_n hx hb dX7_sorts_12 rfl (lv_at hl 1 rfl) ?_
      refine lv_if_ne (tgt := 26) hx hb dX7_sorts_13 (by decide) (fun hc3 => ?_) (fun hc3 => ?_)
      · have h := ie h hc3
        refine lv_aload_n hx hb dX7_sorts_26 rfl (lv_at hl 0 rfl) ?_
        refine fG B X (LnX7_g L z) 3 rfl inTX7 (by decide) kw294 rfl dX7_sorts_27 ?_
        obtain ⟨q4, h4, h⟩ := bs h
        refine kI X (cVN (As := []) (rest := []) B X (tX4_bestQuestion (d := d - 1) (LnX7_s2 L z) (by omega) h4) mfX4_bestQuestion kn763 (by omega) (LnX4_g (LnX7_s2 L z) z.2.2.1) rfl rfl (Nat.le_of_ble_eq_true rfl) hl.1 ⟨Nat.zero_le _, Nat.zero_le _⟩ dX7_sorts_30) (fun H locs X => ?_)
        have X : Hx A D S.heap (wf z) H locs := X
        exact rI B X rfl (Option.some.inj h) dX7_sorts_33
      · have h := it h hc3
        refine lv_aload_n hx hb dX7_sorts_16 rfl (lv_at hl 0 rfl) ?_
        refine fG B X (LnX7_g L z) 3 rfl inTX7 (by decide) kw294 rfl dX7_sorts_17 ?_
        refine fGN B X (LnX4_g (LnX7_s2 L z) z.2.2.1) 1 rfl inTX4 (by decide) kn283 rfl dX7_sorts_20 ?_
        refine lv_goto (tgt := 33) hx hb dX7_sorts_23 (by decide) ?_
        exact rI B X rfl (Option.some.inj h) dX7_sorts_33
    · have h := ie h hc2
      refine lv_bipush (v := (-102)) hx hb dX7_sorts_9 (by decide) ?_
      exact rI B X rfl (Option.some.inj h) dX7_sorts_11
def fX7_drawRows_b10 : Nat → Int64 → Int32 → SX5 → Option (Int32 × SX5)
  | 0, _, _, _ => none
  | n + 1, x2, x4, z =>
    if 8 ≤ x4 then (some ((x2.toInt32), z)) else
    (if ((((((1103515245 * x2) + 12345) - ((1103515245 * x2) + 12345) / 2147483648 * 2147483648) / 65536) - ((((1103515245 * x2) + 12345) - ((1103515245 * x2) + 12345) / 2147483648 * 2147483648) / 65536) / 17 * 17).toInt32) ≤ 15 then ((fX5_add z ((((((1103515245 * x2) + 12345) - ((1103515245 * x2) + 12345) / 2147483648 * 2147483648) / 65536) - ((((1103515245 * x2) + 12345) - ((1103515245 * x2) + 12345) / 2147483648 * 2147483648) / 65536) / 17 * 17).toInt32)).bind fun q3 =>
    fX7_drawRows_b10 n (((1103515245 * x2) + 12345) - ((1103515245 * x2) + 12345) / 2147483648 * 2147483648) (x4 + 1) q3) else
    ((fX5_add z (-1)).bind fun q4 =>
    fX7_drawRows_b10 n (((1103515245 * x2) + 12345) - ((1103515245 * x2) + 12345) / 2147483648 * 2147483648) (x4 + 1) q4))
set_option maxRecDepth 100000 in
set_option maxHeartbeats 4000000 in
theorem tX7_drawRows_b10 {a0 a1 p0 p1 : Nat} {wf : SX5 → va_W} (L : LnX5 a0 a1 p0 p1 cI wf) {d : Nat} (hd : 2 ≤ d) (B : Bd RX7 cX7_drawRows 6 (some .int) d A g D [(cI, .int), (cB, .byte)] p R S m args meth c) {q : Int32 × SX5} : ∀ (n : Nat) (x2 : Int64) (x4 : Int32) (z : SX5) (H : Heap) (locs : List Loc) (ls : Array Slot), Hx A D S.heap (wf z) H locs → lv_has ls 6 [(0, .ref a0), (2, .long x2), (4, .int x4)] → fX7_drawRows_b10 n x2 x4 z = some q → W p l e R S m args below meth c H locs 0 0 (MQ below (QI A D (wf q.2) q.1) args S 0 0 A) (F0 m 10 ls []) := by
  have hx := B.1
  have hb := B.2.1
  have hd1 : 1 ≤ d := by omega
  intro n
  induction n with
  | zero =>
    intro x2 x4 z H locs ls X hl h
    cases h
  | succ n ih =>
    intro x2 x4 z H locs ls X hl h
    rw [fX7_drawRows_b10] at h
    refine lv_iload hx hb dX7_drawRows_10 (lv_at hl 2 rfl) ?_
    refine lv_bipush (v := 8) hx hb dX7_drawRows_12 (by decide) ?_
    refine lv_icmp_ge (tgt := 66) hx hb dX7_drawRows_14 (by decide) (fun hc1 => ?_) (fun hc1 => ?_)
    · have h := it h hc1
      refine lv_lload_n hx hb dX7_drawRows_66 rfl (lv_at hl 1 rfl) ?_
      refine lv_l2i hx hb dX7_drawRows_67 rfl ?_
      exact rI B X (congrArg (fun q => wf q.2) (Option.some.inj h)) (congrArg (fun q => q.1) (Option.some.inj h)) dX7_drawRows_68
    · have h := ie h hc1
      refine lv_ldc2 hx hb B.2.2.2.1 (B.2.2.2.2.1 _ kw777) dX7_drawRows_17 ?_
      refine lv_lload_n hx hb dX7_drawRows_20 rfl (lv_at hl 1 rfl) ?_
      refine lv_lmul hx hb dX7_drawRows_21 ?_
      refine lv_ldc2 hx hb B.2.2.2.1 (B.2.2.2.2.1 _ kw778) dX7_drawRows_22 ?_
      refine lv_ladd hx hb dX7_drawRows_25 ?_
      refine lv_ldc2 hx hb B.2.2.2.1 (B.2.2.2.2.1 _ kw779) dX7_drawRows_26 ?_
      refine lv_lrem hx hb dX7_drawRows_29 (by decide) ?_
      refine lv_lstore_n (lv' := [(2, .long (((1103515245 * x2) + 12345) - ((1103515245 * x2) + 12345) / 2147483648 * 2147483648)), (0, .ref a0), (4, .int x4)]) hx hb dX7_drawRows_30 rfl hl (by decide) rfl (fun ls hl => ?_)
      refine lv_lload_n hx hb dX7_drawRows_31 rfl (lv_at hl 0 rfl) ?_
      refine lv_ldc2 hx hb B.2.2.2.1 (B.2.2.2.2.1 _ kw780) dX7_drawRows_32 ?_
      refine lv_ldiv hx hb dX7_drawRows_35 (by decide) ?_
      refine lv_ldc2 hx hb B.2.2.2.1 (B.2.2.2.2.1 _ kw781) dX7_drawRows_36 ?_
      refine lv_lrem hx hb dX7_drawRows_39 (by decide) ?_
      refine lv_l2i hx hb dX7_drawRows_40 rfl ?_
      refine lv_istore (lv' := [(5, .int ((((((1103515245 * x2) + 12345) - ((1103515245 * x2) + 12345) / 2147483648 * 2147483648) / 65536) - ((((1103515245 * x2) + 12345) - ((1103515245 * x2) + 12345) / 2147483648 * 2147483648) / 65536) / 17 * 17).toInt32)), (2, .long (((1103515245 * x2) + 12345) - ((1103515245 * x2) + 12345) / 2147483648 * 2147483648)), (0, .ref a0), (4, .int x4)]) hx hb dX7_drawRows_41 hl (by decide) rfl (fun ls hl => ?_)
      refine lv_aload_n hx hb dX7_drawRows_43 rfl (lv_at hl 2 rfl) ?_
      refine lv_iload hx hb dX7_drawRows_44 (lv_at hl 0 rfl) ?_
      refine lv_bipush (v := 15) hx hb dX7_drawRows_46 (by decide) ?_
      refine lv_icmp_le (tgt := 55) hx hb dX7_drawRows_48 (by decide) (fun hc2 => ?_) (fun hc2 => ?_)
      · have h := it h hc2
        refine lv_iload hx hb dX7_drawRows_55 (lv_at hl 0 rfl) ?_
        obtain ⟨q3, h3, h⟩ := bs h
        refine kV X (cVN (As := [.int ((((((1103515245 * x2) + 12345) - ((1103515245 * x2) + 12345) / 2147483648 * 2147483648) / 65536) - ((((1103515245 * x2) + 12345) - ((1103515245 * x2) + 12345) / 2147483648 * 2147483648) / 65536) / 17 * 17).toInt32)]) (rest := []) B X (tX5_add (d := d - 1) L (by omega) h3) mfX5_add kn563 (by omega) (LnX5_g L z) rfl rfl (Nat.le_of_ble_eq_true rfl) hl.1 ⟨Nat.zero_le _, Nat.zero_le _⟩ dX7_drawRows_57) (fun H locs X => ?_)
        have X : Hx A D S.heap (wf q3) H locs := X
        refine lv_iinc (v := x4 + 1) (lv' := [(4, .int (x4 + 1)), (5, .int ((((((1103515245 * x2) + 12345) - ((1103515245 * x2) + 12345) / 2147483648 * 2147483648) / 65536) - ((((1103515245 * x2) + 12345) - ((1103515245 * x2) + 12345) / 2147483648 * 2147483648) / 65536) / 17 * 17).toInt32)), (2, .long (((1103515245 * x2) + 12345) - ((1103515245 * x2) + 12345) / 2147483648 * 2147483648)), (0, .ref a0)]) hx hb dX7_drawRows_60 hl (k := 3) rfl rfl (by decide) rfl (fun ls hl => ?_)
        refine lv_goto (tgt := 10) hx hb dX7_drawRows_63 (by decide) ?_
        exact ih (((1103515245 * x2) + 12345) - ((1103515245 * x2) + 12345) / 2147483648 * 2147483648) (x4 + 1) q3 _ _ _ X (lv_sub hl [3, 2, 0] rfl) h
      · have h := ie h hc2
        refine lv_iconst (v := (-1)) hx hb dX7_drawRows_51 (by decide) ?_
        refine lv_goto (tgt := 57) hx hb dX7_drawRows_52 (by decide) ?_
        obtain ⟨q4, h4, h⟩ := bs h
        refine kV X (cVN (As := [.int (-1)]) (rest := []) B X (tX5_add (d := d - 1) L (by omega) h4) mfX5_add kn563 (by omega) (LnX5_g L z) rfl rfl (Nat.le_of_ble_eq_true rfl) hl.1 ⟨Nat.zero_le _, Nat.zero_le _⟩ dX7_drawRows_57) (fun H locs X => ?_)
        have X : Hx A D S.heap (wf q4) H locs := X
        refine lv_iinc (v := x4 + 1) (lv' := [(4, .int (x4 + 1)), (5, .int ((((((1103515245 * x2) + 12345) - ((1103515245 * x2) + 12345) / 2147483648 * 2147483648) / 65536) - ((((1103515245 * x2) + 12345) - ((1103515245 * x2) + 12345) / 2147483648 * 2147483648) / 65536) / 17 * 17).toInt32)), (2, .long (((1103515245 * x2) + 12345) - ((1103515245 * x2) + 12345) / 2147483648 * 2147483648)), (0, .ref a0)]) hx hb dX7_drawRows_60 hl (k := 3) rfl rfl (by decide) rfl (fun ls hl => ?_)
        refine lv_goto (tgt := 10) hx hb dX7_drawRows_63 (by decide) ?_
        exact ih (((1103515245 * x2) + 12345) - ((1103515245 * x2) + 12345) / 2147483648 * 2147483648) (x4 + 1) q4 _ _ _ X (lv_sub hl [3, 2, 0] rfl) h
def fX7_drawRows (z : SX5) (x1 : Int32) : Option (Int32 × SX5) :=
    (fX5_clear z).bind fun q1 =>
    fX7_drawRows_b10 1000 (x1.toInt64) 0 q1
set_option maxRecDepth 100000 in
set_option maxHeartbeats 4000000 in
theorem tX7_drawRows {a0 a1 p0 p1 : Nat} {wf : SX5 → va_W} (L : LnX5 a0 a1 p0 p1 cI wf) {d : Nat} (hd : 2 ≤ d) {z : SX5} {x1 : Int32} {q : Int32 × SX5} (h : fX7_drawRows z x1 = some q) : Ct l yX7_drawRows cX7_drawRows 6 (some .int) d A g D [(cI, .int), (cB, .byte)] [.ref a0, .int x1] (wf z) (QI A D (wf q.2) q.1) := by
  refine mkM (by decide) (Nat.le_of_ble_eq_true rfl) ?_
  intro p e S m args below meth c B X ls hl
  have B : Bd RX7 cX7_drawRows 6 (some .int) d A g D [(cI, .int), (cB, .byte)] p (rmd d) S m args meth c := B
  have hx := B.1
  have hb := B.2.1
  have hd1 : 1 ≤ d := by omega
  have hl : lv_has ls 6 [(0, .ref a0), (1, .int x1)] := hl
  unfold fX7_drawRows at h
  refine lv_iload_n hx hb dX7_drawRows_0 rfl (lv_at hl 1 rfl) ?_
  refine lv_i2l hx hb dX7_drawRows_1 rfl ?_
  refine lv_lstore_n (lv' := [(2, .long (x1.toInt64)), (0, .ref a0), (1, .int x1)]) hx hb dX7_drawRows_2 rfl hl (by decide) rfl (fun ls hl => ?_)
  refine lv_aload_n hx hb dX7_drawRows_3 rfl (lv_at hl 1 rfl) ?_
  obtain ⟨q1, h1, h⟩ := bs h
  refine kV X (cVN (As := []) (rest := []) B X (tX5_clear (d := d - 1) L (by omega) h1) mfX5_clear kn776 (by omega) (LnX5_g L z) rfl rfl (Nat.le_of_ble_eq_true rfl) hl.1 ⟨Nat.zero_le _, Nat.zero_le _⟩ dX7_drawRows_4) (fun H locs X => ?_)
  have X : Hx A D S.heap (wf q1) H locs := X
  refine lv_iconst (v := 0) hx hb dX7_drawRows_7 (by decide) ?_
  refine lv_istore (lv' := [(4, .int 0), (2, .long (x1.toInt64)), (0, .ref a0), (1, .int x1)]) hx hb dX7_drawRows_8 hl (by decide) rfl (fun ls hl => ?_)
  exact tX7_drawRows_b10 L hd B 1000 (x1.toInt64) 0 q1 _ _ _ X (lv_sub hl [2, 1, 0] rfl) h
def fX7_drawn_b86 : Nat → Int32 → Int32 → Int32 → Int32 → Int32 → Int32 → SX7 → Option (Int32 × SX7)
  | 0, _, _, _, _, _, _, _ => none
  | n + 1, x1, x3, x4, x5, x6, x7, z =>
    if x1 ≤ x7 then (if x3 = 0 then (some (x5, z)) else
    (if x3 = 1 then (some (x6, z)) else
    (some (x4, z)))) else
    ((fX7_drawRows z.2.2.2.2.2.2.1.1.1 x4).bind fun q4 =>
    (fX7_drawRows z.2.2.2.2.2.2.1.1.2.1 q4.1).bind fun q5 =>
    (fX3_go ((q4.2, q5.2, z.2.2.2.2.2.2.1.1.2.2.1, z.2.2.2.2.2.2.1.1.2.2.2), z.2.2.2.2.2.2.1.2.1, z.2.2.2.2.2.2.1.2.2.1, z.2.2.2.2.2.2.1.2.2.2.1, z.2.2.2.2.2.2.1.2.2.2.2) 250).bind fun q6 =>
    (fX3_lineAt q6 0).bind fun q7 =>
    (fX3_lineAt q6 1).bind fun q8 =>
    fX7_drawn_b86 n x1 x3 q5.1 (x5 + q7) (x6 + q8) (x7 + 1) (z.1, z.2.1, z.2.2.1, z.2.2.2.1, z.2.2.2.2.1, z.2.2.2.2.2.1, q6, z.2.2.2.2.2.2.2.1, z.2.2.2.2.2.2.2.2))
set_option maxRecDepth 100000 in
set_option maxHeartbeats 4000000 in
theorem tX7_drawn_b86 {a0 a1 a2 a3 a4 a5 a6 a7 a8 a9 a10 a11 a12 a13 a14 a15 a16 a17 a18 a19 a20 a21 a22 a23 a24 a25 a26 a27 a28 a29 a30 a31 a32 a33 a34 a35 a36 a37 a38 a39 a40 a41 p0 p1 p2 p3 p4 p5 p6 p7 p8 p9 p10 p11 p12 p13 p14 p15 p16 p17 p18 p19 p20 p21 p22 p23 p24 p25 p26 p27 p28 p29 p30 p31 p32 p33 p34 p35 p36 p37 p38 p39 p40 p41 : Nat} {wf : SX7 → va_W} (L : LnX7 a0 a1 a2 a3 a4 a5 a6 a7 a8 a9 a10 a11 a12 a13 a14 a15 a16 a17 a18 a19 a20 a21 a22 a23 a24 a25 a26 a27 a28 a29 a30 a31 a32 a33 a34 a35 a36 a37 a38 a39 a40 a41 p0 p1 p2 p3 p4 p5 p6 p7 p8 p9 p10 p11 p12 p13 p14 p15 p16 p17 p18 p19 p20 p21 p22 p23 p24 p25 p26 p27 p28 p29 p30 p31 p32 p33 p34 p35 p36 p37 p38 p39 p40 p41 cI wf) {d : Nat} (hd : 26 ≤ d) (B : Bd RX7 cX7_drawn 8 (some .int) d A g D [(cI, .int), (cB, .byte)] p R S m args meth c) {q : Int32 × SX7} : ∀ (n : Nat) (x1 : Int32) (x3 : Int32) (x4 : Int32) (x5 : Int32) (x6 : Int32) (x7 : Int32) (z : SX7) (H : Heap) (locs : List Loc) (ls : Array Slot), Hx A D S.heap (wf z) H locs → lv_has ls 8 [(0, .ref a0), (1, .int x1), (3, .int x3), (4, .int x4), (5, .int x5), (6, .int x6), (7, .int x7)] → fX7_drawn_b86 n x1 x3 x4 x5 x6 x7 z = some q → W p l e R S m args below meth c H locs 0 0 (MQ below (QI A D (wf q.2) q.1) args S 0 0 A) (F0 m 86 ls []) := by
  have hx := B.1
  have hb := B.2.1
  have hd1 : 1 ≤ d := by omega
  intro n
  induction n with
  | zero =>
    intro x1 x3 x4 x5 x6 x7 z H locs ls X hl h
    cases h
  | succ n ih =>
    intro x1 x3 x4 x5 x6 x7 z H locs ls X hl h
    rw [fX7_drawn_b86] at h
    refine lv_iload hx hb dX7_drawn_86 (lv_at hl 6 rfl) ?_
    refine lv_iload_n hx hb dX7_drawn_88 rfl (lv_at hl 1 rfl) ?_
    refine lv_icmp_ge (tgt := 168) hx hb dX7_drawn_89 (by decide) (fun hc1 => ?_) (fun hc1 => ?_)
    · have h := it h hc1
      refine lv_iload_n hx hb dX7_drawn_168 rfl (lv_at hl 2 rfl) ?_
      refine lv_if_ne (tgt := 175) hx hb dX7_drawn_169 (by decide) (fun hc2 => ?_) (fun hc2 => ?_)
      · have h := ie h hc2
        refine lv_iload_n hx hb dX7_drawn_175 rfl (lv_at hl 2 rfl) ?_
        refine lv_iconst (v := 1) hx hb dX7_drawn_176 (by decide) ?_
        refine lv_icmp_ne (tgt := 185) hx hb dX7_drawn_177 (by decide) (fun hc3 => ?_) (fun hc3 => ?_)
        · have h := ie h hc3
          refine lv_iload hx hb dX7_drawn_185 (lv_at hl 3 rfl) ?_
          exact rI B X (congrArg (fun q => wf q.2) (Option.some.inj h)) (congrArg (fun q => q.1) (Option.some.inj h)) dX7_drawn_187
        · have h := it h hc3
          refine lv_iload hx hb dX7_drawn_180 (lv_at hl 5 rfl) ?_
          refine lv_goto (tgt := 187) hx hb dX7_drawn_182 (by decide) ?_
          exact rI B X (congrArg (fun q => wf q.2) (Option.some.inj h)) (congrArg (fun q => q.1) (Option.some.inj h)) dX7_drawn_187
      · have h := it h hc2
        refine lv_iload hx hb dX7_drawn_172 (lv_at hl 4 rfl) ?_
        exact rI B X (congrArg (fun q => wf q.2) (Option.some.inj h)) (congrArg (fun q => q.1) (Option.some.inj h)) dX7_drawn_174
    · have h := ie h hc1
      refine lv_aload_n hx hb dX7_drawn_92 rfl (lv_at hl 0 rfl) ?_
      refine fG B X (LnX7_g L z) 7 rfl inTX7 (by decide) kw298 rfl dX7_drawn_93 ?_
      refine fGN B X (LnX3_g (LnX7_s6 L z) z.2.2.2.2.2.2.1) 0 rfl inTX3 (by decide) kn256 rfl dX7_drawn_96 ?_
      refine fGN B X (LnX6_g (LnX3_s0 (LnX7_s6 L z) z.2.2.2.2.2.2.1) z.2.2.2.2.2.2.1.1) 0 rfl inTX6 (by decide) kn176 rfl dX7_drawn_99 ?_
      refine lv_iload hx hb dX7_drawn_102 (lv_at hl 3 rfl) ?_
      obtain ⟨q4, h4, h⟩ := bs h
      refine kI X (cS (As := [.ref a28, .int x4]) (rest := []) B X (tX7_drawRows (d := d - 1) (LnX6_s0 (LnX3_s0 (LnX7_s6 L z) z.2.2.2.2.2.2.1) z.2.2.2.2.2.2.1.1) (by omega) h4) msX7_drawRows kw773 (by omega) rfl (Nat.le_of_ble_eq_true rfl) hl.1 ⟨Nat.zero_le _, Nat.zero_le _⟩ dX7_drawn_104) (fun H locs X => ?_)
      have X : Hx A D S.heap (wf (z.1, z.2.1, z.2.2.1, z.2.2.2.1, z.2.2.2.2.1, z.2.2.2.2.2.1, ((q4.2, z.2.2.2.2.2.2.1.1.2.1, z.2.2.2.2.2.2.1.1.2.2.1, z.2.2.2.2.2.2.1.1.2.2.2), z.2.2.2.2.2.2.1.2.1, z.2.2.2.2.2.2.1.2.2.1, z.2.2.2.2.2.2.1.2.2.2.1, z.2.2.2.2.2.2.1.2.2.2.2), z.2.2.2.2.2.2.2.1, z.2.2.2.2.2.2.2.2)) H locs := X
      refine lv_istore (lv' := [(4, .int q4.1), (0, .ref a0), (1, .int x1), (3, .int x3), (5, .int x5), (6, .int x6), (7, .int x7)]) hx hb dX7_drawn_107 hl (by decide) rfl (fun ls hl => ?_)
      refine lv_aload_n hx hb dX7_drawn_109 rfl (lv_at hl 1 rfl) ?_
      refine fG B X (LnX7_g L (z.1, z.2.1, z.2.2.1, z.2.2.2.1, z.2.2.2.2.1, z.2.2.2.2.2.1, ((q4.2, z.2.2.2.2.2.2.1.1.2.1, z.2.2.2.2.2.2.1.1.2.2.1, z.2.2.2.2.2.2.1.1.2.2.2), z.2.2.2.2.2.2.1.2.1, z.2.2.2.2.2.2.1.2.2.1, z.2.2.2.2.2.2.1.2.2.2.1, z.2.2.2.2.2.2.1.2.2.2.2), z.2.2.2.2.2.2.2.1, z.2.2.2.2.2.2.2.2)) 7 rfl inTX7 (by decide) kw298 rfl dX7_drawn_110 ?_
      refine fGN B X (LnX3_g (LnX7_s6 L (z.1, z.2.1, z.2.2.1, z.2.2.2.1, z.2.2.2.2.1, z.2.2.2.2.2.1, ((q4.2, z.2.2.2.2.2.2.1.1.2.1, z.2.2.2.2.2.2.1.1.2.2.1, z.2.2.2.2.2.2.1.1.2.2.2), z.2.2.2.2.2.2.1.2.1, z.2.2.2.2.2.2.1.2.2.1, z.2.2.2.2.2.2.1.2.2.2.1, z.2.2.2.2.2.2.1.2.2.2.2), z.2.2.2.2.2.2.2.1, z.2.2.2.2.2.2.2.2)) ((q4.2, z.2.2.2.2.2.2.1.1.2.1, z.2.2.2.2.2.2.1.1.2.2.1, z.2.2.2.2.2.2.1.1.2.2.2), z.2.2.2.2.2.2.1.2.1, z.2.2.2.2.2.2.1.2.2.1, z.2.2.2.2.2.2.1.2.2.2.1, z.2.2.2.2.2.2.1.2.2.2.2)) 0 rfl inTX3 (by decide) kn256 rfl dX7_drawn_113 ?_
      refine fGN B X (LnX6_g (LnX3_s0 (LnX7_s6 L (z.1, z.2.1, z.2.2.1, z.2.2.2.1, z.2.2.2.2.1, z.2.2.2.2.2.1, ((q4.2, z.2.2.2.2.2.2.1.1.2.1, z.2.2.2.2.2.2.1.1.2.2.1, z.2.2.2.2.2.2.1.1.2.2.2), z.2.2.2.2.2.2.1.2.1, z.2.2.2.2.2.2.1.2.2.1, z.2.2.2.2.2.2.1.2.2.2.1, z.2.2.2.2.2.2.1.2.2.2.2), z.2.2.2.2.2.2.2.1, z.2.2.2.2.2.2.2.2)) ((q4.2, z.2.2.2.2.2.2.1.1.2.1, z.2.2.2.2.2.2.1.1.2.2.1, z.2.2.2.2.2.2.1.1.2.2.2), z.2.2.2.2.2.2.1.2.1, z.2.2.2.2.2.2.1.2.2.1, z.2.2.2.2.2.2.1.2.2.2.1, z.2.2.2.2.2.2.1.2.2.2.2)) (q4.2, z.2.2.2.2.2.2.1.1.2.1, z.2.2.2.2.2.2.1.1.2.2.1, z.2.2.2.2.2.2.1.1.2.2.2)) 1 rfl inTX6 (by decide) kn179 rfl dX7_drawn_116 ?_
      refine lv_iload hx hb dX7_drawn_119 (lv_at hl 0 rfl) ?_
      obtain ⟨q5, h5, h⟩ := bs h
      refine kI X (cS (As := [.ref a30, .int q4.1]) (rest := []) B X (tX7_drawRows (d := d - 1) (LnX6_s1 (LnX3_s0 (LnX7_s6 L (z.1, z.2.1, z.2.2.1, z.2.2.2.1, z.2.2.2.2.1, z.2.2.2.2.2.1, ((q4.2, z.2.2.2.2.2.2.1.1.2.1, z.2.2.2.2.2.2.1.1.2.2.1, z.2.2.2.2.2.2.1.1.2.2.2), z.2.2.2.2.2.2.1.2.1, z.2.2.2.2.2.2.1.2.2.1, z.2.2.2.2.2.2.1.2.2.2.1, z.2.2.2.2.2.2.1.2.2.2.2), z.2.2.2.2.2.2.2.1, z.2.2.2.2.2.2.2.2)) ((q4.2, z.2.2.2.2.2.2.1.1.2.1, z.2.2.2.2.2.2.1.1.2.2.1, z.2.2.2.2.2.2.1.1.2.2.2), z.2.2.2.2.2.2.1.2.1, z.2.2.2.2.2.2.1.2.2.1, z.2.2.2.2.2.2.1.2.2.2.1, z.2.2.2.2.2.2.1.2.2.2.2)) (q4.2, z.2.2.2.2.2.2.1.1.2.1, z.2.2.2.2.2.2.1.1.2.2.1, z.2.2.2.2.2.2.1.1.2.2.2)) (by omega) h5) msX7_drawRows kw773 (by omega) rfl (Nat.le_of_ble_eq_true rfl) hl.1 ⟨Nat.zero_le _, Nat.zero_le _⟩ dX7_drawn_121) (fun H locs X => ?_)
      have X : Hx A D S.heap (wf (z.1, z.2.1, z.2.2.1, z.2.2.2.1, z.2.2.2.2.1, z.2.2.2.2.2.1, ((q4.2, q5.2, z.2.2.2.2.2.2.1.1.2.2.1, z.2.2.2.2.2.2.1.1.2.2.2), z.2.2.2.2.2.2.1.2.1, z.2.2.2.2.2.2.1.2.2.1, z.2.2.2.2.2.2.1.2.2.2.1, z.2.2.2.2.2.2.1.2.2.2.2), z.2.2.2.2.2.2.2.1, z.2.2.2.2.2.2.2.2)) H locs := X
      refine lv_istore (lv' := [(4, .int q5.1), (0, .ref a0), (1, .int x1), (3, .int x3), (5, .int x5), (6, .int x6), (7, .int x7)]) hx hb dX7_drawn_124 hl (by decide) rfl (fun ls hl => ?_)
      refine lv_aload_n hx hb dX7_drawn_126 rfl (lv_at hl 1 rfl) ?_
      refine fG B X (LnX7_g L (z.1, z.2.1, z.2.2.1, z.2.2.2.1, z.2.2.2.2.1, z.2.2.2.2.2.1, ((q4.2, q5.2, z.2.2.2.2.2.2.1.1.2.2.1, z.2.2.2.2.2.2.1.1.2.2.2), z.2.2.2.2.2.2.1.2.1, z.2.2.2.2.2.2.1.2.2.1, z.2.2.2.2.2.2.1.2.2.2.1, z.2.2.2.2.2.2.1.2.2.2.2), z.2.2.2.2.2.2.2.1, z.2.2.2.2.2.2.2.2)) 7 rfl inTX7 (by decide) kw298 rfl dX7_drawn_127 ?_
      refine lv_sipush (v := 250) hx hb dX7_drawn_130 (by decide) ?_
      obtain ⟨q6, h6, h⟩ := bs h
      refine kV X (cVN (As := [.int 250]) (rest := []) B X (tX3_go (d := d - 1) (LnX7_s6 L (z.1, z.2.1, z.2.2.1, z.2.2.2.1, z.2.2.2.2.1, z.2.2.2.2.2.1, ((q4.2, q5.2, z.2.2.2.2.2.2.1.1.2.2.1, z.2.2.2.2.2.2.1.1.2.2.2), z.2.2.2.2.2.2.1.2.1, z.2.2.2.2.2.2.1.2.2.1, z.2.2.2.2.2.2.1.2.2.2.1, z.2.2.2.2.2.2.1.2.2.2.2), z.2.2.2.2.2.2.2.1, z.2.2.2.2.2.2.2.2)) (by omega) h6) mfX3_go kn595 (by omega) (LnX3_g (LnX7_s6 L (z.1, z.2.1, z.2.2.1, z.2.2.2.1, z.2.2.2.2.1, z.2.2.2.2.2.1, ((q4.2, q5.2, z.2.2.2.2.2.2.1.1.2.2.1, z.2.2.2.2.2.2.1.1.2.2.2), z.2.2.2.2.2.2.1.2.1, z.2.2.2.2.2.2.1.2.2.1, z.2.2.2.2.2.2.1.2.2.2.1, z.2.2.2.2.2.2.1.2.2.2.2), z.2.2.2.2.2.2.2.1, z.2.2.2.2.2.2.2.2)) ((q4.2, q5.2, z.2.2.2.2.2.2.1.1.2.2.1, z.2.2.2.2.2.2.1.1.2.2.2), z.2.2.2.2.2.2.1.2.1, z.2.2.2.2.2.2.1.2.2.1, z.2.2.2.2.2.2.1.2.2.2.1, z.2.2.2.2.2.2.1.2.2.2.2)) rfl rfl (Nat.le_of_ble_eq_true rfl) hl.1 ⟨Nat.zero_le _, Nat.zero_le _⟩ dX7_drawn_133) (fun H locs X => ?_)
      have X : Hx A D S.heap (wf (z.1, z.2.1, z.2.2.1, z.2.2.2.1, z.2.2.2.2.1, z.2.2.2.2.2.1, q6, z.2.2.2.2.2.2.2.1, z.2.2.2.2.2.2.2.2)) H locs := X
      refine lv_iload hx hb dX7_drawn_136 (lv_at hl 4 rfl) ?_
      refine lv_aload_n hx hb dX7_drawn_138 rfl (lv_at hl 1 rfl) ?_
      refine fG B X (LnX7_g L (z.1, z.2.1, z.2.2.1, z.2.2.2.1, z.2.2.2.2.1, z.2.2.2.2.2.1, q6, z.2.2.2.2.2.2.2.1, z.2.2.2.2.2.2.2.2)) 7 rfl inTX7 (by decide) kw298 rfl dX7_drawn_139 ?_
      refine lv_iconst (v := 0) hx hb dX7_drawn_142 (by decide) ?_
      obtain ⟨q7, h7, h⟩ := bs h
      refine kI X (cVN (As := [.int 0]) (rest := [.int x5]) B X (tX3_lineAt (d := d - 1) (LnX7_s6 L (z.1, z.2.1, z.2.2.1, z.2.2.2.1, z.2.2.2.2.1, z.2.2.2.2.2.1, q6, z.2.2.2.2.2.2.2.1, z.2.2.2.2.2.2.2.2)) (by omega) h7) mfX3_lineAt kn731 (by omega) (LnX3_g (LnX7_s6 L (z.1, z.2.1, z.2.2.1, z.2.2.2.1, z.2.2.2.2.1, z.2.2.2.2.2.1, q6, z.2.2.2.2.2.2.2.1, z.2.2.2.2.2.2.2.2)) q6) rfl rfl (Nat.le_of_ble_eq_true rfl) hl.1 ⟨Nat.zero_le _, Nat.zero_le _⟩ dX7_drawn_143) (fun H locs X => ?_)
      have X : Hx A D S.heap (wf (z.1, z.2.1, z.2.2.1, z.2.2.2.1, z.2.2.2.2.1, z.2.2.2.2.2.1, q6, z.2.2.2.2.2.2.2.1, z.2.2.2.2.2.2.2.2)) H locs := X
      refine lv_iadd hx hb dX7_drawn_146 ?_
      refine lv_istore (lv' := [(5, .int (x5 + q7)), (4, .int q5.1), (0, .ref a0), (1, .int x1), (3, .int x3), (6, .int x6), (7, .int x7)]) hx hb dX7_drawn_147 hl (by decide) rfl (fun ls hl => ?_)
      refine lv_iload hx hb dX7_drawn_149 (lv_at hl 5 rfl) ?_
      refine lv_aload_n hx hb dX7_drawn_151 rfl (lv_at hl 2 rfl) ?_
      refine fG B X (LnX7_g L (z.1, z.2.1, z.2.2.1, z.2.2.2.1, z.2.2.2.2.1, z.2.2.2.2.2.1, q6, z.2.2.2.2.2.2.2.1, z.2.2.2.2.2.2.2.2)) 7 rfl inTX7 (by decide) kw298 rfl dX7_drawn_152 ?_
      refine lv_iconst (v := 1) hx hb dX7_drawn_155 (by decide) ?_
      obtain ⟨q8, h8, h⟩ := bs h
      refine kI X (cVN (As := [.int 1]) (rest := [.int x6]) B X (tX3_lineAt (d := d - 1) (LnX7_s6 L (z.1, z.2.1, z.2.2.1, z.2.2.2.1, z.2.2.2.2.1, z.2.2.2.2.2.1, q6, z.2.2.2.2.2.2.2.1, z.2.2.2.2.2.2.2.2)) (by omega) h8) mfX3_lineAt kn731 (by omega) (LnX3_g (LnX7_s6 L (z.1, z.2.1, z.2.2.1, z.2.2.2.1, z.2.2.2.2.1, z.2.2.2.2.2.1, q6, z.2.2.2.2.2.2.2.1, z.2.2.2.2.2.2.2.2)) q6) rfl rfl (Nat.le_of_ble_eq_true rfl) hl.1 ⟨Nat.zero_le _, Nat.zero_le _⟩ dX7_drawn_156) (fun H locs X => ?_)
      have X : Hx A D S.heap (wf (z.1, z.2.1, z.2.2.1, z.2.2.2.1, z.2.2.2.2.1, z.2.2.2.2.2.1, q6, z.2.2.2.2.2.2.2.1, z.2.2.2.2.2.2.2.2)) H locs := X
      refine lv_iadd hx hb dX7_drawn_159 ?_
      refine lv_istore (lv' := [(6, .int (x6 + q8)), (5, .int (x5 + q7)), (4, .int q5.1), (0, .ref a0), (1, .int x1), (3, .int x3), (7, .int x7)]) hx hb dX7_drawn_160 hl (by decide) rfl (fun ls hl => ?_)
      refine lv_iinc (v := x7 + 1) (lv' := [(7, .int (x7 + 1)), (6, .int (x6 + q8)), (5, .int (x5 + q7)), (4, .int q5.1), (0, .ref a0), (1, .int x1), (3, .int x3)]) hx hb dX7_drawn_162 hl (k := 6) rfl rfl (by decide) rfl (fun ls hl => ?_)
      refine lv_goto (tgt := 86) hx hb dX7_drawn_165 (by decide) ?_
      exact ih x1 x3 q5.1 (x5 + q7) (x6 + q8) (x7 + 1) (z.1, z.2.1, z.2.2.1, z.2.2.2.1, z.2.2.2.2.1, z.2.2.2.2.2.1, q6, z.2.2.2.2.2.2.2.1, z.2.2.2.2.2.2.2.2) _ _ _ X (lv_sub hl [4, 5, 6, 3, 2, 1, 0] rfl) h
def fX7_drawn (z : SX7) (x1 : Int32) (x2 : Int32) (x3 : Int32) : Option (Int32 × SX7) :=
    if x1 < 1 then (some ((-102), z)) else
    (if 10 < x1 then (some ((-102), z)) else
    (if x2 < 0 then (some ((-102), z)) else
    (if x3 < 0 then (some ((-102), z)) else
    (if x3 ≤ 2 then ((fX6_areThere z.2.1.1).bind fun q6 =>
    if q6 = 0 then (some ((-103), z)) else
    (fX7_drawn_b86 1000 x1 x3 x2 0 0 0 (z.1, z.2.1, z.2.2.1, z.2.2.2.1, z.2.2.2.2.1, z.2.2.2.2.2.1, ((z.2.2.2.2.2.2.1.1.1, z.2.2.2.2.2.2.1.1.2.1, z.2.1.1.2.2.1, z.2.1.1.2.2.2), z.2.2.2.2.2.2.1.2.1, z.2.2.2.2.2.2.1.2.2.1, z.2.2.2.2.2.2.1.2.2.2.1, z.2.2.2.2.2.2.1.2.2.2.2), z.2.2.2.2.2.2.2.1, z.2.2.2.2.2.2.2.2))) else
    (some ((-102), z))))))
set_option maxRecDepth 100000 in
set_option maxHeartbeats 4000000 in
theorem tX7_drawn {a0 a1 a2 a3 a4 a5 a6 a7 a8 a9 a10 a11 a12 a13 a14 a15 a16 a17 a18 a19 a20 a21 a22 a23 a24 a25 a26 a27 a28 a29 a30 a31 a32 a33 a34 a35 a36 a37 a38 a39 a40 a41 p0 p1 p2 p3 p4 p5 p6 p7 p8 p9 p10 p11 p12 p13 p14 p15 p16 p17 p18 p19 p20 p21 p22 p23 p24 p25 p26 p27 p28 p29 p30 p31 p32 p33 p34 p35 p36 p37 p38 p39 p40 p41 : Nat} {wf : SX7 → va_W} (L : LnX7 a0 a1 a2 a3 a4 a5 a6 a7 a8 a9 a10 a11 a12 a13 a14 a15 a16 a17 a18 a19 a20 a21 a22 a23 a24 a25 a26 a27 a28 a29 a30 a31 a32 a33 a34 a35 a36 a37 a38 a39 a40 a41 p0 p1 p2 p3 p4 p5 p6 p7 p8 p9 p10 p11 p12 p13 p14 p15 p16 p17 p18 p19 p20 p21 p22 p23 p24 p25 p26 p27 p28 p29 p30 p31 p32 p33 p34 p35 p36 p37 p38 p39 p40 p41 cI wf) {d : Nat} (hd : 26 ≤ d) {z : SX7} {x1 x2 x3 : Int32} {q : Int32 × SX7} (h : fX7_drawn z x1 x2 x3 = some q) : Ct l yX7_drawn cX7_drawn 8 (some .int) d A g D [(cI, .int), (cB, .byte)] [.ref a0, .int x1, .int x2, .int x3] (wf z) (QI A D (wf q.2) q.1) := by
  refine mkM (by decide) (Nat.le_of_ble_eq_true rfl) ?_
  intro p e S m args below meth c B X ls hl
  have B : Bd RX7 cX7_drawn 8 (some .int) d A g D [(cI, .int), (cB, .byte)] p (rmd d) S m args meth c := B
  have hx := B.1
  have hb := B.2.1
  have hd1 : 1 ≤ d := by omega
  have hl : lv_has ls 8 [(0, .ref a0), (1, .int x1), (2, .int x2), (3, .int x3)] := hl
  unfold fX7_drawn at h
  refine lv_iload_n hx hb dX7_drawn_0 rfl (lv_at hl 1 rfl) ?_
  refine lv_iconst (v := 1) hx hb dX7_drawn_1 (by decide) ?_
  refine lv_icmp_lt (tgt := 24) hx hb dX7_drawn_2 (by decide) (fun hc1 => ?_) (fun hc1 => ?_)
  · have h := it h hc1
    refine lv_bipush (v := (-102)) hx hb dX7_drawn_24 (by decide) ?_
    exact rI B X (congrArg (fun q => wf q.2) (Option.some.inj h)) (congrArg (fun q => q.1) (Option.some.inj h)) dX7_drawn_26
  · have h := ie h hc1
    refine lv_iload_n hx hb dX7_drawn_5 rfl (lv_at hl 1 rfl) ?_
    refine lv_bipush (v := 10) hx hb dX7_drawn_6 (by decide) ?_
    refine lv_icmp_gt (tgt := 24) hx hb dX7_drawn_8 (by decide) (fun hc2 => ?_) (fun hc2 => ?_)
    · have h := it h hc2
      refine lv_bipush (v := (-102)) hx hb dX7_drawn_24 (by decide) ?_
      exact rI B X (congrArg (fun q => wf q.2) (Option.some.inj h)) (congrArg (fun q => q.1) (Option.some.inj h)) dX7_drawn_26
    · have h := ie h hc2
      refine lv_iload_n hx hb dX7_drawn_11 rfl (lv_at hl 2 rfl) ?_
      refine lv_if_lt (tgt := 24) hx hb dX7_drawn_12 (by decide) (fun hc3 => ?_) (fun hc3 => ?_)
      · have h := it h hc3
        refine lv_bipush (v := (-102)) hx hb dX7_drawn_24 (by decide) ?_
        exact rI B X (congrArg (fun q => wf q.2) (Option.some.inj h)) (congrArg (fun q => q.1) (Option.some.inj h)) dX7_drawn_26
      · have h := ie h hc3
        refine lv_iload_n hx hb dX7_drawn_15 rfl (lv_at hl 3 rfl) ?_
        refine lv_if_lt (tgt := 24) hx hb dX7_drawn_16 (by decide) (fun hc4 => ?_) (fun hc4 => ?_)
        · have h := it h hc4
          refine lv_bipush (v := (-102)) hx hb dX7_drawn_24 (by decide) ?_
          exact rI B X (congrArg (fun q => wf q.2) (Option.some.inj h)) (congrArg (fun q => q.1) (Option.some.inj h)) dX7_drawn_26
        · have h := ie h hc4
          refine lv_iload_n hx hb dX7_drawn_19 rfl (lv_at hl 3 rfl) ?_
          refine lv_iconst (v := 2) hx hb dX7_drawn_20 (by decide) ?_
          refine lv_icmp_le (tgt := 27) hx hb dX7_drawn_21 (by decide) (fun hc5 => ?_) (fun hc5 => ?_)
          · have h := it h hc5
            refine lv_aload_n hx hb dX7_drawn_27 rfl (lv_at hl 0 rfl) ?_
            refine fG B X (LnX7_g L z) 2 rfl inTX7 (by decide) kw293 rfl dX7_drawn_28 ?_
            obtain ⟨q6, h6, h⟩ := bs h
            refine kI X (cVN (As := []) (rest := []) B X (tX6_areThere (d := d - 1) (LnX3_s0 (LnX7_s1 L z) z.2.1) (by omega) h6) mfX6_areThere kn551 (by omega) (LnX6_g (LnX3_s0 (LnX7_s1 L z) z.2.1) z.2.1.1) rfl rfl (Nat.le_of_ble_eq_true rfl) hl.1 ⟨Nat.zero_le _, Nat.zero_le _⟩ dX7_drawn_31) (fun H locs X => ?_)
            have X : Hx A D S.heap (wf z) H locs := X
            refine lv_if_ne (tgt := 40) hx hb dX7_drawn_34 (by decide) (fun hc7 => ?_) (fun hc7 => ?_)
            · have h := ie h hc7
              refine lv_aload_n hx hb dX7_drawn_40 rfl (lv_at hl 0 rfl) ?_
              refine fG B X (LnX7_g L z) 7 rfl inTX7 (by decide) kw298 rfl dX7_drawn_41 ?_
              refine fGN B X (LnX3_g (LnX7_s6 L z) z.2.2.2.2.2.2.1) 0 rfl inTX3 (by decide) kn256 rfl dX7_drawn_44 ?_
              refine lv_aload_n hx hb dX7_drawn_47 rfl (lv_at hl 0 rfl) ?_
              refine fG B X (LnX7_g L z) 2 rfl inTX7 (by decide) kw293 rfl dX7_drawn_48 ?_
              refine fGN B X (LnX6_g (LnX3_s0 (LnX7_s1 L z) z.2.1) z.2.1.1) 2 rfl inTX6 (by decide) kn181 rfl dX7_drawn_51 ?_
              refine fPN tyX6 B X (LnX6_g (LnX3_s0 (LnX7_s6 L z) z.2.2.2.2.2.2.1) z.2.2.2.2.2.2.1.1) 2 (LnX6_i2 (LnX3_s0 (LnX7_s6 L z) z.2.2.2.2.2.2.1) z.2.2.2.2.2.2.1.1 _) rfl inTX6 tyX6_ok nmX6 (by decide) kn181 rfl rfl rfl rfl (Nat.le_of_ble_eq_true rfl) dX7_drawn_54 (fun H locs X => ?_)
              have X : Hx A D S.heap (wf (z.1, z.2.1, z.2.2.1, z.2.2.2.1, z.2.2.2.2.1, z.2.2.2.2.2.1, ((z.2.2.2.2.2.2.1.1.1, z.2.2.2.2.2.2.1.1.2.1, z.2.1.1.2.2.1, z.2.2.2.2.2.2.1.1.2.2.2), z.2.2.2.2.2.2.1.2.1, z.2.2.2.2.2.2.1.2.2.1, z.2.2.2.2.2.2.1.2.2.2.1, z.2.2.2.2.2.2.1.2.2.2.2), z.2.2.2.2.2.2.2.1, z.2.2.2.2.2.2.2.2)) H locs := X
              refine lv_aload_n hx hb dX7_drawn_57 rfl (lv_at hl 0 rfl) ?_
              refine fG B X (LnX7_g L (z.1, z.2.1, z.2.2.1, z.2.2.2.1, z.2.2.2.2.1, z.2.2.2.2.2.1, ((z.2.2.2.2.2.2.1.1.1, z.2.2.2.2.2.2.1.1.2.1, z.2.1.1.2.2.1, z.2.2.2.2.2.2.1.1.2.2.2), z.2.2.2.2.2.2.1.2.1, z.2.2.2.2.2.2.1.2.2.1, z.2.2.2.2.2.2.1.2.2.2.1, z.2.2.2.2.2.2.1.2.2.2.2), z.2.2.2.2.2.2.2.1, z.2.2.2.2.2.2.2.2)) 7 rfl inTX7 (by decide) kw298 rfl dX7_drawn_58 ?_
              refine fGN B X (LnX3_g (LnX7_s6 L (z.1, z.2.1, z.2.2.1, z.2.2.2.1, z.2.2.2.2.1, z.2.2.2.2.2.1, ((z.2.2.2.2.2.2.1.1.1, z.2.2.2.2.2.2.1.1.2.1, z.2.1.1.2.2.1, z.2.2.2.2.2.2.1.1.2.2.2), z.2.2.2.2.2.2.1.2.1, z.2.2.2.2.2.2.1.2.2.1, z.2.2.2.2.2.2.1.2.2.2.1, z.2.2.2.2.2.2.1.2.2.2.2), z.2.2.2.2.2.2.2.1, z.2.2.2.2.2.2.2.2)) ((z.2.2.2.2.2.2.1.1.1, z.2.2.2.2.2.2.1.1.2.1, z.2.1.1.2.2.1, z.2.2.2.2.2.2.1.1.2.2.2), z.2.2.2.2.2.2.1.2.1, z.2.2.2.2.2.2.1.2.2.1, z.2.2.2.2.2.2.1.2.2.2.1, z.2.2.2.2.2.2.1.2.2.2.2)) 0 rfl inTX3 (by decide) kn256 rfl dX7_drawn_61 ?_
              refine lv_aload_n hx hb dX7_drawn_64 rfl (lv_at hl 0 rfl) ?_
              refine fG B X (LnX7_g L (z.1, z.2.1, z.2.2.1, z.2.2.2.1, z.2.2.2.2.1, z.2.2.2.2.2.1, ((z.2.2.2.2.2.2.1.1.1, z.2.2.2.2.2.2.1.1.2.1, z.2.1.1.2.2.1, z.2.2.2.2.2.2.1.1.2.2.2), z.2.2.2.2.2.2.1.2.1, z.2.2.2.2.2.2.1.2.2.1, z.2.2.2.2.2.2.1.2.2.2.1, z.2.2.2.2.2.2.1.2.2.2.2), z.2.2.2.2.2.2.2.1, z.2.2.2.2.2.2.2.2)) 2 rfl inTX7 (by decide) kw293 rfl dX7_drawn_65 ?_
              refine fGN B X (LnX6_g (LnX3_s0 (LnX7_s1 L (z.1, z.2.1, z.2.2.1, z.2.2.2.1, z.2.2.2.2.1, z.2.2.2.2.2.1, ((z.2.2.2.2.2.2.1.1.1, z.2.2.2.2.2.2.1.1.2.1, z.2.1.1.2.2.1, z.2.2.2.2.2.2.1.1.2.2.2), z.2.2.2.2.2.2.1.2.1, z.2.2.2.2.2.2.1.2.2.1, z.2.2.2.2.2.2.1.2.2.2.1, z.2.2.2.2.2.2.1.2.2.2.2), z.2.2.2.2.2.2.2.1, z.2.2.2.2.2.2.2.2)) z.2.1) z.2.1.1) 3 rfl inTX6 (by decide) kn184 rfl dX7_drawn_68 ?_
              refine fPN tyX6 B X (LnX6_g (LnX3_s0 (LnX7_s6 L (z.1, z.2.1, z.2.2.1, z.2.2.2.1, z.2.2.2.2.1, z.2.2.2.2.2.1, ((z.2.2.2.2.2.2.1.1.1, z.2.2.2.2.2.2.1.1.2.1, z.2.1.1.2.2.1, z.2.2.2.2.2.2.1.1.2.2.2), z.2.2.2.2.2.2.1.2.1, z.2.2.2.2.2.2.1.2.2.1, z.2.2.2.2.2.2.1.2.2.2.1, z.2.2.2.2.2.2.1.2.2.2.2), z.2.2.2.2.2.2.2.1, z.2.2.2.2.2.2.2.2)) ((z.2.2.2.2.2.2.1.1.1, z.2.2.2.2.2.2.1.1.2.1, z.2.1.1.2.2.1, z.2.2.2.2.2.2.1.1.2.2.2), z.2.2.2.2.2.2.1.2.1, z.2.2.2.2.2.2.1.2.2.1, z.2.2.2.2.2.2.1.2.2.2.1, z.2.2.2.2.2.2.1.2.2.2.2)) (z.2.2.2.2.2.2.1.1.1, z.2.2.2.2.2.2.1.1.2.1, z.2.1.1.2.2.1, z.2.2.2.2.2.2.1.1.2.2.2)) 3 (LnX6_i3 (LnX3_s0 (LnX7_s6 L (z.1, z.2.1, z.2.2.1, z.2.2.2.1, z.2.2.2.2.1, z.2.2.2.2.2.1, ((z.2.2.2.2.2.2.1.1.1, z.2.2.2.2.2.2.1.1.2.1, z.2.1.1.2.2.1, z.2.2.2.2.2.2.1.1.2.2.2), z.2.2.2.2.2.2.1.2.1, z.2.2.2.2.2.2.1.2.2.1, z.2.2.2.2.2.2.1.2.2.2.1, z.2.2.2.2.2.2.1.2.2.2.2), z.2.2.2.2.2.2.2.1, z.2.2.2.2.2.2.2.2)) ((z.2.2.2.2.2.2.1.1.1, z.2.2.2.2.2.2.1.1.2.1, z.2.1.1.2.2.1, z.2.2.2.2.2.2.1.1.2.2.2), z.2.2.2.2.2.2.1.2.1, z.2.2.2.2.2.2.1.2.2.1, z.2.2.2.2.2.2.1.2.2.2.1, z.2.2.2.2.2.2.1.2.2.2.2)) (z.2.2.2.2.2.2.1.1.1, z.2.2.2.2.2.2.1.1.2.1, z.2.1.1.2.2.1, z.2.2.2.2.2.2.1.1.2.2.2) _) rfl inTX6 tyX6_ok nmX6 (by decide) kn184 rfl rfl rfl rfl (Nat.le_of_ble_eq_true rfl) dX7_drawn_71 (fun H locs X => ?_)
              have X : Hx A D S.heap (wf (z.1, z.2.1, z.2.2.1, z.2.2.2.1, z.2.2.2.2.1, z.2.2.2.2.2.1, ((z.2.2.2.2.2.2.1.1.1, z.2.2.2.2.2.2.1.1.2.1, z.2.1.1.2.2.1, z.2.1.1.2.2.2), z.2.2.2.2.2.2.1.2.1, z.2.2.2.2.2.2.1.2.2.1, z.2.2.2.2.2.2.1.2.2.2.1, z.2.2.2.2.2.2.1.2.2.2.2), z.2.2.2.2.2.2.2.1, z.2.2.2.2.2.2.2.2)) H locs := X
              refine lv_iload_n hx hb dX7_drawn_74 rfl (lv_at hl 2 rfl) ?_
              refine lv_istore (lv' := [(4, .int x2), (0, .ref a0), (1, .int x1), (2, .int x2), (3, .int x3)]) hx hb dX7_drawn_75 hl (by decide) rfl (fun ls hl => ?_)
              refine lv_iconst (v := 0) hx hb dX7_drawn_77 (by decide) ?_
              refine lv_istore (lv' := [(5, .int 0), (4, .int x2), (0, .ref a0), (1, .int x1), (2, .int x2), (3, .int x3)]) hx hb dX7_drawn_78 hl (by decide) rfl (fun ls hl => ?_)
              refine lv_iconst (v := 0) hx hb dX7_drawn_80 (by decide) ?_
              refine lv_istore (lv' := [(6, .int 0), (5, .int 0), (4, .int x2), (0, .ref a0), (1, .int x1), (2, .int x2), (3, .int x3)]) hx hb dX7_drawn_81 hl (by decide) rfl (fun ls hl => ?_)
              refine lv_iconst (v := 0) hx hb dX7_drawn_83 (by decide) ?_
              refine lv_istore (lv' := [(7, .int 0), (6, .int 0), (5, .int 0), (4, .int x2), (0, .ref a0), (1, .int x1), (2, .int x2), (3, .int x3)]) hx hb dX7_drawn_84 hl (by decide) rfl (fun ls hl => ?_)
              exact tX7_drawn_b86 L hd B 1000 x1 x3 x2 0 0 0 (z.1, z.2.1, z.2.2.1, z.2.2.2.1, z.2.2.2.2.1, z.2.2.2.2.2.1, ((z.2.2.2.2.2.2.1.1.1, z.2.2.2.2.2.2.1.1.2.1, z.2.1.1.2.2.1, z.2.1.1.2.2.2), z.2.2.2.2.2.2.1.2.1, z.2.2.2.2.2.2.1.2.2.1, z.2.2.2.2.2.2.1.2.2.2.1, z.2.2.2.2.2.2.1.2.2.2.2), z.2.2.2.2.2.2.2.1, z.2.2.2.2.2.2.2.2) _ _ _ X (lv_sub hl [4, 5, 7, 3, 2, 1, 0] rfl) h
            · have h := it h hc7
              refine lv_bipush (v := (-103)) hx hb dX7_drawn_37 (by decide) ?_
              exact rI B X (congrArg (fun q => wf q.2) (Option.some.inj h)) (congrArg (fun q => q.1) (Option.some.inj h)) dX7_drawn_39
          · have h := ie h hc5
            refine lv_bipush (v := (-102)) hx hb dX7_drawn_24 (by decide) ?_
            exact rI B X (congrArg (fun q => wf q.2) (Option.some.inj h)) (congrArg (fun q => q.1) (Option.some.inj h)) dX7_drawn_26
def fX7_image (z : SX7) : Option (Int32 × SX7) :=
    (fX6_areThere z.2.1.1).bind fun q1 =>
    if q1 = 0 then (some ((-103), z)) else
    ((fX6_copy (z.2.2.2.1, z.2.1.1)).bind fun q3 =>
    (fX4_copy (z.2.2.2.2.1, z.2.2.1)).bind fun q4 =>
    (fX6_size q3.2).bind fun q5 =>
    some (q5, (z.1, (q3.2, z.2.1.2.1, z.2.1.2.2.1, z.2.1.2.2.2.1, z.2.1.2.2.2.2), q4.2, q3.1, q4.1, 1, z.2.2.2.2.2.2.1, z.2.2.2.2.2.2.2.1, z.2.2.2.2.2.2.2.2)))
set_option maxRecDepth 100000 in
set_option maxHeartbeats 4000000 in
theorem tX7_image {a0 a1 a2 a3 a4 a5 a6 a7 a8 a9 a10 a11 a12 a13 a14 a15 a16 a17 a18 a19 a20 a21 a22 a23 a24 a25 a26 a27 a28 a29 a30 a31 a32 a33 a34 a35 a36 a37 a38 a39 a40 a41 p0 p1 p2 p3 p4 p5 p6 p7 p8 p9 p10 p11 p12 p13 p14 p15 p16 p17 p18 p19 p20 p21 p22 p23 p24 p25 p26 p27 p28 p29 p30 p31 p32 p33 p34 p35 p36 p37 p38 p39 p40 p41 : Nat} {wf : SX7 → va_W} (L : LnX7 a0 a1 a2 a3 a4 a5 a6 a7 a8 a9 a10 a11 a12 a13 a14 a15 a16 a17 a18 a19 a20 a21 a22 a23 a24 a25 a26 a27 a28 a29 a30 a31 a32 a33 a34 a35 a36 a37 a38 a39 a40 a41 p0 p1 p2 p3 p4 p5 p6 p7 p8 p9 p10 p11 p12 p13 p14 p15 p16 p17 p18 p19 p20 p21 p22 p23 p24 p25 p26 p27 p28 p29 p30 p31 p32 p33 p34 p35 p36 p37 p38 p39 p40 p41 cI wf) {d : Nat} (hd : 4 ≤ d) {z : SX7} {q : Int32 × SX7} (h : fX7_image z = some q) : Ct l yX7_image cX7_image 1 (some .int) d A g D [(cI, .int), (cB, .byte)] [.ref a0] (wf z) (QI A D (wf q.2) q.1) := by
  refine mkM (by decide) (Nat.le_of_ble_eq_true rfl) ?_
  intro p e S m args below meth c B X ls hl
  have B : Bd RX7 cX7_image 1 (some .int) d A g D [(cI, .int), (cB, .byte)] p (rmd d) S m args meth c := B
  have hx := B.1
  have hb := B.2.1
  have hd1 : 1 ≤ d := by omega
  have hl : lv_has ls 1 [(0, .ref a0)] := hl
  unfold fX7_image at h
  refine lv_aload_n hx hb dX7_image_0 rfl (lv_at hl 0 rfl) ?_
  refine fG B X (LnX7_g L z) 2 rfl inTX7 (by decide) kw293 rfl dX7_image_1 ?_
  obtain ⟨q1, h1, h⟩ := bs h
  refine kI X (cVN (As := []) (rest := []) B X (tX6_areThere (d := d - 1) (LnX3_s0 (LnX7_s1 L z) z.2.1) (by omega) h1) mfX6_areThere kn551 (by omega) (LnX6_g (LnX3_s0 (LnX7_s1 L z) z.2.1) z.2.1.1) rfl rfl (Nat.le_of_ble_eq_true rfl) hl.1 ⟨Nat.zero_le _, Nat.zero_le _⟩ dX7_image_4) (fun H locs X => ?_)
  have X : Hx A D S.heap (wf z) H locs := X
  refine lv_if_ne (tgt := 13) hx hb dX7_image_7 (by decide) (fun hc2 => ?_) (fun hc2 => ?_)
  · have h := ie h hc2
    refine lv_aload_n hx hb dX7_image_13 rfl (lv_at hl 0 rfl) ?_
    refine fG B X (LnX7_g L z) 4 rfl inTX7 (by decide) kw295 rfl dX7_image_14 ?_
    refine lv_aload_n hx hb dX7_image_17 rfl (lv_at hl 0 rfl) ?_
    refine fG B X (LnX7_g L z) 2 rfl inTX7 (by decide) kw293 rfl dX7_image_18 ?_
    obtain ⟨q3, h3, h⟩ := bs h
    refine kV X (cVN (As := [.ref a4]) (rest := []) B X (tX6_copy (d := d - 1) (LnP66_mk (wf := fun t : SP66 => wf (z.1, (t.2, z.2.1.2.1, z.2.1.2.2.1, z.2.1.2.2.2.1, z.2.1.2.2.2.2), z.2.2.1, t.1, z.2.2.2.2.1, z.2.2.2.2.2.1, z.2.2.2.2.2.2.1, z.2.2.2.2.2.2.2.1, z.2.2.2.2.2.2.2.2)) (fun t => (LnX7_s3 L (z.1, (t.2, z.2.1.2.1, z.2.1.2.2.1, z.2.1.2.2.2.1, z.2.1.2.2.2.2), z.2.2.1, t.1, z.2.2.2.2.1, z.2.2.2.2.2.1, z.2.2.2.2.2.2.1, z.2.2.2.2.2.2.2.1, z.2.2.2.2.2.2.2.2))) (fun t => (LnX3_s0 (LnX7_s1 L (z.1, (t.2, z.2.1.2.1, z.2.1.2.2.1, z.2.1.2.2.2.1, z.2.1.2.2.2.2), z.2.2.1, t.1, z.2.2.2.2.1, z.2.2.2.2.2.1, z.2.2.2.2.2.2.1, z.2.2.2.2.2.2.2.1, z.2.2.2.2.2.2.2.2)) (t.2, z.2.1.2.1, z.2.1.2.2.1, z.2.1.2.2.2.1, z.2.1.2.2.2.2)))) (by omega) h3) mfX6_copy kn786 (by omega) (LnX6_g (LnX7_s3 L z) z.2.2.2.1) rfl rfl (Nat.le_of_ble_eq_true rfl) hl.1 ⟨Nat.zero_le _, Nat.zero_le _⟩ dX7_image_21) (fun H locs X => ?_)
    have X : Hx A D S.heap (wf (z.1, (q3.2, z.2.1.2.1, z.2.1.2.2.1, z.2.1.2.2.2.1, z.2.1.2.2.2.2), z.2.2.1, q3.1, z.2.2.2.2.1, z.2.2.2.2.2.1, z.2.2.2.2.2.2.1, z.2.2.2.2.2.2.2.1, z.2.2.2.2.2.2.2.2)) H locs := X
    refine lv_aload_n hx hb dX7_image_24 rfl (lv_at hl 0 rfl) ?_
    refine fG B X (LnX7_g L (z.1, (q3.2, z.2.1.2.1, z.2.1.2.2.1, z.2.1.2.2.2.1, z.2.1.2.2.2.2), z.2.2.1, q3.1, z.2.2.2.2.1, z.2.2.2.2.2.1, z.2.2.2.2.2.2.1, z.2.2.2.2.2.2.2.1, z.2.2.2.2.2.2.2.2)) 5 rfl inTX7 (by decide) kw296 rfl dX7_image_25 ?_
    refine lv_aload_n hx hb dX7_image_28 rfl (lv_at hl 0 rfl) ?_
    refine fG B X (LnX7_g L (z.1, (q3.2, z.2.1.2.1, z.2.1.2.2.1, z.2.1.2.2.2.1, z.2.1.2.2.2.2), z.2.2.1, q3.1, z.2.2.2.2.1, z.2.2.2.2.2.1, z.2.2.2.2.2.2.1, z.2.2.2.2.2.2.2.1, z.2.2.2.2.2.2.2.2)) 3 rfl inTX7 (by decide) kw294 rfl dX7_image_29 ?_
    obtain ⟨q4, h4, h⟩ := bs h
    refine kV X (cVN (As := [.ref a19]) (rest := []) B X (tX4_copy (d := d - 1) (LnP44_mk (wf := fun t : SP44 => wf (z.1, (q3.2, z.2.1.2.1, z.2.1.2.2.1, z.2.1.2.2.2.1, z.2.1.2.2.2.2), t.2, q3.1, t.1, z.2.2.2.2.2.1, z.2.2.2.2.2.2.1, z.2.2.2.2.2.2.2.1, z.2.2.2.2.2.2.2.2)) (fun t => (LnX7_s4 L (z.1, (q3.2, z.2.1.2.1, z.2.1.2.2.1, z.2.1.2.2.2.1, z.2.1.2.2.2.2), t.2, q3.1, t.1, z.2.2.2.2.2.1, z.2.2.2.2.2.2.1, z.2.2.2.2.2.2.2.1, z.2.2.2.2.2.2.2.2))) (fun t => (LnX7_s2 L (z.1, (q3.2, z.2.1.2.1, z.2.1.2.2.1, z.2.1.2.2.2.1, z.2.1.2.2.2.2), t.2, q3.1, t.1, z.2.2.2.2.2.1, z.2.2.2.2.2.2.1, z.2.2.2.2.2.2.2.1, z.2.2.2.2.2.2.2.2)))) (by omega) h4) mfX4_copy kn796 (by omega) (LnX4_g (LnX7_s4 L (z.1, (q3.2, z.2.1.2.1, z.2.1.2.2.1, z.2.1.2.2.2.1, z.2.1.2.2.2.2), z.2.2.1, q3.1, z.2.2.2.2.1, z.2.2.2.2.2.1, z.2.2.2.2.2.2.1, z.2.2.2.2.2.2.2.1, z.2.2.2.2.2.2.2.2)) z.2.2.2.2.1) rfl rfl (Nat.le_of_ble_eq_true rfl) hl.1 ⟨Nat.zero_le _, Nat.zero_le _⟩ dX7_image_32) (fun H locs X => ?_)
    have X : Hx A D S.heap (wf (z.1, (q3.2, z.2.1.2.1, z.2.1.2.2.1, z.2.1.2.2.2.1, z.2.1.2.2.2.2), q4.2, q3.1, q4.1, z.2.2.2.2.2.1, z.2.2.2.2.2.2.1, z.2.2.2.2.2.2.2.1, z.2.2.2.2.2.2.2.2)) H locs := X
    refine lv_aload_n hx hb dX7_image_35 rfl (lv_at hl 0 rfl) ?_
    refine lv_iconst (v := 1) hx hb dX7_image_36 (by decide) ?_
    refine fP tyX7 B X (LnX7_g L (z.1, (q3.2, z.2.1.2.1, z.2.1.2.2.1, z.2.1.2.2.2.1, z.2.1.2.2.2.2), q4.2, q3.1, q4.1, z.2.2.2.2.2.1, z.2.2.2.2.2.2.1, z.2.2.2.2.2.2.2.1, z.2.2.2.2.2.2.2.2)) 6 (LnX7_i5 L (z.1, (q3.2, z.2.1.2.1, z.2.1.2.2.1, z.2.1.2.2.2.1, z.2.1.2.2.2.2), q4.2, q3.1, q4.1, z.2.2.2.2.2.1, z.2.2.2.2.2.2.1, z.2.2.2.2.2.2.2.1, z.2.2.2.2.2.2.2.2) _) rfl inTX7 tyX7_ok nmX7 (by decide) kw297 rfl rfl rfl rfl (Nat.le_of_ble_eq_true rfl) dX7_image_37 (fun H locs X => ?_)
    have X : Hx A D S.heap (wf (z.1, (q3.2, z.2.1.2.1, z.2.1.2.2.1, z.2.1.2.2.2.1, z.2.1.2.2.2.2), q4.2, q3.1, q4.1, 1, z.2.2.2.2.2.2.1, z.2.2.2.2.2.2.2.1, z.2.2.2.2.2.2.2.2)) H locs := X
    refine lv_aload_n hx hb dX7_image_40 rfl (lv_at hl 0 rfl) ?_
    refine fG B X (LnX7_g L (z.1, (q3.2, z.2.1.2.1, z.2.1.2.2.1, z.2.1.2.2.2.1, z.2.1.2.2.2.2), q4.2, q3.1, q4.1, 1, z.2.2.2.2.2.2.1, z.2.2.2.2.2.2.2.1, z.2.2.2.2.2.2.2.2)) 2 rfl inTX7 (by decide) kw293 rfl dX7_image_41 ?_
    obtain ⟨q5, h5, h⟩ := bs h
    refine kI X (cVN (As := []) (rest := []) B X (tX6_size (d := d - 1) (LnX3_s0 (LnX7_s1 L (z.1, (q3.2, z.2.1.2.1, z.2.1.2.2.1, z.2.1.2.2.2.1, z.2.1.2.2.2.2), q4.2, q3.1, q4.1, 1, z.2.2.2.2.2.2.1, z.2.2.2.2.2.2.2.1, z.2.2.2.2.2.2.2.2)) (q3.2, z.2.1.2.1, z.2.1.2.2.1, z.2.1.2.2.2.1, z.2.1.2.2.2.2)) (by omega) h5) mfX6_size kn498 (by omega) (LnX6_g (LnX3_s0 (LnX7_s1 L (z.1, (q3.2, z.2.1.2.1, z.2.1.2.2.1, z.2.1.2.2.2.1, z.2.1.2.2.2.2), q4.2, q3.1, q4.1, 1, z.2.2.2.2.2.2.1, z.2.2.2.2.2.2.2.1, z.2.2.2.2.2.2.2.2)) (q3.2, z.2.1.2.1, z.2.1.2.2.1, z.2.1.2.2.2.1, z.2.1.2.2.2.2)) q3.2) rfl rfl (Nat.le_of_ble_eq_true rfl) hl.1 ⟨Nat.zero_le _, Nat.zero_le _⟩ dX7_image_44) (fun H locs X => ?_)
    have X : Hx A D S.heap (wf (z.1, (q3.2, z.2.1.2.1, z.2.1.2.2.1, z.2.1.2.2.2.1, z.2.1.2.2.2.2), q4.2, q3.1, q4.1, 1, z.2.2.2.2.2.2.1, z.2.2.2.2.2.2.2.1, z.2.2.2.2.2.2.2.2)) H locs := X
    exact rI B X (congrArg (fun q => wf q.2) (Option.some.inj h)) (congrArg (fun q => q.1) (Option.some.inj h)) dX7_image_47
  · have h := it h hc2
    refine lv_bipush (v := (-103)) hx hb dX7_image_10 (by decide) ?_
    exact rI B X (congrArg (fun q => wf q.2) (Option.some.inj h)) (congrArg (fun q => q.1) (Option.some.inj h)) dX7_image_12
def fX7_restore (z : SX7) : Option (Int32 × SX7) :=
    if z.2.2.2.2.2.1 = 0 then (some ((-103), z)) else
    ((fX6_copy (z.2.1.1, z.2.2.2.1)).bind fun q2 =>
    (fX4_copy (z.2.2.1, z.2.2.2.2.1)).bind fun q3 =>
    (fX6_size q2.1).bind fun q4 =>
    some (q4, (z.1, (q2.1, z.2.1.2.1, z.2.1.2.2.1, z.2.1.2.2.2.1, z.2.1.2.2.2.2), q3.1, q2.2, q3.2, z.2.2.2.2.2.1, z.2.2.2.2.2.2.1, z.2.2.2.2.2.2.2.1, z.2.2.2.2.2.2.2.2)))
set_option maxRecDepth 100000 in
set_option maxHeartbeats 4000000 in
theorem tX7_restore {a0 a1 a2 a3 a4 a5 a6 a7 a8 a9 a10 a11 a12 a13 a14 a15 a16 a17 a18 a19 a20 a21 a22 a23 a24 a25 a26 a27 a28 a29 a30 a31 a32 a33 a34 a35 a36 a37 a38 a39 a40 a41 p0 p1 p2 p3 p4 p5 p6 p7 p8 p9 p10 p11 p12 p13 p14 p15 p16 p17 p18 p19 p20 p21 p22 p23 p24 p25 p26 p27 p28 p29 p30 p31 p32 p33 p34 p35 p36 p37 p38 p39 p40 p41 : Nat} {wf : SX7 → va_W} (L : LnX7 a0 a1 a2 a3 a4 a5 a6 a7 a8 a9 a10 a11 a12 a13 a14 a15 a16 a17 a18 a19 a20 a21 a22 a23 a24 a25 a26 a27 a28 a29 a30 a31 a32 a33 a34 a35 a36 a37 a38 a39 a40 a41 p0 p1 p2 p3 p4 p5 p6 p7 p8 p9 p10 p11 p12 p13 p14 p15 p16 p17 p18 p19 p20 p21 p22 p23 p24 p25 p26 p27 p28 p29 p30 p31 p32 p33 p34 p35 p36 p37 p38 p39 p40 p41 cI wf) {d : Nat} (hd : 4 ≤ d) {z : SX7} {q : Int32 × SX7} (h : fX7_restore z = some q) : Ct l yX7_restore cX7_restore 1 (some .int) d A g D [(cI, .int), (cB, .byte)] [.ref a0] (wf z) (QI A D (wf q.2) q.1) := by
  refine mkM (by decide) (Nat.le_of_ble_eq_true rfl) ?_
  intro p e S m args below meth c B X ls hl
  have B : Bd RX7 cX7_restore 1 (some .int) d A g D [(cI, .int), (cB, .byte)] p (rmd d) S m args meth c := B
  have hx := B.1
  have hb := B.2.1
  have hd1 : 1 ≤ d := by omega
  have hl : lv_has ls 1 [(0, .ref a0)] := hl
  unfold fX7_restore at h
  refine lv_aload_n hx hb dX7_restore_0 rfl (lv_at hl 0 rfl) ?_
  refine fG B X (LnX7_g L z) 6 rfl inTX7 (by decide) kw297 rfl dX7_restore_1 ?_
  refine lv_if_ne (tgt := 10) hx hb dX7_restore_4 (by decide) (fun hc1 => ?_) (fun hc1 => ?_)
  · have h := ie h hc1
    refine lv_aload_n hx hb dX7_restore_10 rfl (lv_at hl 0 rfl) ?_
    refine fG B X (LnX7_g L z) 2 rfl inTX7 (by decide) kw293 rfl dX7_restore_11 ?_
    refine lv_aload_n hx hb dX7_restore_14 rfl (lv_at hl 0 rfl) ?_
    refine fG B X (LnX7_g L z) 4 rfl inTX7 (by decide) kw295 rfl dX7_restore_15 ?_
    obtain ⟨q2, h2, h⟩ := bs h
    refine kV X (cVN (As := [.ref a20]) (rest := []) B X (tX6_copy (d := d - 1) (LnP66_mk (wf := fun t : SP66 => wf (z.1, (t.1, z.2.1.2.1, z.2.1.2.2.1, z.2.1.2.2.2.1, z.2.1.2.2.2.2), z.2.2.1, t.2, z.2.2.2.2.1, z.2.2.2.2.2.1, z.2.2.2.2.2.2.1, z.2.2.2.2.2.2.2.1, z.2.2.2.2.2.2.2.2)) (fun t => (LnX3_s0 (LnX7_s1 L (z.1, (t.1, z.2.1.2.1, z.2.1.2.2.1, z.2.1.2.2.2.1, z.2.1.2.2.2.2), z.2.2.1, t.2, z.2.2.2.2.1, z.2.2.2.2.2.1, z.2.2.2.2.2.2.1, z.2.2.2.2.2.2.2.1, z.2.2.2.2.2.2.2.2)) (t.1, z.2.1.2.1, z.2.1.2.2.1, z.2.1.2.2.2.1, z.2.1.2.2.2.2))) (fun t => (LnX7_s3 L (z.1, (t.1, z.2.1.2.1, z.2.1.2.2.1, z.2.1.2.2.2.1, z.2.1.2.2.2.2), z.2.2.1, t.2, z.2.2.2.2.1, z.2.2.2.2.2.1, z.2.2.2.2.2.2.1, z.2.2.2.2.2.2.2.1, z.2.2.2.2.2.2.2.2)))) (by omega) h2) mfX6_copy kn786 (by omega) (LnX6_g (LnX3_s0 (LnX7_s1 L z) z.2.1) z.2.1.1) rfl rfl (Nat.le_of_ble_eq_true rfl) hl.1 ⟨Nat.zero_le _, Nat.zero_le _⟩ dX7_restore_18) (fun H locs X => ?_)
    have X : Hx A D S.heap (wf (z.1, (q2.1, z.2.1.2.1, z.2.1.2.2.1, z.2.1.2.2.2.1, z.2.1.2.2.2.2), z.2.2.1, q2.2, z.2.2.2.2.1, z.2.2.2.2.2.1, z.2.2.2.2.2.2.1, z.2.2.2.2.2.2.2.1, z.2.2.2.2.2.2.2.2)) H locs := X
    refine lv_aload_n hx hb dX7_restore_21 rfl (lv_at hl 0 rfl) ?_
    refine fG B X (LnX7_g L (z.1, (q2.1, z.2.1.2.1, z.2.1.2.2.1, z.2.1.2.2.2.1, z.2.1.2.2.2.2), z.2.2.1, q2.2, z.2.2.2.2.1, z.2.2.2.2.2.1, z.2.2.2.2.2.2.1, z.2.2.2.2.2.2.2.1, z.2.2.2.2.2.2.2.2)) 3 rfl inTX7 (by decide) kw294 rfl dX7_restore_22 ?_
    refine lv_aload_n hx hb dX7_restore_25 rfl (lv_at hl 0 rfl) ?_
    refine fG B X (LnX7_g L (z.1, (q2.1, z.2.1.2.1, z.2.1.2.2.1, z.2.1.2.2.2.1, z.2.1.2.2.2.2), z.2.2.1, q2.2, z.2.2.2.2.1, z.2.2.2.2.2.1, z.2.2.2.2.2.2.1, z.2.2.2.2.2.2.2.1, z.2.2.2.2.2.2.2.2)) 5 rfl inTX7 (by decide) kw296 rfl dX7_restore_26 ?_
    obtain ⟨q3, h3, h⟩ := bs h
    refine kV X (cVN (As := [.ref a25]) (rest := []) B X (tX4_copy (d := d - 1) (LnP44_mk (wf := fun t : SP44 => wf (z.1, (q2.1, z.2.1.2.1, z.2.1.2.2.1, z.2.1.2.2.2.1, z.2.1.2.2.2.2), t.1, q2.2, t.2, z.2.2.2.2.2.1, z.2.2.2.2.2.2.1, z.2.2.2.2.2.2.2.1, z.2.2.2.2.2.2.2.2)) (fun t => (LnX7_s2 L (z.1, (q2.1, z.2.1.2.1, z.2.1.2.2.1, z.2.1.2.2.2.1, z.2.1.2.2.2.2), t.1, q2.2, t.2, z.2.2.2.2.2.1, z.2.2.2.2.2.2.1, z.2.2.2.2.2.2.2.1, z.2.2.2.2.2.2.2.2))) (fun t => (LnX7_s4 L (z.1, (q2.1, z.2.1.2.1, z.2.1.2.2.1, z.2.1.2.2.2.1, z.2.1.2.2.2.2), t.1, q2.2, t.2, z.2.2.2.2.2.1, z.2.2.2.2.2.2.1, z.2.2.2.2.2.2.2.1, z.2.2.2.2.2.2.2.2)))) (by omega) h3) mfX4_copy kn796 (by omega) (LnX4_g (LnX7_s2 L (z.1, (q2.1, z.2.1.2.1, z.2.1.2.2.1, z.2.1.2.2.2.1, z.2.1.2.2.2.2), z.2.2.1, q2.2, z.2.2.2.2.1, z.2.2.2.2.2.1, z.2.2.2.2.2.2.1, z.2.2.2.2.2.2.2.1, z.2.2.2.2.2.2.2.2)) z.2.2.1) rfl rfl (Nat.le_of_ble_eq_true rfl) hl.1 ⟨Nat.zero_le _, Nat.zero_le _⟩ dX7_restore_29) (fun H locs X => ?_)
    have X : Hx A D S.heap (wf (z.1, (q2.1, z.2.1.2.1, z.2.1.2.2.1, z.2.1.2.2.2.1, z.2.1.2.2.2.2), q3.1, q2.2, q3.2, z.2.2.2.2.2.1, z.2.2.2.2.2.2.1, z.2.2.2.2.2.2.2.1, z.2.2.2.2.2.2.2.2)) H locs := X
    refine lv_aload_n hx hb dX7_restore_32 rfl (lv_at hl 0 rfl) ?_
    refine fG B X (LnX7_g L (z.1, (q2.1, z.2.1.2.1, z.2.1.2.2.1, z.2.1.2.2.2.1, z.2.1.2.2.2.2), q3.1, q2.2, q3.2, z.2.2.2.2.2.1, z.2.2.2.2.2.2.1, z.2.2.2.2.2.2.2.1, z.2.2.2.2.2.2.2.2)) 2 rfl inTX7 (by decide) kw293 rfl dX7_restore_33 ?_
    obtain ⟨q4, h4, h⟩ := bs h
    refine kI X (cVN (As := []) (rest := []) B X (tX6_size (d := d - 1) (LnX3_s0 (LnX7_s1 L (z.1, (q2.1, z.2.1.2.1, z.2.1.2.2.1, z.2.1.2.2.2.1, z.2.1.2.2.2.2), q3.1, q2.2, q3.2, z.2.2.2.2.2.1, z.2.2.2.2.2.2.1, z.2.2.2.2.2.2.2.1, z.2.2.2.2.2.2.2.2)) (q2.1, z.2.1.2.1, z.2.1.2.2.1, z.2.1.2.2.2.1, z.2.1.2.2.2.2)) (by omega) h4) mfX6_size kn498 (by omega) (LnX6_g (LnX3_s0 (LnX7_s1 L (z.1, (q2.1, z.2.1.2.1, z.2.1.2.2.1, z.2.1.2.2.2.1, z.2.1.2.2.2.2), q3.1, q2.2, q3.2, z.2.2.2.2.2.1, z.2.2.2.2.2.2.1, z.2.2.2.2.2.2.2.1, z.2.2.2.2.2.2.2.2)) (q2.1, z.2.1.2.1, z.2.1.2.2.1, z.2.1.2.2.2.1, z.2.1.2.2.2.2)) q2.1) rfl rfl (Nat.le_of_ble_eq_true rfl) hl.1 ⟨Nat.zero_le _, Nat.zero_le _⟩ dX7_restore_36) (fun H locs X => ?_)
    have X : Hx A D S.heap (wf (z.1, (q2.1, z.2.1.2.1, z.2.1.2.2.1, z.2.1.2.2.2.1, z.2.1.2.2.2.2), q3.1, q2.2, q3.2, z.2.2.2.2.2.1, z.2.2.2.2.2.2.1, z.2.2.2.2.2.2.2.1, z.2.2.2.2.2.2.2.2)) H locs := X
    exact rI B X (congrArg (fun q => wf q.2) (Option.some.inj h)) (congrArg (fun q => q.1) (Option.some.inj h)) dX7_restore_39
  · have h := it h hc1
    refine lv_bipush (v := (-103)) hx hb dX7_restore_7 (by decide) ?_
    exact rI B X (congrArg (fun q => wf q.2) (Option.some.inj h)) (congrArg (fun q => q.1) (Option.some.inj h)) dX7_restore_9
def fX7_count (z : SX7) (x1 : Int32) : Option Int32 :=
    if x1 = 0 then (some z.2.1.1.1.2) else
    if x1 = 1 then (some z.2.1.1.2.1.2) else
    if x1 = 2 then (some z.2.1.1.2.2.1) else
    if x1 = 3 then (some z.2.1.1.2.2.2) else
    if x1 = 4 then ((fX5_keySet z.2.1.1.1).bind fun q6 =>
    (fX5_keySet z.2.1.1.2.1).bind fun q7 =>
    (fJ6_bitCount_0f7a4 (q6 ||| q7)).bind fun q8 =>
    some q8) else
    if x1 = 5 then ((fX6_pairs z.2.1.1).bind fun q10 =>
    some q10) else
    if x1 = 6 then (some z.2.2.2.2.2.2.2.1) else
    if x1 = 7 then (some z.2.2.1.1) else
    if x1 = 8 then (some z.1.2) else
    if x1 = 9 then (some z.2.2.2.2.2.2.2.2) else
    (some (-102))
set_option maxRecDepth 100000 in
set_option maxHeartbeats 4000000 in
theorem tX7_count {a0 a1 a2 a3 a4 a5 a6 a7 a8 a9 a10 a11 a12 a13 a14 a15 a16 a17 a18 a19 a20 a21 a22 a23 a24 a25 a26 a27 a28 a29 a30 a31 a32 a33 a34 a35 a36 a37 a38 a39 a40 a41 p0 p1 p2 p3 p4 p5 p6 p7 p8 p9 p10 p11 p12 p13 p14 p15 p16 p17 p18 p19 p20 p21 p22 p23 p24 p25 p26 p27 p28 p29 p30 p31 p32 p33 p34 p35 p36 p37 p38 p39 p40 p41 : Nat} {wf : SX7 → va_W} (L : LnX7 a0 a1 a2 a3 a4 a5 a6 a7 a8 a9 a10 a11 a12 a13 a14 a15 a16 a17 a18 a19 a20 a21 a22 a23 a24 a25 a26 a27 a28 a29 a30 a31 a32 a33 a34 a35 a36 a37 a38 a39 a40 a41 p0 p1 p2 p3 p4 p5 p6 p7 p8 p9 p10 p11 p12 p13 p14 p15 p16 p17 p18 p19 p20 p21 p22 p23 p24 p25 p26 p27 p28 p29 p30 p31 p32 p33 p34 p35 p36 p37 p38 p39 p40 p41 cI wf) {d : Nat} (hd : 4 ≤ d) {z : SX7} {x1 : Int32} {q : Int32} (h : fX7_count z x1 = some q) : Ct l yX7_count cX7_count 2 (some .int) d A g D [(cI, .int), (cB, .byte)] [.ref a0, .int x1] (wf z) (QI A D (wf z) q) := by
  refine mkM (by decide) (Nat.le_of_ble_eq_true rfl) ?_
  intro p e S m args below meth c B X ls hl
  have B : Bd RX7 cX7_count 2 (some .int) d A g D [(cI, .int), (cB, .byte)] p (rmd d) S m args meth c := B
  have hx := B.1
  have hb := B.2.1
  have hd1 : 1 ≤ d := by omega
  have hl : lv_has ls 2 [(0, .ref a0), (1, .int x1)] := hl
  unfold fX7_count at h
  refine lv_iload_n hx hb dX7_count_0 rfl (lv_at hl 1 rfl) ?_
  by_cases hc1 : (x1 = 0)
  · have h := it h hc1
    refine lv_tableIn (off := 55) (tgt := 56) hx hb dX7_count_1 (by rw [hc1]; decide) (by rw [hc1]; decide) (by rw [hc1]; rfl) (by decide) ?_
    refine lv_aload_n hx hb dX7_count_56 rfl (lv_at hl 0 rfl) ?_
    refine fG B X (LnX7_g L z) 2 rfl inTX7 (by decide) kw293 rfl dX7_count_57 ?_
    refine fGN B X (LnX6_g (LnX3_s0 (LnX7_s1 L z) z.2.1) z.2.1.1) 0 rfl inTX6 (by decide) kn176 rfl dX7_count_60 ?_
    refine fGN B X (LnX5_g (LnX6_s0 (LnX3_s0 (LnX7_s1 L z) z.2.1) z.2.1.1) z.2.1.1.1) 1 rfl inTX5 (by decide) kn168 rfl dX7_count_63 ?_
    exact rI B X rfl (Option.some.inj h) dX7_count_66
  have h := ie h hc1
  by_cases hc2 : (x1 = 1)
  · have h := it h hc2
    refine lv_tableIn (off := 66) (tgt := 67) hx hb dX7_count_1 (by rw [hc2]; decide) (by rw [hc2]; decide) (by rw [hc2]; rfl) (by decide) ?_
    refine lv_aload_n hx hb dX7_count_67 rfl (lv_at hl 0 rfl) ?_
    refine fG B X (LnX7_g L z) 2 rfl inTX7 (by decide) kw293 rfl dX7_count_68 ?_
    refine fGN B X (LnX6_g (LnX3_s0 (LnX7_s1 L z) z.2.1) z.2.1.1) 1 rfl inTX6 (by decide) kn179 rfl dX7_count_71 ?_
    refine fGN B X (LnX5_g (LnX6_s1 (LnX3_s0 (LnX7_s1 L z) z.2.1) z.2.1.1) z.2.1.1.2.1) 1 rfl inTX5 (by decide) kn168 rfl dX7_count_74 ?_
    exact rI B X rfl (Option.some.inj h) dX7_count_77
  have h := ie h hc2
  by_cases hc3 : (x1 = 2)
  · have h := it h hc3
    refine lv_tableIn (off := 77) (tgt := 78) hx hb dX7_count_1 (by rw [hc3]; decide) (by rw [hc3]; decide) (by rw [hc3]; rfl) (by decide) ?_
    refine lv_aload_n hx hb dX7_count_78 rfl (lv_at hl 0 rfl) ?_
    refine fG B X (LnX7_g L z) 2 rfl inTX7 (by decide) kw293 rfl dX7_count_79 ?_
    refine fGN B X (LnX6_g (LnX3_s0 (LnX7_s1 L z) z.2.1) z.2.1.1) 2 rfl inTX6 (by decide) kn181 rfl dX7_count_82 ?_
    exact rI B X rfl (Option.some.inj h) dX7_count_85
  have h := ie h hc3
  by_cases hc4 : (x1 = 3)
  · have h := it h hc4
    refine lv_tableIn (off := 85) (tgt := 86) hx hb dX7_count_1 (by rw [hc4]; decide) (by rw [hc4]; decide) (by rw [hc4]; rfl) (by decide) ?_
    refine lv_aload_n hx hb dX7_count_86 rfl (lv_at hl 0 rfl) ?_
    refine fG B X (LnX7_g L z) 2 rfl inTX7 (by decide) kw293 rfl dX7_count_87 ?_
    refine fGN B X (LnX6_g (LnX3_s0 (LnX7_s1 L z) z.2.1) z.2.1.1) 3 rfl inTX6 (by decide) kn184 rfl dX7_count_90 ?_
    exact rI B X rfl (Option.some.inj h) dX7_count_93
  have h := ie h hc4
  by_cases hc5 : (x1 = 4)
  · have h := it h hc5
    refine lv_tableIn (off := 93) (tgt := 94) hx hb dX7_count_1 (by rw [hc5]; decide) (by rw [hc5]; decide) (by rw [hc5]; rfl) (by decide) ?_
    refine lv_aload_n hx hb dX7_count_94 rfl (lv_at hl 0 rfl) ?_
    refine fG B X (LnX7_g L z) 2 rfl inTX7 (by decide) kw293 rfl dX7_count_95 ?_
    refine fGN B X (LnX6_g (LnX3_s0 (LnX7_s1 L z) z.2.1) z.2.1.1) 0 rfl inTX6 (by decide) kn176 rfl dX7_count_98 ?_
    obtain ⟨q6, h6, h⟩ := bs h
    refine kI X (cVN (As := []) (rest := []) B X (tX5_keySet (d := d - 1) (LnX6_s0 (LnX3_s0 (LnX7_s1 L z) z.2.1) z.2.1.1) (by omega) h6) mfX5_keySet kn808 (by omega) (LnX5_g (LnX6_s0 (LnX3_s0 (LnX7_s1 L z) z.2.1) z.2.1.1) z.2.1.1.1) rfl rfl (Nat.le_of_ble_eq_true rfl) hl.1 ⟨Nat.zero_le _, Nat.zero_le _⟩ dX7_count_101) (fun H locs X => ?_)
    have X : Hx A D S.heap (wf z) H locs := X
    refine lv_aload_n hx hb dX7_count_104 rfl (lv_at hl 0 rfl) ?_
    refine fG B X (LnX7_g L z) 2 rfl inTX7 (by decide) kw293 rfl dX7_count_105 ?_
    refine fGN B X (LnX6_g (LnX3_s0 (LnX7_s1 L z) z.2.1) z.2.1.1) 1 rfl inTX6 (by decide) kn179 rfl dX7_count_108 ?_
    obtain ⟨q7, h7, h⟩ := bs h
    refine kI X (cVN (As := []) (rest := [.int q6]) B X (tX5_keySet (d := d - 1) (LnX6_s1 (LnX3_s0 (LnX7_s1 L z) z.2.1) z.2.1.1) (by omega) h7) mfX5_keySet kn808 (by omega) (LnX5_g (LnX6_s1 (LnX3_s0 (LnX7_s1 L z) z.2.1) z.2.1.1) z.2.1.1.2.1) rfl rfl (Nat.le_of_ble_eq_true rfl) hl.1 ⟨Nat.zero_le _, Nat.zero_le _⟩ dX7_count_111) (fun H locs X => ?_)
    have X : Hx A D S.heap (wf z) H locs := X
    refine lv_ior hx hb dX7_count_114 ?_
    obtain ⟨q8, h8, h⟩ := bs h
    refine kI X (cS (As := [.int (q6 ||| q7)]) (rest := []) B X (tJ6_bitCount_0f7a4 (d := d - 1) (by omega) h8) msJ6_bitCount_0f7a4 kw538 (by omega) rfl (Nat.le_of_ble_eq_true rfl) hl.1 ⟨Nat.zero_le _, Nat.zero_le _⟩ dX7_count_115) (fun H locs X => ?_)
    have X : Hx A D S.heap (wf z) H locs := X
    exact rI B X rfl (Option.some.inj h) dX7_count_118
  have h := ie h hc5
  by_cases hc9 : (x1 = 5)
  · have h := it h hc9
    refine lv_tableIn (off := 118) (tgt := 119) hx hb dX7_count_1 (by rw [hc9]; decide) (by rw [hc9]; decide) (by rw [hc9]; rfl) (by decide) ?_
    refine lv_aload_n hx hb dX7_count_119 rfl (lv_at hl 0 rfl) ?_
    refine fG B X (LnX7_g L z) 2 rfl inTX7 (by decide) kw293 rfl dX7_count_120 ?_
    obtain ⟨q10, h10, h⟩ := bs h
    refine kI X (cVN (As := []) (rest := []) B X (tX6_pairs (d := d - 1) (LnX3_s0 (LnX7_s1 L z) z.2.1) (by omega) h10) mfX6_pairs kn812 (by omega) (LnX6_g (LnX3_s0 (LnX7_s1 L z) z.2.1) z.2.1.1) rfl rfl (Nat.le_of_ble_eq_true rfl) hl.1 ⟨Nat.zero_le _, Nat.zero_le _⟩ dX7_count_123) (fun H locs X => ?_)
    have X : Hx A D S.heap (wf z) H locs := X
    exact rI B X rfl (Option.some.inj h) dX7_count_126
  have h := ie h hc9
  by_cases hc11 : (x1 = 6)
  · have h := it h hc11
    refine lv_tableIn (off := 126) (tgt := 127) hx hb dX7_count_1 (by rw [hc11]; decide) (by rw [hc11]; decide) (by rw [hc11]; rfl) (by decide) ?_
    refine lv_aload_n hx hb dX7_count_127 rfl (lv_at hl 0 rfl) ?_
    refine fG B X (LnX7_g L z) 8 rfl inTX7 (by decide) kw299 rfl dX7_count_128 ?_
    exact rI B X rfl (Option.some.inj h) dX7_count_131
  have h := ie h hc11
  by_cases hc12 : (x1 = 7)
  · have h := it h hc12
    refine lv_tableIn (off := 131) (tgt := 132) hx hb dX7_count_1 (by rw [hc12]; decide) (by rw [hc12]; decide) (by rw [hc12]; rfl) (by decide) ?_
    refine lv_aload_n hx hb dX7_count_132 rfl (lv_at hl 0 rfl) ?_
    refine fG B X (LnX7_g L z) 3 rfl inTX7 (by decide) kw294 rfl dX7_count_133 ?_
    refine fGN B X (LnX4_g (LnX7_s2 L z) z.2.2.1) 0 rfl inTX4 (by decide) kn281 rfl dX7_count_136 ?_
    exact rI B X rfl (Option.some.inj h) dX7_count_139
  have h := ie h hc12
  by_cases hc13 : (x1 = 8)
  · have h := it h hc13
    refine lv_tableIn (off := 139) (tgt := 140) hx hb dX7_count_1 (by rw [hc13]; decide) (by rw [hc13]; decide) (by rw [hc13]; rfl) (by decide) ?_
    refine lv_aload_n hx hb dX7_count_140 rfl (lv_at hl 0 rfl) ?_
    refine fG B X (LnX7_g L z) 0 rfl inTX7 (by decide) kw291 rfl dX7_count_141 ?_
    refine fGN B X (LnX2_g (LnX7_s0 L z) z.1) 1 rfl inTX2 (by decide) kn139 rfl dX7_count_144 ?_
    exact rI B X rfl (Option.some.inj h) dX7_count_147
  have h := ie h hc13
  by_cases hc14 : (x1 = 9)
  · have h := it h hc14
    refine lv_tableIn (off := 147) (tgt := 148) hx hb dX7_count_1 (by rw [hc14]; decide) (by rw [hc14]; decide) (by rw [hc14]; rfl) (by decide) ?_
    refine lv_aload_n hx hb dX7_count_148 rfl (lv_at hl 0 rfl) ?_
    refine fG B X (LnX7_g L z) 9 rfl inTX7 (by decide) kw300 rfl dX7_count_149 ?_
    exact rI B X rfl (Option.some.inj h) dX7_count_152
  have h := ie h hc14
  refine lv_tableOut (tgt := 153) hx hb dX7_count_1 (sw_out 10 (by decide) (fun k hk => by
    have : k = 0 ∨ k = 1 ∨ k = 2 ∨ k = 3 ∨ k = 4 ∨ k = 5 ∨ k = 6 ∨ k = 7 ∨ k = 8 ∨ k = 9 := by omega
    rcases this with rfl | rfl | rfl | rfl | rfl | rfl | rfl | rfl | rfl | rfl
    · exact hc1 
    · exact hc2 
    · exact hc3 
    · exact hc4 
    · exact hc5 
    · exact hc9 
    · exact hc11 
    · exact hc12 
    · exact hc13 
    · exact hc14)) (by decide) ?_
  refine lv_bipush (v := (-102)) hx hb dX7_count_153 (by decide) ?_
  exact rI B X rfl (Option.some.inj h) dX7_count_155
def fX7_mixRows_b6 (z : SX7) : Nat → Int32 → Int64 → Int32 → Option Int64
  | 0, _, _, _ => none
  | n + 1, x3, x4, x6 =>
    if x3 = 0 then (if z.2.1.1.1.2 ≤ x6 then (some x4) else
    ((fX7_row z x3 x6 0).bind fun q3 =>
    (fX7_mix x4 (q3.toInt64)).bind fun q4 =>
    (fX7_row z x3 x6 1).bind fun q5 =>
    (fX7_mix q4 (q5.toInt64)).bind fun q6 =>
    fX7_mixRows_b6 z n x3 q6 (x6 + 1))) else
    (if z.2.1.1.2.1.2 ≤ x6 then (some x4) else
    ((fX7_row z x3 x6 0).bind fun q8 =>
    (fX7_mix x4 (q8.toInt64)).bind fun q9 =>
    (fX7_row z x3 x6 1).bind fun q10 =>
    (fX7_mix q9 (q10.toInt64)).bind fun q11 =>
    fX7_mixRows_b6 z n x3 q11 (x6 + 1)))
set_option maxRecDepth 100000 in
set_option maxHeartbeats 4000000 in
theorem tX7_mixRows_b6 {a0 a1 a2 a3 a4 a5 a6 a7 a8 a9 a10 a11 a12 a13 a14 a15 a16 a17 a18 a19 a20 a21 a22 a23 a24 a25 a26 a27 a28 a29 a30 a31 a32 a33 a34 a35 a36 a37 a38 a39 a40 a41 p0 p1 p2 p3 p4 p5 p6 p7 p8 p9 p10 p11 p12 p13 p14 p15 p16 p17 p18 p19 p20 p21 p22 p23 p24 p25 p26 p27 p28 p29 p30 p31 p32 p33 p34 p35 p36 p37 p38 p39 p40 p41 : Nat} {wf : SX7 → va_W} (L : LnX7 a0 a1 a2 a3 a4 a5 a6 a7 a8 a9 a10 a11 a12 a13 a14 a15 a16 a17 a18 a19 a20 a21 a22 a23 a24 a25 a26 a27 a28 a29 a30 a31 a32 a33 a34 a35 a36 a37 a38 a39 a40 a41 p0 p1 p2 p3 p4 p5 p6 p7 p8 p9 p10 p11 p12 p13 p14 p15 p16 p17 p18 p19 p20 p21 p22 p23 p24 p25 p26 p27 p28 p29 p30 p31 p32 p33 p34 p35 p36 p37 p38 p39 p40 p41 cI wf) {d : Nat} (hd : 4 ≤ d) {z : SX7} (B : Bd RX7 cX7_mixRows 7 (some .long) d A g D [(cI, .int), (cB, .byte)] p R S m args meth c) {q : Int64} : ∀ (n : Nat) (x3 : Int32) (x4 : Int64) (x6 : Int32) (H : Heap) (locs : List Loc) (ls : Array Slot), Hx A D S.heap (wf z) H locs → lv_has ls 7 [(0, .ref a0), (3, .int x3), (4, .long x4), (6, .int x6)] → fX7_mixRows_b6 z n x3 x4 x6 = some q → W p l e R S m args below meth c H locs 0 0 (MQ below (QJ A D (wf z) q) args S 0 0 A) (F0 m 6 ls []) := by
  have hx := B.1
  have hb := B.2.1
  have hd1 : 1 ≤ d := by omega
  intro n
  induction n with
  | zero =>
    intro x3 x4 x6 H locs ls X hl h
    cases h
  | succ n ih =>
    intro x3 x4 x6 H locs ls X hl h
    rw [fX7_mixRows_b6] at h
    refine lv_iload hx hb dX7_mixRows_6 (lv_at hl 3 rfl) ?_
    refine lv_aload_n hx hb dX7_mixRows_8 rfl (lv_at hl 0 rfl) ?_
    refine fG B X (LnX7_g L z) 2 rfl inTX7 (by decide) kw293 rfl dX7_mixRows_9 ?_
    refine lv_iload_n hx hb dX7_mixRows_12 rfl (lv_at hl 1 rfl) ?_
    by_cases hc1 : (x3 = 0)
    · have h := it h hc1
      refine kR X (cVN (As := [.int x3]) (rest := [.int x6]) B X (tX6_sideOf_L (d := d - 1) (LnX3_s0 (LnX7_s1 L z) z.2.1) (by omega) hc1) mfX6_sideOf kn521 (by omega) (LnX6_g (LnX3_s0 (LnX7_s1 L z) z.2.1) z.2.1.1) rfl rfl (Nat.le_of_ble_eq_true rfl) hl.1 ⟨Nat.zero_le _, Nat.zero_le _⟩ dX7_mixRows_13) (fun H locs X => ?_)
      have X : Hx A D S.heap (wf z) H locs := X
      refine fGN B X (LnX5_g (LnX6_s0 (LnX3_s0 (LnX7_s1 L z) z.2.1) z.2.1.1) z.2.1.1.1) 1 rfl inTX5 (by decide) kn168 rfl dX7_mixRows_16 ?_
      refine lv_icmp_ge (tgt := 56) hx hb dX7_mixRows_19 (by decide) (fun hc2 => ?_) (fun hc2 => ?_)
      · have h := it h hc2
        refine lv_lload hx hb dX7_mixRows_56 (lv_at hl 2 rfl) ?_
        exact rJ B X rfl (Option.some.inj h) dX7_mixRows_58
      · have h := ie h hc2
        refine lv_lload hx hb dX7_mixRows_22 (lv_at hl 2 rfl) ?_
        refine lv_aload_n hx hb dX7_mixRows_24 rfl (lv_at hl 0 rfl) ?_
        refine lv_iload_n hx hb dX7_mixRows_25 rfl (lv_at hl 1 rfl) ?_
        refine lv_iload hx hb dX7_mixRows_26 (lv_at hl 3 rfl) ?_
        refine lv_iconst (v := 0) hx hb dX7_mixRows_28 (by decide) ?_
        obtain ⟨q3, h3, h⟩ := bs h
        refine kI X (cV (As := [.int x3, .int x6, .int 0]) (rest := [.long x4]) B X (tX7_row (d := d - 1) L (by omega) h3) mfX7_row kw826 (by omega) (LnX7_g L z) rfl rfl (Nat.le_of_ble_eq_true rfl) hl.1 ⟨Nat.zero_le _, Nat.zero_le _⟩ dX7_mixRows_29) (fun H locs X => ?_)
        have X : Hx A D S.heap (wf z) H locs := X
        refine lv_i2l hx hb dX7_mixRows_32 rfl ?_
        obtain ⟨q4, h4, h⟩ := bs h
        refine kJ X (cS (As := [.long x4, .long (q3.toInt64)]) (rest := []) B X (tX7_mix (d := d - 1) (by omega) h4) msX7_mix kw827 (by omega) rfl (Nat.le_of_ble_eq_true rfl) hl.1 ⟨Nat.zero_le _, Nat.zero_le _⟩ dX7_mixRows_33) (fun H locs X => ?_)
        have X : Hx A D S.heap (wf z) H locs := X
        refine lv_aload_n hx hb dX7_mixRows_36 rfl (lv_at hl 0 rfl) ?_
        refine lv_iload_n hx hb dX7_mixRows_37 rfl (lv_at hl 1 rfl) ?_
        refine lv_iload hx hb dX7_mixRows_38 (lv_at hl 3 rfl) ?_
        refine lv_iconst (v := 1) hx hb dX7_mixRows_40 (by decide) ?_
        obtain ⟨q5, h5, h⟩ := bs h
        refine kI X (cV (As := [.int x3, .int x6, .int 1]) (rest := [.long q4]) B X (tX7_row (d := d - 1) L (by omega) h5) mfX7_row kw826 (by omega) (LnX7_g L z) rfl rfl (Nat.le_of_ble_eq_true rfl) hl.1 ⟨Nat.zero_le _, Nat.zero_le _⟩ dX7_mixRows_41) (fun H locs X => ?_)
        have X : Hx A D S.heap (wf z) H locs := X
        refine lv_i2l hx hb dX7_mixRows_44 rfl ?_
        obtain ⟨q6, h6, h⟩ := bs h
        refine kJ X (cS (As := [.long q4, .long (q5.toInt64)]) (rest := []) B X (tX7_mix (d := d - 1) (by omega) h6) msX7_mix kw827 (by omega) rfl (Nat.le_of_ble_eq_true rfl) hl.1 ⟨Nat.zero_le _, Nat.zero_le _⟩ dX7_mixRows_45) (fun H locs X => ?_)
        have X : Hx A D S.heap (wf z) H locs := X
        refine lv_lstore (lv' := [(4, .long q6), (0, .ref a0), (3, .int x3), (6, .int x6)]) hx hb dX7_mixRows_48 hl (by decide) rfl (fun ls hl => ?_)
        refine lv_iinc (v := x6 + 1) (lv' := [(6, .int (x6 + 1)), (4, .long q6), (0, .ref a0), (3, .int x3)]) hx hb dX7_mixRows_50 hl (k := 3) rfl rfl (by decide) rfl (fun ls hl => ?_)
        refine lv_goto (tgt := 6) hx hb dX7_mixRows_53 (by decide) ?_
        exact ih x3 q6 (x6 + 1) _ _ _ X (lv_sub hl [2, 3, 1, 0] rfl) h
    · have h := ie h hc1
      refine kR X (cVN (As := [.int x3]) (rest := [.int x6]) B X (tX6_sideOf_R (d := d - 1) (LnX3_s0 (LnX7_s1 L z) z.2.1) (by omega) hc1) mfX6_sideOf kn521 (by omega) (LnX6_g (LnX3_s0 (LnX7_s1 L z) z.2.1) z.2.1.1) rfl rfl (Nat.le_of_ble_eq_true rfl) hl.1 ⟨Nat.zero_le _, Nat.zero_le _⟩ dX7_mixRows_13) (fun H locs X => ?_)
      have X : Hx A D S.heap (wf z) H locs := X
      refine fGN B X (LnX5_g (LnX6_s1 (LnX3_s0 (LnX7_s1 L z) z.2.1) z.2.1.1) z.2.1.1.2.1) 1 rfl inTX5 (by decide) kn168 rfl dX7_mixRows_16 ?_
      refine lv_icmp_ge (tgt := 56) hx hb dX7_mixRows_19 (by decide) (fun hc7 => ?_) (fun hc7 => ?_)
      · have h := it h hc7
        refine lv_lload hx hb dX7_mixRows_56 (lv_at hl 2 rfl) ?_
        exact rJ B X rfl (Option.some.inj h) dX7_mixRows_58
      · have h := ie h hc7
        refine lv_lload hx hb dX7_mixRows_22 (lv_at hl 2 rfl) ?_
        refine lv_aload_n hx hb dX7_mixRows_24 rfl (lv_at hl 0 rfl) ?_
        refine lv_iload_n hx hb dX7_mixRows_25 rfl (lv_at hl 1 rfl) ?_
        refine lv_iload hx hb dX7_mixRows_26 (lv_at hl 3 rfl) ?_
        refine lv_iconst (v := 0) hx hb dX7_mixRows_28 (by decide) ?_
        obtain ⟨q8, h8, h⟩ := bs h
        refine kI X (cV (As := [.int x3, .int x6, .int 0]) (rest := [.long x4]) B X (tX7_row (d := d - 1) L (by omega) h8) mfX7_row kw826 (by omega) (LnX7_g L z) rfl rfl (Nat.le_of_ble_eq_true rfl) hl.1 ⟨Nat.zero_le _, Nat.zero_le _⟩ dX7_mixRows_29) (fun H locs X => ?_)
        have X : Hx A D S.heap (wf z) H locs := X
        refine lv_i2l hx hb dX7_mixRows_32 rfl ?_
        obtain ⟨q9, h9, h⟩ := bs h
        refine kJ X (cS (As := [.long x4, .long (q8.toInt64)]) (rest := []) B X (tX7_mix (d := d - 1) (by omega) h9) msX7_mix kw827 (by omega) rfl (Nat.le_of_ble_eq_true rfl) hl.1 ⟨Nat.zero_le _, Nat.zero_le _⟩ dX7_mixRows_33) (fun H locs X => ?_)
        have X : Hx A D S.heap (wf z) H locs := X
        refine lv_aload_n hx hb dX7_mixRows_36 rfl (lv_at hl 0 rfl) ?_
        refine lv_iload_n hx hb dX7_mixRows_37 rfl (lv_at hl 1 rfl) ?_
        refine lv_iload hx hb dX7_mixRows_38 (lv_at hl 3 rfl) ?_
        refine lv_iconst (v := 1) hx hb dX7_mixRows_40 (by decide) ?_
        obtain ⟨q10, h10, h⟩ := bs h
        refine kI X (cV (As := [.int x3, .int x6, .int 1]) (rest := [.long q9]) B X (tX7_row (d := d - 1) L (by omega) h10) mfX7_row kw826 (by omega) (LnX7_g L z) rfl rfl (Nat.le_of_ble_eq_true rfl) hl.1 ⟨Nat.zero_le _, Nat.zero_le _⟩ dX7_mixRows_41) (fun H locs X => ?_)
        have X : Hx A D S.heap (wf z) H locs := X
        refine lv_i2l hx hb dX7_mixRows_44 rfl ?_
        obtain ⟨q11, h11, h⟩ := bs h
        refine kJ X (cS (As := [.long q9, .long (q10.toInt64)]) (rest := []) B X (tX7_mix (d := d - 1) (by omega) h11) msX7_mix kw827 (by omega) rfl (Nat.le_of_ble_eq_true rfl) hl.1 ⟨Nat.zero_le _, Nat.zero_le _⟩ dX7_mixRows_45) (fun H locs X => ?_)
        have X : Hx A D S.heap (wf z) H locs := X
        refine lv_lstore (lv' := [(4, .long q11), (0, .ref a0), (3, .int x3), (6, .int x6)]) hx hb dX7_mixRows_48 hl (by decide) rfl (fun ls hl => ?_)
        refine lv_iinc (v := x6 + 1) (lv' := [(6, .int (x6 + 1)), (4, .long q11), (0, .ref a0), (3, .int x3)]) hx hb dX7_mixRows_50 hl (k := 3) rfl rfl (by decide) rfl (fun ls hl => ?_)
        refine lv_goto (tgt := 6) hx hb dX7_mixRows_53 (by decide) ?_
        exact ih x3 q11 (x6 + 1) _ _ _ X (lv_sub hl [2, 3, 1, 0] rfl) h
def fX7_mixRows (z : SX7) (x1 : Int64) (x3 : Int32) : Option Int64 :=
    fX7_mixRows_b6 z 1000 x3 x1 0
set_option maxRecDepth 100000 in
set_option maxHeartbeats 4000000 in
theorem tX7_mixRows {a0 a1 a2 a3 a4 a5 a6 a7 a8 a9 a10 a11 a12 a13 a14 a15 a16 a17 a18 a19 a20 a21 a22 a23 a24 a25 a26 a27 a28 a29 a30 a31 a32 a33 a34 a35 a36 a37 a38 a39 a40 a41 p0 p1 p2 p3 p4 p5 p6 p7 p8 p9 p10 p11 p12 p13 p14 p15 p16 p17 p18 p19 p20 p21 p22 p23 p24 p25 p26 p27 p28 p29 p30 p31 p32 p33 p34 p35 p36 p37 p38 p39 p40 p41 : Nat} {wf : SX7 → va_W} (L : LnX7 a0 a1 a2 a3 a4 a5 a6 a7 a8 a9 a10 a11 a12 a13 a14 a15 a16 a17 a18 a19 a20 a21 a22 a23 a24 a25 a26 a27 a28 a29 a30 a31 a32 a33 a34 a35 a36 a37 a38 a39 a40 a41 p0 p1 p2 p3 p4 p5 p6 p7 p8 p9 p10 p11 p12 p13 p14 p15 p16 p17 p18 p19 p20 p21 p22 p23 p24 p25 p26 p27 p28 p29 p30 p31 p32 p33 p34 p35 p36 p37 p38 p39 p40 p41 cI wf) {d : Nat} (hd : 4 ≤ d) {z : SX7} {x3 : Int32} {x1 : Int64} {q : Int64} (h : fX7_mixRows z x1 x3 = some q) : Ct l yX7_mixRows cX7_mixRows 7 (some .long) d A g D [(cI, .int), (cB, .byte)] [.ref a0, .long x1, .int x3] (wf z) (QJ A D (wf z) q) := by
  refine mkM (by decide) (Nat.le_of_ble_eq_true rfl) ?_
  intro p e S m args below meth c B X ls hl
  have B : Bd RX7 cX7_mixRows 7 (some .long) d A g D [(cI, .int), (cB, .byte)] p (rmd d) S m args meth c := B
  have hx := B.1
  have hb := B.2.1
  have hd1 : 1 ≤ d := by omega
  have hl : lv_has ls 7 [(0, .ref a0), (1, .long x1), (3, .int x3)] := hl
  unfold fX7_mixRows at h
  refine lv_lload_n hx hb dX7_mixRows_0 rfl (lv_at hl 1 rfl) ?_
  refine lv_lstore (lv' := [(4, .long x1), (0, .ref a0), (1, .long x1), (3, .int x3)]) hx hb dX7_mixRows_1 hl (by decide) rfl (fun ls hl => ?_)
  refine lv_iconst (v := 0) hx hb dX7_mixRows_3 (by decide) ?_
  refine lv_istore (lv' := [(6, .int 0), (4, .long x1), (0, .ref a0), (1, .long x1), (3, .int x3)]) hx hb dX7_mixRows_4 hl (by decide) rfl (fun ls hl => ?_)
  exact tX7_mixRows_b6 L hd B 1000 x3 x1 0 _ _ _ X (lv_sub hl [2, 4, 1, 0] rfl) h
def fX7_digest_b216 (z : SX7) : Nat → Int64 → Int32 → Option Int64
  | 0, _, _ => none
  | n + 1, x1, x3 =>
    if 9 < x3 then (some x1) else
    ((fX7_count z x3).bind fun q2 =>
    (fX7_mix x1 (q2.toInt64)).bind fun q3 =>
    fX7_digest_b216 z n q3 (x3 + 1))
set_option maxRecDepth 100000 in
set_option maxHeartbeats 4000000 in
theorem tX7_digest_b216 {a0 a1 a2 a3 a4 a5 a6 a7 a8 a9 a10 a11 a12 a13 a14 a15 a16 a17 a18 a19 a20 a21 a22 a23 a24 a25 a26 a27 a28 a29 a30 a31 a32 a33 a34 a35 a36 a37 a38 a39 a40 a41 p0 p1 p2 p3 p4 p5 p6 p7 p8 p9 p10 p11 p12 p13 p14 p15 p16 p17 p18 p19 p20 p21 p22 p23 p24 p25 p26 p27 p28 p29 p30 p31 p32 p33 p34 p35 p36 p37 p38 p39 p40 p41 : Nat} {wf : SX7 → va_W} (L : LnX7 a0 a1 a2 a3 a4 a5 a6 a7 a8 a9 a10 a11 a12 a13 a14 a15 a16 a17 a18 a19 a20 a21 a22 a23 a24 a25 a26 a27 a28 a29 a30 a31 a32 a33 a34 a35 a36 a37 a38 a39 a40 a41 p0 p1 p2 p3 p4 p5 p6 p7 p8 p9 p10 p11 p12 p13 p14 p15 p16 p17 p18 p19 p20 p21 p22 p23 p24 p25 p26 p27 p28 p29 p30 p31 p32 p33 p34 p35 p36 p37 p38 p39 p40 p41 cI wf) {d : Nat} (hd : 5 ≤ d) {z : SX7} (B : Bd RX7 cX7_digest 4 (some .long) d A g D [(cI, .int), (cB, .byte)] p R S m args meth c) {q : Int64} : ∀ (n : Nat) (x1 : Int64) (x3 : Int32) (H : Heap) (locs : List Loc) (ls : Array Slot), Hx A D S.heap (wf z) H locs → lv_has ls 4 [(0, .ref a0), (1, .long x1), (3, .int x3)] → fX7_digest_b216 z n x1 x3 = some q → W p l e R S m args below meth c H locs 0 0 (MQ below (QJ A D (wf z) q) args S 0 0 A) (F0 m 216 ls []) := by
  have hx := B.1
  have hb := B.2.1
  have hd1 : 1 ≤ d := by omega
  intro n
  induction n with
  | zero =>
    intro x1 x3 H locs ls X hl h
    cases h
  | succ n ih =>
    intro x1 x3 H locs ls X hl h
    rw [fX7_digest_b216] at h
    refine lv_iload_n hx hb dX7_digest_216 rfl (lv_at hl 2 rfl) ?_
    refine lv_bipush (v := 9) hx hb dX7_digest_217 (by decide) ?_
    refine lv_icmp_gt (tgt := 239) hx hb dX7_digest_219 (by decide) (fun hc1 => ?_) (fun hc1 => ?_)
    · have h := it h hc1
      refine lv_lload_n hx hb dX7_digest_239 rfl (lv_at hl 1 rfl) ?_
      exact rJ B X rfl (Option.some.inj h) dX7_digest_240
    · have h := ie h hc1
      refine lv_lload_n hx hb dX7_digest_222 rfl (lv_at hl 1 rfl) ?_
      refine lv_aload_n hx hb dX7_digest_223 rfl (lv_at hl 0 rfl) ?_
      refine lv_iload_n hx hb dX7_digest_224 rfl (lv_at hl 2 rfl) ?_
      obtain ⟨q2, h2, h⟩ := bs h
      refine kI X (cV (As := [.int x3]) (rest := [.long x1]) B X (tX7_count (d := d - 1) L (by omega) h2) mfX7_count kw836 (by omega) (LnX7_g L z) rfl rfl (Nat.le_of_ble_eq_true rfl) hl.1 ⟨Nat.zero_le _, Nat.zero_le _⟩ dX7_digest_225) (fun H locs X => ?_)
      have X : Hx A D S.heap (wf z) H locs := X
      refine lv_i2l hx hb dX7_digest_228 rfl ?_
      obtain ⟨q3, h3, h⟩ := bs h
      refine kJ X (cS (As := [.long x1, .long (q2.toInt64)]) (rest := []) B X (tX7_mix (d := d - 1) (by omega) h3) msX7_mix kw827 (by omega) rfl (Nat.le_of_ble_eq_true rfl) hl.1 ⟨Nat.zero_le _, Nat.zero_le _⟩ dX7_digest_229) (fun H locs X => ?_)
      have X : Hx A D S.heap (wf z) H locs := X
      refine lv_lstore_n (lv' := [(1, .long q3), (0, .ref a0), (3, .int x3)]) hx hb dX7_digest_232 rfl hl (by decide) rfl (fun ls hl => ?_)
      refine lv_iinc (v := x3 + 1) (lv' := [(3, .int (x3 + 1)), (1, .long q3), (0, .ref a0)]) hx hb dX7_digest_233 hl (k := 2) rfl rfl (by decide) rfl (fun ls hl => ?_)
      refine lv_goto (tgt := 216) hx hb dX7_digest_236 (by decide) ?_
      exact ih q3 (x3 + 1) _ _ _ X (lv_sub hl [2, 1, 0] rfl) h
def fX7_digest_b183 (z : SX7) : Nat → Int64 → Int32 → Option Int64
  | 0, _, _ => none
  | n + 1, x1, x3 =>
    if z.1.2 ≤ x3 then (fX7_digest_b216 z 1000 x1 0) else
    ((fX2_codeAt z.1 x3).bind fun q2 =>
    (fX7_mix x1 (q2.toInt64)).bind fun q3 =>
    fX7_digest_b183 z n q3 (x3 + 1))
set_option maxRecDepth 100000 in
set_option maxHeartbeats 4000000 in
theorem tX7_digest_b183 {a0 a1 a2 a3 a4 a5 a6 a7 a8 a9 a10 a11 a12 a13 a14 a15 a16 a17 a18 a19 a20 a21 a22 a23 a24 a25 a26 a27 a28 a29 a30 a31 a32 a33 a34 a35 a36 a37 a38 a39 a40 a41 p0 p1 p2 p3 p4 p5 p6 p7 p8 p9 p10 p11 p12 p13 p14 p15 p16 p17 p18 p19 p20 p21 p22 p23 p24 p25 p26 p27 p28 p29 p30 p31 p32 p33 p34 p35 p36 p37 p38 p39 p40 p41 : Nat} {wf : SX7 → va_W} (L : LnX7 a0 a1 a2 a3 a4 a5 a6 a7 a8 a9 a10 a11 a12 a13 a14 a15 a16 a17 a18 a19 a20 a21 a22 a23 a24 a25 a26 a27 a28 a29 a30 a31 a32 a33 a34 a35 a36 a37 a38 a39 a40 a41 p0 p1 p2 p3 p4 p5 p6 p7 p8 p9 p10 p11 p12 p13 p14 p15 p16 p17 p18 p19 p20 p21 p22 p23 p24 p25 p26 p27 p28 p29 p30 p31 p32 p33 p34 p35 p36 p37 p38 p39 p40 p41 cI wf) {d : Nat} (hd : 5 ≤ d) {z : SX7} (B : Bd RX7 cX7_digest 4 (some .long) d A g D [(cI, .int), (cB, .byte)] p R S m args meth c) {q : Int64} : ∀ (n : Nat) (x1 : Int64) (x3 : Int32) (H : Heap) (locs : List Loc) (ls : Array Slot), Hx A D S.heap (wf z) H locs → lv_has ls 4 [(0, .ref a0), (1, .long x1), (3, .int x3)] → fX7_digest_b183 z n x1 x3 = some q → W p l e R S m args below meth c H locs 0 0 (MQ below (QJ A D (wf z) q) args S 0 0 A) (F0 m 183 ls []) := by
  have hx := B.1
  have hb := B.2.1
  have hd1 : 1 ≤ d := by omega
  intro n
  induction n with
  | zero =>
    intro x1 x3 H locs ls X hl h
    cases h
  | succ n ih =>
    intro x1 x3 H locs ls X hl h
    rw [fX7_digest_b183] at h
    refine lv_iload_n hx hb dX7_digest_183 rfl (lv_at hl 2 rfl) ?_
    refine lv_aload_n hx hb dX7_digest_184 rfl (lv_at hl 0 rfl) ?_
    refine fG B X (LnX7_g L z) 0 rfl inTX7 (by decide) kw291 rfl dX7_digest_185 ?_
    refine fGN B X (LnX2_g (LnX7_s0 L z) z.1) 1 rfl inTX2 (by decide) kn139 rfl dX7_digest_188 ?_
    refine lv_icmp_ge (tgt := 214) hx hb dX7_digest_191 (by decide) (fun hc1 => ?_) (fun hc1 => ?_)
    · have h := it h hc1
      refine lv_iconst (v := 0) hx hb dX7_digest_214 (by decide) ?_
      refine lv_istore_n (lv' := [(3, .int 0), (0, .ref a0), (1, .long x1)]) hx hb dX7_digest_215 rfl hl (by decide) rfl (fun ls hl => ?_)
      exact tX7_digest_b216 L hd B 1000 x1 0 _ _ _ X (lv_sub hl [1, 2, 0] rfl) h
    · have h := ie h hc1
      refine lv_lload_n hx hb dX7_digest_194 rfl (lv_at hl 1 rfl) ?_
      refine lv_aload_n hx hb dX7_digest_195 rfl (lv_at hl 0 rfl) ?_
      refine fG B X (LnX7_g L z) 0 rfl inTX7 (by decide) kw291 rfl dX7_digest_196 ?_
      refine lv_iload_n hx hb dX7_digest_199 rfl (lv_at hl 2 rfl) ?_
      obtain ⟨q2, h2, h⟩ := bs h
      refine kI X (cVN (As := [.int x3]) (rest := [.long x1]) B X (tX2_codeAt (d := d - 1) (LnX7_s0 L z) (by omega) h2) mfX2_codeAt kn465 (by omega) (LnX2_g (LnX7_s0 L z) z.1) rfl rfl (Nat.le_of_ble_eq_true rfl) hl.1 ⟨Nat.zero_le _, Nat.zero_le _⟩ dX7_digest_200) (fun H locs X => ?_)
      have X : Hx A D S.heap (wf z) H locs := X
      refine lv_i2l hx hb dX7_digest_203 rfl ?_
      obtain ⟨q3, h3, h⟩ := bs h
      refine kJ X (cS (As := [.long x1, .long (q2.toInt64)]) (rest := []) B X (tX7_mix (d := d - 1) (by omega) h3) msX7_mix kw827 (by omega) rfl (Nat.le_of_ble_eq_true rfl) hl.1 ⟨Nat.zero_le _, Nat.zero_le _⟩ dX7_digest_204) (fun H locs X => ?_)
      have X : Hx A D S.heap (wf z) H locs := X
      refine lv_lstore_n (lv' := [(1, .long q3), (0, .ref a0), (3, .int x3)]) hx hb dX7_digest_207 rfl hl (by decide) rfl (fun ls hl => ?_)
      refine lv_iinc (v := x3 + 1) (lv' := [(3, .int (x3 + 1)), (1, .long q3), (0, .ref a0)]) hx hb dX7_digest_208 hl (k := 2) rfl rfl (by decide) rfl (fun ls hl => ?_)
      refine lv_goto (tgt := 183) hx hb dX7_digest_211 (by decide) ?_
      exact ih q3 (x3 + 1) _ _ _ X (lv_sub hl [2, 1, 0] rfl) h
def fX7_digest_b161 (z : SX7) (x1 : Int64) : Option Int64 :=
    (fX7_sorts z 0).bind fun q1 =>
    (fX7_mix x1 (q1.toInt64)).bind fun q2 =>
    (fX7_sorts z 1).bind fun q3 =>
    (fX7_mix q2 (q3.toInt64)).bind fun q4 =>
    fX7_digest_b183 z 1000 q4 0
set_option maxRecDepth 100000 in
set_option maxHeartbeats 4000000 in
theorem tX7_digest_b161 {a0 a1 a2 a3 a4 a5 a6 a7 a8 a9 a10 a11 a12 a13 a14 a15 a16 a17 a18 a19 a20 a21 a22 a23 a24 a25 a26 a27 a28 a29 a30 a31 a32 a33 a34 a35 a36 a37 a38 a39 a40 a41 p0 p1 p2 p3 p4 p5 p6 p7 p8 p9 p10 p11 p12 p13 p14 p15 p16 p17 p18 p19 p20 p21 p22 p23 p24 p25 p26 p27 p28 p29 p30 p31 p32 p33 p34 p35 p36 p37 p38 p39 p40 p41 : Nat} {wf : SX7 → va_W} (L : LnX7 a0 a1 a2 a3 a4 a5 a6 a7 a8 a9 a10 a11 a12 a13 a14 a15 a16 a17 a18 a19 a20 a21 a22 a23 a24 a25 a26 a27 a28 a29 a30 a31 a32 a33 a34 a35 a36 a37 a38 a39 a40 a41 p0 p1 p2 p3 p4 p5 p6 p7 p8 p9 p10 p11 p12 p13 p14 p15 p16 p17 p18 p19 p20 p21 p22 p23 p24 p25 p26 p27 p28 p29 p30 p31 p32 p33 p34 p35 p36 p37 p38 p39 p40 p41 cI wf) {d : Nat} (hd : 5 ≤ d) {z : SX7} (B : Bd RX7 cX7_digest 4 (some .long) d A g D [(cI, .int), (cB, .byte)] p R S m args meth c) {q : Int64} : ∀ (x1 : Int64) (H : Heap) (locs : List Loc) (ls : Array Slot), Hx A D S.heap (wf z) H locs → lv_has ls 4 [(0, .ref a0), (1, .long x1)] → fX7_digest_b161 z x1 = some q → W p l e R S m args below meth c H locs 0 0 (MQ below (QJ A D (wf z) q) args S 0 0 A) (F0 m 161 ls []) := by
  have hx := B.1
  have hb := B.2.1
  have hd1 : 1 ≤ d := by omega
  intro x1 H locs ls X hl h
  unfold fX7_digest_b161 at h
  refine lv_lload_n hx hb dX7_digest_161 rfl (lv_at hl 1 rfl) ?_
  refine lv_aload_n hx hb dX7_digest_162 rfl (lv_at hl 0 rfl) ?_
  refine lv_iconst (v := 0) hx hb dX7_digest_163 (by decide) ?_
  obtain ⟨q1, h1, h⟩ := bs h
  refine kI X (cV (As := [.int 0]) (rest := [.long x1]) B X (tX7_sorts (d := d - 1) L (by omega) h1) mfX7_sorts kw835 (by omega) (LnX7_g L z) rfl rfl (Nat.le_of_ble_eq_true rfl) hl.1 ⟨Nat.zero_le _, Nat.zero_le _⟩ dX7_digest_164) (fun H locs X => ?_)
  have X : Hx A D S.heap (wf z) H locs := X
  refine lv_i2l hx hb dX7_digest_167 rfl ?_
  obtain ⟨q2, h2, h⟩ := bs h
  refine kJ X (cS (As := [.long x1, .long (q1.toInt64)]) (rest := []) B X (tX7_mix (d := d - 1) (by omega) h2) msX7_mix kw827 (by omega) rfl (Nat.le_of_ble_eq_true rfl) hl.1 ⟨Nat.zero_le _, Nat.zero_le _⟩ dX7_digest_168) (fun H locs X => ?_)
  have X : Hx A D S.heap (wf z) H locs := X
  refine lv_aload_n hx hb dX7_digest_171 rfl (lv_at hl 0 rfl) ?_
  refine lv_iconst (v := 1) hx hb dX7_digest_172 (by decide) ?_
  obtain ⟨q3, h3, h⟩ := bs h
  refine kI X (cV (As := [.int 1]) (rest := [.long q2]) B X (tX7_sorts (d := d - 1) L (by omega) h3) mfX7_sorts kw835 (by omega) (LnX7_g L z) rfl rfl (Nat.le_of_ble_eq_true rfl) hl.1 ⟨Nat.zero_le _, Nat.zero_le _⟩ dX7_digest_173) (fun H locs X => ?_)
  have X : Hx A D S.heap (wf z) H locs := X
  refine lv_i2l hx hb dX7_digest_176 rfl ?_
  obtain ⟨q4, h4, h⟩ := bs h
  refine kJ X (cS (As := [.long q2, .long (q3.toInt64)]) (rest := []) B X (tX7_mix (d := d - 1) (by omega) h4) msX7_mix kw827 (by omega) rfl (Nat.le_of_ble_eq_true rfl) hl.1 ⟨Nat.zero_le _, Nat.zero_le _⟩ dX7_digest_177) (fun H locs X => ?_)
  have X : Hx A D S.heap (wf z) H locs := X
  refine lv_lstore_n (lv' := [(1, .long q4), (0, .ref a0)]) hx hb dX7_digest_180 rfl hl (by decide) rfl (fun ls hl => ?_)
  refine lv_iconst (v := 0) hx hb dX7_digest_181 (by decide) ?_
  refine lv_istore_n (lv' := [(3, .int 0), (1, .long q4), (0, .ref a0)]) hx hb dX7_digest_182 rfl hl (by decide) rfl (fun ls hl => ?_)
  exact tX7_digest_b183 L hd B 1000 q4 0 _ _ _ X (lv_sub hl [2, 1, 0] rfl) h
def fX7_digest_b89 (z : SX7) : Nat → Int64 → Int32 → Option Int64
  | 0, _, _ => none
  | n + 1, x1, x3 =>
    if z.2.1.2.2.1.2.2.2.1 ≤ x3 then ((fX6_areThere z.2.1.1).bind fun q2 =>
    if q2 = 0 then (fX7_digest_b161 z x1) else
    ((fX7_spare z).bind fun q4 =>
    (fX7_mix x1 (q4.toInt64)).bind fun q5 =>
    fX7_digest_b161 z q5)) else
    ((fX7_log z x3 0).bind fun q6 =>
    (fX7_mix x1 (q6.toInt64)).bind fun q7 =>
    (fX7_log z x3 1).bind fun q8 =>
    (fX7_mix q7 (q8.toInt64)).bind fun q9 =>
    (fX7_log z x3 2).bind fun q10 =>
    (fX7_mix q9 (q10.toInt64)).bind fun q11 =>
    fX7_digest_b89 z n q11 (x3 + 1))
set_option maxRecDepth 100000 in
set_option maxHeartbeats 4000000 in
theorem tX7_digest_b89 {a0 a1 a2 a3 a4 a5 a6 a7 a8 a9 a10 a11 a12 a13 a14 a15 a16 a17 a18 a19 a20 a21 a22 a23 a24 a25 a26 a27 a28 a29 a30 a31 a32 a33 a34 a35 a36 a37 a38 a39 a40 a41 p0 p1 p2 p3 p4 p5 p6 p7 p8 p9 p10 p11 p12 p13 p14 p15 p16 p17 p18 p19 p20 p21 p22 p23 p24 p25 p26 p27 p28 p29 p30 p31 p32 p33 p34 p35 p36 p37 p38 p39 p40 p41 : Nat} {wf : SX7 → va_W} (L : LnX7 a0 a1 a2 a3 a4 a5 a6 a7 a8 a9 a10 a11 a12 a13 a14 a15 a16 a17 a18 a19 a20 a21 a22 a23 a24 a25 a26 a27 a28 a29 a30 a31 a32 a33 a34 a35 a36 a37 a38 a39 a40 a41 p0 p1 p2 p3 p4 p5 p6 p7 p8 p9 p10 p11 p12 p13 p14 p15 p16 p17 p18 p19 p20 p21 p22 p23 p24 p25 p26 p27 p28 p29 p30 p31 p32 p33 p34 p35 p36 p37 p38 p39 p40 p41 cI wf) {d : Nat} (hd : 5 ≤ d) {z : SX7} (B : Bd RX7 cX7_digest 4 (some .long) d A g D [(cI, .int), (cB, .byte)] p R S m args meth c) {q : Int64} : ∀ (n : Nat) (x1 : Int64) (x3 : Int32) (H : Heap) (locs : List Loc) (ls : Array Slot), Hx A D S.heap (wf z) H locs → lv_has ls 4 [(0, .ref a0), (1, .long x1), (3, .int x3)] → fX7_digest_b89 z n x1 x3 = some q → W p l e R S m args below meth c H locs 0 0 (MQ below (QJ A D (wf z) q) args S 0 0 A) (F0 m 89 ls []) := by
  have hx := B.1
  have hb := B.2.1
  have hd1 : 1 ≤ d := by omega
  intro n
  induction n with
  | zero =>
    intro x1 x3 H locs ls X hl h
    cases h
  | succ n ih =>
    intro x1 x3 H locs ls X hl h
    rw [fX7_digest_b89] at h
    refine lv_iload_n hx hb dX7_digest_89 rfl (lv_at hl 2 rfl) ?_
    refine lv_aload_n hx hb dX7_digest_90 rfl (lv_at hl 0 rfl) ?_
    refine fG B X (LnX7_g L z) 1 rfl inTX7 (by decide) kw292 rfl dX7_digest_91 ?_
    refine fGN B X (LnX3_g (LnX7_s1 L z) z.2.1) 2 rfl inTX3 (by decide) kn260 rfl dX7_digest_94 ?_
    refine fGN B X (LnX0_g (LnX3_s2 (LnX7_s1 L z) z.2.1) z.2.1.2.2.1) 3 rfl inTX0 (by decide) kn232 rfl dX7_digest_97 ?_
    refine lv_icmp_ge (tgt := 141) hx hb dX7_digest_100 (by decide) (fun hc1 => ?_) (fun hc1 => ?_)
    · have h := it h hc1
      refine lv_aload_n hx hb dX7_digest_141 rfl (lv_at hl 0 rfl) ?_
      refine fG B X (LnX7_g L z) 2 rfl inTX7 (by decide) kw293 rfl dX7_digest_142 ?_
      obtain ⟨q2, h2, h⟩ := bs h
      refine kI X (cVN (As := []) (rest := []) B X (tX6_areThere (d := d - 1) (LnX3_s0 (LnX7_s1 L z) z.2.1) (by omega) h2) mfX6_areThere kn551 (by omega) (LnX6_g (LnX3_s0 (LnX7_s1 L z) z.2.1) z.2.1.1) rfl rfl (Nat.le_of_ble_eq_true rfl) hl.1 ⟨Nat.zero_le _, Nat.zero_le _⟩ dX7_digest_145) (fun H locs X => ?_)
      have X : Hx A D S.heap (wf z) H locs := X
      refine lv_if_eq (tgt := 161) hx hb dX7_digest_148 (by decide) (fun hc3 => ?_) (fun hc3 => ?_)
      · have h := it h hc3
        exact tX7_digest_b161 L hd B x1 _ _ _ X (lv_sub hl [0, 1] rfl) h
      · have h := ie h hc3
        refine lv_lload_n hx hb dX7_digest_151 rfl (lv_at hl 1 rfl) ?_
        refine lv_aload_n hx hb dX7_digest_152 rfl (lv_at hl 0 rfl) ?_
        obtain ⟨q4, h4, h⟩ := bs h
        refine kI X (cV (As := []) (rest := [.long x1]) B X (tX7_spare (d := d - 1) L (by omega) h4) mfX7_spare kw834 (by omega) (LnX7_g L z) rfl rfl (Nat.le_of_ble_eq_true rfl) hl.1 ⟨Nat.zero_le _, Nat.zero_le _⟩ dX7_digest_153) (fun H locs X => ?_)
        have X : Hx A D S.heap (wf z) H locs := X
        refine lv_i2l hx hb dX7_digest_156 rfl ?_
        obtain ⟨q5, h5, h⟩ := bs h
        refine kJ X (cS (As := [.long x1, .long (q4.toInt64)]) (rest := []) B X (tX7_mix (d := d - 1) (by omega) h5) msX7_mix kw827 (by omega) rfl (Nat.le_of_ble_eq_true rfl) hl.1 ⟨Nat.zero_le _, Nat.zero_le _⟩ dX7_digest_157) (fun H locs X => ?_)
        have X : Hx A D S.heap (wf z) H locs := X
        refine lv_lstore_n (lv' := [(1, .long q5), (0, .ref a0), (3, .int x3)]) hx hb dX7_digest_160 rfl hl (by decide) rfl (fun ls hl => ?_)
        exact tX7_digest_b161 L hd B q5 _ _ _ X (lv_sub hl [1, 0] rfl) h
    · have h := ie h hc1
      refine lv_lload_n hx hb dX7_digest_103 rfl (lv_at hl 1 rfl) ?_
      refine lv_aload_n hx hb dX7_digest_104 rfl (lv_at hl 0 rfl) ?_
      refine lv_iload_n hx hb dX7_digest_105 rfl (lv_at hl 2 rfl) ?_
      refine lv_iconst (v := 0) hx hb dX7_digest_106 (by decide) ?_
      obtain ⟨q6, h6, h⟩ := bs h
      refine kI X (cV (As := [.int x3, .int 0]) (rest := [.long x1]) B X (tX7_log (d := d - 1) L (by omega) h6) mfX7_log kw833 (by omega) (LnX7_g L z) rfl rfl (Nat.le_of_ble_eq_true rfl) hl.1 ⟨Nat.zero_le _, Nat.zero_le _⟩ dX7_digest_107) (fun H locs X => ?_)
      have X : Hx A D S.heap (wf z) H locs := X
      refine lv_i2l hx hb dX7_digest_110 rfl ?_
      obtain ⟨q7, h7, h⟩ := bs h
      refine kJ X (cS (As := [.long x1, .long (q6.toInt64)]) (rest := []) B X (tX7_mix (d := d - 1) (by omega) h7) msX7_mix kw827 (by omega) rfl (Nat.le_of_ble_eq_true rfl) hl.1 ⟨Nat.zero_le _, Nat.zero_le _⟩ dX7_digest_111) (fun H locs X => ?_)
      have X : Hx A D S.heap (wf z) H locs := X
      refine lv_aload_n hx hb dX7_digest_114 rfl (lv_at hl 0 rfl) ?_
      refine lv_iload_n hx hb dX7_digest_115 rfl (lv_at hl 2 rfl) ?_
      refine lv_iconst (v := 1) hx hb dX7_digest_116 (by decide) ?_
      obtain ⟨q8, h8, h⟩ := bs h
      refine kI X (cV (As := [.int x3, .int 1]) (rest := [.long q7]) B X (tX7_log (d := d - 1) L (by omega) h8) mfX7_log kw833 (by omega) (LnX7_g L z) rfl rfl (Nat.le_of_ble_eq_true rfl) hl.1 ⟨Nat.zero_le _, Nat.zero_le _⟩ dX7_digest_117) (fun H locs X => ?_)
      have X : Hx A D S.heap (wf z) H locs := X
      refine lv_i2l hx hb dX7_digest_120 rfl ?_
      obtain ⟨q9, h9, h⟩ := bs h
      refine kJ X (cS (As := [.long q7, .long (q8.toInt64)]) (rest := []) B X (tX7_mix (d := d - 1) (by omega) h9) msX7_mix kw827 (by omega) rfl (Nat.le_of_ble_eq_true rfl) hl.1 ⟨Nat.zero_le _, Nat.zero_le _⟩ dX7_digest_121) (fun H locs X => ?_)
      have X : Hx A D S.heap (wf z) H locs := X
      refine lv_aload_n hx hb dX7_digest_124 rfl (lv_at hl 0 rfl) ?_
      refine lv_iload_n hx hb dX7_digest_125 rfl (lv_at hl 2 rfl) ?_
      refine lv_iconst (v := 2) hx hb dX7_digest_126 (by decide) ?_
      obtain ⟨q10, h10, h⟩ := bs h
      refine kI X (cV (As := [.int x3, .int 2]) (rest := [.long q9]) B X (tX7_log (d := d - 1) L (by omega) h10) mfX7_log kw833 (by omega) (LnX7_g L z) rfl rfl (Nat.le_of_ble_eq_true rfl) hl.1 ⟨Nat.zero_le _, Nat.zero_le _⟩ dX7_digest_127) (fun H locs X => ?_)
      have X : Hx A D S.heap (wf z) H locs := X
      refine lv_i2l hx hb dX7_digest_130 rfl ?_
      obtain ⟨q11, h11, h⟩ := bs h
      refine kJ X (cS (As := [.long q9, .long (q10.toInt64)]) (rest := []) B X (tX7_mix (d := d - 1) (by omega) h11) msX7_mix kw827 (by omega) rfl (Nat.le_of_ble_eq_true rfl) hl.1 ⟨Nat.zero_le _, Nat.zero_le _⟩ dX7_digest_131) (fun H locs X => ?_)
      have X : Hx A D S.heap (wf z) H locs := X
      refine lv_lstore_n (lv' := [(1, .long q11), (0, .ref a0), (3, .int x3)]) hx hb dX7_digest_134 rfl hl (by decide) rfl (fun ls hl => ?_)
      refine lv_iinc (v := x3 + 1) (lv' := [(3, .int (x3 + 1)), (1, .long q11), (0, .ref a0)]) hx hb dX7_digest_135 hl (k := 2) rfl rfl (by decide) rfl (fun ls hl => ?_)
      refine lv_goto (tgt := 89) hx hb dX7_digest_138 (by decide) ?_
      exact ih q11 (x3 + 1) _ _ _ X (lv_sub hl [2, 1, 0] rfl) h
def fX7_digest_b45 (z : SX7) : Nat → Int64 → Int32 → Option Int64
  | 0, _, _ => none
  | n + 1, x1, x3 =>
    if z.2.1.2.1.2.2.1 ≤ x3 then (fX7_digest_b89 z 1000 x1 0) else
    ((fX7_out z x3 0).bind fun q2 =>
    (fX7_mix x1 (q2.toInt64)).bind fun q3 =>
    (fX7_out z x3 1).bind fun q4 =>
    (fX7_mix q3 (q4.toInt64)).bind fun q5 =>
    fX7_digest_b45 z n q5 (x3 + 1))
set_option maxRecDepth 100000 in
set_option maxHeartbeats 4000000 in
theorem tX7_digest_b45 {a0 a1 a2 a3 a4 a5 a6 a7 a8 a9 a10 a11 a12 a13 a14 a15 a16 a17 a18 a19 a20 a21 a22 a23 a24 a25 a26 a27 a28 a29 a30 a31 a32 a33 a34 a35 a36 a37 a38 a39 a40 a41 p0 p1 p2 p3 p4 p5 p6 p7 p8 p9 p10 p11 p12 p13 p14 p15 p16 p17 p18 p19 p20 p21 p22 p23 p24 p25 p26 p27 p28 p29 p30 p31 p32 p33 p34 p35 p36 p37 p38 p39 p40 p41 : Nat} {wf : SX7 → va_W} (L : LnX7 a0 a1 a2 a3 a4 a5 a6 a7 a8 a9 a10 a11 a12 a13 a14 a15 a16 a17 a18 a19 a20 a21 a22 a23 a24 a25 a26 a27 a28 a29 a30 a31 a32 a33 a34 a35 a36 a37 a38 a39 a40 a41 p0 p1 p2 p3 p4 p5 p6 p7 p8 p9 p10 p11 p12 p13 p14 p15 p16 p17 p18 p19 p20 p21 p22 p23 p24 p25 p26 p27 p28 p29 p30 p31 p32 p33 p34 p35 p36 p37 p38 p39 p40 p41 cI wf) {d : Nat} (hd : 5 ≤ d) {z : SX7} (B : Bd RX7 cX7_digest 4 (some .long) d A g D [(cI, .int), (cB, .byte)] p R S m args meth c) {q : Int64} : ∀ (n : Nat) (x1 : Int64) (x3 : Int32) (H : Heap) (locs : List Loc) (ls : Array Slot), Hx A D S.heap (wf z) H locs → lv_has ls 4 [(0, .ref a0), (1, .long x1), (3, .int x3)] → fX7_digest_b45 z n x1 x3 = some q → W p l e R S m args below meth c H locs 0 0 (MQ below (QJ A D (wf z) q) args S 0 0 A) (F0 m 45 ls []) := by
  have hx := B.1
  have hb := B.2.1
  have hd1 : 1 ≤ d := by omega
  intro n
  induction n with
  | zero =>
    intro x1 x3 H locs ls X hl h
    cases h
  | succ n ih =>
    intro x1 x3 H locs ls X hl h
    rw [fX7_digest_b45] at h
    refine lv_iload_n hx hb dX7_digest_45 rfl (lv_at hl 2 rfl) ?_
    refine lv_aload_n hx hb dX7_digest_46 rfl (lv_at hl 0 rfl) ?_
    refine fG B X (LnX7_g L z) 1 rfl inTX7 (by decide) kw292 rfl dX7_digest_47 ?_
    refine fGN B X (LnX3_g (LnX7_s1 L z) z.2.1) 1 rfl inTX3 (by decide) kn258 rfl dX7_digest_50 ?_
    refine fGN B X (LnX1_g (LnX3_s1 (LnX7_s1 L z) z.2.1) z.2.1.2.1) 2 rfl inTX1 (by decide) kn205 rfl dX7_digest_53 ?_
    refine lv_icmp_ge (tgt := 87) hx hb dX7_digest_56 (by decide) (fun hc1 => ?_) (fun hc1 => ?_)
    · have h := it h hc1
      refine lv_iconst (v := 0) hx hb dX7_digest_87 (by decide) ?_
      refine lv_istore_n (lv' := [(3, .int 0), (0, .ref a0), (1, .long x1)]) hx hb dX7_digest_88 rfl hl (by decide) rfl (fun ls hl => ?_)
      exact tX7_digest_b89 L hd B 1000 x1 0 _ _ _ X (lv_sub hl [1, 2, 0] rfl) h
    · have h := ie h hc1
      refine lv_lload_n hx hb dX7_digest_59 rfl (lv_at hl 1 rfl) ?_
      refine lv_aload_n hx hb dX7_digest_60 rfl (lv_at hl 0 rfl) ?_
      refine lv_iload_n hx hb dX7_digest_61 rfl (lv_at hl 2 rfl) ?_
      refine lv_iconst (v := 0) hx hb dX7_digest_62 (by decide) ?_
      obtain ⟨q2, h2, h⟩ := bs h
      refine kI X (cV (As := [.int x3, .int 0]) (rest := [.long x1]) B X (tX7_out (d := d - 1) L (by omega) h2) mfX7_out kw832 (by omega) (LnX7_g L z) rfl rfl (Nat.le_of_ble_eq_true rfl) hl.1 ⟨Nat.zero_le _, Nat.zero_le _⟩ dX7_digest_63) (fun H locs X => ?_)
      have X : Hx A D S.heap (wf z) H locs := X
      refine lv_i2l hx hb dX7_digest_66 rfl ?_
      obtain ⟨q3, h3, h⟩ := bs h
      refine kJ X (cS (As := [.long x1, .long (q2.toInt64)]) (rest := []) B X (tX7_mix (d := d - 1) (by omega) h3) msX7_mix kw827 (by omega) rfl (Nat.le_of_ble_eq_true rfl) hl.1 ⟨Nat.zero_le _, Nat.zero_le _⟩ dX7_digest_67) (fun H locs X => ?_)
      have X : Hx A D S.heap (wf z) H locs := X
      refine lv_aload_n hx hb dX7_digest_70 rfl (lv_at hl 0 rfl) ?_
      refine lv_iload_n hx hb dX7_digest_71 rfl (lv_at hl 2 rfl) ?_
      refine lv_iconst (v := 1) hx hb dX7_digest_72 (by decide) ?_
      obtain ⟨q4, h4, h⟩ := bs h
      refine kI X (cV (As := [.int x3, .int 1]) (rest := [.long q3]) B X (tX7_out (d := d - 1) L (by omega) h4) mfX7_out kw832 (by omega) (LnX7_g L z) rfl rfl (Nat.le_of_ble_eq_true rfl) hl.1 ⟨Nat.zero_le _, Nat.zero_le _⟩ dX7_digest_73) (fun H locs X => ?_)
      have X : Hx A D S.heap (wf z) H locs := X
      refine lv_i2l hx hb dX7_digest_76 rfl ?_
      obtain ⟨q5, h5, h⟩ := bs h
      refine kJ X (cS (As := [.long q3, .long (q4.toInt64)]) (rest := []) B X (tX7_mix (d := d - 1) (by omega) h5) msX7_mix kw827 (by omega) rfl (Nat.le_of_ble_eq_true rfl) hl.1 ⟨Nat.zero_le _, Nat.zero_le _⟩ dX7_digest_77) (fun H locs X => ?_)
      have X : Hx A D S.heap (wf z) H locs := X
      refine lv_lstore_n (lv' := [(1, .long q5), (0, .ref a0), (3, .int x3)]) hx hb dX7_digest_80 rfl hl (by decide) rfl (fun ls hl => ?_)
      refine lv_iinc (v := x3 + 1) (lv' := [(3, .int (x3 + 1)), (1, .long q5), (0, .ref a0)]) hx hb dX7_digest_81 hl (k := 2) rfl rfl (by decide) rfl (fun ls hl => ?_)
      refine lv_goto (tgt := 45) hx hb dX7_digest_84 (by decide) ?_
      exact ih q5 (x3 + 1) _ _ _ X (lv_sub hl [2, 1, 0] rfl) h
def fX7_digest_b20 (z : SX7) : Nat → Int64 → Int32 → Option Int64
  | 0, _, _ => none
  | n + 1, x1, x3 =>
    if 10 ≤ x3 then (fX7_digest_b45 z 1000 x1 0) else
    ((fX7_ledger z x3).bind fun q2 =>
    (fX7_mix x1 (q2.toInt64)).bind fun q3 =>
    fX7_digest_b20 z n q3 (x3 + 1))
set_option maxRecDepth 100000 in
set_option maxHeartbeats 4000000 in
theorem tX7_digest_b20 {a0 a1 a2 a3 a4 a5 a6 a7 a8 a9 a10 a11 a12 a13 a14 a15 a16 a17 a18 a19 a20 a21 a22 a23 a24 a25 a26 a27 a28 a29 a30 a31 a32 a33 a34 a35 a36 a37 a38 a39 a40 a41 p0 p1 p2 p3 p4 p5 p6 p7 p8 p9 p10 p11 p12 p13 p14 p15 p16 p17 p18 p19 p20 p21 p22 p23 p24 p25 p26 p27 p28 p29 p30 p31 p32 p33 p34 p35 p36 p37 p38 p39 p40 p41 : Nat} {wf : SX7 → va_W} (L : LnX7 a0 a1 a2 a3 a4 a5 a6 a7 a8 a9 a10 a11 a12 a13 a14 a15 a16 a17 a18 a19 a20 a21 a22 a23 a24 a25 a26 a27 a28 a29 a30 a31 a32 a33 a34 a35 a36 a37 a38 a39 a40 a41 p0 p1 p2 p3 p4 p5 p6 p7 p8 p9 p10 p11 p12 p13 p14 p15 p16 p17 p18 p19 p20 p21 p22 p23 p24 p25 p26 p27 p28 p29 p30 p31 p32 p33 p34 p35 p36 p37 p38 p39 p40 p41 cI wf) {d : Nat} (hd : 5 ≤ d) {z : SX7} (B : Bd RX7 cX7_digest 4 (some .long) d A g D [(cI, .int), (cB, .byte)] p R S m args meth c) {q : Int64} : ∀ (n : Nat) (x1 : Int64) (x3 : Int32) (H : Heap) (locs : List Loc) (ls : Array Slot), Hx A D S.heap (wf z) H locs → lv_has ls 4 [(0, .ref a0), (1, .long x1), (3, .int x3)] → fX7_digest_b20 z n x1 x3 = some q → W p l e R S m args below meth c H locs 0 0 (MQ below (QJ A D (wf z) q) args S 0 0 A) (F0 m 20 ls []) := by
  have hx := B.1
  have hb := B.2.1
  have hd1 : 1 ≤ d := by omega
  intro n
  induction n with
  | zero =>
    intro x1 x3 H locs ls X hl h
    cases h
  | succ n ih =>
    intro x1 x3 H locs ls X hl h
    rw [fX7_digest_b20] at h
    refine lv_iload_n hx hb dX7_digest_20 rfl (lv_at hl 2 rfl) ?_
    refine lv_bipush (v := 10) hx hb dX7_digest_21 (by decide) ?_
    refine lv_icmp_ge (tgt := 43) hx hb dX7_digest_23 (by decide) (fun hc1 => ?_) (fun hc1 => ?_)
    · have h := it h hc1
      refine lv_iconst (v := 0) hx hb dX7_digest_43 (by decide) ?_
      refine lv_istore_n (lv' := [(3, .int 0), (0, .ref a0), (1, .long x1)]) hx hb dX7_digest_44 rfl hl (by decide) rfl (fun ls hl => ?_)
      exact tX7_digest_b45 L hd B 1000 x1 0 _ _ _ X (lv_sub hl [1, 2, 0] rfl) h
    · have h := ie h hc1
      refine lv_lload_n hx hb dX7_digest_26 rfl (lv_at hl 1 rfl) ?_
      refine lv_aload_n hx hb dX7_digest_27 rfl (lv_at hl 0 rfl) ?_
      refine lv_iload_n hx hb dX7_digest_28 rfl (lv_at hl 2 rfl) ?_
      obtain ⟨q2, h2, h⟩ := bs h
      refine kI X (cV (As := [.int x3]) (rest := [.long x1]) B X (tX7_ledger (d := d - 1) L (by omega) h2) mfX7_ledger kw831 (by omega) (LnX7_g L z) rfl rfl (Nat.le_of_ble_eq_true rfl) hl.1 ⟨Nat.zero_le _, Nat.zero_le _⟩ dX7_digest_29) (fun H locs X => ?_)
      have X : Hx A D S.heap (wf z) H locs := X
      refine lv_i2l hx hb dX7_digest_32 rfl ?_
      obtain ⟨q3, h3, h⟩ := bs h
      refine kJ X (cS (As := [.long x1, .long (q2.toInt64)]) (rest := []) B X (tX7_mix (d := d - 1) (by omega) h3) msX7_mix kw827 (by omega) rfl (Nat.le_of_ble_eq_true rfl) hl.1 ⟨Nat.zero_le _, Nat.zero_le _⟩ dX7_digest_33) (fun H locs X => ?_)
      have X : Hx A D S.heap (wf z) H locs := X
      refine lv_lstore_n (lv' := [(1, .long q3), (0, .ref a0), (3, .int x3)]) hx hb dX7_digest_36 rfl hl (by decide) rfl (fun ls hl => ?_)
      refine lv_iinc (v := x3 + 1) (lv' := [(3, .int (x3 + 1)), (1, .long q3), (0, .ref a0)]) hx hb dX7_digest_37 hl (k := 2) rfl rfl (by decide) rfl (fun ls hl => ?_)
      refine lv_goto (tgt := 20) hx hb dX7_digest_40 (by decide) ?_
      exact ih q3 (x3 + 1) _ _ _ X (lv_sub hl [2, 1, 0] rfl) h
def fX7_digest (z : SX7) : Option Int64 :=
    (fX7_mixRows z 1373 0).bind fun q1 =>
    (fX7_mixRows z q1 1).bind fun q2 =>
    fX7_digest_b20 z 1000 q2 0
set_option maxRecDepth 100000 in
set_option maxHeartbeats 4000000 in
theorem tX7_digest {a0 a1 a2 a3 a4 a5 a6 a7 a8 a9 a10 a11 a12 a13 a14 a15 a16 a17 a18 a19 a20 a21 a22 a23 a24 a25 a26 a27 a28 a29 a30 a31 a32 a33 a34 a35 a36 a37 a38 a39 a40 a41 p0 p1 p2 p3 p4 p5 p6 p7 p8 p9 p10 p11 p12 p13 p14 p15 p16 p17 p18 p19 p20 p21 p22 p23 p24 p25 p26 p27 p28 p29 p30 p31 p32 p33 p34 p35 p36 p37 p38 p39 p40 p41 : Nat} {wf : SX7 → va_W} (L : LnX7 a0 a1 a2 a3 a4 a5 a6 a7 a8 a9 a10 a11 a12 a13 a14 a15 a16 a17 a18 a19 a20 a21 a22 a23 a24 a25 a26 a27 a28 a29 a30 a31 a32 a33 a34 a35 a36 a37 a38 a39 a40 a41 p0 p1 p2 p3 p4 p5 p6 p7 p8 p9 p10 p11 p12 p13 p14 p15 p16 p17 p18 p19 p20 p21 p22 p23 p24 p25 p26 p27 p28 p29 p30 p31 p32 p33 p34 p35 p36 p37 p38 p39 p40 p41 cI wf) {d : Nat} (hd : 5 ≤ d) {z : SX7} {q : Int64} (h : fX7_digest z = some q) : Ct l yX7_digest cX7_digest 4 (some .long) d A g D [(cI, .int), (cB, .byte)] [.ref a0] (wf z) (QJ A D (wf z) q) := by
  refine mkM (by decide) (Nat.le_of_ble_eq_true rfl) ?_
  intro p e S m args below meth c B X ls hl
  have B : Bd RX7 cX7_digest 4 (some .long) d A g D [(cI, .int), (cB, .byte)] p (rmd d) S m args meth c := B
  have hx := B.1
  have hb := B.2.1
  have hd1 : 1 ≤ d := by omega
  have hl : lv_has ls 4 [(0, .ref a0)] := hl
  unfold fX7_digest at h
  refine lv_ldc2 hx hb B.2.2.2.1 (B.2.2.2.2.1 _ kw821) dX7_digest_0 ?_
  refine lv_lstore_n (lv' := [(1, .long 1373), (0, .ref a0)]) hx hb dX7_digest_3 rfl hl (by decide) rfl (fun ls hl => ?_)
  refine lv_aload_n hx hb dX7_digest_4 rfl (lv_at hl 1 rfl) ?_
  refine lv_lload_n hx hb dX7_digest_5 rfl (lv_at hl 0 rfl) ?_
  refine lv_iconst (v := 0) hx hb dX7_digest_6 (by decide) ?_
  obtain ⟨q1, h1, h⟩ := bs h
  refine kJ X (cV (As := [.long 1373, .int 0]) (rest := []) B X (tX7_mixRows (d := d - 1) L (by omega) h1) mfX7_mixRows kw822 (by omega) (LnX7_g L z) rfl rfl (Nat.le_of_ble_eq_true rfl) hl.1 ⟨Nat.zero_le _, Nat.zero_le _⟩ dX7_digest_7) (fun H locs X => ?_)
  have X : Hx A D S.heap (wf z) H locs := X
  refine lv_lstore_n (lv' := [(1, .long q1), (0, .ref a0)]) hx hb dX7_digest_10 rfl hl (by decide) rfl (fun ls hl => ?_)
  refine lv_aload_n hx hb dX7_digest_11 rfl (lv_at hl 1 rfl) ?_
  refine lv_lload_n hx hb dX7_digest_12 rfl (lv_at hl 0 rfl) ?_
  refine lv_iconst (v := 1) hx hb dX7_digest_13 (by decide) ?_
  obtain ⟨q2, h2, h⟩ := bs h
  refine kJ X (cV (As := [.long q1, .int 1]) (rest := []) B X (tX7_mixRows (d := d - 1) L (by omega) h2) mfX7_mixRows kw822 (by omega) (LnX7_g L z) rfl rfl (Nat.le_of_ble_eq_true rfl) hl.1 ⟨Nat.zero_le _, Nat.zero_le _⟩ dX7_digest_14) (fun H locs X => ?_)
  have X : Hx A D S.heap (wf z) H locs := X
  refine lv_lstore_n (lv' := [(1, .long q2), (0, .ref a0)]) hx hb dX7_digest_17 rfl hl (by decide) rfl (fun ls hl => ?_)
  refine lv_iconst (v := 0) hx hb dX7_digest_18 (by decide) ?_
  refine lv_istore_n (lv' := [(3, .int 0), (1, .long q2), (0, .ref a0)]) hx hb dX7_digest_19 rfl hl (by decide) rfl (fun ls hl => ?_)
  exact tX7_digest_b20 L hd B 1000 q2 0 _ _ _ X (lv_sub hl [2, 1, 0] rfl) h
end
