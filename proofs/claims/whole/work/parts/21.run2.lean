section
variable {l : Launch} {p : Program} {e : Env} {R : Room} {S : State} {m : MethodId} {args : Array Value} {below : List Frame} {meth : Method} {c : Code} {A : Nat → Prop} {g : Nat → Nat} {D : va_G} {cI cB : ClassId}
def fX3_meet (z : SX3) (x1 : Int32) (x2 : Int32) : Option SX3 :=
    (fX7_comesOutBy z.1.2.2.2 0).bind fun q1 =>
    if q1 = 0 then ((fX7_comesOutBy z.1.2.2.2 3).bind fun q3 =>
    if q3 = 0 then (some z) else
    ((fX7_isIn z.2.2.2.2 x1).bind fun q5 =>
    if q5 = 0 then ((fX1_add z.2.1 x1 (-1)).bind fun q7 =>
    some (z.1, q7, z.2.2.1, z.2.2.2.1, (z.2.2.2.2 ||| (1 <<< (x1 &&& 31))))) else
    (some z))) else
    ((fX1_add z.2.1 x1 x2).bind fun q8 =>
    some (z.1, q8, z.2.2.1, z.2.2.2.1, z.2.2.2.2))
set_option maxRecDepth 100000 in
set_option maxHeartbeats 4000000 in
theorem tX3_meet {a0 a1 a2 a3 a4 a5 a6 a7 a8 a9 a10 a11 a12 a13 a14 a15 p0 p1 p2 p3 p4 p5 p6 p7 p8 p9 p10 p11 p12 p13 p14 p15 : Nat} {wf : SX3 → va_W} (L : LnX3 a0 a1 a2 a3 a4 a5 a6 a7 a8 a9 a10 a11 a12 a13 a14 a15 p0 p1 p2 p3 p4 p5 p6 p7 p8 p9 p10 p11 p12 p13 p14 p15 cI wf) {d : Nat} (hd : 2 ≤ d) {z : SX3} {x1 x2 : Int32} {q : SX3} (h : fX3_meet z x1 x2 = some q) : Ct l yX3_meet cX3_meet 3 none d A g D [(cI, .int), (cB, .byte)] [.ref a0, .int x1, .int x2] (wf z) (QV A D (wf q)) := by
  refine mkM (by decide) (Nat.le_of_ble_eq_true rfl) ?_
  intro p e S m args below meth c B X ls hl
  have B : Bd RX3 cX3_meet 3 none d A g D [(cI, .int), (cB, .byte)] p (rmd d) S m args meth c := B
  have hx := B.1
  have hb := B.2.1
  have hd1 : 1 ≤ d := by omega
  have hl : lv_has ls 3 [(0, .ref a0), (1, .int x1), (2, .int x2)] := hl
  unfold fX3_meet at h
  refine lv_aload_n hx hb dX3_meet_0 rfl (lv_at hl 0 rfl) ?_
  refine fG B X (LnX3_g L z) 0 rfl inTX3 (by decide) kw255 rfl dX3_meet_1 ?_
  refine fGN B X (LnX6_g (LnX3_s0 L z) z.1) 3 rfl inTX6 (by decide) kn185 rfl dX3_meet_4 ?_
  refine lv_iconst (v := 0) hx hb dX3_meet_7 (by decide) ?_
  obtain ⟨q1, h1, h⟩ := bs h
  refine kI X (cSN (As := [.int z.1.2.2.2, .int 0]) (rest := []) B X (tX7_comesOutBy (d := d - 1) (by omega) h1) msX7_comesOutBy kn662 (by omega) rfl (Nat.le_of_ble_eq_true rfl) hl.1 ⟨Nat.zero_le _, Nat.zero_le _⟩ dX3_meet_8) (fun H locs X => ?_)
  have X : Hx A D S.heap (wf z) H locs := X
  refine lv_if_eq (tgt := 26) hx hb dX3_meet_11 (by decide) (fun hc2 => ?_) (fun hc2 => ?_)
  · have h := it h hc2
    refine lv_aload_n hx hb dX3_meet_26 rfl (lv_at hl 0 rfl) ?_
    refine fG B X (LnX3_g L z) 0 rfl inTX3 (by decide) kw255 rfl dX3_meet_27 ?_
    refine fGN B X (LnX6_g (LnX3_s0 L z) z.1) 3 rfl inTX6 (by decide) kn185 rfl dX3_meet_30 ?_
    refine lv_iconst (v := 3) hx hb dX3_meet_33 (by decide) ?_
    obtain ⟨q3, h3, h⟩ := bs h
    refine kI X (cSN (As := [.int z.1.2.2.2, .int 3]) (rest := []) B X (tX7_comesOutBy (d := d - 1) (by omega) h3) msX7_comesOutBy kn662 (by omega) rfl (Nat.le_of_ble_eq_true rfl) hl.1 ⟨Nat.zero_le _, Nat.zero_le _⟩ dX3_meet_34) (fun H locs X => ?_)
    have X : Hx A D S.heap (wf z) H locs := X
    refine lv_if_eq (tgt := 72) hx hb dX3_meet_37 (by decide) (fun hc4 => ?_) (fun hc4 => ?_)
    · have h := it h hc4
      exact rV B X (congrArg wf (Option.some.inj h)) dX3_meet_72
    · have h := ie h hc4
      refine lv_aload_n hx hb dX3_meet_40 rfl (lv_at hl 0 rfl) ?_
      refine fG B X (LnX3_g L z) 4 rfl inTX3 (by decide) kw262 rfl dX3_meet_41 ?_
      refine lv_iload_n hx hb dX3_meet_44 rfl (lv_at hl 1 rfl) ?_
      obtain ⟨q5, h5, h⟩ := bs h
      refine kI X (cSN (As := [.int z.2.2.2.2, .int x1]) (rest := []) B X (tX7_isIn (d := d - 1) (by omega) h5) msX7_isIn kn650 (by omega) rfl (Nat.le_of_ble_eq_true rfl) hl.1 ⟨Nat.zero_le _, Nat.zero_le _⟩ dX3_meet_45) (fun H locs X => ?_)
      have X : Hx A D S.heap (wf z) H locs := X
      refine lv_if_ne (tgt := 72) hx hb dX3_meet_48 (by decide) (fun hc6 => ?_) (fun hc6 => ?_)
      · have h := ie h hc6
        exact rV B X (congrArg wf (Option.some.inj h)) dX3_meet_72
      · have h := it h hc6
        refine lv_aload_n hx hb dX3_meet_51 rfl (lv_at hl 0 rfl) ?_
        refine lv_dup hx hb dX3_meet_52 rfl ?_
        refine fG B X (LnX3_g L z) 4 rfl inTX3 (by decide) kw262 rfl dX3_meet_53 ?_
        refine lv_iconst (v := 1) hx hb dX3_meet_56 (by decide) ?_
        refine lv_iload_n hx hb dX3_meet_57 rfl (lv_at hl 1 rfl) ?_
        refine lv_ishl hx hb dX3_meet_58 ?_
        refine lv_ior hx hb dX3_meet_59 ?_
        refine fP tyX3 B X (LnX3_g L z) 4 (LnX3_i4 L z _) rfl inTX3 tyX3_ok nmX3 (by decide) kw262 rfl rfl rfl rfl (Nat.le_of_ble_eq_true rfl) dX3_meet_60 (fun H locs X => ?_)
        have X : Hx A D S.heap (wf (z.1, z.2.1, z.2.2.1, z.2.2.2.1, (z.2.2.2.2 ||| (1 <<< (x1 &&& 31))))) H locs := X
        refine lv_aload_n hx hb dX3_meet_63 rfl (lv_at hl 0 rfl) ?_
        refine fG B X (LnX3_g L (z.1, z.2.1, z.2.2.1, z.2.2.2.1, (z.2.2.2.2 ||| (1 <<< (x1 &&& 31))))) 1 rfl inTX3 (by decide) kw257 rfl dX3_meet_64 ?_
        refine lv_iload_n hx hb dX3_meet_67 rfl (lv_at hl 1 rfl) ?_
        refine lv_iconst (v := (-1)) hx hb dX3_meet_68 (by decide) ?_
        obtain ⟨q7, h7, h⟩ := bs h
        refine kV X (cVN (As := [.int x1, .int (-1)]) (rest := []) B X (tX1_add (d := d - 1) (LnX3_s1 L (z.1, z.2.1, z.2.2.1, z.2.2.2.1, (z.2.2.2.2 ||| (1 <<< (x1 &&& 31))))) (by omega) h7) mfX1_add kn667 (by omega) (LnX1_g (LnX3_s1 L (z.1, z.2.1, z.2.2.1, z.2.2.2.1, (z.2.2.2.2 ||| (1 <<< (x1 &&& 31))))) z.2.1) rfl rfl (Nat.le_of_ble_eq_true rfl) hl.1 ⟨Nat.zero_le _, Nat.zero_le _⟩ dX3_meet_69) (fun H locs X => ?_)
        have X : Hx A D S.heap (wf (z.1, q7, z.2.2.1, z.2.2.2.1, (z.2.2.2.2 ||| (1 <<< (x1 &&& 31))))) H locs := X
        exact rV B X (congrArg wf (Option.some.inj h)) dX3_meet_72
  · have h := ie h hc2
    refine lv_aload_n hx hb dX3_meet_14 rfl (lv_at hl 0 rfl) ?_
    refine fG B X (LnX3_g L z) 1 rfl inTX3 (by decide) kw257 rfl dX3_meet_15 ?_
    refine lv_iload_n hx hb dX3_meet_18 rfl (lv_at hl 1 rfl) ?_
    refine lv_iload_n hx hb dX3_meet_19 rfl (lv_at hl 2 rfl) ?_
    obtain ⟨q8, h8, h⟩ := bs h
    refine kV X (cVN (As := [.int x1, .int x2]) (rest := []) B X (tX1_add (d := d - 1) (LnX3_s1 L z) (by omega) h8) mfX1_add kn667 (by omega) (LnX1_g (LnX3_s1 L z) z.2.1) rfl rfl (Nat.le_of_ble_eq_true rfl) hl.1 ⟨Nat.zero_le _, Nat.zero_le _⟩ dX3_meet_20) (fun H locs X => ?_)
    have X : Hx A D S.heap (wf (z.1, q8, z.2.2.1, z.2.2.2.1, z.2.2.2.2)) H locs := X
    refine lv_goto (tgt := 72) hx hb dX3_meet_23 (by decide) ?_
    exact rV B X (congrArg wf (Option.some.inj h)) dX3_meet_72
def fX3_meetAll_b19 : Nat → Int32 → Int32 → Int32 → Int32 → SX3 → Option SX3
  | 0, _, _, _, _, _ => none
  | n + 1, x1, x3, x4, x5, z =>
    if 14 ≤ x5 then (some z) else
    (if z.2.1.2.2.2.2 = 0 then ((fX7_isIn x4 x5).bind fun q3 =>
    if q3 = 0 then (fX3_meetAll_b19 n x1 x3 x4 (x5 + 1) z) else
    (if x1 = 0 then (if x1 = 0 then ((fX3_meet z x5 x3).bind fun q11 =>
    fX3_meetAll_b19 n x1 x3 x4 (x5 + 1) q11) else
    ((fX3_meet z x5 x5).bind fun q10 =>
    fX3_meetAll_b19 n x1 x3 x4 (x5 + 1) q10)) else
    (if x1 = 0 then ((fX3_meet z x3 x3).bind fun q8 =>
    fX3_meetAll_b19 n x1 x3 x4 (x5 + 1) q8) else
    ((fX3_meet z x3 x5).bind fun q7 =>
    fX3_meetAll_b19 n x1 x3 x4 (x5 + 1) q7)))) else
    (some z))
set_option maxRecDepth 100000 in
set_option maxHeartbeats 4000000 in
theorem tX3_meetAll_b19 {a0 a1 a2 a3 a4 a5 a6 a7 a8 a9 a10 a11 a12 a13 a14 a15 p0 p1 p2 p3 p4 p5 p6 p7 p8 p9 p10 p11 p12 p13 p14 p15 : Nat} {wf : SX3 → va_W} (L : LnX3 a0 a1 a2 a3 a4 a5 a6 a7 a8 a9 a10 a11 a12 a13 a14 a15 p0 p1 p2 p3 p4 p5 p6 p7 p8 p9 p10 p11 p12 p13 p14 p15 cI wf) {d : Nat} (hd : 3 ≤ d) (B : Bd RX3 cX3_meetAll 6 none d A g D [(cI, .int), (cB, .byte)] p R S m args meth c) {q : SX3} : ∀ (n : Nat) (x1 : Int32) (x3 : Int32) (x4 : Int32) (x5 : Int32) (z : SX3) (H : Heap) (locs : List Loc) (ls : Array Slot), Hx A D S.heap (wf z) H locs → lv_has ls 6 [(0, .ref a0), (1, .int x1), (3, .int x3), (4, .int x4), (5, .int x5)] → fX3_meetAll_b19 n x1 x3 x4 x5 z = some q → W p l e R S m args below meth c H locs 0 0 (MQ below (QV A D (wf q)) args S 0 0 A) (F0 m 19 ls []) := by
  have hx := B.1
  have hb := B.2.1
  have hd1 : 1 ≤ d := by omega
  intro n
  induction n with
  | zero =>
    intro x1 x3 x4 x5 z H locs ls X hl h
    cases h
  | succ n ih =>
    intro x1 x3 x4 x5 z H locs ls X hl h
    rw [fX3_meetAll_b19] at h
    refine lv_iload hx hb dX3_meetAll_19 (lv_at hl 4 rfl) ?_
    refine lv_bipush (v := 14) hx hb dX3_meetAll_21 (by decide) ?_
    refine lv_icmp_ge (tgt := 76) hx hb dX3_meetAll_23 (by decide) (fun hc1 => ?_) (fun hc1 => ?_)
    · have h := it h hc1
      exact rV B X (congrArg wf (Option.some.inj h)) dX3_meetAll_76
    · have h := ie h hc1
      refine lv_aload_n hx hb dX3_meetAll_26 rfl (lv_at hl 0 rfl) ?_
      refine fG B X (LnX3_g L z) 1 rfl inTX3 (by decide) kw257 rfl dX3_meetAll_27 ?_
      refine fGN B X (LnX1_g (LnX3_s1 L z) z.2.1) 4 rfl inTX1 (by decide) kn208 rfl dX3_meetAll_30 ?_
      refine lv_if_ne (tgt := 76) hx hb dX3_meetAll_33 (by decide) (fun hc2 => ?_) (fun hc2 => ?_)
      · have h := ie h hc2
        exact rV B X (congrArg wf (Option.some.inj h)) dX3_meetAll_76
      · have h := it h hc2
        refine lv_iload hx hb dX3_meetAll_36 (lv_at hl 3 rfl) ?_
        refine lv_iload hx hb dX3_meetAll_38 (lv_at hl 4 rfl) ?_
        obtain ⟨q3, h3, h⟩ := bs h
        refine kI X (cSN (As := [.int x4, .int x5]) (rest := []) B X (tX7_isIn (d := d - 1) (by omega) h3) msX7_isIn kn650 (by omega) rfl (Nat.le_of_ble_eq_true rfl) hl.1 ⟨Nat.zero_le _, Nat.zero_le _⟩ dX3_meetAll_40) (fun H locs X => ?_)
        have X : Hx A D S.heap (wf z) H locs := X
        refine lv_if_eq (tgt := 70) hx hb dX3_meetAll_43 (by decide) (fun hc4 => ?_) (fun hc4 => ?_)
        · have h := it h hc4
          refine lv_iinc (v := x5 + 1) (lv' := [(5, .int (x5 + 1)), (0, .ref a0), (1, .int x1), (3, .int x3), (4, .int x4)]) hx hb dX3_meetAll_70 hl (k := 4) rfl rfl (by decide) rfl (fun ls hl => ?_)
          refine lv_goto (tgt := 19) hx hb dX3_meetAll_73 (by decide) ?_
          exact ih x1 x3 x4 (x5 + 1) z _ _ _ X (lv_sub hl [1, 2, 3, 4, 0] rfl) h
        · have h := ie h hc4
          refine lv_aload_n hx hb dX3_meetAll_46 rfl (lv_at hl 0 rfl) ?_
          refine lv_iload_n hx hb dX3_meetAll_47 rfl (lv_at hl 1 rfl) ?_
          refine lv_if_ne (tgt := 56) hx hb dX3_meetAll_48 (by decide) (fun hc5 => ?_) (fun hc5 => ?_)
          · have h := ie h hc5
            refine lv_iload_n hx hb dX3_meetAll_56 rfl (lv_at hl 2 rfl) ?_
            refine lv_iload_n hx hb dX3_meetAll_57 rfl (lv_at hl 1 rfl) ?_
            refine lv_if_ne (tgt := 65) hx hb dX3_meetAll_58 (by decide) (fun hc6 => ?_) (fun hc6 => ?_)
            · have h := ie h hc6
              refine lv_iload hx hb dX3_meetAll_65 (lv_at hl 4 rfl) ?_
              obtain ⟨q7, h7, h⟩ := bs h
              refine kV X (cV (As := [.int x3, .int x5]) (rest := []) B X (tX3_meet (d := d - 1) L (by omega) h7) mfX3_meet kw658 (by omega) (LnX3_g L z) rfl rfl (Nat.le_of_ble_eq_true rfl) hl.1 ⟨Nat.zero_le _, Nat.zero_le _⟩ dX3_meetAll_67) (fun H locs X => ?_)
              have X : Hx A D S.heap (wf q7) H locs := X
              refine lv_iinc (v := x5 + 1) (lv' := [(5, .int (x5 + 1)), (0, .ref a0), (1, .int x1), (3, .int x3), (4, .int x4)]) hx hb dX3_meetAll_70 hl (k := 4) rfl rfl (by decide) rfl (fun ls hl => ?_)
              refine lv_goto (tgt := 19) hx hb dX3_meetAll_73 (by decide) ?_
              exact ih x1 x3 x4 (x5 + 1) q7 _ _ _ X (lv_sub hl [1, 2, 3, 4, 0] rfl) h
            · have h := it h hc6
              refine lv_iload_n hx hb dX3_meetAll_61 rfl (lv_at hl 2 rfl) ?_
              refine lv_goto (tgt := 67) hx hb dX3_meetAll_62 (by decide) ?_
              obtain ⟨q8, h8, h⟩ := bs h
              refine kV X (cV (As := [.int x3, .int x3]) (rest := []) B X (tX3_meet (d := d - 1) L (by omega) h8) mfX3_meet kw658 (by omega) (LnX3_g L z) rfl rfl (Nat.le_of_ble_eq_true rfl) hl.1 ⟨Nat.zero_le _, Nat.zero_le _⟩ dX3_meetAll_67) (fun H locs X => ?_)
              have X : Hx A D S.heap (wf q8) H locs := X
              refine lv_iinc (v := x5 + 1) (lv' := [(5, .int (x5 + 1)), (0, .ref a0), (1, .int x1), (3, .int x3), (4, .int x4)]) hx hb dX3_meetAll_70 hl (k := 4) rfl rfl (by decide) rfl (fun ls hl => ?_)
              refine lv_goto (tgt := 19) hx hb dX3_meetAll_73 (by decide) ?_
              exact ih x1 x3 x4 (x5 + 1) q8 _ _ _ X (lv_sub hl [1, 2, 3, 4, 0] rfl) h
          · have h := it h hc5
            refine lv_iload hx hb dX3_meetAll_51 (lv_at hl 4 rfl) ?_
            refine lv_goto (tgt := 57) hx hb dX3_meetAll_53 (by decide) ?_
            refine lv_iload_n hx hb dX3_meetAll_57 rfl (lv_at hl 1 rfl) ?_
            refine lv_if_ne (tgt := 65) hx hb dX3_meetAll_58 (by decide) (fun hc9 => ?_) (fun hc9 => ?_)
            · have h := ie h hc9
              refine lv_iload hx hb dX3_meetAll_65 (lv_at hl 4 rfl) ?_
              obtain ⟨q10, h10, h⟩ := bs h
              refine kV X (cV (As := [.int x5, .int x5]) (rest := []) B X (tX3_meet (d := d - 1) L (by omega) h10) mfX3_meet kw658 (by omega) (LnX3_g L z) rfl rfl (Nat.le_of_ble_eq_true rfl) hl.1 ⟨Nat.zero_le _, Nat.zero_le _⟩ dX3_meetAll_67) (fun H locs X => ?_)
              have X : Hx A D S.heap (wf q10) H locs := X
              refine lv_iinc (v := x5 + 1) (lv' := [(5, .int (x5 + 1)), (0, .ref a0), (1, .int x1), (3, .int x3), (4, .int x4)]) hx hb dX3_meetAll_70 hl (k := 4) rfl rfl (by decide) rfl (fun ls hl => ?_)
              refine lv_goto (tgt := 19) hx hb dX3_meetAll_73 (by decide) ?_
              exact ih x1 x3 x4 (x5 + 1) q10 _ _ _ X (lv_sub hl [1, 2, 3, 4, 0] rfl) h
            · have h := it h hc9
              refine lv_iload_n hx hb dX3_meetAll_61 rfl (lv_at hl 2 rfl) ?_
              refine lv_goto (tgt := 67) hx hb dX3_meetAll_62 (by decide) ?_
              obtain ⟨q11, h11, h⟩ := bs h
              refine kV X (cV (As := [.int x5, .int x3]) (rest := []) B X (tX3_meet (d := d - 1) L (by omega) h11) mfX3_meet kw658 (by omega) (LnX3_g L z) rfl rfl (Nat.le_of_ble_eq_true rfl) hl.1 ⟨Nat.zero_le _, Nat.zero_le _⟩ dX3_meetAll_67) (fun H locs X => ?_)
              have X : Hx A D S.heap (wf q11) H locs := X
              refine lv_iinc (v := x5 + 1) (lv' := [(5, .int (x5 + 1)), (0, .ref a0), (1, .int x1), (3, .int x3), (4, .int x4)]) hx hb dX3_meetAll_70 hl (k := 4) rfl rfl (by decide) rfl (fun ls hl => ?_)
              refine lv_goto (tgt := 19) hx hb dX3_meetAll_73 (by decide) ?_
              exact ih x1 x3 x4 (x5 + 1) q11 _ _ _ X (lv_sub hl [1, 2, 3, 4, 0] rfl) h
def fX3_meetAll (z : SX3) (x1 : Int32) (x2 : Int32) (x3 : Int32) : Option SX3 :=
    (fX7_otherSide x1).bind fun q1 =>
    (fX6_partners z.1 q1 x3).bind fun q2 =>
    fX3_meetAll_b19 1000 x1 x3 (x2 &&& q2) 0 z
set_option maxRecDepth 100000 in
set_option maxHeartbeats 4000000 in
theorem tX3_meetAll {a0 a1 a2 a3 a4 a5 a6 a7 a8 a9 a10 a11 a12 a13 a14 a15 p0 p1 p2 p3 p4 p5 p6 p7 p8 p9 p10 p11 p12 p13 p14 p15 : Nat} {wf : SX3 → va_W} (L : LnX3 a0 a1 a2 a3 a4 a5 a6 a7 a8 a9 a10 a11 a12 a13 a14 a15 p0 p1 p2 p3 p4 p5 p6 p7 p8 p9 p10 p11 p12 p13 p14 p15 cI wf) {d : Nat} (hd : 3 ≤ d) {z : SX3} {x1 x2 x3 : Int32} {q : SX3} (h : fX3_meetAll z x1 x2 x3 = some q) : Ct l yX3_meetAll cX3_meetAll 6 none d A g D [(cI, .int), (cB, .byte)] [.ref a0, .int x1, .int x2, .int x3] (wf z) (QV A D (wf q)) := by
  refine mkM (by decide) (Nat.le_of_ble_eq_true rfl) ?_
  intro p e S m args below meth c B X ls hl
  have B : Bd RX3 cX3_meetAll 6 none d A g D [(cI, .int), (cB, .byte)] p (rmd d) S m args meth c := B
  have hx := B.1
  have hb := B.2.1
  have hd1 : 1 ≤ d := by omega
  have hl : lv_has ls 6 [(0, .ref a0), (1, .int x1), (2, .int x2), (3, .int x3)] := hl
  unfold fX3_meetAll at h
  refine lv_iload_n hx hb dX3_meetAll_0 rfl (lv_at hl 2 rfl) ?_
  refine lv_aload_n hx hb dX3_meetAll_1 rfl (lv_at hl 0 rfl) ?_
  refine fG B X (LnX3_g L z) 0 rfl inTX3 (by decide) kw255 rfl dX3_meetAll_2 ?_
  refine lv_iload_n hx hb dX3_meetAll_5 rfl (lv_at hl 1 rfl) ?_
  obtain ⟨q1, h1, h⟩ := bs h
  refine kI X (cSN (As := [.int x1]) (rest := [.ref a1, .int x2]) B X (tX7_otherSide (d := d - 1) (by omega) h1) msX7_otherSide kn649 (by omega) rfl (Nat.le_of_ble_eq_true rfl) hl.1 ⟨Nat.zero_le _, Nat.zero_le _⟩ dX3_meetAll_6) (fun H locs X => ?_)
  have X : Hx A D S.heap (wf z) H locs := X
  refine lv_iload_n hx hb dX3_meetAll_9 rfl (lv_at hl 3 rfl) ?_
  obtain ⟨q2, h2, h⟩ := bs h
  refine kI X (cVN (As := [.int q1, .int x3]) (rest := [.int x2]) B X (tX6_partners (d := d - 1) (LnX3_s0 L z) (by omega) h2) mfX6_partners kn657 (by omega) (LnX6_g (LnX3_s0 L z) z.1) rfl rfl (Nat.le_of_ble_eq_true rfl) hl.1 ⟨Nat.zero_le _, Nat.zero_le _⟩ dX3_meetAll_10) (fun H locs X => ?_)
  have X : Hx A D S.heap (wf z) H locs := X
  refine lv_iand hx hb dX3_meetAll_13 ?_
  refine lv_istore (lv' := [(4, .int (x2 &&& q2)), (0, .ref a0), (1, .int x1), (2, .int x2), (3, .int x3)]) hx hb dX3_meetAll_14 hl (by decide) rfl (fun ls hl => ?_)
  refine lv_iconst (v := 0) hx hb dX3_meetAll_16 (by decide) ?_
  refine lv_istore (lv' := [(5, .int 0), (4, .int (x2 &&& q2)), (0, .ref a0), (1, .int x1), (2, .int x2), (3, .int x3)]) hx hb dX3_meetAll_17 hl (by decide) rfl (fun ls hl => ?_)
  exact tX3_meetAll_b19 L hd B 1000 x1 x3 (x2 &&& q2) 0 z _ _ _ X (lv_sub hl [2, 3, 5, 1, 0] rfl) h
def fX3_comeOutAlone_b25 : Nat → Int32 → Int32 → Int32 → SX3 → Option SX3
  | 0, _, _, _, _ => none
  | n + 1, x1, x2, x3, z =>
    if 14 ≤ x3 then (some z) else
    (if z.2.1.2.2.2.2 = 0 then ((fX7_isIn x2 x3).bind fun q3 =>
    if q3 = 0 then (fX3_comeOutAlone_b25 n x1 x2 (x3 + 1) z) else
    ((fX6_partners z.1 x1 x3).bind fun q5 =>
    if q5 = 0 then (if x1 = 0 then (if x1 = 0 then ((fX1_add z.2.1 x3 (-1)).bind fun q13 =>
    fX3_comeOutAlone_b25 n x1 x2 (x3 + 1) (z.1, q13, z.2.2.1, z.2.2.2.1, z.2.2.2.2)) else
    ((fX1_add z.2.1 x3 x3).bind fun q12 =>
    fX3_comeOutAlone_b25 n x1 x2 (x3 + 1) (z.1, q12, z.2.2.1, z.2.2.2.1, z.2.2.2.2))) else
    (if x1 = 0 then ((fX1_add z.2.1 (-1) (-1)).bind fun q10 =>
    fX3_comeOutAlone_b25 n x1 x2 (x3 + 1) (z.1, q10, z.2.2.1, z.2.2.2.1, z.2.2.2.2)) else
    ((fX1_add z.2.1 (-1) x3).bind fun q9 =>
    fX3_comeOutAlone_b25 n x1 x2 (x3 + 1) (z.1, q9, z.2.2.1, z.2.2.2.1, z.2.2.2.2)))) else
    (fX3_comeOutAlone_b25 n x1 x2 (x3 + 1) z))) else
    (some z))
set_option maxRecDepth 100000 in
set_option maxHeartbeats 4000000 in
theorem tX3_comeOutAlone_b25 {a0 a1 a2 a3 a4 a5 a6 a7 a8 a9 a10 a11 a12 a13 a14 a15 p0 p1 p2 p3 p4 p5 p6 p7 p8 p9 p10 p11 p12 p13 p14 p15 : Nat} {wf : SX3 → va_W} (L : LnX3 a0 a1 a2 a3 a4 a5 a6 a7 a8 a9 a10 a11 a12 a13 a14 a15 p0 p1 p2 p3 p4 p5 p6 p7 p8 p9 p10 p11 p12 p13 p14 p15 cI wf) {d : Nat} (hd : 3 ≤ d) (B : Bd RX3 cX3_comeOutAlone 4 none d A g D [(cI, .int), (cB, .byte)] p R S m args meth c) {q : SX3} : ∀ (n : Nat) (x1 : Int32) (x2 : Int32) (x3 : Int32) (z : SX3) (H : Heap) (locs : List Loc) (ls : Array Slot), Hx A D S.heap (wf z) H locs → lv_has ls 4 [(0, .ref a0), (1, .int x1), (2, .int x2), (3, .int x3)] → fX3_comeOutAlone_b25 n x1 x2 x3 z = some q → W p l e R S m args below meth c H locs 0 0 (MQ below (QV A D (wf q)) args S 0 0 A) (F0 m 25 ls []) := by
  have hx := B.1
  have hb := B.2.1
  have hd1 : 1 ≤ d := by omega
  intro n
  induction n with
  | zero =>
    intro x1 x2 x3 z H locs ls X hl h
    cases h
  | succ n ih =>
    intro x1 x2 x3 z H locs ls X hl h
    rw [fX3_comeOutAlone_b25] at h
    refine lv_iload_n hx hb dX3_comeOutAlone_25 rfl (lv_at hl 3 rfl) ?_
    refine lv_bipush (v := 14) hx hb dX3_comeOutAlone_26 (by decide) ?_
    refine lv_icmp_ge (tgt := 92) hx hb dX3_comeOutAlone_28 (by decide) (fun hc1 => ?_) (fun hc1 => ?_)
    · have h := it h hc1
      exact rV B X (congrArg wf (Option.some.inj h)) dX3_comeOutAlone_92
    · have h := ie h hc1
      refine lv_aload_n hx hb dX3_comeOutAlone_31 rfl (lv_at hl 0 rfl) ?_
      refine fG B X (LnX3_g L z) 1 rfl inTX3 (by decide) kw257 rfl dX3_comeOutAlone_32 ?_
      refine fGN B X (LnX1_g (LnX3_s1 L z) z.2.1) 4 rfl inTX1 (by decide) kn208 rfl dX3_comeOutAlone_35 ?_
      refine lv_if_ne (tgt := 92) hx hb dX3_comeOutAlone_38 (by decide) (fun hc2 => ?_) (fun hc2 => ?_)
      · have h := ie h hc2
        exact rV B X (congrArg wf (Option.some.inj h)) dX3_comeOutAlone_92
      · have h := it h hc2
        refine lv_iload_n hx hb dX3_comeOutAlone_41 rfl (lv_at hl 2 rfl) ?_
        refine lv_iload_n hx hb dX3_comeOutAlone_42 rfl (lv_at hl 3 rfl) ?_
        obtain ⟨q3, h3, h⟩ := bs h
        refine kI X (cSN (As := [.int x2, .int x3]) (rest := []) B X (tX7_isIn (d := d - 1) (by omega) h3) msX7_isIn kn650 (by omega) rfl (Nat.le_of_ble_eq_true rfl) hl.1 ⟨Nat.zero_le _, Nat.zero_le _⟩ dX3_comeOutAlone_43) (fun H locs X => ?_)
        have X : Hx A D S.heap (wf z) H locs := X
        refine lv_if_eq (tgt := 86) hx hb dX3_comeOutAlone_46 (by decide) (fun hc4 => ?_) (fun hc4 => ?_)
        · have h := it h hc4
          refine lv_iinc (v := x3 + 1) (lv' := [(3, .int (x3 + 1)), (0, .ref a0), (1, .int x1), (2, .int x2)]) hx hb dX3_comeOutAlone_86 hl (k := 3) rfl rfl (by decide) rfl (fun ls hl => ?_)
          refine lv_goto (tgt := 25) hx hb dX3_comeOutAlone_89 (by decide) ?_
          exact ih x1 x2 (x3 + 1) z _ _ _ X (lv_sub hl [1, 2, 3, 0] rfl) h
        · have h := ie h hc4
          refine lv_aload_n hx hb dX3_comeOutAlone_49 rfl (lv_at hl 0 rfl) ?_
          refine fG B X (LnX3_g L z) 0 rfl inTX3 (by decide) kw255 rfl dX3_comeOutAlone_50 ?_
          refine lv_iload_n hx hb dX3_comeOutAlone_53 rfl (lv_at hl 1 rfl) ?_
          refine lv_iload_n hx hb dX3_comeOutAlone_54 rfl (lv_at hl 3 rfl) ?_
          obtain ⟨q5, h5, h⟩ := bs h
          refine kI X (cVN (As := [.int x1, .int x3]) (rest := []) B X (tX6_partners (d := d - 1) (LnX3_s0 L z) (by omega) h5) mfX6_partners kn657 (by omega) (LnX6_g (LnX3_s0 L z) z.1) rfl rfl (Nat.le_of_ble_eq_true rfl) hl.1 ⟨Nat.zero_le _, Nat.zero_le _⟩ dX3_comeOutAlone_55) (fun H locs X => ?_)
          have X : Hx A D S.heap (wf z) H locs := X
          refine lv_if_ne (tgt := 86) hx hb dX3_comeOutAlone_58 (by decide) (fun hc6 => ?_) (fun hc6 => ?_)
          · have h := ie h hc6
            refine lv_iinc (v := x3 + 1) (lv' := [(3, .int (x3 + 1)), (0, .ref a0), (1, .int x1), (2, .int x2)]) hx hb dX3_comeOutAlone_86 hl (k := 3) rfl rfl (by decide) rfl (fun ls hl => ?_)
            refine lv_goto (tgt := 25) hx hb dX3_comeOutAlone_89 (by decide) ?_
            exact ih x1 x2 (x3 + 1) z _ _ _ X (lv_sub hl [1, 2, 3, 0] rfl) h
          · have h := it h hc6
            refine lv_aload_n hx hb dX3_comeOutAlone_61 rfl (lv_at hl 0 rfl) ?_
            refine fG B X (LnX3_g L z) 1 rfl inTX3 (by decide) kw257 rfl dX3_comeOutAlone_62 ?_
            refine lv_iload_n hx hb dX3_comeOutAlone_65 rfl (lv_at hl 1 rfl) ?_
            refine lv_if_ne (tgt := 73) hx hb dX3_comeOutAlone_66 (by decide) (fun hc7 => ?_) (fun hc7 => ?_)
            · have h := ie h hc7
              refine lv_iconst (v := (-1)) hx hb dX3_comeOutAlone_73 (by decide) ?_
              refine lv_iload_n hx hb dX3_comeOutAlone_74 rfl (lv_at hl 1 rfl) ?_
              refine lv_if_ne (tgt := 82) hx hb dX3_comeOutAlone_75 (by decide) (fun hc8 => ?_) (fun hc8 => ?_)
              · have h := ie h hc8
                refine lv_iload_n hx hb dX3_comeOutAlone_82 rfl (lv_at hl 3 rfl) ?_
                obtain ⟨q9, h9, h⟩ := bs h
                refine kV X (cVN (As := [.int (-1), .int x3]) (rest := []) B X (tX1_add (d := d - 1) (LnX3_s1 L z) (by omega) h9) mfX1_add kn667 (by omega) (LnX1_g (LnX3_s1 L z) z.2.1) rfl rfl (Nat.le_of_ble_eq_true rfl) hl.1 ⟨Nat.zero_le _, Nat.zero_le _⟩ dX3_comeOutAlone_83) (fun H locs X => ?_)
                have X : Hx A D S.heap (wf (z.1, q9, z.2.2.1, z.2.2.2.1, z.2.2.2.2)) H locs := X
                refine lv_iinc (v := x3 + 1) (lv' := [(3, .int (x3 + 1)), (0, .ref a0), (1, .int x1), (2, .int x2)]) hx hb dX3_comeOutAlone_86 hl (k := 3) rfl rfl (by decide) rfl (fun ls hl => ?_)
                refine lv_goto (tgt := 25) hx hb dX3_comeOutAlone_89 (by decide) ?_
                exact ih x1 x2 (x3 + 1) (z.1, q9, z.2.2.1, z.2.2.2.1, z.2.2.2.2) _ _ _ X (lv_sub hl [1, 2, 3, 0] rfl) h
              · have h := it h hc8
                refine lv_iconst (v := (-1)) hx hb dX3_comeOutAlone_78 (by decide) ?_
                refine lv_goto (tgt := 83) hx hb dX3_comeOutAlone_79 (by decide) ?_
                obtain ⟨q10, h10, h⟩ := bs h
                refine kV X (cVN (As := [.int (-1), .int (-1)]) (rest := []) B X (tX1_add (d := d - 1) (LnX3_s1 L z) (by omega) h10) mfX1_add kn667 (by omega) (LnX1_g (LnX3_s1 L z) z.2.1) rfl rfl (Nat.le_of_ble_eq_true rfl) hl.1 ⟨Nat.zero_le _, Nat.zero_le _⟩ dX3_comeOutAlone_83) (fun H locs X => ?_)
                have X : Hx A D S.heap (wf (z.1, q10, z.2.2.1, z.2.2.2.1, z.2.2.2.2)) H locs := X
                refine lv_iinc (v := x3 + 1) (lv' := [(3, .int (x3 + 1)), (0, .ref a0), (1, .int x1), (2, .int x2)]) hx hb dX3_comeOutAlone_86 hl (k := 3) rfl rfl (by decide) rfl (fun ls hl => ?_)
                refine lv_goto (tgt := 25) hx hb dX3_comeOutAlone_89 (by decide) ?_
                exact ih x1 x2 (x3 + 1) (z.1, q10, z.2.2.1, z.2.2.2.1, z.2.2.2.2) _ _ _ X (lv_sub hl [1, 2, 3, 0] rfl) h
            · have h := it h hc7
              refine lv_iload_n hx hb dX3_comeOutAlone_69 rfl (lv_at hl 3 rfl) ?_
              refine lv_goto (tgt := 74) hx hb dX3_comeOutAlone_70 (by decide) ?_
              refine lv_iload_n hx hb dX3_comeOutAlone_74 rfl (lv_at hl 1 rfl) ?_
              refine lv_if_ne (tgt := 82) hx hb dX3_comeOutAlone_75 (by decide) (fun hc11 => ?_) (fun hc11 => ?_)
              · have h := ie h hc11
                refine lv_iload_n hx hb dX3_comeOutAlone_82 rfl (lv_at hl 3 rfl) ?_
                obtain ⟨q12, h12, h⟩ := bs h
                refine kV X (cVN (As := [.int x3, .int x3]) (rest := []) B X (tX1_add (d := d - 1) (LnX3_s1 L z) (by omega) h12) mfX1_add kn667 (by omega) (LnX1_g (LnX3_s1 L z) z.2.1) rfl rfl (Nat.le_of_ble_eq_true rfl) hl.1 ⟨Nat.zero_le _, Nat.zero_le _⟩ dX3_comeOutAlone_83) (fun H locs X => ?_)
                have X : Hx A D S.heap (wf (z.1, q12, z.2.2.1, z.2.2.2.1, z.2.2.2.2)) H locs := X
                refine lv_iinc (v := x3 + 1) (lv' := [(3, .int (x3 + 1)), (0, .ref a0), (1, .int x1), (2, .int x2)]) hx hb dX3_comeOutAlone_86 hl (k := 3) rfl rfl (by decide) rfl (fun ls hl => ?_)
                refine lv_goto (tgt := 25) hx hb dX3_comeOutAlone_89 (by decide) ?_
                exact ih x1 x2 (x3 + 1) (z.1, q12, z.2.2.1, z.2.2.2.1, z.2.2.2.2) _ _ _ X (lv_sub hl [1, 2, 3, 0] rfl) h
              · have h := it h hc11
                refine lv_iconst (v := (-1)) hx hb dX3_comeOutAlone_78 (by decide) ?_
                refine lv_goto (tgt := 83) hx hb dX3_comeOutAlone_79 (by decide) ?_
                obtain ⟨q13, h13, h⟩ := bs h
                refine kV X (cVN (As := [.int x3, .int (-1)]) (rest := []) B X (tX1_add (d := d - 1) (LnX3_s1 L z) (by omega) h13) mfX1_add kn667 (by omega) (LnX1_g (LnX3_s1 L z) z.2.1) rfl rfl (Nat.le_of_ble_eq_true rfl) hl.1 ⟨Nat.zero_le _, Nat.zero_le _⟩ dX3_comeOutAlone_83) (fun H locs X => ?_)
                have X : Hx A D S.heap (wf (z.1, q13, z.2.2.1, z.2.2.2.1, z.2.2.2.2)) H locs := X
                refine lv_iinc (v := x3 + 1) (lv' := [(3, .int (x3 + 1)), (0, .ref a0), (1, .int x1), (2, .int x2)]) hx hb dX3_comeOutAlone_86 hl (k := 3) rfl rfl (by decide) rfl (fun ls hl => ?_)
                refine lv_goto (tgt := 25) hx hb dX3_comeOutAlone_89 (by decide) ?_
                exact ih x1 x2 (x3 + 1) (z.1, q13, z.2.2.1, z.2.2.2.1, z.2.2.2.2) _ _ _ X (lv_sub hl [1, 2, 3, 0] rfl) h
def fX3_comeOutAlone (z : SX3) (x1 : Int32) (x2 : Int32) : Option SX3 :=
    if x1 = 0 then ((fX7_comesOutBy z.1.2.2.2 1).bind fun q4 =>
    if q4 = 0 then (some z) else
    (fX3_comeOutAlone_b25 1000 x1 x2 0 z)) else
    ((fX7_comesOutBy z.1.2.2.2 2).bind fun q2 =>
    if q2 = 0 then (some z) else
    (fX3_comeOutAlone_b25 1000 x1 x2 0 z))
set_option maxRecDepth 100000 in
set_option maxHeartbeats 4000000 in
theorem tX3_comeOutAlone {a0 a1 a2 a3 a4 a5 a6 a7 a8 a9 a10 a11 a12 a13 a14 a15 p0 p1 p2 p3 p4 p5 p6 p7 p8 p9 p10 p11 p12 p13 p14 p15 : Nat} {wf : SX3 → va_W} (L : LnX3 a0 a1 a2 a3 a4 a5 a6 a7 a8 a9 a10 a11 a12 a13 a14 a15 p0 p1 p2 p3 p4 p5 p6 p7 p8 p9 p10 p11 p12 p13 p14 p15 cI wf) {d : Nat} (hd : 3 ≤ d) {z : SX3} {x1 x2 : Int32} {q : SX3} (h : fX3_comeOutAlone z x1 x2 = some q) : Ct l yX3_comeOutAlone cX3_comeOutAlone 4 none d A g D [(cI, .int), (cB, .byte)] [.ref a0, .int x1, .int x2] (wf z) (QV A D (wf q)) := by
  refine mkM (by decide) (Nat.le_of_ble_eq_true rfl) ?_
  intro p e S m args below meth c B X ls hl
  have B : Bd RX3 cX3_comeOutAlone 4 none d A g D [(cI, .int), (cB, .byte)] p (rmd d) S m args meth c := B
  have hx := B.1
  have hb := B.2.1
  have hd1 : 1 ≤ d := by omega
  have hl : lv_has ls 4 [(0, .ref a0), (1, .int x1), (2, .int x2)] := hl
  unfold fX3_comeOutAlone at h
  refine lv_aload_n hx hb dX3_comeOutAlone_0 rfl (lv_at hl 0 rfl) ?_
  refine fG B X (LnX3_g L z) 0 rfl inTX3 (by decide) kw255 rfl dX3_comeOutAlone_1 ?_
  refine fGN B X (LnX6_g (LnX3_s0 L z) z.1) 3 rfl inTX6 (by decide) kn185 rfl dX3_comeOutAlone_4 ?_
  refine lv_iload_n hx hb dX3_comeOutAlone_7 rfl (lv_at hl 1 rfl) ?_
  refine lv_if_ne (tgt := 15) hx hb dX3_comeOutAlone_8 (by decide) (fun hc1 => ?_) (fun hc1 => ?_)
  · have h := ie h hc1
    refine lv_iconst (v := 2) hx hb dX3_comeOutAlone_15 (by decide) ?_
    obtain ⟨q2, h2, h⟩ := bs h
    refine kI X (cSN (As := [.int z.1.2.2.2, .int 2]) (rest := []) B X (tX7_comesOutBy (d := d - 1) (by omega) h2) msX7_comesOutBy kn662 (by omega) rfl (Nat.le_of_ble_eq_true rfl) hl.1 ⟨Nat.zero_le _, Nat.zero_le _⟩ dX3_comeOutAlone_16) (fun H locs X => ?_)
    have X : Hx A D S.heap (wf z) H locs := X
    refine lv_if_ne (tgt := 23) hx hb dX3_comeOutAlone_19 (by decide) (fun hc3 => ?_) (fun hc3 => ?_)
    · have h := ie h hc3
      refine lv_iconst (v := 0) hx hb dX3_comeOutAlone_23 (by decide) ?_
      refine lv_istore_n (lv' := [(3, .int 0), (0, .ref a0), (1, .int x1), (2, .int x2)]) hx hb dX3_comeOutAlone_24 rfl hl (by decide) rfl (fun ls hl => ?_)
      exact tX3_comeOutAlone_b25 L hd B 1000 x1 x2 0 z _ _ _ X (lv_sub hl [1, 2, 3, 0] rfl) h
    · have h := it h hc3
      exact rV B X (congrArg wf (Option.some.inj h)) dX3_comeOutAlone_22
  · have h := it h hc1
    refine lv_iconst (v := 1) hx hb dX3_comeOutAlone_11 (by decide) ?_
    refine lv_goto (tgt := 16) hx hb dX3_comeOutAlone_12 (by decide) ?_
    obtain ⟨q4, h4, h⟩ := bs h
    refine kI X (cSN (As := [.int z.1.2.2.2, .int 1]) (rest := []) B X (tX7_comesOutBy (d := d - 1) (by omega) h4) msX7_comesOutBy kn662 (by omega) rfl (Nat.le_of_ble_eq_true rfl) hl.1 ⟨Nat.zero_le _, Nat.zero_le _⟩ dX3_comeOutAlone_16) (fun H locs X => ?_)
    have X : Hx A D S.heap (wf z) H locs := X
    refine lv_if_ne (tgt := 23) hx hb dX3_comeOutAlone_19 (by decide) (fun hc5 => ?_) (fun hc5 => ?_)
    · have h := ie h hc5
      refine lv_iconst (v := 0) hx hb dX3_comeOutAlone_23 (by decide) ?_
      refine lv_istore_n (lv' := [(3, .int 0), (0, .ref a0), (1, .int x1), (2, .int x2)]) hx hb dX3_comeOutAlone_24 rfl hl (by decide) rfl (fun ls hl => ?_)
      exact tX3_comeOutAlone_b25 L hd B 1000 x1 x2 0 z _ _ _ X (lv_sub hl [1, 2, 3, 0] rfl) h
    · have h := it h hc5
      exact rV B X (congrArg wf (Option.some.inj h)) dX3_comeOutAlone_22
def fX3_hold_b14 : Nat → Int32 → Int32 → Int32 → Int32 → Int32 → SX3 → Option SX3
  | 0, _, _, _, _, _, _ => none
  | n + 1, x1, x2, x3, x4, x5, z =>
    if 14 ≤ x5 then ((fX3_comeOutAlone z x1 x2).bind fun q2 =>
    some q2) else
    (if z.2.1.2.2.2.2 = 0 then ((fX7_isIn x3 x5).bind fun q5 =>
    if q5 = 0 then (fX3_hold_b14 n x1 x2 x3 x4 (x5 + 1) z) else
    ((fX3_meetAll z x1 x2 x5).bind fun q7 =>
    (fX3_comeOutAlone q7 x4 (1 <<< (x5 &&& 31))).bind fun q8 =>
    fX3_hold_b14 n x1 x2 x3 x4 (x5 + 1) q8)) else
    ((fX3_comeOutAlone z x1 x2).bind fun q4 =>
    some q4))
set_option maxRecDepth 100000 in
set_option maxHeartbeats 4000000 in
theorem tX3_hold_b14 {a0 a1 a2 a3 a4 a5 a6 a7 a8 a9 a10 a11 a12 a13 a14 a15 p0 p1 p2 p3 p4 p5 p6 p7 p8 p9 p10 p11 p12 p13 p14 p15 : Nat} {wf : SX3 → va_W} (L : LnX3 a0 a1 a2 a3 a4 a5 a6 a7 a8 a9 a10 a11 a12 a13 a14 a15 p0 p1 p2 p3 p4 p5 p6 p7 p8 p9 p10 p11 p12 p13 p14 p15 cI wf) {d : Nat} (hd : 4 ≤ d) (B : Bd RX3 cX3_hold 6 none d A g D [(cI, .int), (cB, .byte)] p R S m args meth c) {q : SX3} : ∀ (n : Nat) (x1 : Int32) (x2 : Int32) (x3 : Int32) (x4 : Int32) (x5 : Int32) (z : SX3) (H : Heap) (locs : List Loc) (ls : Array Slot), Hx A D S.heap (wf z) H locs → lv_has ls 6 [(0, .ref a0), (1, .int x1), (2, .int x2), (3, .int x3), (4, .int x4), (5, .int x5)] → fX3_hold_b14 n x1 x2 x3 x4 x5 z = some q → W p l e R S m args below meth c H locs 0 0 (MQ below (QV A D (wf q)) args S 0 0 A) (F0 m 14 ls []) := by
  have hx := B.1
  have hb := B.2.1
  have hd1 : 1 ≤ d := by omega
  intro n
  induction n with
  | zero =>
    intro x1 x2 x3 x4 x5 z H locs ls X hl h
    cases h
  | succ n ih =>
    intro x1 x2 x3 x4 x5 z H locs ls X hl h
    rw [fX3_hold_b14] at h
    refine lv_iload hx hb dX3_hold_14 (lv_at hl 5 rfl) ?_
    refine lv_bipush (v := 14) hx hb dX3_hold_16 (by decide) ?_
    refine lv_icmp_ge (tgt := 64) hx hb dX3_hold_18 (by decide) (fun hc1 => ?_) (fun hc1 => ?_)
    · have h := it h hc1
      refine lv_aload_n hx hb dX3_hold_64 rfl (lv_at hl 0 rfl) ?_
      refine lv_iload_n hx hb dX3_hold_65 rfl (lv_at hl 1 rfl) ?_
      refine lv_iload_n hx hb dX3_hold_66 rfl (lv_at hl 2 rfl) ?_
      obtain ⟨q2, h2, h⟩ := bs h
      refine kV X (cV (As := [.int x1, .int x2]) (rest := []) B X (tX3_comeOutAlone (d := d - 1) L (by omega) h2) mfX3_comeOutAlone kw671 (by omega) (LnX3_g L z) rfl rfl (Nat.le_of_ble_eq_true rfl) hl.1 ⟨Nat.zero_le _, Nat.zero_le _⟩ dX3_hold_67) (fun H locs X => ?_)
      have X : Hx A D S.heap (wf q2) H locs := X
      exact rV B X (congrArg wf (Option.some.inj h)) dX3_hold_70
    · have h := ie h hc1
      refine lv_aload_n hx hb dX3_hold_21 rfl (lv_at hl 0 rfl) ?_
      refine fG B X (LnX3_g L z) 1 rfl inTX3 (by decide) kw257 rfl dX3_hold_22 ?_
      refine fGN B X (LnX1_g (LnX3_s1 L z) z.2.1) 4 rfl inTX1 (by decide) kn208 rfl dX3_hold_25 ?_
      refine lv_if_ne (tgt := 64) hx hb dX3_hold_28 (by decide) (fun hc3 => ?_) (fun hc3 => ?_)
      · have h := ie h hc3
        refine lv_aload_n hx hb dX3_hold_64 rfl (lv_at hl 0 rfl) ?_
        refine lv_iload_n hx hb dX3_hold_65 rfl (lv_at hl 1 rfl) ?_
        refine lv_iload_n hx hb dX3_hold_66 rfl (lv_at hl 2 rfl) ?_
        obtain ⟨q4, h4, h⟩ := bs h
        refine kV X (cV (As := [.int x1, .int x2]) (rest := []) B X (tX3_comeOutAlone (d := d - 1) L (by omega) h4) mfX3_comeOutAlone kw671 (by omega) (LnX3_g L z) rfl rfl (Nat.le_of_ble_eq_true rfl) hl.1 ⟨Nat.zero_le _, Nat.zero_le _⟩ dX3_hold_67) (fun H locs X => ?_)
        have X : Hx A D S.heap (wf q4) H locs := X
        exact rV B X (congrArg wf (Option.some.inj h)) dX3_hold_70
      · have h := it h hc3
        refine lv_iload_n hx hb dX3_hold_31 rfl (lv_at hl 3 rfl) ?_
        refine lv_iload hx hb dX3_hold_32 (lv_at hl 5 rfl) ?_
        obtain ⟨q5, h5, h⟩ := bs h
        refine kI X (cSN (As := [.int x3, .int x5]) (rest := []) B X (tX7_isIn (d := d - 1) (by omega) h5) msX7_isIn kn650 (by omega) rfl (Nat.le_of_ble_eq_true rfl) hl.1 ⟨Nat.zero_le _, Nat.zero_le _⟩ dX3_hold_34) (fun H locs X => ?_)
        have X : Hx A D S.heap (wf z) H locs := X
        refine lv_if_eq (tgt := 58) hx hb dX3_hold_37 (by decide) (fun hc6 => ?_) (fun hc6 => ?_)
        · have h := it h hc6
          refine lv_iinc (v := x5 + 1) (lv' := [(5, .int (x5 + 1)), (0, .ref a0), (1, .int x1), (2, .int x2), (3, .int x3), (4, .int x4)]) hx hb dX3_hold_58 hl (k := 5) rfl rfl (by decide) rfl (fun ls hl => ?_)
          refine lv_goto (tgt := 14) hx hb dX3_hold_61 (by decide) ?_
          exact ih x1 x2 x3 x4 (x5 + 1) z _ _ _ X (lv_sub hl [1, 2, 3, 4, 5, 0] rfl) h
        · have h := ie h hc6
          refine lv_aload_n hx hb dX3_hold_40 rfl (lv_at hl 0 rfl) ?_
          refine lv_iload_n hx hb dX3_hold_41 rfl (lv_at hl 1 rfl) ?_
          refine lv_iload_n hx hb dX3_hold_42 rfl (lv_at hl 2 rfl) ?_
          refine lv_iload hx hb dX3_hold_43 (lv_at hl 5 rfl) ?_
          obtain ⟨q7, h7, h⟩ := bs h
          refine kV X (cV (As := [.int x1, .int x2, .int x5]) (rest := []) B X (tX3_meetAll (d := d - 1) L (by omega) h7) mfX3_meetAll kw653 (by omega) (LnX3_g L z) rfl rfl (Nat.le_of_ble_eq_true rfl) hl.1 ⟨Nat.zero_le _, Nat.zero_le _⟩ dX3_hold_45) (fun H locs X => ?_)
          have X : Hx A D S.heap (wf q7) H locs := X
          refine lv_aload_n hx hb dX3_hold_48 rfl (lv_at hl 0 rfl) ?_
          refine lv_iload hx hb dX3_hold_49 (lv_at hl 4 rfl) ?_
          refine lv_iconst (v := 1) hx hb dX3_hold_51 (by decide) ?_
          refine lv_iload hx hb dX3_hold_52 (lv_at hl 5 rfl) ?_
          refine lv_ishl hx hb dX3_hold_54 ?_
          obtain ⟨q8, h8, h⟩ := bs h
          refine kV X (cV (As := [.int x4, .int (1 <<< (x5 &&& 31))]) (rest := []) B X (tX3_comeOutAlone (d := d - 1) L (by omega) h8) mfX3_comeOutAlone kw671 (by omega) (LnX3_g L q7) rfl rfl (Nat.le_of_ble_eq_true rfl) hl.1 ⟨Nat.zero_le _, Nat.zero_le _⟩ dX3_hold_55) (fun H locs X => ?_)
          have X : Hx A D S.heap (wf q8) H locs := X
          refine lv_iinc (v := x5 + 1) (lv' := [(5, .int (x5 + 1)), (0, .ref a0), (1, .int x1), (2, .int x2), (3, .int x3), (4, .int x4)]) hx hb dX3_hold_58 hl (k := 5) rfl rfl (by decide) rfl (fun ls hl => ?_)
          refine lv_goto (tgt := 14) hx hb dX3_hold_61 (by decide) ?_
          exact ih x1 x2 x3 x4 (x5 + 1) q8 _ _ _ X (lv_sub hl [1, 2, 3, 4, 5, 0] rfl) h
def fX3_hold (z : SX3) (x1 : Int32) (x2 : Int32) (x3 : Int32) : Option SX3 :=
    (fX3_noteHeld z x2).bind fun q1 =>
    (fX7_otherSide x1).bind fun q2 =>
    fX3_hold_b14 1000 x1 x2 x3 q2 0 q1
set_option maxRecDepth 100000 in
set_option maxHeartbeats 4000000 in
theorem tX3_hold {a0 a1 a2 a3 a4 a5 a6 a7 a8 a9 a10 a11 a12 a13 a14 a15 p0 p1 p2 p3 p4 p5 p6 p7 p8 p9 p10 p11 p12 p13 p14 p15 : Nat} {wf : SX3 → va_W} (L : LnX3 a0 a1 a2 a3 a4 a5 a6 a7 a8 a9 a10 a11 a12 a13 a14 a15 p0 p1 p2 p3 p4 p5 p6 p7 p8 p9 p10 p11 p12 p13 p14 p15 cI wf) {d : Nat} (hd : 4 ≤ d) {z : SX3} {x1 x2 x3 : Int32} {q : SX3} (h : fX3_hold z x1 x2 x3 = some q) : Ct l yX3_hold cX3_hold 6 none d A g D [(cI, .int), (cB, .byte)] [.ref a0, .int x1, .int x2, .int x3] (wf z) (QV A D (wf q)) := by
  refine mkM (by decide) (Nat.le_of_ble_eq_true rfl) ?_
  intro p e S m args below meth c B X ls hl
  have B : Bd RX3 cX3_hold 6 none d A g D [(cI, .int), (cB, .byte)] p (rmd d) S m args meth c := B
  have hx := B.1
  have hb := B.2.1
  have hd1 : 1 ≤ d := by omega
  have hl : lv_has ls 6 [(0, .ref a0), (1, .int x1), (2, .int x2), (3, .int x3)] := hl
  unfold fX3_hold at h
  refine lv_aload_n hx hb dX3_hold_0 rfl (lv_at hl 0 rfl) ?_
  refine lv_iload_n hx hb dX3_hold_1 rfl (lv_at hl 2 rfl) ?_
  obtain ⟨q1, h1, h⟩ := bs h
  refine kV X (cV (As := [.int x2]) (rest := []) B X (tX3_noteHeld (d := d - 1) L (by omega) h1) mfX3_noteHeld kw645 (by omega) (LnX3_g L z) rfl rfl (Nat.le_of_ble_eq_true rfl) hl.1 ⟨Nat.zero_le _, Nat.zero_le _⟩ dX3_hold_2) (fun H locs X => ?_)
  have X : Hx A D S.heap (wf q1) H locs := X
  refine lv_iload_n hx hb dX3_hold_5 rfl (lv_at hl 1 rfl) ?_
  obtain ⟨q2, h2, h⟩ := bs h
  refine kI X (cSN (As := [.int x1]) (rest := []) B X (tX7_otherSide (d := d - 1) (by omega) h2) msX7_otherSide kn649 (by omega) rfl (Nat.le_of_ble_eq_true rfl) hl.1 ⟨Nat.zero_le _, Nat.zero_le _⟩ dX3_hold_6) (fun H locs X => ?_)
  have X : Hx A D S.heap (wf q1) H locs := X
  refine lv_istore (lv' := [(4, .int q2), (0, .ref a0), (1, .int x1), (2, .int x2), (3, .int x3)]) hx hb dX3_hold_9 hl (by decide) rfl (fun ls hl => ?_)
  refine lv_iconst (v := 0) hx hb dX3_hold_11 (by decide) ?_
  refine lv_istore (lv' := [(5, .int 0), (4, .int q2), (0, .ref a0), (1, .int x1), (2, .int x2), (3, .int x3)]) hx hb dX3_hold_12 hl (by decide) rfl (fun ls hl => ?_)
  exact tX3_hold_b14 L hd B 1000 x1 x2 x3 q2 0 q1 _ _ _ X (lv_sub hl [2, 3, 4, 5, 1, 0] rfl) h
def fX3_goByBlocks_b120 (x1 : Int32) (x2 : Int32) (x3 : Int32) (z : SX3) : Option SX3 :=
    (fX7_otherSide x1).bind fun q1 =>
    (fX3_comeOutAlone z q1 x3).bind fun q2 =>
    (fX3_comeOutAlone q2 x1 x2).bind fun q3 =>
    some q3
set_option maxRecDepth 100000 in
set_option maxHeartbeats 4000000 in
theorem tX3_goByBlocks_b120 {a0 a1 a2 a3 a4 a5 a6 a7 a8 a9 a10 a11 a12 a13 a14 a15 p0 p1 p2 p3 p4 p5 p6 p7 p8 p9 p10 p11 p12 p13 p14 p15 : Nat} {wf : SX3 → va_W} (L : LnX3 a0 a1 a2 a3 a4 a5 a6 a7 a8 a9 a10 a11 a12 a13 a14 a15 p0 p1 p2 p3 p4 p5 p6 p7 p8 p9 p10 p11 p12 p13 p14 p15 cI wf) {d : Nat} (hd : 4 ≤ d) (B : Bd RX3 cX3_goByBlocks 8 none d A g D [(cI, .int), (cB, .byte)] p R S m args meth c) {q : SX3} : ∀ (x1 : Int32) (x2 : Int32) (x3 : Int32) (z : SX3) (H : Heap) (locs : List Loc) (ls : Array Slot), Hx A D S.heap (wf z) H locs → lv_has ls 8 [(0, .ref a0), (1, .int x1), (2, .int x2), (3, .int x3)] → fX3_goByBlocks_b120 x1 x2 x3 z = some q → W p l e R S m args below meth c H locs 0 0 (MQ below (QV A D (wf q)) args S 0 0 A) (F0 m 120 ls []) := by
  have hx := B.1
  have hb := B.2.1
  have hd1 : 1 ≤ d := by omega
  intro x1 x2 x3 z H locs ls X hl h
  unfold fX3_goByBlocks_b120 at h
  refine lv_aload_n hx hb dX3_goByBlocks_120 rfl (lv_at hl 0 rfl) ?_
  refine lv_iload_n hx hb dX3_goByBlocks_121 rfl (lv_at hl 1 rfl) ?_
  obtain ⟨q1, h1, h⟩ := bs h
  refine kI X (cSN (As := [.int x1]) (rest := [.ref a0]) B X (tX7_otherSide (d := d - 1) (by omega) h1) msX7_otherSide kn649 (by omega) rfl (Nat.le_of_ble_eq_true rfl) hl.1 ⟨Nat.zero_le _, Nat.zero_le _⟩ dX3_goByBlocks_122) (fun H locs X => ?_)
  have X : Hx A D S.heap (wf z) H locs := X
  refine lv_iload_n hx hb dX3_goByBlocks_125 rfl (lv_at hl 3 rfl) ?_
  obtain ⟨q2, h2, h⟩ := bs h
  refine kV X (cV (As := [.int q1, .int x3]) (rest := []) B X (tX3_comeOutAlone (d := d - 1) L (by omega) h2) mfX3_comeOutAlone kw671 (by omega) (LnX3_g L z) rfl rfl (Nat.le_of_ble_eq_true rfl) hl.1 ⟨Nat.zero_le _, Nat.zero_le _⟩ dX3_goByBlocks_126) (fun H locs X => ?_)
  have X : Hx A D S.heap (wf q2) H locs := X
  refine lv_aload_n hx hb dX3_goByBlocks_129 rfl (lv_at hl 0 rfl) ?_
  refine lv_iload_n hx hb dX3_goByBlocks_130 rfl (lv_at hl 1 rfl) ?_
  refine lv_iload_n hx hb dX3_goByBlocks_131 rfl (lv_at hl 2 rfl) ?_
  obtain ⟨q3, h3, h⟩ := bs h
  refine kV X (cV (As := [.int x1, .int x2]) (rest := []) B X (tX3_comeOutAlone (d := d - 1) L (by omega) h3) mfX3_comeOutAlone kw671 (by omega) (LnX3_g L q2) rfl rfl (Nat.le_of_ble_eq_true rfl) hl.1 ⟨Nat.zero_le _, Nat.zero_le _⟩ dX3_goByBlocks_132) (fun H locs X => ?_)
  have X : Hx A D S.heap (wf q3) H locs := X
  exact rV B X (congrArg wf (Option.some.inj h)) dX3_goByBlocks_135
def fX3_goByBlocks_b73 (k6 : Int32 → Int32 → Int32 → Int32 → Int32 → SX3 → Option SX3) : Nat → Int32 → Int32 → Int32 → Int32 → Int32 → Int32 → Int32 → SX3 → Option SX3
  | 0, _, _, _, _, _, _, _, _ => none
  | n + 1, x1, x2, x3, x4, x5, x6, x7, z =>
    if 14 ≤ x7 then (k6 x1 x2 x3 x4 (x5 + 1) z) else
    (if z.2.1.2.2.2.2 = 0 then ((fX7_isIn x3 x7).bind fun q3 =>
    if q3 = 0 then (fX3_goByBlocks_b73 k6 n x1 x2 x3 x4 x5 x6 (x7 + 1) z) else
    ((fX3_meetAll z x1 x6 x7).bind fun q5 =>
    fX3_goByBlocks_b73 k6 n x1 x2 x3 x4 x5 x6 (x7 + 1) q5)) else
    (k6 x1 x2 x3 x4 (x5 + 1) z))
set_option maxRecDepth 100000 in
set_option maxHeartbeats 4000000 in
theorem tX3_goByBlocks_b73 {a0 a1 a2 a3 a4 a5 a6 a7 a8 a9 a10 a11 a12 a13 a14 a15 p0 p1 p2 p3 p4 p5 p6 p7 p8 p9 p10 p11 p12 p13 p14 p15 : Nat} {wf : SX3 → va_W} (L : LnX3 a0 a1 a2 a3 a4 a5 a6 a7 a8 a9 a10 a11 a12 a13 a14 a15 p0 p1 p2 p3 p4 p5 p6 p7 p8 p9 p10 p11 p12 p13 p14 p15 cI wf) {d : Nat} (hd : 4 ≤ d) (B : Bd RX3 cX3_goByBlocks 8 none d A g D [(cI, .int), (cB, .byte)] p R S m args meth c) {q : SX3} {k6 : Int32 → Int32 → Int32 → Int32 → Int32 → SX3 → Option SX3} (hk6 : ∀ (x1 : Int32) (x2 : Int32) (x3 : Int32) (x4 : Int32) (x5 : Int32) (z : SX3) (H : Heap) (locs : List Loc) (ls : Array Slot), Hx A D S.heap (wf z) H locs → lv_has ls 8 [(0, .ref a0), (1, .int x1), (2, .int x2), (3, .int x3), (4, .int x4), (5, .int x5)] → k6 x1 x2 x3 x4 x5 z = some q → W p l e R S m args below meth c H locs 0 0 (MQ below (QV A D (wf q)) args S 0 0 A) (F0 m 6 ls [])) : ∀ (n : Nat) (x1 : Int32) (x2 : Int32) (x3 : Int32) (x4 : Int32) (x5 : Int32) (x6 : Int32) (x7 : Int32) (z : SX3) (H : Heap) (locs : List Loc) (ls : Array Slot), Hx A D S.heap (wf z) H locs → lv_has ls 8 [(0, .ref a0), (1, .int x1), (2, .int x2), (3, .int x3), (4, .int x4), (5, .int x5), (6, .int x6), (7, .int x7)] → fX3_goByBlocks_b73 k6 n x1 x2 x3 x4 x5 x6 x7 z = some q → W p l e R S m args below meth c H locs 0 0 (MQ below (QV A D (wf q)) args S 0 0 A) (F0 m 73 ls []) := by
  have hx := B.1
  have hb := B.2.1
  have hd1 : 1 ≤ d := by omega
  intro n
  induction n with
  | zero =>
    intro x1 x2 x3 x4 x5 x6 x7 z H locs ls X hl h
    cases h
  | succ n ih =>
    intro x1 x2 x3 x4 x5 x6 x7 z H locs ls X hl h
    rw [fX3_goByBlocks_b73] at h
    refine lv_iload hx hb dX3_goByBlocks_73 (lv_at hl 7 rfl) ?_
    refine lv_bipush (v := 14) hx hb dX3_goByBlocks_75 (by decide) ?_
    refine lv_icmp_ge (tgt := 114) hx hb dX3_goByBlocks_77 (by decide) (fun hc1 => ?_) (fun hc1 => ?_)
    · have h := it h hc1
      refine lv_iinc (v := x5 + 1) (lv' := [(5, .int (x5 + 1)), (0, .ref a0), (1, .int x1), (2, .int x2), (3, .int x3), (4, .int x4), (6, .int x6), (7, .int x7)]) hx hb dX3_goByBlocks_114 hl (k := 5) rfl rfl (by decide) rfl (fun ls hl => ?_)
      refine lv_goto (tgt := 6) hx hb dX3_goByBlocks_117 (by decide) ?_
      exact hk6 x1 x2 x3 x4 (x5 + 1) z _ _ _ X (lv_sub hl [1, 2, 3, 4, 5, 0] rfl) h
    · have h := ie h hc1
      refine lv_aload_n hx hb dX3_goByBlocks_80 rfl (lv_at hl 0 rfl) ?_
      refine fG B X (LnX3_g L z) 1 rfl inTX3 (by decide) kw257 rfl dX3_goByBlocks_81 ?_
      refine fGN B X (LnX1_g (LnX3_s1 L z) z.2.1) 4 rfl inTX1 (by decide) kn208 rfl dX3_goByBlocks_84 ?_
      refine lv_if_ne (tgt := 114) hx hb dX3_goByBlocks_87 (by decide) (fun hc2 => ?_) (fun hc2 => ?_)
      · have h := ie h hc2
        refine lv_iinc (v := x5 + 1) (lv' := [(5, .int (x5 + 1)), (0, .ref a0), (1, .int x1), (2, .int x2), (3, .int x3), (4, .int x4), (6, .int x6), (7, .int x7)]) hx hb dX3_goByBlocks_114 hl (k := 5) rfl rfl (by decide) rfl (fun ls hl => ?_)
        refine lv_goto (tgt := 6) hx hb dX3_goByBlocks_117 (by decide) ?_
        exact hk6 x1 x2 x3 x4 (x5 + 1) z _ _ _ X (lv_sub hl [1, 2, 3, 4, 5, 0] rfl) h
      · have h := it h hc2
        refine lv_iload_n hx hb dX3_goByBlocks_90 rfl (lv_at hl 3 rfl) ?_
        refine lv_iload hx hb dX3_goByBlocks_91 (lv_at hl 7 rfl) ?_
        obtain ⟨q3, h3, h⟩ := bs h
        refine kI X (cSN (As := [.int x3, .int x7]) (rest := []) B X (tX7_isIn (d := d - 1) (by omega) h3) msX7_isIn kn650 (by omega) rfl (Nat.le_of_ble_eq_true rfl) hl.1 ⟨Nat.zero_le _, Nat.zero_le _⟩ dX3_goByBlocks_93) (fun H locs X => ?_)
        have X : Hx A D S.heap (wf z) H locs := X
        refine lv_if_eq (tgt := 108) hx hb dX3_goByBlocks_96 (by decide) (fun hc4 => ?_) (fun hc4 => ?_)
        · have h := it h hc4
          refine lv_iinc (v := x7 + 1) (lv' := [(7, .int (x7 + 1)), (0, .ref a0), (1, .int x1), (2, .int x2), (3, .int x3), (4, .int x4), (5, .int x5), (6, .int x6)]) hx hb dX3_goByBlocks_108 hl (k := 7) rfl rfl (by decide) rfl (fun ls hl => ?_)
          refine lv_goto (tgt := 73) hx hb dX3_goByBlocks_111 (by decide) ?_
          exact ih x1 x2 x3 x4 x5 x6 (x7 + 1) z _ _ _ X (lv_sub hl [1, 2, 3, 4, 5, 6, 7, 0] rfl) h
        · have h := ie h hc4
          refine lv_aload_n hx hb dX3_goByBlocks_99 rfl (lv_at hl 0 rfl) ?_
          refine lv_iload_n hx hb dX3_goByBlocks_100 rfl (lv_at hl 1 rfl) ?_
          refine lv_iload hx hb dX3_goByBlocks_101 (lv_at hl 6 rfl) ?_
          refine lv_iload hx hb dX3_goByBlocks_103 (lv_at hl 7 rfl) ?_
          obtain ⟨q5, h5, h⟩ := bs h
          refine kV X (cV (As := [.int x1, .int x6, .int x7]) (rest := []) B X (tX3_meetAll (d := d - 1) L (by omega) h5) mfX3_meetAll kw653 (by omega) (LnX3_g L z) rfl rfl (Nat.le_of_ble_eq_true rfl) hl.1 ⟨Nat.zero_le _, Nat.zero_le _⟩ dX3_goByBlocks_105) (fun H locs X => ?_)
          have X : Hx A D S.heap (wf q5) H locs := X
          refine lv_iinc (v := x7 + 1) (lv' := [(7, .int (x7 + 1)), (0, .ref a0), (1, .int x1), (2, .int x2), (3, .int x3), (4, .int x4), (5, .int x5), (6, .int x6)]) hx hb dX3_goByBlocks_108 hl (k := 7) rfl rfl (by decide) rfl (fun ls hl => ?_)
          refine lv_goto (tgt := 73) hx hb dX3_goByBlocks_111 (by decide) ?_
          exact ih x1 x2 x3 x4 x5 x6 (x7 + 1) q5 _ _ _ X (lv_sub hl [1, 2, 3, 4, 5, 6, 7, 0] rfl) h
def fX3_goByBlocks_b6 : Nat → Int32 → Int32 → Int32 → Int32 → Int32 → SX3 → Option SX3
  | 0, _, _, _, _, _, _ => none
  | n + 1, x1, x2, x3, x4, x5, z =>
    if 14 ≤ x5 then (fX3_goByBlocks_b120 x1 x2 x3 z) else
    (if x4 = 0 then (fX3_goByBlocks_b120 x1 x2 x3 z) else
    (if z.2.1.2.2.2.2 = 0 then ((fX3_firstOf x4 z.1.2.2.1).bind fun q4 =>
    (fX3_noteHeld z q4).bind fun q5 =>
    (fJ6_bitCount_0f7a4 x3).bind fun q7 =>
    fX3_goByBlocks_b73 (fX3_goByBlocks_b6 n) 1000 x1 x2 x3 (x4 &&& (q4 ^^^ (-1))) x5 q4 0 (q5.1, q5.2.1, q5.2.2.1, (upd q5.2.2.2.1 (2 : Int32).toNatClampNeg ((q5.2.2.2.1 (2 : Int32).toNatClampNeg) + q7)), q5.2.2.2.2)) else
    (fX3_goByBlocks_b120 x1 x2 x3 z)))
set_option maxRecDepth 100000 in
set_option maxHeartbeats 4000000 in
theorem tX3_goByBlocks_b6 {a0 a1 a2 a3 a4 a5 a6 a7 a8 a9 a10 a11 a12 a13 a14 a15 p0 p1 p2 p3 p4 p5 p6 p7 p8 p9 p10 p11 p12 p13 p14 p15 : Nat} {wf : SX3 → va_W} (L : LnX3 a0 a1 a2 a3 a4 a5 a6 a7 a8 a9 a10 a11 a12 a13 a14 a15 p0 p1 p2 p3 p4 p5 p6 p7 p8 p9 p10 p11 p12 p13 p14 p15 cI wf) {d : Nat} (hd : 4 ≤ d) (B : Bd RX3 cX3_goByBlocks 8 none d A g D [(cI, .int), (cB, .byte)] p R S m args meth c) {q : SX3} : ∀ (n : Nat) (x1 : Int32) (x2 : Int32) (x3 : Int32) (x4 : Int32) (x5 : Int32) (z : SX3) (H : Heap) (locs : List Loc) (ls : Array Slot), Hx A D S.heap (wf z) H locs → lv_has ls 8 [(0, .ref a0), (1, .int x1), (2, .int x2), (3, .int x3), (4, .int x4), (5, .int x5)] → fX3_goByBlocks_b6 n x1 x2 x3 x4 x5 z = some q → W p l e R S m args below meth c H locs 0 0 (MQ below (QV A D (wf q)) args S 0 0 A) (F0 m 6 ls []) := by
  have hx := B.1
  have hb := B.2.1
  have hd1 : 1 ≤ d := by omega
  intro n
  induction n with
  | zero =>
    intro x1 x2 x3 x4 x5 z H locs ls X hl h
    cases h
  | succ n ih =>
    intro x1 x2 x3 x4 x5 z H locs ls X hl h
    rw [fX3_goByBlocks_b6] at h
    refine lv_iload hx hb dX3_goByBlocks_6 (lv_at hl 5 rfl) ?_
    refine lv_bipush (v := 14) hx hb dX3_goByBlocks_8 (by decide) ?_
    refine lv_icmp_ge (tgt := 120) hx hb dX3_goByBlocks_10 (by decide) (fun hc1 => ?_) (fun hc1 => ?_)
    · have h := it h hc1
      exact tX3_goByBlocks_b120 L hd B x1 x2 x3 z _ _ _ X (lv_sub hl [0, 1, 2, 3] rfl) h
    · have h := ie h hc1
      refine lv_iload hx hb dX3_goByBlocks_13 (lv_at hl 4 rfl) ?_
      refine lv_if_eq (tgt := 120) hx hb dX3_goByBlocks_15 (by decide) (fun hc2 => ?_) (fun hc2 => ?_)
      · have h := it h hc2
        exact tX3_goByBlocks_b120 L hd B x1 x2 x3 z _ _ _ X (lv_sub hl [0, 1, 2, 3] rfl) h
      · have h := ie h hc2
        refine lv_aload_n hx hb dX3_goByBlocks_18 rfl (lv_at hl 0 rfl) ?_
        refine fG B X (LnX3_g L z) 1 rfl inTX3 (by decide) kw257 rfl dX3_goByBlocks_19 ?_
        refine fGN B X (LnX1_g (LnX3_s1 L z) z.2.1) 4 rfl inTX1 (by decide) kn208 rfl dX3_goByBlocks_22 ?_
        refine lv_if_ne (tgt := 120) hx hb dX3_goByBlocks_25 (by decide) (fun hc3 => ?_) (fun hc3 => ?_)
        · have h := ie h hc3
          exact tX3_goByBlocks_b120 L hd B x1 x2 x3 z _ _ _ X (lv_sub hl [0, 1, 2, 3] rfl) h
        · have h := it h hc3
          refine lv_iload hx hb dX3_goByBlocks_28 (lv_at hl 4 rfl) ?_
          refine lv_aload_n hx hb dX3_goByBlocks_30 rfl (lv_at hl 0 rfl) ?_
          refine fG B X (LnX3_g L z) 0 rfl inTX3 (by decide) kw255 rfl dX3_goByBlocks_31 ?_
          refine fGN B X (LnX6_g (LnX3_s0 L z) z.1) 2 rfl inTX6 (by decide) kn182 rfl dX3_goByBlocks_34 ?_
          obtain ⟨q4, h4, h⟩ := bs h
          refine kI X (cS (As := [.int x4, .int z.1.2.2.1]) (rest := []) B X (tX3_firstOf (d := d - 1) (by omega) h4) msX3_firstOf kw679 (by omega) rfl (Nat.le_of_ble_eq_true rfl) hl.1 ⟨Nat.zero_le _, Nat.zero_le _⟩ dX3_goByBlocks_37) (fun H locs X => ?_)
          have X : Hx A D S.heap (wf z) H locs := X
          refine lv_istore (lv' := [(6, .int q4), (0, .ref a0), (1, .int x1), (2, .int x2), (3, .int x3), (4, .int x4), (5, .int x5)]) hx hb dX3_goByBlocks_40 hl (by decide) rfl (fun ls hl => ?_)
          refine lv_iload hx hb dX3_goByBlocks_42 (lv_at hl 5 rfl) ?_
          refine lv_iload hx hb dX3_goByBlocks_44 (lv_at hl 0 rfl) ?_
          refine lv_iconst (v := (-1)) hx hb dX3_goByBlocks_46 (by decide) ?_
          refine lv_ixor hx hb dX3_goByBlocks_47 ?_
          refine lv_iand hx hb dX3_goByBlocks_48 ?_
          refine lv_istore (lv' := [(4, .int (x4 &&& (q4 ^^^ (-1)))), (6, .int q4), (0, .ref a0), (1, .int x1), (2, .int x2), (3, .int x3), (5, .int x5)]) hx hb dX3_goByBlocks_49 hl (by decide) rfl (fun ls hl => ?_)
          refine lv_aload_n hx hb dX3_goByBlocks_51 rfl (lv_at hl 2 rfl) ?_
          refine lv_iload hx hb dX3_goByBlocks_52 (lv_at hl 1 rfl) ?_
          obtain ⟨q5, h5, h⟩ := bs h
          refine kV X (cV (As := [.int q4]) (rest := []) B X (tX3_noteHeld (d := d - 1) L (by omega) h5) mfX3_noteHeld kw645 (by omega) (LnX3_g L z) rfl rfl (Nat.le_of_ble_eq_true rfl) hl.1 ⟨Nat.zero_le _, Nat.zero_le _⟩ dX3_goByBlocks_54) (fun H locs X => ?_)
          have X : Hx A D S.heap (wf q5) H locs := X
          refine lv_aload_n hx hb dX3_goByBlocks_57 rfl (lv_at hl 2 rfl) ?_
          refine fG B X (LnX3_g L q5) 3 rfl inTX3 (by decide) kw261 rfl dX3_goByBlocks_58 ?_
          refine lv_iconst (v := 2) hx hb dX3_goByBlocks_61 (by decide) ?_
          refine lv_dup2_11 hx hb dX3_goByBlocks_62 rfl rfl ?_
          refine aG B X (LnX3_a3 L q5) 0 rfl (by decide) dX3_goByBlocks_63 ?_
          refine lv_iload_n hx hb dX3_goByBlocks_64 rfl (lv_at hl 5 rfl) ?_
          obtain ⟨q7, h7, h⟩ := bs h
          refine kI X (cS (As := [.int x3]) (rest := [.int (q5.2.2.2.1 (2 : Int32).toNatClampNeg), .int 2, .ref a15]) B X (tJ6_bitCount_0f7a4 (d := d - 1) (by omega) h7) msJ6_bitCount_0f7a4 kw617 (by omega) rfl (Nat.le_of_ble_eq_true rfl) hl.1 ⟨Nat.zero_le _, Nat.zero_le _⟩ dX3_goByBlocks_65) (fun H locs X => ?_)
          have X : Hx A D S.heap (wf q5) H locs := X
          refine lv_iadd hx hb dX3_goByBlocks_68 ?_
          refine aP B X (LnX3_a3 L q5) (LnX3_b3 L q5 _) 0 rfl (by decide) dX3_goByBlocks_69 (fun H locs X => ?_)
          have X : Hx A D S.heap (wf (q5.1, q5.2.1, q5.2.2.1, (upd q5.2.2.2.1 (2 : Int32).toNatClampNeg ((q5.2.2.2.1 (2 : Int32).toNatClampNeg) + q7)), q5.2.2.2.2)) H locs := X
          refine lv_iconst (v := 0) hx hb dX3_goByBlocks_70 (by decide) ?_
          refine lv_istore (lv' := [(7, .int 0), (4, .int (x4 &&& (q4 ^^^ (-1)))), (6, .int q4), (0, .ref a0), (1, .int x1), (2, .int x2), (3, .int x3), (5, .int x5)]) hx hb dX3_goByBlocks_71 hl (by decide) rfl (fun ls hl => ?_)
          exact tX3_goByBlocks_b73 L hd B ih 1000 x1 x2 x3 (x4 &&& (q4 ^^^ (-1))) x5 q4 0 (q5.1, q5.2.1, q5.2.2.1, (upd q5.2.2.2.1 (2 : Int32).toNatClampNeg ((q5.2.2.2.1 (2 : Int32).toNatClampNeg) + q7)), q5.2.2.2.2) _ _ _ X (lv_sub hl [3, 4, 5, 6, 1, 7, 2, 0] rfl) h
def fX3_goByBlocks (z : SX3) (x1 : Int32) (x2 : Int32) (x3 : Int32) : Option SX3 :=
    fX3_goByBlocks_b6 1000 x1 x2 x3 x2 0 z
set_option maxRecDepth 100000 in
set_option maxHeartbeats 4000000 in
theorem tX3_goByBlocks {a0 a1 a2 a3 a4 a5 a6 a7 a8 a9 a10 a11 a12 a13 a14 a15 p0 p1 p2 p3 p4 p5 p6 p7 p8 p9 p10 p11 p12 p13 p14 p15 : Nat} {wf : SX3 → va_W} (L : LnX3 a0 a1 a2 a3 a4 a5 a6 a7 a8 a9 a10 a11 a12 a13 a14 a15 p0 p1 p2 p3 p4 p5 p6 p7 p8 p9 p10 p11 p12 p13 p14 p15 cI wf) {d : Nat} (hd : 4 ≤ d) {z : SX3} {x1 x2 x3 : Int32} {q : SX3} (h : fX3_goByBlocks z x1 x2 x3 = some q) : Ct l yX3_goByBlocks cX3_goByBlocks 8 none d A g D [(cI, .int), (cB, .byte)] [.ref a0, .int x1, .int x2, .int x3] (wf z) (QV A D (wf q)) := by
  refine mkM (by decide) (Nat.le_of_ble_eq_true rfl) ?_
  intro p e S m args below meth c B X ls hl
  have B : Bd RX3 cX3_goByBlocks 8 none d A g D [(cI, .int), (cB, .byte)] p (rmd d) S m args meth c := B
  have hx := B.1
  have hb := B.2.1
  have hd1 : 1 ≤ d := by omega
  have hl : lv_has ls 8 [(0, .ref a0), (1, .int x1), (2, .int x2), (3, .int x3)] := hl
  unfold fX3_goByBlocks at h
  refine lv_iload_n hx hb dX3_goByBlocks_0 rfl (lv_at hl 2 rfl) ?_
  refine lv_istore (lv' := [(4, .int x2), (0, .ref a0), (1, .int x1), (2, .int x2), (3, .int x3)]) hx hb dX3_goByBlocks_1 hl (by decide) rfl (fun ls hl => ?_)
  refine lv_iconst (v := 0) hx hb dX3_goByBlocks_3 (by decide) ?_
  refine lv_istore (lv' := [(5, .int 0), (4, .int x2), (0, .ref a0), (1, .int x1), (2, .int x2), (3, .int x3)]) hx hb dX3_goByBlocks_4 hl (by decide) rfl (fun ls hl => ?_)
  exact tX3_goByBlocks_b6 L hd B 1000 x1 x2 x3 x2 0 z _ _ _ X (lv_sub hl [2, 3, 4, 5, 1, 0] rfl) h
end
