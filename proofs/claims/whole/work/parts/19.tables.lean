section
variable {l : Launch} {p : Program} {e : Env} {R : Room} {S : State} {m : MethodId} {args : Array Value} {below : List Frame} {meth : Method} {c : Code} {A : Nat → Prop} {g : Nat → Nat} {D : va_G} {cI cB : ClassId}
def fX6_areThere (z : SX6) : Option Int32 :=
    if z.2.2.1 = 0 then (some 0) else
    (some 1)
set_option maxRecDepth 100000 in
set_option maxHeartbeats 4000000 in
theorem tX6_areThere {a0 a1 a2 a3 a4 p0 p1 p2 p3 p4 : Nat} {wf : SX6 → va_W} (L : LnX6 a0 a1 a2 a3 a4 p0 p1 p2 p3 p4 cI wf) {d : Nat} (hd : 1 ≤ d) {z : SX6} {q : Int32} (h : fX6_areThere z = some q) : Ct l yX6_areThere cX6_areThere 1 (some .boolean) d A g D [(cI, .int), (cB, .byte)] [.ref a0] (wf z) (QI A D (wf z) q) := by
  refine mkM (by decide) (Nat.le_of_ble_eq_true rfl) ?_
  intro p e S m args below meth c B X ls hl
  have B : Bd RX6 cX6_areThere 1 (some .boolean) d A g D [(cI, .int), (cB, .byte)] p (rmd d) S m args meth c := B
  have hx := B.1
  have hb := B.2.1
  have hd1 : 1 ≤ d := by omega
  have hl : lv_has ls 1 [(0, .ref a0)] := hl
  unfold fX6_areThere at h
  refine lv_aload_n hx hb dX6_areThere_0 rfl (lv_at hl 0 rfl) ?_
  refine fG B X (LnX6_g L z) 2 rfl inTX6 (by decide) kw180 rfl dX6_areThere_1 ?_
  refine lv_if_eq (tgt := 11) hx hb dX6_areThere_4 (by decide) (fun hc1 => ?_) (fun hc1 => ?_)
  · have h := it h hc1
    refine lv_iconst (v := 0) hx hb dX6_areThere_11 (by decide) ?_
    exact rZ B X rfl (Option.some.inj h) rfl dX6_areThere_12
  · have h := ie h hc1
    refine lv_iconst (v := 1) hx hb dX6_areThere_7 (by decide) ?_
    refine lv_goto (tgt := 12) hx hb dX6_areThere_8 (by decide) ?_
    exact rZ B X rfl (Option.some.inj h) rfl dX6_areThere_12
def fX6_size (z : SX6) : Option Int32 :=
    some (z.1.2 + z.2.1.2)
set_option maxRecDepth 100000 in
set_option maxHeartbeats 4000000 in
theorem tX6_size {a0 a1 a2 a3 a4 p0 p1 p2 p3 p4 : Nat} {wf : SX6 → va_W} (L : LnX6 a0 a1 a2 a3 a4 p0 p1 p2 p3 p4 cI wf) {d : Nat} (hd : 1 ≤ d) {z : SX6} {q : Int32} (h : fX6_size z = some q) : Ct l yX6_size cX6_size 1 (some .int) d A g D [(cI, .int), (cB, .byte)] [.ref a0] (wf z) (QI A D (wf z) q) := by
  refine mkM (by decide) (Nat.le_of_ble_eq_true rfl) ?_
  intro p e S m args below meth c B X ls hl
  have B : Bd RX6 cX6_size 1 (some .int) d A g D [(cI, .int), (cB, .byte)] p (rmd d) S m args meth c := B
  have hx := B.1
  have hb := B.2.1
  have hd1 : 1 ≤ d := by omega
  have hl : lv_has ls 1 [(0, .ref a0)] := hl
  unfold fX6_size at h
  refine lv_aload_n hx hb dX6_size_0 rfl (lv_at hl 0 rfl) ?_
  refine fG B X (LnX6_g L z) 0 rfl inTX6 (by decide) kw174 rfl dX6_size_1 ?_
  refine fGN B X (LnX5_g (LnX6_s0 L z) z.1) 1 rfl inTX5 (by decide) kn167 rfl dX6_size_4 ?_
  refine lv_aload_n hx hb dX6_size_7 rfl (lv_at hl 0 rfl) ?_
  refine fG B X (LnX6_g L z) 1 rfl inTX6 (by decide) kw177 rfl dX6_size_8 ?_
  refine fGN B X (LnX5_g (LnX6_s1 L z) z.2.1) 1 rfl inTX5 (by decide) kn167 rfl dX6_size_11 ?_
  refine lv_iadd hx hb dX6_size_14 ?_
  exact rI B X rfl (Option.some.inj h) dX6_size_15
def fX6_hasRow (z : SX6) (x1 : Int32) (x2 : Int32) : Option Int32 :=
    (fX7_isSide x1).bind fun q1 =>
    if q1 = 0 then (some 0) else
    (if x1 = 0 then ((fX5_has z.1 x2).bind fun q4 =>
    if q4 = 0 then (some 0) else
    (some 1)) else
    ((fX5_has z.2.1 x2).bind fun q6 =>
    if q6 = 0 then (some 0) else
    (some 1)))
set_option maxRecDepth 100000 in
set_option maxHeartbeats 4000000 in
theorem tX6_hasRow {a0 a1 a2 a3 a4 p0 p1 p2 p3 p4 : Nat} {wf : SX6 → va_W} (L : LnX6 a0 a1 a2 a3 a4 p0 p1 p2 p3 p4 cI wf) {d : Nat} (hd : 2 ≤ d) {z : SX6} {x1 x2 : Int32} {q : Int32} (h : fX6_hasRow z x1 x2 = some q) : Ct l yX6_hasRow cX6_hasRow 3 (some .boolean) d A g D [(cI, .int), (cB, .byte)] [.ref a0, .int x1, .int x2] (wf z) (QI A D (wf z) q) := by
  refine mkM (by decide) (Nat.le_of_ble_eq_true rfl) ?_
  intro p e S m args below meth c B X ls hl
  have B : Bd RX6 cX6_hasRow 3 (some .boolean) d A g D [(cI, .int), (cB, .byte)] p (rmd d) S m args meth c := B
  have hx := B.1
  have hb := B.2.1
  have hd1 : 1 ≤ d := by omega
  have hl : lv_has ls 3 [(0, .ref a0), (1, .int x1), (2, .int x2)] := hl
  unfold fX6_hasRow at h
  refine lv_iload_n hx hb dX6_hasRow_0 rfl (lv_at hl 1 rfl) ?_
  obtain ⟨q1, h1, h⟩ := bs h
  refine kI X (cSN (As := [.int x1]) (rest := []) B X (tX7_isSide (d := d - 1) (by omega) h1) msX7_isSide kn510 (by omega) rfl (Nat.le_of_ble_eq_true rfl) hl.1 ⟨Nat.zero_le _, Nat.zero_le _⟩ dX6_hasRow_1) (fun H locs X => ?_)
  have X : Hx A D S.heap (wf z) H locs := X
  refine lv_if_eq (tgt := 23) hx hb dX6_hasRow_4 (by decide) (fun hc2 => ?_) (fun hc2 => ?_)
  · have h := it h hc2
    refine lv_iconst (v := 0) hx hb dX6_hasRow_23 (by decide) ?_
    exact rZ B X rfl (Option.some.inj h) rfl dX6_hasRow_24
  · have h := ie h hc2
    refine lv_aload_n hx hb dX6_hasRow_7 rfl (lv_at hl 0 rfl) ?_
    refine lv_iload_n hx hb dX6_hasRow_8 rfl (lv_at hl 1 rfl) ?_
    by_cases hc3 : (x1 = 0)
    · have h := it h hc3
      refine kR X (cV (As := [.int x1]) (rest := []) B X (tX6_sideOf_L (d := d - 1) L (by omega) hc3) mfX6_sideOf kw513 (by omega) (LnX6_g L z) rfl rfl (Nat.le_of_ble_eq_true rfl) hl.1 ⟨Nat.zero_le _, Nat.zero_le _⟩ dX6_hasRow_9) (fun H locs X => ?_)
      have X : Hx A D S.heap (wf z) H locs := X
      refine lv_iload_n hx hb dX6_hasRow_12 rfl (lv_at hl 2 rfl) ?_
      obtain ⟨q4, h4, h⟩ := bs h
      refine kI X (cVN (As := [.int x2]) (rest := []) B X (tX5_has (d := d - 1) (LnX6_s0 L z) (by omega) h4) mfX5_has kn517 (by omega) (LnX5_g (LnX6_s0 L z) z.1) rfl rfl (Nat.le_of_ble_eq_true rfl) hl.1 ⟨Nat.zero_le _, Nat.zero_le _⟩ dX6_hasRow_13) (fun H locs X => ?_)
      have X : Hx A D S.heap (wf z) H locs := X
      refine lv_if_eq (tgt := 23) hx hb dX6_hasRow_16 (by decide) (fun hc5 => ?_) (fun hc5 => ?_)
      · have h := it h hc5
        refine lv_iconst (v := 0) hx hb dX6_hasRow_23 (by decide) ?_
        exact rZ B X rfl (Option.some.inj h) rfl dX6_hasRow_24
      · have h := ie h hc5
        refine lv_iconst (v := 1) hx hb dX6_hasRow_19 (by decide) ?_
        refine lv_goto (tgt := 24) hx hb dX6_hasRow_20 (by decide) ?_
        exact rZ B X rfl (Option.some.inj h) rfl dX6_hasRow_24
    · have h := ie h hc3
      refine kR X (cV (As := [.int x1]) (rest := []) B X (tX6_sideOf_R (d := d - 1) L (by omega) hc3) mfX6_sideOf kw513 (by omega) (LnX6_g L z) rfl rfl (Nat.le_of_ble_eq_true rfl) hl.1 ⟨Nat.zero_le _, Nat.zero_le _⟩ dX6_hasRow_9) (fun H locs X => ?_)
      have X : Hx A D S.heap (wf z) H locs := X
      refine lv_iload_n hx hb dX6_hasRow_12 rfl (lv_at hl 2 rfl) ?_
      obtain ⟨q6, h6, h⟩ := bs h
      refine kI X (cVN (As := [.int x2]) (rest := []) B X (tX5_has (d := d - 1) (LnX6_s1 L z) (by omega) h6) mfX5_has kn517 (by omega) (LnX5_g (LnX6_s1 L z) z.2.1) rfl rfl (Nat.le_of_ble_eq_true rfl) hl.1 ⟨Nat.zero_le _, Nat.zero_le _⟩ dX6_hasRow_13) (fun H locs X => ?_)
      have X : Hx A D S.heap (wf z) H locs := X
      refine lv_if_eq (tgt := 23) hx hb dX6_hasRow_16 (by decide) (fun hc7 => ?_) (fun hc7 => ?_)
      · have h := it h hc7
        refine lv_iconst (v := 0) hx hb dX6_hasRow_23 (by decide) ?_
        exact rZ B X rfl (Option.some.inj h) rfl dX6_hasRow_24
      · have h := ie h hc7
        refine lv_iconst (v := 1) hx hb dX6_hasRow_19 (by decide) ?_
        refine lv_goto (tgt := 24) hx hb dX6_hasRow_20 (by decide) ?_
        exact rZ B X rfl (Option.some.inj h) rfl dX6_hasRow_24
def fX6_partners (z : SX6) (x1 : Int32) (x2 : Int32) : Option Int32 :=
    if x1 = 0 then ((fX5_keyAt z.1 x2).bind fun q2 =>
    if q2 = (-1) then (some 0) else
    ((fX7_otherSide x1).bind fun q4 =>
    if q4 = 0 then ((fX5_rowsOfKey z.1 q2).bind fun q6 =>
    some q6) else
    ((fX5_rowsOfKey z.2.1 q2).bind fun q7 =>
    some q7))) else
    ((fX5_keyAt z.2.1 x2).bind fun q8 =>
    if q8 = (-1) then (some 0) else
    ((fX7_otherSide x1).bind fun q10 =>
    if q10 = 0 then ((fX5_rowsOfKey z.1 q8).bind fun q12 =>
    some q12) else
    ((fX5_rowsOfKey z.2.1 q8).bind fun q13 =>
    some q13)))
set_option maxRecDepth 100000 in
set_option maxHeartbeats 4000000 in
theorem tX6_partners {a0 a1 a2 a3 a4 p0 p1 p2 p3 p4 : Nat} {wf : SX6 → va_W} (L : LnX6 a0 a1 a2 a3 a4 p0 p1 p2 p3 p4 cI wf) {d : Nat} (hd : 2 ≤ d) {z : SX6} {x1 x2 : Int32} {q : Int32} (h : fX6_partners z x1 x2 = some q) : Ct l yX6_partners cX6_partners 4 (some .int) d A g D [(cI, .int), (cB, .byte)] [.ref a0, .int x1, .int x2] (wf z) (QI A D (wf z) q) := by
  refine mkM (by decide) (Nat.le_of_ble_eq_true rfl) ?_
  intro p e S m args below meth c B X ls hl
  have B : Bd RX6 cX6_partners 4 (some .int) d A g D [(cI, .int), (cB, .byte)] p (rmd d) S m args meth c := B
  have hx := B.1
  have hb := B.2.1
  have hd1 : 1 ≤ d := by omega
  have hl : lv_has ls 4 [(0, .ref a0), (1, .int x1), (2, .int x2)] := hl
  unfold fX6_partners at h
  refine lv_aload_n hx hb dX6_partners_0 rfl (lv_at hl 0 rfl) ?_
  refine lv_iload_n hx hb dX6_partners_1 rfl (lv_at hl 1 rfl) ?_
  by_cases hc1 : (x1 = 0)
  · have h := it h hc1
    refine kR X (cV (As := [.int x1]) (rest := []) B X (tX6_sideOf_L (d := d - 1) L (by omega) hc1) mfX6_sideOf kw513 (by omega) (LnX6_g L z) rfl rfl (Nat.le_of_ble_eq_true rfl) hl.1 ⟨Nat.zero_le _, Nat.zero_le _⟩ dX6_partners_2) (fun H locs X => ?_)
    have X : Hx A D S.heap (wf z) H locs := X
    refine lv_iload_n hx hb dX6_partners_5 rfl (lv_at hl 2 rfl) ?_
    obtain ⟨q2, h2, h⟩ := bs h
    refine kI X (cVN (As := [.int x2]) (rest := []) B X (tX5_keyAt (d := d - 1) (LnX6_s0 L z) (by omega) h2) mfX5_keyAt kn530 (by omega) (LnX5_g (LnX6_s0 L z) z.1) rfl rfl (Nat.le_of_ble_eq_true rfl) hl.1 ⟨Nat.zero_le _, Nat.zero_le _⟩ dX6_partners_6) (fun H locs X => ?_)
    have X : Hx A D S.heap (wf z) H locs := X
    refine lv_istore_n (lv' := [(3, .int q2), (0, .ref a0), (1, .int x1), (2, .int x2)]) hx hb dX6_partners_9 rfl hl (by decide) rfl (fun ls hl => ?_)
    refine lv_iload_n hx hb dX6_partners_10 rfl (lv_at hl 0 rfl) ?_
    refine lv_iconst (v := (-1)) hx hb dX6_partners_11 (by decide) ?_
    refine lv_icmp_ne (tgt := 19) hx hb dX6_partners_12 (by decide) (fun hc3 => ?_) (fun hc3 => ?_)
    · have h := ie h hc3
      refine lv_aload_n hx hb dX6_partners_19 rfl (lv_at hl 1 rfl) ?_
      refine lv_iload_n hx hb dX6_partners_20 rfl (lv_at hl 2 rfl) ?_
      obtain ⟨q4, h4, h⟩ := bs h
      refine kI X (cSN (As := [.int x1]) (rest := [.ref a0]) B X (tX7_otherSide (d := d - 1) (by omega) h4) msX7_otherSide kn531 (by omega) rfl (Nat.le_of_ble_eq_true rfl) hl.1 ⟨Nat.zero_le _, Nat.zero_le _⟩ dX6_partners_21) (fun H locs X => ?_)
      have X : Hx A D S.heap (wf z) H locs := X
      by_cases hc5 : (q4 = 0)
      · have h := it h hc5
        refine kR X (cV (As := [.int q4]) (rest := []) B X (tX6_sideOf_L (d := d - 1) L (by omega) hc5) mfX6_sideOf kw513 (by omega) (LnX6_g L z) rfl rfl (Nat.le_of_ble_eq_true rfl) hl.1 ⟨Nat.zero_le _, Nat.zero_le _⟩ dX6_partners_24) (fun H locs X => ?_)
        have X : Hx A D S.heap (wf z) H locs := X
        refine lv_iload_n hx hb dX6_partners_27 rfl (lv_at hl 0 rfl) ?_
        obtain ⟨q6, h6, h⟩ := bs h
        refine kI X (cVN (As := [.int q2]) (rest := []) B X (tX5_rowsOfKey (d := d - 1) (LnX6_s0 L z) (by omega) h6) mfX5_rowsOfKey kn534 (by omega) (LnX5_g (LnX6_s0 L z) z.1) rfl rfl (Nat.le_of_ble_eq_true rfl) hl.1 ⟨Nat.zero_le _, Nat.zero_le _⟩ dX6_partners_28) (fun H locs X => ?_)
        have X : Hx A D S.heap (wf z) H locs := X
        exact rI B X rfl (Option.some.inj h) dX6_partners_31
      · have h := ie h hc5
        refine kR X (cV (As := [.int q4]) (rest := []) B X (tX6_sideOf_R (d := d - 1) L (by omega) hc5) mfX6_sideOf kw513 (by omega) (LnX6_g L z) rfl rfl (Nat.le_of_ble_eq_true rfl) hl.1 ⟨Nat.zero_le _, Nat.zero_le _⟩ dX6_partners_24) (fun H locs X => ?_)
        have X : Hx A D S.heap (wf z) H locs := X
        refine lv_iload_n hx hb dX6_partners_27 rfl (lv_at hl 0 rfl) ?_
        obtain ⟨q7, h7, h⟩ := bs h
        refine kI X (cVN (As := [.int q2]) (rest := []) B X (tX5_rowsOfKey (d := d - 1) (LnX6_s1 L z) (by omega) h7) mfX5_rowsOfKey kn534 (by omega) (LnX5_g (LnX6_s1 L z) z.2.1) rfl rfl (Nat.le_of_ble_eq_true rfl) hl.1 ⟨Nat.zero_le _, Nat.zero_le _⟩ dX6_partners_28) (fun H locs X => ?_)
        have X : Hx A D S.heap (wf z) H locs := X
        exact rI B X rfl (Option.some.inj h) dX6_partners_31
    · have h := it h hc3
      refine lv_iconst (v := 0) hx hb dX6_partners_15 (by decide) ?_
      refine lv_goto (tgt := 31) hx hb dX6_partners_16 (by decide) ?_
      exact rI B X rfl (Option.some.inj h) dX6_partners_31
  · have h := ie h hc1
    refine kR X (cV (As := [.int x1]) (rest := []) B X (tX6_sideOf_R (d := d - 1) L (by omega) hc1) mfX6_sideOf kw513 (by omega) (LnX6_g L z) rfl rfl (Nat.le_of_ble_eq_true rfl) hl.1 ⟨Nat.zero_le _, Nat.zero_le _⟩ dX6_partners_2) (fun H locs X => ?_)
    have X : Hx A D S.heap (wf z) H locs := X
    refine lv_iload_n hx hb dX6_partners_5 rfl (lv_at hl 2 rfl) ?_
    obtain ⟨q8, h8, h⟩ := bs h
    refine kI X (cVN (As := [.int x2]) (rest := []) B X (tX5_keyAt (d := d - 1) (LnX6_s1 L z) (by omega) h8) mfX5_keyAt kn530 (by omega) (LnX5_g (LnX6_s1 L z) z.2.1) rfl rfl (Nat.le_of_ble_eq_true rfl) hl.1 ⟨Nat.zero_le _, Nat.zero_le _⟩ dX6_partners_6) (fun H locs X => ?_)
    have X : Hx A D S.heap (wf z) H locs := X
    refine lv_istore_n (lv' := [(3, .int q8), (0, .ref a0), (1, .int x1), (2, .int x2)]) hx hb dX6_partners_9 rfl hl (by decide) rfl (fun ls hl => ?_)
    refine lv_iload_n hx hb dX6_partners_10 rfl (lv_at hl 0 rfl) ?_
    refine lv_iconst (v := (-1)) hx hb dX6_partners_11 (by decide) ?_
    refine lv_icmp_ne (tgt := 19) hx hb dX6_partners_12 (by decide) (fun hc9 => ?_) (fun hc9 => ?_)
    · have h := ie h hc9
      refine lv_aload_n hx hb dX6_partners_19 rfl (lv_at hl 1 rfl) ?_
      refine lv_iload_n hx hb dX6_partners_20 rfl (lv_at hl 2 rfl) ?_
      obtain ⟨q10, h10, h⟩ := bs h
      refine kI X (cSN (As := [.int x1]) (rest := [.ref a0]) B X (tX7_otherSide (d := d - 1) (by omega) h10) msX7_otherSide kn531 (by omega) rfl (Nat.le_of_ble_eq_true rfl) hl.1 ⟨Nat.zero_le _, Nat.zero_le _⟩ dX6_partners_21) (fun H locs X => ?_)
      have X : Hx A D S.heap (wf z) H locs := X
      by_cases hc11 : (q10 = 0)
      · have h := it h hc11
        refine kR X (cV (As := [.int q10]) (rest := []) B X (tX6_sideOf_L (d := d - 1) L (by omega) hc11) mfX6_sideOf kw513 (by omega) (LnX6_g L z) rfl rfl (Nat.le_of_ble_eq_true rfl) hl.1 ⟨Nat.zero_le _, Nat.zero_le _⟩ dX6_partners_24) (fun H locs X => ?_)
        have X : Hx A D S.heap (wf z) H locs := X
        refine lv_iload_n hx hb dX6_partners_27 rfl (lv_at hl 0 rfl) ?_
        obtain ⟨q12, h12, h⟩ := bs h
        refine kI X (cVN (As := [.int q8]) (rest := []) B X (tX5_rowsOfKey (d := d - 1) (LnX6_s0 L z) (by omega) h12) mfX5_rowsOfKey kn534 (by omega) (LnX5_g (LnX6_s0 L z) z.1) rfl rfl (Nat.le_of_ble_eq_true rfl) hl.1 ⟨Nat.zero_le _, Nat.zero_le _⟩ dX6_partners_28) (fun H locs X => ?_)
        have X : Hx A D S.heap (wf z) H locs := X
        exact rI B X rfl (Option.some.inj h) dX6_partners_31
      · have h := ie h hc11
        refine kR X (cV (As := [.int q10]) (rest := []) B X (tX6_sideOf_R (d := d - 1) L (by omega) hc11) mfX6_sideOf kw513 (by omega) (LnX6_g L z) rfl rfl (Nat.le_of_ble_eq_true rfl) hl.1 ⟨Nat.zero_le _, Nat.zero_le _⟩ dX6_partners_24) (fun H locs X => ?_)
        have X : Hx A D S.heap (wf z) H locs := X
        refine lv_iload_n hx hb dX6_partners_27 rfl (lv_at hl 0 rfl) ?_
        obtain ⟨q13, h13, h⟩ := bs h
        refine kI X (cVN (As := [.int q8]) (rest := []) B X (tX5_rowsOfKey (d := d - 1) (LnX6_s1 L z) (by omega) h13) mfX5_rowsOfKey kn534 (by omega) (LnX5_g (LnX6_s1 L z) z.2.1) rfl rfl (Nat.le_of_ble_eq_true rfl) hl.1 ⟨Nat.zero_le _, Nat.zero_le _⟩ dX6_partners_28) (fun H locs X => ?_)
        have X : Hx A D S.heap (wf z) H locs := X
        exact rI B X rfl (Option.some.inj h) dX6_partners_31
    · have h := it h hc9
      refine lv_iconst (v := 0) hx hb dX6_partners_15 (by decide) ?_
      refine lv_goto (tgt := 31) hx hb dX6_partners_16 (by decide) ?_
      exact rI B X rfl (Option.some.inj h) dX6_partners_31
def fX6_pairs_b4 (z : SX6) : Nat → Int32 → Int32 → Option Int32
  | 0, _, _ => none
  | n + 1, x1, x2 =>
    if z.1.2 ≤ x2 then (some x1) else
    ((fX6_partners z 0 x2).bind fun q2 =>
    (fJ6_bitCount_0f7a4 q2).bind fun q3 =>
    fX6_pairs_b4 z n (x1 + q3) (x2 + 1))
set_option maxRecDepth 100000 in
set_option maxHeartbeats 4000000 in
theorem tX6_pairs_b4 {a0 a1 a2 a3 a4 p0 p1 p2 p3 p4 : Nat} {wf : SX6 → va_W} (L : LnX6 a0 a1 a2 a3 a4 p0 p1 p2 p3 p4 cI wf) {d : Nat} (hd : 3 ≤ d) {z : SX6} (B : Bd RX6 cX6_pairs 3 (some .int) d A g D [(cI, .int), (cB, .byte)] p R S m args meth c) {q : Int32} : ∀ (n : Nat) (x1 : Int32) (x2 : Int32) (H : Heap) (locs : List Loc) (ls : Array Slot), Hx A D S.heap (wf z) H locs → lv_has ls 3 [(0, .ref a0), (1, .int x1), (2, .int x2)] → fX6_pairs_b4 z n x1 x2 = some q → W p l e R S m args below meth c H locs 0 0 (MQ below (QI A D (wf z) q) args S 0 0 A) (F0 m 4 ls []) := by
  have hx := B.1
  have hb := B.2.1
  have hd1 : 1 ≤ d := by omega
  intro n
  induction n with
  | zero =>
    intro x1 x2 H locs ls X hl h
    cases h
  | succ n ih =>
    intro x1 x2 H locs ls X hl h
    rw [fX6_pairs_b4] at h
    refine lv_iload_n hx hb dX6_pairs_4 rfl (lv_at hl 2 rfl) ?_
    refine lv_aload_n hx hb dX6_pairs_5 rfl (lv_at hl 0 rfl) ?_
    refine fG B X (LnX6_g L z) 0 rfl inTX6 (by decide) kw174 rfl dX6_pairs_6 ?_
    refine fGN B X (LnX5_g (LnX6_s0 L z) z.1) 1 rfl inTX5 (by decide) kn167 rfl dX6_pairs_9 ?_
    refine lv_icmp_ge (tgt := 33) hx hb dX6_pairs_12 (by decide) (fun hc1 => ?_) (fun hc1 => ?_)
    · have h := it h hc1
      refine lv_iload_n hx hb dX6_pairs_33 rfl (lv_at hl 1 rfl) ?_
      exact rI B X rfl (Option.some.inj h) dX6_pairs_34
    · have h := ie h hc1
      refine lv_iload_n hx hb dX6_pairs_15 rfl (lv_at hl 1 rfl) ?_
      refine lv_aload_n hx hb dX6_pairs_16 rfl (lv_at hl 0 rfl) ?_
      refine lv_iconst (v := 0) hx hb dX6_pairs_17 (by decide) ?_
      refine lv_iload_n hx hb dX6_pairs_18 rfl (lv_at hl 2 rfl) ?_
      obtain ⟨q2, h2, h⟩ := bs h
      refine kI X (cV (As := [.int 0, .int x2]) (rest := [.int x1]) B X (tX6_partners (d := d - 1) L (by omega) h2) mfX6_partners kw816 (by omega) (LnX6_g L z) rfl rfl (Nat.le_of_ble_eq_true rfl) hl.1 ⟨Nat.zero_le _, Nat.zero_le _⟩ dX6_pairs_19) (fun H locs X => ?_)
      have X : Hx A D S.heap (wf z) H locs := X
      obtain ⟨q3, h3, h⟩ := bs h
      refine kI X (cS (As := [.int q2]) (rest := [.int x1]) B X (tJ6_bitCount_0f7a4 (d := d - 1) (by omega) h3) msJ6_bitCount_0f7a4 kw612 (by omega) rfl (Nat.le_of_ble_eq_true rfl) hl.1 ⟨Nat.zero_le _, Nat.zero_le _⟩ dX6_pairs_22) (fun H locs X => ?_)
      have X : Hx A D S.heap (wf z) H locs := X
      refine lv_iadd hx hb dX6_pairs_25 ?_
      refine lv_istore_n (lv' := [(1, .int (x1 + q3)), (0, .ref a0), (2, .int x2)]) hx hb dX6_pairs_26 rfl hl (by decide) rfl (fun ls hl => ?_)
      refine lv_iinc (v := x2 + 1) (lv' := [(2, .int (x2 + 1)), (1, .int (x1 + q3)), (0, .ref a0)]) hx hb dX6_pairs_27 hl (k := 2) rfl rfl (by decide) rfl (fun ls hl => ?_)
      refine lv_goto (tgt := 4) hx hb dX6_pairs_30 (by decide) ?_
      exact ih (x1 + q3) (x2 + 1) _ _ _ X (lv_sub hl [2, 1, 0] rfl) h
def fX6_pairs (z : SX6) : Option Int32 :=
    fX6_pairs_b4 z 1000 0 0
set_option maxRecDepth 100000 in
set_option maxHeartbeats 4000000 in
theorem tX6_pairs {a0 a1 a2 a3 a4 p0 p1 p2 p3 p4 : Nat} {wf : SX6 → va_W} (L : LnX6 a0 a1 a2 a3 a4 p0 p1 p2 p3 p4 cI wf) {d : Nat} (hd : 3 ≤ d) {z : SX6} {q : Int32} (h : fX6_pairs z = some q) : Ct l yX6_pairs cX6_pairs 3 (some .int) d A g D [(cI, .int), (cB, .byte)] [.ref a0] (wf z) (QI A D (wf z) q) := by
  refine mkM (by decide) (Nat.le_of_ble_eq_true rfl) ?_
  intro p e S m args below meth c B X ls hl
  have B : Bd RX6 cX6_pairs 3 (some .int) d A g D [(cI, .int), (cB, .byte)] p (rmd d) S m args meth c := B
  have hx := B.1
  have hb := B.2.1
  have hd1 : 1 ≤ d := by omega
  have hl : lv_has ls 3 [(0, .ref a0)] := hl
  unfold fX6_pairs at h
  refine lv_iconst (v := 0) hx hb dX6_pairs_0 (by decide) ?_
  refine lv_istore_n (lv' := [(1, .int 0), (0, .ref a0)]) hx hb dX6_pairs_1 rfl hl (by decide) rfl (fun ls hl => ?_)
  refine lv_iconst (v := 0) hx hb dX6_pairs_2 (by decide) ?_
  refine lv_istore_n (lv' := [(2, .int 0), (1, .int 0), (0, .ref a0)]) hx hb dX6_pairs_3 rfl hl (by decide) rfl (fun ls hl => ?_)
  exact tX6_pairs_b4 L hd B 1000 0 0 _ _ _ X (lv_sub hl [2, 1, 0] rfl) h
def fX6_buildSide (z : SX6) (x1 : Int32) (x2 : Int32) : Option Int32 :=
    (fJ6_bitCount_0f7a4 x1).bind fun q1 =>
    (fJ6_bitCount_0f7a4 x2).bind fun q2 =>
    if q2 ≤ q1 then (some 1) else
    (some 0)
set_option maxRecDepth 100000 in
set_option maxHeartbeats 4000000 in
theorem tX6_buildSide {a0 a1 a2 a3 a4 p0 p1 p2 p3 p4 : Nat} {wf : SX6 → va_W} (L : LnX6 a0 a1 a2 a3 a4 p0 p1 p2 p3 p4 cI wf) {d : Nat} (hd : 2 ≤ d) {z : SX6} {x1 x2 : Int32} {q : Int32} (h : fX6_buildSide z x1 x2 = some q) : Ct l yX6_buildSide cX6_buildSide 3 (some .int) d A g D [(cI, .int), (cB, .byte)] [.ref a0, .int x1, .int x2] (wf z) (QI A D (wf z) q) := by
  refine mkM (by decide) (Nat.le_of_ble_eq_true rfl) ?_
  intro p e S m args below meth c B X ls hl
  have B : Bd RX6 cX6_buildSide 3 (some .int) d A g D [(cI, .int), (cB, .byte)] p (rmd d) S m args meth c := B
  have hx := B.1
  have hb := B.2.1
  have hd1 : 1 ≤ d := by omega
  have hl : lv_has ls 3 [(0, .ref a0), (1, .int x1), (2, .int x2)] := hl
  unfold fX6_buildSide at h
  refine lv_iload_n hx hb dX6_buildSide_0 rfl (lv_at hl 1 rfl) ?_
  obtain ⟨q1, h1, h⟩ := bs h
  refine kI X (cS (As := [.int x1]) (rest := []) B X (tJ6_bitCount_0f7a4 (d := d - 1) (by omega) h1) msJ6_bitCount_0f7a4 kw612 (by omega) rfl (Nat.le_of_ble_eq_true rfl) hl.1 ⟨Nat.zero_le _, Nat.zero_le _⟩ dX6_buildSide_1) (fun H locs X => ?_)
  have X : Hx A D S.heap (wf z) H locs := X
  refine lv_iload_n hx hb dX6_buildSide_4 rfl (lv_at hl 2 rfl) ?_
  obtain ⟨q2, h2, h⟩ := bs h
  refine kI X (cS (As := [.int x2]) (rest := [.int q1]) B X (tJ6_bitCount_0f7a4 (d := d - 1) (by omega) h2) msJ6_bitCount_0f7a4 kw612 (by omega) rfl (Nat.le_of_ble_eq_true rfl) hl.1 ⟨Nat.zero_le _, Nat.zero_le _⟩ dX6_buildSide_5) (fun H locs X => ?_)
  have X : Hx A D S.heap (wf z) H locs := X
  refine lv_icmp_ge (tgt := 15) hx hb dX6_buildSide_8 (by decide) (fun hc3 => ?_) (fun hc3 => ?_)
  · have h := it h hc3
    refine lv_iconst (v := 1) hx hb dX6_buildSide_15 (by decide) ?_
    exact rI B X rfl (Option.some.inj h) dX6_buildSide_16
  · have h := ie h hc3
    refine lv_iconst (v := 0) hx hb dX6_buildSide_11 (by decide) ?_
    refine lv_goto (tgt := 16) hx hb dX6_buildSide_12 (by decide) ?_
    exact rI B X rfl (Option.some.inj h) dX6_buildSide_16
def fX6_copy (z : SP66) : Option SP66 :=
    (fX5_copy (z.1.1, z.2.1)).bind fun q1 =>
    (fX5_copy (z.1.2.1, z.2.2.1)).bind fun q2 =>
    some ((q1.1, q2.1, z.2.2.2.1, z.2.2.2.2), (q1.2, q2.2, z.2.2.2.1, z.2.2.2.2))
set_option maxRecDepth 100000 in
set_option maxHeartbeats 4000000 in
theorem tX6_copy {a0 a1 a2 a3 a4 a5 a6 a7 a8 a9 p0 p1 p2 p3 p4 p5 p6 p7 p8 p9 : Nat} {wf : SP66 → va_W} (L : LnP66 a0 a1 a2 a3 a4 a5 a6 a7 a8 a9 p0 p1 p2 p3 p4 p5 p6 p7 p8 p9 cI wf) {d : Nat} (hd : 3 ≤ d) {z : SP66} {q : SP66} (h : fX6_copy z = some q) : Ct l yX6_copy cX6_copy 2 none d A g D [(cI, .int), (cB, .byte)] [.ref a0, .ref a5] (wf z) (QV A D (wf q)) := by
  refine mkM (by decide) (Nat.le_of_ble_eq_true rfl) ?_
  intro p e S m args below meth c B X ls hl
  have B : Bd RX6 cX6_copy 2 none d A g D [(cI, .int), (cB, .byte)] p (rmd d) S m args meth c := B
  have hx := B.1
  have hb := B.2.1
  have hd1 : 1 ≤ d := by omega
  have hl : lv_has ls 2 [(0, .ref a0), (1, .ref a5)] := hl
  unfold fX6_copy at h
  refine lv_aload_n hx hb dX6_copy_0 rfl (lv_at hl 0 rfl) ?_
  refine fG B X (LnX6_g (LnP66_s0 L z) z.1) 0 rfl inTX6 (by decide) kw174 rfl dX6_copy_1 ?_
  refine lv_aload_n hx hb dX6_copy_4 rfl (lv_at hl 1 rfl) ?_
  refine fG B X (LnX6_g (LnP66_s1 L z) z.2) 0 rfl inTX6 (by decide) kw174 rfl dX6_copy_5 ?_
  obtain ⟨q1, h1, h⟩ := bs h
  refine kV X (cVN (As := [.ref a6]) (rest := []) B X (tX5_copy (d := d - 1) (LnP55_mk (wf := fun t : SP55 => wf ((t.1, z.1.2.1, z.1.2.2.1, z.1.2.2.2), (t.2, z.2.2.1, z.2.2.2.1, z.2.2.2.2))) (fun t => (LnX6_s0 (LnP66_s0 L ((t.1, z.1.2.1, z.1.2.2.1, z.1.2.2.2), (t.2, z.2.2.1, z.2.2.2.1, z.2.2.2.2))) (t.1, z.1.2.1, z.1.2.2.1, z.1.2.2.2))) (fun t => (LnX6_s0 (LnP66_s1 L ((t.1, z.1.2.1, z.1.2.2.1, z.1.2.2.2), (t.2, z.2.2.1, z.2.2.2.1, z.2.2.2.2))) (t.2, z.2.2.1, z.2.2.2.1, z.2.2.2.2)))) (by omega) h1) mfX5_copy kn790 (by omega) (LnX5_g (LnX6_s0 (LnP66_s0 L z) z.1) z.1.1) rfl rfl (Nat.le_of_ble_eq_true rfl) hl.1 ⟨Nat.zero_le _, Nat.zero_le _⟩ dX6_copy_8) (fun H locs X => ?_)
  have X : Hx A D S.heap (wf ((q1.1, z.1.2.1, z.1.2.2.1, z.1.2.2.2), (q1.2, z.2.2.1, z.2.2.2.1, z.2.2.2.2))) H locs := X
  refine lv_aload_n hx hb dX6_copy_11 rfl (lv_at hl 0 rfl) ?_
  refine fG B X (LnX6_g (LnP66_s0 L ((q1.1, z.1.2.1, z.1.2.2.1, z.1.2.2.2), (q1.2, z.2.2.1, z.2.2.2.1, z.2.2.2.2))) (q1.1, z.1.2.1, z.1.2.2.1, z.1.2.2.2)) 1 rfl inTX6 (by decide) kw177 rfl dX6_copy_12 ?_
  refine lv_aload_n hx hb dX6_copy_15 rfl (lv_at hl 1 rfl) ?_
  refine fG B X (LnX6_g (LnP66_s1 L ((q1.1, z.1.2.1, z.1.2.2.1, z.1.2.2.2), (q1.2, z.2.2.1, z.2.2.2.1, z.2.2.2.2))) (q1.2, z.2.2.1, z.2.2.2.1, z.2.2.2.2)) 1 rfl inTX6 (by decide) kw177 rfl dX6_copy_16 ?_
  obtain ⟨q2, h2, h⟩ := bs h
  refine kV X (cVN (As := [.ref a8]) (rest := []) B X (tX5_copy (d := d - 1) (LnP55_mk (wf := fun t : SP55 => wf ((q1.1, t.1, z.1.2.2.1, z.1.2.2.2), (q1.2, t.2, z.2.2.2.1, z.2.2.2.2))) (fun t => (LnX6_s1 (LnP66_s0 L ((q1.1, t.1, z.1.2.2.1, z.1.2.2.2), (q1.2, t.2, z.2.2.2.1, z.2.2.2.2))) (q1.1, t.1, z.1.2.2.1, z.1.2.2.2))) (fun t => (LnX6_s1 (LnP66_s1 L ((q1.1, t.1, z.1.2.2.1, z.1.2.2.2), (q1.2, t.2, z.2.2.2.1, z.2.2.2.2))) (q1.2, t.2, z.2.2.2.1, z.2.2.2.2)))) (by omega) h2) mfX5_copy kn790 (by omega) (LnX5_g (LnX6_s1 (LnP66_s0 L ((q1.1, z.1.2.1, z.1.2.2.1, z.1.2.2.2), (q1.2, z.2.2.1, z.2.2.2.1, z.2.2.2.2))) (q1.1, z.1.2.1, z.1.2.2.1, z.1.2.2.2)) z.1.2.1) rfl rfl (Nat.le_of_ble_eq_true rfl) hl.1 ⟨Nat.zero_le _, Nat.zero_le _⟩ dX6_copy_19) (fun H locs X => ?_)
  have X : Hx A D S.heap (wf ((q1.1, q2.1, z.1.2.2.1, z.1.2.2.2), (q1.2, q2.2, z.2.2.2.1, z.2.2.2.2))) H locs := X
  refine lv_aload_n hx hb dX6_copy_22 rfl (lv_at hl 0 rfl) ?_
  refine lv_aload_n hx hb dX6_copy_23 rfl (lv_at hl 1 rfl) ?_
  refine fG B X (LnX6_g (LnP66_s1 L ((q1.1, q2.1, z.1.2.2.1, z.1.2.2.2), (q1.2, q2.2, z.2.2.2.1, z.2.2.2.2))) (q1.2, q2.2, z.2.2.2.1, z.2.2.2.2)) 2 rfl inTX6 (by decide) kw180 rfl dX6_copy_24 ?_
  refine fP tyX6 B X (LnX6_g (LnP66_s0 L ((q1.1, q2.1, z.1.2.2.1, z.1.2.2.2), (q1.2, q2.2, z.2.2.2.1, z.2.2.2.2))) (q1.1, q2.1, z.1.2.2.1, z.1.2.2.2)) 2 (LnX6_i2 (LnP66_s0 L ((q1.1, q2.1, z.1.2.2.1, z.1.2.2.2), (q1.2, q2.2, z.2.2.2.1, z.2.2.2.2))) (q1.1, q2.1, z.1.2.2.1, z.1.2.2.2) _) rfl inTX6 tyX6_ok nmX6 (by decide) kw180 rfl rfl rfl rfl (Nat.le_of_ble_eq_true rfl) dX6_copy_27 (fun H locs X => ?_)
  have X : Hx A D S.heap (wf ((q1.1, q2.1, z.2.2.2.1, z.1.2.2.2), (q1.2, q2.2, z.2.2.2.1, z.2.2.2.2))) H locs := X
  refine lv_aload_n hx hb dX6_copy_30 rfl (lv_at hl 0 rfl) ?_
  refine lv_aload_n hx hb dX6_copy_31 rfl (lv_at hl 1 rfl) ?_
  refine fG B X (LnX6_g (LnP66_s1 L ((q1.1, q2.1, z.2.2.2.1, z.1.2.2.2), (q1.2, q2.2, z.2.2.2.1, z.2.2.2.2))) (q1.2, q2.2, z.2.2.2.1, z.2.2.2.2)) 3 rfl inTX6 (by decide) kw183 rfl dX6_copy_32 ?_
  refine fP tyX6 B X (LnX6_g (LnP66_s0 L ((q1.1, q2.1, z.2.2.2.1, z.1.2.2.2), (q1.2, q2.2, z.2.2.2.1, z.2.2.2.2))) (q1.1, q2.1, z.2.2.2.1, z.1.2.2.2)) 3 (LnX6_i3 (LnP66_s0 L ((q1.1, q2.1, z.2.2.2.1, z.1.2.2.2), (q1.2, q2.2, z.2.2.2.1, z.2.2.2.2))) (q1.1, q2.1, z.2.2.2.1, z.1.2.2.2) _) rfl inTX6 tyX6_ok nmX6 (by decide) kw183 rfl rfl rfl rfl (Nat.le_of_ble_eq_true rfl) dX6_copy_35 (fun H locs X => ?_)
  have X : Hx A D S.heap (wf ((q1.1, q2.1, z.2.2.2.1, z.2.2.2.2), (q1.2, q2.2, z.2.2.2.1, z.2.2.2.2))) H locs := X
  exact rV B X (congrArg wf (Option.some.inj h)) dX6_copy_38
end
