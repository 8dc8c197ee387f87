section
variable {l : Launch} {p : Program} {e : Env} {R : Room} {S : State} {m : MethodId} {args : Array Value} {below : List Frame} {meth : Method} {c : Code} {A : Nat → Prop} {g : Nat → Nat} {D : va_G} {cI cB : ClassId}
def fJ1_canEncode_9a6ad (x0 : Int32) : Option Int32 :=
    if x0 < 0 then (some 0) else
    (if 255 < x0 then (some 0) else
    (some 1))
set_option maxRecDepth 100000 in
set_option maxHeartbeats 4000000 in
theorem tJ1_canEncode_9a6ad {w : va_W} {d : Nat} (hd : 1 ≤ d) {x0 : Int32} {q : Int32} (h : fJ1_canEncode_9a6ad x0 = some q) : Ct l yJ1_canEncode_9a6ad cJ1_canEncode_9a6ad 1 (some .boolean) d A g D [(cI, .int), (cB, .byte)] [.int x0] (w) (QI A D w q) := by
  refine mkM (by decide) (Nat.le_of_ble_eq_true rfl) ?_
  intro p e S m args below meth c B X ls hl
  have B : Bd RJ1 cJ1_canEncode_9a6ad 1 (some .boolean) d A g D [(cI, .int), (cB, .byte)] p (rmd d) S m args meth c := B
  have hx := B.1
  have hb := B.2.1
  have hd1 : 1 ≤ d := by omega
  have hl : lv_has ls 1 [(0, .int x0)] := hl
  unfold fJ1_canEncode_9a6ad at h
  refine lv_iload_n hx hb dJ1_canEncode_9a6ad_0 rfl (lv_at hl 0 rfl) ?_
  refine lv_if_lt (tgt := 15) hx hb dJ1_canEncode_9a6ad_1 (by decide) (fun hc1 => ?_) (fun hc1 => ?_)
  · have h := it h hc1
    refine lv_iconst (v := 0) hx hb dJ1_canEncode_9a6ad_15 (by decide) ?_
    exact rZ B X rfl (Option.some.inj h) rfl dJ1_canEncode_9a6ad_16
  · have h := ie h hc1
    refine lv_iload_n hx hb dJ1_canEncode_9a6ad_4 rfl (lv_at hl 0 rfl) ?_
    refine lv_sipush (v := 255) hx hb dJ1_canEncode_9a6ad_5 (by decide) ?_
    refine lv_icmp_gt (tgt := 15) hx hb dJ1_canEncode_9a6ad_8 (by decide) (fun hc2 => ?_) (fun hc2 => ?_)
    · have h := it h hc2
      refine lv_iconst (v := 0) hx hb dJ1_canEncode_9a6ad_15 (by decide) ?_
      exact rZ B X rfl (Option.some.inj h) rfl dJ1_canEncode_9a6ad_16
    · have h := ie h hc2
      refine lv_iconst (v := 1) hx hb dJ1_canEncode_9a6ad_11 (by decide) ?_
      refine lv_goto (tgt := 16) hx hb dJ1_canEncode_9a6ad_12 (by decide) ?_
      exact rZ B X rfl (Option.some.inj h) rfl dJ1_canEncode_9a6ad_16
def fJ1_indexOfChar_4cfef_b7 : Nat → Int32 → Int32 → Int32 → Option Int32
  | 0, _, _, _ => none
  | n + 1, x3, x4, x5 =>
    if x3 ≤ x5 then (some (-1)) else
    (if x5 < 0 ∨ 5 ≤ x5.toNatClampNeg then none else
    (if (klL.getD x5.toNatClampNeg 0) = x4 then (some x5) else
    (fJ1_indexOfChar_4cfef_b7 n x3 x4 (x5 + 1))))
set_option maxRecDepth 100000 in
set_option maxHeartbeats 4000000 in
theorem tJ1_indexOfChar_4cfef_b7 {w : va_W} {d : Nat} (hd : 1 ≤ d) (B : Bd RJ1 cJ1_indexOfChar_4cfef 6 (some .int) d A g D [(cI, .int), (cB, .byte)] p R S m args meth c) {q : Int32} : ∀ (n : Nat) (x3 : Int32) (x4 : Int32) (x5 : Int32) (H : Heap) (locs : List Loc) (ls : Array Slot), Hx A D S.heap (w) H locs → lv_has ls 6 [(0, .ref (g 2)), (3, .int x3), (4, .int x4), (5, .int x5)] → fJ1_indexOfChar_4cfef_b7 n x3 x4 x5 = some q → W p l e R S m args below meth c H locs 0 0 (MQ below (QI A D w q) args S 0 0 A) (F0 m 7 ls []) := by
  have hx := B.1
  have hb := B.2.1
  have hd1 : 1 ≤ d := by omega
  intro n
  induction n with
  | zero =>
    intro x3 x4 x5 H locs ls X hl h
    cases h
  | succ n ih =>
    intro x3 x4 x5 H locs ls X hl h
    rw [fJ1_indexOfChar_4cfef_b7] at h
    refine lv_iload hx hb dJ1_indexOfChar_4cfef_7 (lv_at hl 3 rfl) ?_
    refine lv_iload_n hx hb dJ1_indexOfChar_4cfef_9 rfl (lv_at hl 1 rfl) ?_
    refine lv_icmp_ge (tgt := 31) hx hb dJ1_indexOfChar_4cfef_10 (by decide) (fun hc1 => ?_) (fun hc1 => ?_)
    · have h := it h hc1
      refine lv_iconst (v := (-1)) hx hb dJ1_indexOfChar_4cfef_31 (by decide) ?_
      exact rI B X rfl (Option.some.inj h) dJ1_indexOfChar_4cfef_32
    · have h := ie h hc1
      refine lv_aload_n hx hb dJ1_indexOfChar_4cfef_13 rfl (lv_at hl 0 rfl) ?_
      refine lv_iload hx hb dJ1_indexOfChar_4cfef_14 (lv_at hl 3 rfl) ?_
      by_cases hc2 : (x5 < 0 ∨ 5 ≤ x5.toNatClampNeg)
      · cases it h hc2
      have h := ie h hc2
      refine va_tb hx hb (Nt.bytes B.2.2.2.2.2.2.2.1) X.2.2 hc2 rfl dJ1_indexOfChar_4cfef_16 ?_
      refine lv_iload hx hb dJ1_indexOfChar_4cfef_17 (lv_at hl 2 rfl) ?_
      refine lv_icmp_ne (tgt := 25) hx hb dJ1_indexOfChar_4cfef_19 (by decide) (fun hc3 => ?_) (fun hc3 => ?_)
      · have h := ie h hc3
        refine lv_iinc (v := x5 + 1) (lv' := [(5, .int (x5 + 1)), (0, .ref (g 2)), (3, .int x3), (4, .int x4)]) hx hb dJ1_indexOfChar_4cfef_25 hl (k := 3) rfl rfl (by decide) rfl (fun ls hl => ?_)
        refine lv_goto (tgt := 7) hx hb dJ1_indexOfChar_4cfef_28 (by decide) ?_
        exact ih x3 x4 (x5 + 1) _ _ _ X (lv_sub hl [1, 2, 3, 0] rfl) h
      · have h := it h hc3
        refine lv_iload hx hb dJ1_indexOfChar_4cfef_22 (lv_at hl 3 rfl) ?_
        exact rI B X rfl (Option.some.inj h) dJ1_indexOfChar_4cfef_24
def fJ1_indexOfChar_4cfef (x1 : Int32) (x2 : Int32) (x3 : Int32) : Option Int32 :=
    fJ1_indexOfChar_4cfef_b7 1000 x3 (x1.toInt8.toInt32) x2
set_option maxRecDepth 100000 in
set_option maxHeartbeats 4000000 in
theorem tJ1_indexOfChar_4cfef {w : va_W} {d : Nat} (hd : 1 ≤ d) {x1 x2 x3 : Int32} {q : Int32} (h : fJ1_indexOfChar_4cfef x1 x2 x3 = some q) : Ct l yJ1_indexOfChar_4cfef cJ1_indexOfChar_4cfef 6 (some .int) d A g D [(cI, .int), (cB, .byte)] [.ref (g 2), .int x1, .int x2, .int x3] (w) (QI A D w q) := by
  refine mkM (by decide) (Nat.le_of_ble_eq_true rfl) ?_
  intro p e S m args below meth c B X ls hl
  have B : Bd RJ1 cJ1_indexOfChar_4cfef 6 (some .int) d A g D [(cI, .int), (cB, .byte)] p (rmd d) S m args meth c := B
  have hx := B.1
  have hb := B.2.1
  have hd1 : 1 ≤ d := by omega
  have hl : lv_has ls 6 [(0, .ref (g 2)), (1, .int x1), (2, .int x2), (3, .int x3)] := hl
  unfold fJ1_indexOfChar_4cfef at h
  refine lv_iload_n hx hb dJ1_indexOfChar_4cfef_0 rfl (lv_at hl 1 rfl) ?_
  refine lv_i2b hx hb dJ1_indexOfChar_4cfef_1 rfl ?_
  refine lv_istore (lv' := [(4, .int (x1.toInt8.toInt32)), (0, .ref (g 2)), (1, .int x1), (2, .int x2), (3, .int x3)]) hx hb dJ1_indexOfChar_4cfef_2 hl (by decide) rfl (fun ls hl => ?_)
  refine lv_iload_n hx hb dJ1_indexOfChar_4cfef_4 rfl (lv_at hl 3 rfl) ?_
  refine lv_istore (lv' := [(5, .int x2), (4, .int (x1.toInt8.toInt32)), (0, .ref (g 2)), (1, .int x1), (2, .int x2), (3, .int x3)]) hx hb dJ1_indexOfChar_4cfef_5 hl (by decide) rfl (fun ls hl => ?_)
  exact tJ1_indexOfChar_4cfef_b7 hd B 1000 x3 (x1.toInt8.toInt32) x2 _ _ _ X (lv_sub hl [2, 5, 1, 0] rfl) h
def fJ1_indexOf_4cfef (x1 : Int32) (x2 : Int32) (x3 : Int32) : Option Int32 :=
    (fJ1_canEncode_9a6ad x1).bind fun q1 =>
    if q1 = 0 then (some (-1)) else
    (if (if x2 < 0 then 0 else x2) < (if 5 < x3 then 5 else x3) then ((fJ1_indexOfChar_4cfef x1 (if x2 < 0 then 0 else x2) (if 5 < x3 then 5 else x3)).bind fun q4 =>
    some q4) else
    (some (-1)))
set_option maxRecDepth 100000 in
set_option maxHeartbeats 4000000 in
theorem tJ1_indexOf_4cfef {w : va_W} {d : Nat} (hd : 2 ≤ d) {x1 x2 x3 : Int32} {q : Int32} (h : fJ1_indexOf_4cfef x1 x2 x3 = some q) : Ct l yJ1_indexOf_4cfef cJ1_indexOf_4cfef 4 (some .int) d A g D [(cI, .int), (cB, .byte)] [.ref (g 2), .int x1, .int x2, .int x3] (w) (QI A D w q) := by
  refine mkM (by decide) (Nat.le_of_ble_eq_true rfl) ?_
  intro p e S m args below meth c B X ls hl
  have B : Bd RJ1 cJ1_indexOf_4cfef 4 (some .int) d A g D [(cI, .int), (cB, .byte)] p (rmd d) S m args meth c := B
  have hx := B.1
  have hb := B.2.1
  have hd1 : 1 ≤ d := by omega
  have hl : lv_has ls 4 [(0, .ref (g 2)), (1, .int x1), (2, .int x2), (3, .int x3)] := hl
  unfold fJ1_indexOf_4cfef at h
  refine lv_iload_n hx hb dJ1_indexOf_4cfef_0 rfl (lv_at hl 1 rfl) ?_
  obtain ⟨q1, h1, h⟩ := bs h
  refine kI X (cS (As := [.int x1]) (rest := []) B X (tJ1_canEncode_9a6ad (d := d - 1) (by omega) h1) msJ1_canEncode_9a6ad kw386 (by omega) rfl (Nat.le_of_ble_eq_true rfl) hl.1 ⟨Nat.zero_le _, Nat.zero_le _⟩ dJ1_indexOf_4cfef_1) (fun H locs X => ?_)
  refine lv_if_ne (tgt := 9) hx hb dJ1_indexOf_4cfef_4 (by decide) (fun hc2 => ?_) (fun hc2 => ?_)
  · have h := ie h hc2
    refine lv_iload_n hx hb dJ1_indexOf_4cfef_9 rfl (lv_at hl 2 rfl) ?_
    refine lv_iconst (v := 0) hx hb dJ1_indexOf_4cfef_10 (by decide) ?_
    refine kMax B kw389 hd1 (Nat.le_of_ble_eq_true rfl) hl.1 ⟨Nat.zero_le _, Nat.zero_le _⟩ dJ1_indexOf_4cfef_11 ?_
    refine lv_istore_n (lv' := [(2, .int (if x2 < 0 then 0 else x2)), (0, .ref (g 2)), (1, .int x1), (3, .int x3)]) hx hb dJ1_indexOf_4cfef_14 rfl hl (by decide) rfl (fun ls hl => ?_)
    refine lv_iload_n hx hb dJ1_indexOf_4cfef_15 rfl (lv_at hl 3 rfl) ?_
    refine lv_aload_n hx hb dJ1_indexOf_4cfef_16 rfl (lv_at hl 1 rfl) ?_
    refine va_tlen (v := 5) hx hb (Nt.bytes B.2.2.2.2.2.2.2.1) X.2.2 (by decide) dJ1_indexOf_4cfef_17 ?_
    refine kMin B kw392 hd1 (Nat.le_of_ble_eq_true rfl) hl.1 ⟨Nat.zero_le _, Nat.zero_le _⟩ dJ1_indexOf_4cfef_18 ?_
    refine lv_istore_n (lv' := [(3, .int (if 5 < x3 then 5 else x3)), (2, .int (if x2 < 0 then 0 else x2)), (0, .ref (g 2)), (1, .int x1)]) hx hb dJ1_indexOf_4cfef_21 rfl hl (by decide) rfl (fun ls hl => ?_)
    refine lv_iload_n hx hb dJ1_indexOf_4cfef_22 rfl (lv_at hl 1 rfl) ?_
    refine lv_iload_n hx hb dJ1_indexOf_4cfef_23 rfl (lv_at hl 0 rfl) ?_
    refine lv_icmp_lt (tgt := 29) hx hb dJ1_indexOf_4cfef_24 (by decide) (fun hc3 => ?_) (fun hc3 => ?_)
    · have h := it h hc3
      refine lv_aload_n hx hb dJ1_indexOf_4cfef_29 rfl (lv_at hl 2 rfl) ?_
      refine lv_iload_n hx hb dJ1_indexOf_4cfef_30 rfl (lv_at hl 3 rfl) ?_
      refine lv_iload_n hx hb dJ1_indexOf_4cfef_31 rfl (lv_at hl 1 rfl) ?_
      refine lv_iload_n hx hb dJ1_indexOf_4cfef_32 rfl (lv_at hl 0 rfl) ?_
      obtain ⟨q4, h4, h⟩ := bs h
      refine kI X (cS (As := [.ref (g 2), .int x1, .int (if x2 < 0 then 0 else x2), .int (if 5 < x3 then 5 else x3)]) (rest := []) B X (tJ1_indexOfChar_4cfef (d := d - 1) (by omega) h4) msJ1_indexOfChar_4cfef kw395 (by omega) rfl (Nat.le_of_ble_eq_true rfl) hl.1 ⟨Nat.zero_le _, Nat.zero_le _⟩ dJ1_indexOf_4cfef_33) (fun H locs X => ?_)
      exact rI B X rfl (Option.some.inj h) dJ1_indexOf_4cfef_36
    · have h := ie h hc3
      refine lv_iconst (v := (-1)) hx hb dJ1_indexOf_4cfef_27 (by decide) ?_
      exact rI B X rfl (Option.some.inj h) dJ1_indexOf_4cfef_28
  · have h := it h hc2
    refine lv_iconst (v := (-1)) hx hb dJ1_indexOf_4cfef_7 (by decide) ?_
    exact rI B X rfl (Option.some.inj h) dJ1_indexOf_4cfef_8
def fJ0_isLatin1_aae02 : Option Int32 :=
    some 1
set_option maxRecDepth 100000 in
set_option maxHeartbeats 4000000 in
theorem tJ0_isLatin1_aae02 {w : va_W} {d : Nat} (hd : 1 ≤ d) {q : Int32} (h : fJ0_isLatin1_aae02  = some q) : Ct l yJ0_isLatin1_aae02 cJ0_isLatin1_aae02 1 (some .boolean) d A g D [(cI, .int), (cB, .byte)] [.ref (g 1)] (w) (QI A D w q) := by
  refine mkM (by decide) (Nat.le_of_ble_eq_true rfl) ?_
  intro p e S m args below meth c B X ls hl
  have B : Bd RJ0 cJ0_isLatin1_aae02 1 (some .boolean) d A g D [(cI, .int), (cB, .byte)] p (rmd d) S m args meth c := B
  have hx := B.1
  have hb := B.2.1
  have hd1 : 1 ≤ d := by omega
  have hl : lv_has ls 1 [(0, .ref (g 1))] := hl
  unfold fJ0_isLatin1_aae02 at h
  refine va_gets hx hb B.2.2.2.2.2.2.2.1.2.2.2.2.2 X.2.2 B.2.2.2.1 (B.2.2.2.2.1 _ kw373) (fun _ h => h) dJ0_isLatin1_aae02_0 ?_
  refine lv_if_eq (tgt := 17) hx hb dJ0_isLatin1_aae02_3 (by decide) (fun hc1 => ?_) (fun hc1 => ?_)
  · exact absurd hc1 (by decide)
  refine lv_aload_n hx hb dJ0_isLatin1_aae02_6 rfl (lv_at hl 0 rfl) ?_
  refine vk_getf hx hb (Nt.coder B.2.2.2.2.2.2.2.1) X.2.2 B.2.2.2.1 (B.2.2.2.2.1 _ kw1349) (fun _ h => h) dJ0_isLatin1_aae02_7 ?_
  refine lv_if_ne (tgt := 17) hx hb dJ0_isLatin1_aae02_10 (by decide) (fun hc2 => ?_) (fun hc2 => ?_)
  · exact absurd hc2 (by decide)
  refine lv_iconst (v := 1) hx hb dJ0_isLatin1_aae02_13 (by decide) ?_
  refine lv_goto (tgt := 18) hx hb dJ0_isLatin1_aae02_14 (by decide) ?_
  exact rZ B X rfl (Option.some.inj h) rfl dJ0_isLatin1_aae02_18
def fJ0_coder_7d493 : Option Int32 :=
    some 0
set_option maxRecDepth 100000 in
set_option maxHeartbeats 4000000 in
theorem tJ0_coder_7d493 {w : va_W} {d : Nat} (hd : 1 ≤ d) {q : Int32} (h : fJ0_coder_7d493  = some q) : Ct l yJ0_coder_7d493 cJ0_coder_7d493 1 (some .byte) d A g D [(cI, .int), (cB, .byte)] [.ref (g 1)] (w) (QI A D w q) := by
  refine mkM (by decide) (Nat.le_of_ble_eq_true rfl) ?_
  intro p e S m args below meth c B X ls hl
  have B : Bd RJ0 cJ0_coder_7d493 1 (some .byte) d A g D [(cI, .int), (cB, .byte)] p (rmd d) S m args meth c := B
  have hx := B.1
  have hb := B.2.1
  have hd1 : 1 ≤ d := by omega
  have hl : lv_has ls 1 [(0, .ref (g 1))] := hl
  unfold fJ0_coder_7d493 at h
  refine va_gets hx hb B.2.2.2.2.2.2.2.1.2.2.2.2.2 X.2.2 B.2.2.2.1 (B.2.2.2.2.1 _ kw373) (fun _ h => h) dJ0_coder_7d493_0 ?_
  refine lv_if_eq (tgt := 13) hx hb dJ0_coder_7d493_3 (by decide) (fun hc1 => ?_) (fun hc1 => ?_)
  · exact absurd hc1 (by decide)
  refine lv_aload_n hx hb dJ0_coder_7d493_6 rfl (lv_at hl 0 rfl) ?_
  refine vk_getf hx hb (Nt.coder B.2.2.2.2.2.2.2.1) X.2.2 B.2.2.2.1 (B.2.2.2.2.1 _ kw1349) (fun _ h => h) dJ0_coder_7d493_7 ?_
  refine lv_goto (tgt := 14) hx hb dJ0_coder_7d493_10 (by decide) ?_
  exact rB B X rfl (Option.some.inj h) rfl dJ0_coder_7d493_14
def fJ0_length_8abf5 : Option Int32 :=
    (fJ0_coder_7d493 ).bind fun q1 =>
    some (5 >>> (q1 &&& 31))
set_option maxRecDepth 100000 in
set_option maxHeartbeats 4000000 in
theorem tJ0_length_8abf5 {w : va_W} {d : Nat} (hd : 2 ≤ d) {q : Int32} (h : fJ0_length_8abf5  = some q) : Ct l yJ0_length_8abf5 cJ0_length_8abf5 1 (some .int) d A g D [(cI, .int), (cB, .byte)] [.ref (g 1)] (w) (QI A D w q) := by
  refine mkM (by decide) (Nat.le_of_ble_eq_true rfl) ?_
  intro p e S m args below meth c B X ls hl
  have B : Bd RJ0 cJ0_length_8abf5 1 (some .int) d A g D [(cI, .int), (cB, .byte)] p (rmd d) S m args meth c := B
  have hx := B.1
  have hb := B.2.1
  have hd1 : 1 ≤ d := by omega
  have hl : lv_has ls 1 [(0, .ref (g 1))] := hl
  unfold fJ0_length_8abf5 at h
  refine lv_aload_n hx hb dJ0_length_8abf5_0 rfl (lv_at hl 0 rfl) ?_
  refine vk_getf hx hb (Nt.val B.2.2.2.2.2.2.2.1) X.2.2 B.2.2.2.1 (B.2.2.2.2.1 _ kw1350) (fun _ h => h) dJ0_length_8abf5_1 ?_
  refine va_tlen (v := 5) hx hb (Nt.bytes B.2.2.2.2.2.2.2.1) X.2.2 (by decide) dJ0_length_8abf5_4 ?_
  refine lv_aload_n hx hb dJ0_length_8abf5_5 rfl (lv_at hl 0 rfl) ?_
  obtain ⟨q1, h1, h⟩ := bs h
  refine kI X (cVS (As := []) (rest := [.int 5]) B X (tJ0_coder_7d493 (d := d - 1) (by omega) h1) mfJ0_coder_7d493 kw379 (by omega) rfl (Nat.le_of_ble_eq_true rfl) hl.1 ⟨Nat.zero_le _, Nat.zero_le _⟩ dJ0_length_8abf5_6) (fun H locs X => ?_)
  refine lv_ishr hx hb dJ0_length_8abf5_9 ?_
  exact rI B X rfl (Option.some.inj h) dJ0_length_8abf5_10
def fJ0_indexOf_7cf53 (x1 : Int32) (x2 : Int32) : Option Int32 :=
    (fJ0_isLatin1_aae02 ).bind fun q1 =>
    if q1 = 0 then ((fJ0_length_8abf5 ).bind fun q3 =>
    none) else
    ((fJ0_length_8abf5 ).bind fun q4 =>
    (fJ1_indexOf_4cfef x1 x2 q4).bind fun q5 =>
    some q5)
set_option maxRecDepth 100000 in
set_option maxHeartbeats 4000000 in
theorem tJ0_indexOf_7cf53 {w : va_W} {d : Nat} (hd : 3 ≤ d) {x1 x2 : Int32} {q : Int32} (h : fJ0_indexOf_7cf53 x1 x2 = some q) : Ct l yJ0_indexOf_7cf53 cJ0_indexOf_7cf53 3 (some .int) d A g D [(cI, .int), (cB, .byte)] [.ref (g 1), .int x1, .int x2] (w) (QI A D w q) := by
  refine mkM (by decide) (Nat.le_of_ble_eq_true rfl) ?_
  intro p e S m args below meth c B X ls hl
  have B : Bd RJ0 cJ0_indexOf_7cf53 3 (some .int) d A g D [(cI, .int), (cB, .byte)] p (rmd d) S m args meth c := B
  have hx := B.1
  have hb := B.2.1
  have hd1 : 1 ≤ d := by omega
  have hl : lv_has ls 3 [(0, .ref (g 1)), (1, .int x1), (2, .int x2)] := hl
  unfold fJ0_indexOf_7cf53 at h
  refine lv_aload_n hx hb dJ0_indexOf_7cf53_0 rfl (lv_at hl 0 rfl) ?_
  obtain ⟨q1, h1, h⟩ := bs h
  refine kI X (cVS (As := []) (rest := []) B X (tJ0_isLatin1_aae02 (d := d - 1) (by omega) h1) mfJ0_isLatin1_aae02 kw369 (by omega) rfl (Nat.le_of_ble_eq_true rfl) hl.1 ⟨Nat.zero_le _, Nat.zero_le _⟩ dJ0_indexOf_7cf53_1) (fun H locs X => ?_)
  refine lv_if_eq (tgt := 23) hx hb dJ0_indexOf_7cf53_4 (by decide) (fun hc2 => ?_) (fun hc2 => ?_)
  · have h := it h hc2
    refine lv_aload_n hx hb dJ0_indexOf_7cf53_23 rfl (lv_at hl 0 rfl) ?_
    refine vk_getf hx hb (Nt.val B.2.2.2.2.2.2.2.1) X.2.2 B.2.2.2.1 (B.2.2.2.2.1 _ kw1350) (fun _ h => h) dJ0_indexOf_7cf53_24 ?_
    refine lv_iload_n hx hb dJ0_indexOf_7cf53_27 rfl (lv_at hl 1 rfl) ?_
    refine lv_iload_n hx hb dJ0_indexOf_7cf53_28 rfl (lv_at hl 2 rfl) ?_
    refine lv_aload_n hx hb dJ0_indexOf_7cf53_29 rfl (lv_at hl 0 rfl) ?_
    obtain ⟨q3, h3, h⟩ := bs h
    refine kI X (cVS (As := []) (rest := [.int x2, .int x1, .ref (g 2)]) B X (tJ0_length_8abf5 (d := d - 1) (by omega) h3) mfJ0_length_8abf5 kw375 (by omega) rfl (Nat.le_of_ble_eq_true rfl) hl.1 ⟨Nat.zero_le _, Nat.zero_le _⟩ dJ0_indexOf_7cf53_30) (fun H locs X => ?_)
    cases h
  · have h := ie h hc2
    refine lv_aload_n hx hb dJ0_indexOf_7cf53_7 rfl (lv_at hl 0 rfl) ?_
    refine vk_getf hx hb (Nt.val B.2.2.2.2.2.2.2.1) X.2.2 B.2.2.2.1 (B.2.2.2.2.1 _ kw1350) (fun _ h => h) dJ0_indexOf_7cf53_8 ?_
    refine lv_iload_n hx hb dJ0_indexOf_7cf53_11 rfl (lv_at hl 1 rfl) ?_
    refine lv_iload_n hx hb dJ0_indexOf_7cf53_12 rfl (lv_at hl 2 rfl) ?_
    refine lv_aload_n hx hb dJ0_indexOf_7cf53_13 rfl (lv_at hl 0 rfl) ?_
    obtain ⟨q4, h4, h⟩ := bs h
    refine kI X (cVS (As := []) (rest := [.int x2, .int x1, .ref (g 2)]) B X (tJ0_length_8abf5 (d := d - 1) (by omega) h4) mfJ0_length_8abf5 kw375 (by omega) rfl (Nat.le_of_ble_eq_true rfl) hl.1 ⟨Nat.zero_le _, Nat.zero_le _⟩ dJ0_indexOf_7cf53_14) (fun H locs X => ?_)
    obtain ⟨q5, h5, h⟩ := bs h
    refine kI X (cS (As := [.ref (g 2), .int x1, .int x2, .int q4]) (rest := []) B X (tJ1_indexOf_4cfef (d := d - 1) (by omega) h5) msJ1_indexOf_4cfef kw383 (by omega) rfl (Nat.le_of_ble_eq_true rfl) hl.1 ⟨Nat.zero_le _, Nat.zero_le _⟩ dJ0_indexOf_7cf53_17) (fun H locs X => ?_)
    refine lv_goto (tgt := 36) hx hb dJ0_indexOf_7cf53_20 (by decide) ?_
    exact rI B X rfl (Option.some.inj h) dJ0_indexOf_7cf53_36
def fJ0_indexOf_0f7a4 (x1 : Int32) : Option Int32 :=
    (fJ0_indexOf_7cf53 x1 0).bind fun q1 =>
    some q1
set_option maxRecDepth 100000 in
set_option maxHeartbeats 4000000 in
theorem tJ0_indexOf_0f7a4 {w : va_W} {d : Nat} (hd : 4 ≤ d) {x1 : Int32} {q : Int32} (h : fJ0_indexOf_0f7a4 x1 = some q) : Ct l yJ0_indexOf_0f7a4 cJ0_indexOf_0f7a4 2 (some .int) d A g D [(cI, .int), (cB, .byte)] [.ref (g 1), .int x1] (w) (QI A D w q) := by
  refine mkM (by decide) (Nat.le_of_ble_eq_true rfl) ?_
  intro p e S m args below meth c B X ls hl
  have B : Bd RJ0 cJ0_indexOf_0f7a4 2 (some .int) d A g D [(cI, .int), (cB, .byte)] p (rmd d) S m args meth c := B
  have hx := B.1
  have hb := B.2.1
  have hd1 : 1 ≤ d := by omega
  have hl : lv_has ls 2 [(0, .ref (g 1)), (1, .int x1)] := hl
  unfold fJ0_indexOf_0f7a4 at h
  refine lv_aload_n hx hb dJ0_indexOf_0f7a4_0 rfl (lv_at hl 0 rfl) ?_
  refine lv_iload_n hx hb dJ0_indexOf_0f7a4_1 rfl (lv_at hl 1 rfl) ?_
  refine lv_iconst (v := 0) hx hb dJ0_indexOf_0f7a4_2 (by decide) ?_
  obtain ⟨q1, h1, h⟩ := bs h
  refine kI X (cVS (As := [.int x1, .int 0]) (rest := []) B X (tJ0_indexOf_7cf53 (d := d - 1) (by omega) h1) mfJ0_indexOf_7cf53 kw365 (by omega) rfl (Nat.le_of_ble_eq_true rfl) hl.1 ⟨Nat.zero_le _, Nat.zero_le _⟩ dJ0_indexOf_0f7a4_3) (fun H locs X => ?_)
  exact rI B X rfl (Option.some.inj h) dJ0_indexOf_0f7a4_6
def fX2_kindOf (x0 : Int32) : Option Int32 :=
    (fJ0_indexOf_0f7a4 ((x0.toUInt32 % 65536).toInt32)).bind fun q1 =>
    some q1
set_option maxRecDepth 100000 in
set_option maxHeartbeats 4000000 in
theorem tX2_kindOf {w : va_W} {d : Nat} (hd : 5 ≤ d) {x0 : Int32} {q : Int32} (h : fX2_kindOf x0 = some q) : Ct l yX2_kindOf cX2_kindOf 1 (some .int) d A g D [(cI, .int), (cB, .byte)] [.int x0] (w) (QI A D w q) := by
  refine mkM (by decide) (Nat.le_of_ble_eq_true rfl) ?_
  intro p e S m args below meth c B X ls hl
  have B : Bd RX2 cX2_kindOf 1 (some .int) d A g D [(cI, .int), (cB, .byte)] p (rmd d) S m args meth c := B
  have hx := B.1
  have hb := B.2.1
  have hd1 : 1 ≤ d := by omega
  have hl : lv_has ls 1 [(0, .int x0)] := hl
  unfold fX2_kindOf at h
  refine va_ldcS hx hb B.2.2.2.1 B.2.2.2.2.2.2.2.1.2.2.2.1 dX2_kindOf_0 ?_
  refine lv_iload_n hx hb dX2_kindOf_2 rfl (lv_at hl 0 rfl) ?_
  refine lv_i2c hx hb dX2_kindOf_3 rfl ?_
  obtain ⟨q1, h1, h⟩ := bs h
  refine kI X (cVS (As := [.int ((x0.toUInt32 % 65536).toInt32)]) (rest := []) B X (tJ0_indexOf_0f7a4 (d := d - 1) (by omega) h1) mfJ0_indexOf_0f7a4 kw361 (by omega) rfl (Nat.le_of_ble_eq_true rfl) hl.1 ⟨Nat.zero_le _, Nat.zero_le _⟩ dX2_kindOf_4) (fun H locs X => ?_)
  exact rI B X rfl (Option.some.inj h) dX2_kindOf_7
end
