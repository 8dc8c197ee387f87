section
variable {l : Launch} {p : Program} {e : Env} {R : Room} {S : State} {m : MethodId} {args : Array Value} {below : List Frame} {meth : Method} {c : Code} {A : Nat → Prop} {g : Nat → Nat} {D : va_G} {cI cB : ClassId}
def fX8_within (x0 : Int32) (x1 : Int32) (x2 : Int32) : Option Int32 :=
    if x0 < x1 then (some 0) else
    (if x2 < x0 then (some 0) else
    (some 1))
set_option maxRecDepth 100000 in
set_option maxHeartbeats 4000000 in
theorem tX8_within {w : va_W} {d : Nat} (hd : 1 ≤ d) {x0 x1 x2 : Int32} {q : Int32} (h : fX8_within x0 x1 x2 = some q) : Ct l yX8_within cX8_within 3 (some .boolean) d A g D [(cI, .int), (cB, .byte)] [.int x0, .int x1, .int x2] (w) (QI A D w q) := by
  refine mkM (by decide) (Nat.le_of_ble_eq_true rfl) ?_
  intro p e S m args below meth c B X ls hl
  have B : Bd RX8 cX8_within 3 (some .boolean) d A g D [(cI, .int), (cB, .byte)] p (rmd d) S m args meth c := B
  have hx := B.1
  have hb := B.2.1
  have hd1 : 1 ≤ d := by omega
  have hl : lv_has ls 3 [(0, .int x0), (1, .int x1), (2, .int x2)] := hl
  unfold fX8_within at h
  refine lv_iload_n hx hb dX8_within_0 rfl (lv_at hl 0 rfl) ?_
  refine lv_iload_n hx hb dX8_within_1 rfl (lv_at hl 1 rfl) ?_
  refine lv_icmp_lt (tgt := 14) hx hb dX8_within_2 (by decide) (fun hc1 => ?_) (fun hc1 => ?_)
  · have h := it h hc1
    refine lv_iconst (v := 0) hx hb dX8_within_14 (by decide) ?_
    exact rZ B X rfl (Option.some.inj h) rfl dX8_within_15
  · have h := ie h hc1
    refine lv_iload_n hx hb dX8_within_5 rfl (lv_at hl 0 rfl) ?_
    refine lv_iload_n hx hb dX8_within_6 rfl (lv_at hl 2 rfl) ?_
    refine lv_icmp_gt (tgt := 14) hx hb dX8_within_7 (by decide) (fun hc2 => ?_) (fun hc2 => ?_)
    · have h := it h hc2
      refine lv_iconst (v := 0) hx hb dX8_within_14 (by decide) ?_
      exact rZ B X rfl (Option.some.inj h) rfl dX8_within_15
    · have h := ie h hc2
      refine lv_iconst (v := 1) hx hb dX8_within_10 (by decide) ?_
      refine lv_goto (tgt := 15) hx hb dX8_within_11 (by decide) ?_
      exact rZ B X rfl (Option.some.inj h) rfl dX8_within_15
def fX8_isIn (x0 : Int32) (x1 : Int32) : Option Int32 :=
    if ((x0 >>> (x1 &&& 31)) &&& 1) = 1 then (some 1) else
    (some 0)
set_option maxRecDepth 100000 in
set_option maxHeartbeats 4000000 in
theorem tX8_isIn {w : va_W} {d : Nat} (hd : 1 ≤ d) {x0 x1 : Int32} {q : Int32} (h : fX8_isIn x0 x1 = some q) : Ct l yX8_isIn cX8_isIn 2 (some .boolean) d A g D [(cI, .int), (cB, .byte)] [.int x0, .int x1] (w) (QI A D w q) := by
  refine mkM (by decide) (Nat.le_of_ble_eq_true rfl) ?_
  intro p e S m args below meth c B X ls hl
  have B : Bd RX8 cX8_isIn 2 (some .boolean) d A g D [(cI, .int), (cB, .byte)] p (rmd d) S m args meth c := B
  have hx := B.1
  have hb := B.2.1
  have hd1 : 1 ≤ d := by omega
  have hl : lv_has ls 2 [(0, .int x0), (1, .int x1)] := hl
  unfold fX8_isIn at h
  refine lv_iload_n hx hb dX8_isIn_0 rfl (lv_at hl 0 rfl) ?_
  refine lv_iload_n hx hb dX8_isIn_1 rfl (lv_at hl 1 rfl) ?_
  refine lv_ishr hx hb dX8_isIn_2 ?_
  refine lv_iconst (v := 1) hx hb dX8_isIn_3 (by decide) ?_
  refine lv_iand hx hb dX8_isIn_4 ?_
  refine lv_iconst (v := 1) hx hb dX8_isIn_5 (by decide) ?_
  refine lv_icmp_ne (tgt := 13) hx hb dX8_isIn_6 (by decide) (fun hc1 => ?_) (fun hc1 => ?_)
  · have h := ie h hc1
    refine lv_iconst (v := 0) hx hb dX8_isIn_13 (by decide) ?_
    exact rZ B X rfl (Option.some.inj h) rfl dX8_isIn_14
  · have h := it h hc1
    refine lv_iconst (v := 1) hx hb dX8_isIn_9 (by decide) ?_
    refine lv_goto (tgt := 14) hx hb dX8_isIn_10 (by decide) ?_
    exact rZ B X rfl (Option.some.inj h) rfl dX8_isIn_14
def fX8_size_b4 : Nat → Int32 → Int32 → Int32 → Option Int32
  | 0, _, _, _ => none
  | n + 1, x0, x1, x2 =>
    if 16 ≤ x2 then (some x1) else
    (fX8_size_b4 n x0 (x1 + ((x0 >>> (x2 &&& 31)) &&& 1)) (x2 + 1))
set_option maxRecDepth 100000 in
set_option maxHeartbeats 4000000 in
theorem tX8_size_b4 {w : va_W} {d : Nat} (hd : 1 ≤ d) (B : Bd RX8 cX8_size 3 (some .int) d A g D [(cI, .int), (cB, .byte)] p R S m args meth c) {q : Int32} : ∀ (n : Nat) (x0 : Int32) (x1 : Int32) (x2 : Int32) (H : Heap) (locs : List Loc) (ls : Array Slot), Hx A D S.heap (w) H locs → lv_has ls 3 [(0, .int x0), (1, .int x1), (2, .int x2)] → fX8_size_b4 n x0 x1 x2 = some q → W p l e R S m args below meth c H locs 0 0 (MQ below (QI A D w q) args S 0 0 A) (F0 m 4 ls []) := by
  have hx := B.1
  have hb := B.2.1
  have hd1 : 1 ≤ d := by omega
  intro n
  induction n with
  | zero =>
    intro x0 x1 x2 H locs ls X hl h
    cases h
  | succ n ih =>
    intro x0 x1 x2 H locs ls X hl h
    rw [fX8_size_b4] at h
    refine lv_iload_n hx hb dX8_size_4 rfl (lv_at hl 2 rfl) ?_
    refine lv_bipush (v := 16) hx hb dX8_size_5 (by decide) ?_
    refine lv_icmp_ge (tgt := 24) hx hb dX8_size_7 (by decide) (fun hc1 => ?_) (fun hc1 => ?_)
    · have h := it h hc1
      refine lv_iload_n hx hb dX8_size_24 rfl (lv_at hl 1 rfl) ?_
      exact rI B X rfl (Option.some.inj h) dX8_size_25
    · have h := ie h hc1
      refine lv_iload_n hx hb dX8_size_10 rfl (lv_at hl 1 rfl) ?_
      refine lv_iload_n hx hb dX8_size_11 rfl (lv_at hl 0 rfl) ?_
      refine lv_iload_n hx hb dX8_size_12 rfl (lv_at hl 2 rfl) ?_
      refine lv_ishr hx hb dX8_size_13 ?_
      refine lv_iconst (v := 1) hx hb dX8_size_14 (by decide) ?_
      refine lv_iand hx hb dX8_size_15 ?_
      refine lv_iadd hx hb dX8_size_16 ?_
      refine lv_istore_n (lv' := [(1, .int (x1 + ((x0 >>> (x2 &&& 31)) &&& 1))), (0, .int x0), (2, .int x2)]) hx hb dX8_size_17 rfl hl (by decide) rfl (fun ls hl => ?_)
      refine lv_iinc (v := x2 + 1) (lv' := [(2, .int (x2 + 1)), (1, .int (x1 + ((x0 >>> (x2 &&& 31)) &&& 1))), (0, .int x0)]) hx hb dX8_size_18 hl (k := 2) rfl rfl (by decide) rfl (fun ls hl => ?_)
      refine lv_goto (tgt := 4) hx hb dX8_size_21 (by decide) ?_
      exact ih x0 (x1 + ((x0 >>> (x2 &&& 31)) &&& 1)) (x2 + 1) _ _ _ X (lv_sub hl [2, 1, 0] rfl) h
def fX8_size (x0 : Int32) : Option Int32 :=
    fX8_size_b4 1000 x0 0 0
set_option maxRecDepth 100000 in
set_option maxHeartbeats 4000000 in
theorem tX8_size {w : va_W} {d : Nat} (hd : 1 ≤ d) {x0 : Int32} {q : Int32} (h : fX8_size x0 = some q) : Ct l yX8_size cX8_size 3 (some .int) d A g D [(cI, .int), (cB, .byte)] [.int x0] (w) (QI A D w q) := by
  refine mkM (by decide) (Nat.le_of_ble_eq_true rfl) ?_
  intro p e S m args below meth c B X ls hl
  have B : Bd RX8 cX8_size 3 (some .int) d A g D [(cI, .int), (cB, .byte)] p (rmd d) S m args meth c := B
  have hx := B.1
  have hb := B.2.1
  have hd1 : 1 ≤ d := by omega
  have hl : lv_has ls 3 [(0, .int x0)] := hl
  unfold fX8_size at h
  refine lv_iconst (v := 0) hx hb dX8_size_0 (by decide) ?_
  refine lv_istore_n (lv' := [(1, .int 0), (0, .int x0)]) hx hb dX8_size_1 rfl hl (by decide) rfl (fun ls hl => ?_)
  refine lv_iconst (v := 0) hx hb dX8_size_2 (by decide) ?_
  refine lv_istore_n (lv' := [(2, .int 0), (1, .int 0), (0, .int x0)]) hx hb dX8_size_3 rfl hl (by decide) rfl (fun ls hl => ?_)
  exact tX8_size_b4 hd B 1000 x0 0 0 _ _ _ X (lv_sub hl [2, 1, 0] rfl) h
def fX8_letter (z : SX8) (x1 : Int32) : Option (Int32 × SX8) :=
    (fX8_within x1 32 126).bind fun q1 =>
    if q1 = 0 then (some ((-102), z)) else
    (if (z.1 9) = 36 then (some ((-104), z)) else
    (if (z.1 9) < 0 ∨ 36 ≤ (z.1 9).toNatClampNeg then none else
    (some (((z.1 9) + 1), ((upd z.1 9 ((z.1 9) + 1)), z.2.1, (va_up z.2.2 10 (upd (z.2.2 10) (z.1 9).toNatClampNeg (vp_nar .byte (x1.toInt8.toInt32)))))))))
set_option maxRecDepth 100000 in
set_option maxHeartbeats 4000000 in
theorem tX8_letter {a q : Nat → Nat} {wf : SX8 → va_W} (L : LnX8 a q cI cB wf) {d : Nat} (hd : 2 ≤ d) {z : SX8} {x1 : Int32} {q : Int32 × SX8} (h : fX8_letter z x1 = some q) : Ct l yX8_letter cX8_letter 2 (some .int) d A g D [(cI, .int), (cB, .byte)] [.ref (a 0), .int x1] (wf z) (QI A D (wf q.2) q.1) := by
  refine mkM (by decide) (Nat.le_of_ble_eq_true rfl) ?_
  intro p e S m args below meth c B X ls hl
  have B : Bd RX8 cX8_letter 2 (some .int) d A g D [(cI, .int), (cB, .byte)] p (rmd d) S m args meth c := B
  have hx := B.1
  have hb := B.2.1
  have hd1 : 1 ≤ d := by omega
  have hl : lv_has ls 2 [(0, .ref (a 0)), (1, .int x1)] := hl
  unfold fX8_letter at h
  refine lv_iload_n hx hb dX8_letter_0 rfl (lv_at hl 1 rfl) ?_
  refine lv_bipush (v := 32) hx hb dX8_letter_1 (by decide) ?_
  refine lv_bipush (v := 126) hx hb dX8_letter_3 (by decide) ?_
  obtain ⟨q1, h1, h⟩ := bs h
  refine kI X (cS (As := [.int x1, .int 32, .int 126]) (rest := []) B X (tX8_within (d := d - 1) (by omega) h1) msX8_within kw1038 (by omega) rfl (Nat.le_of_ble_eq_true rfl) hl.1 ⟨Nat.zero_le _, Nat.zero_le _⟩ dX8_letter_5) (fun H locs X => ?_)
  have X : Hx A D S.heap (wf z) H locs := X
  refine lv_if_ne (tgt := 14) hx hb dX8_letter_8 (by decide) (fun hc2 => ?_) (fun hc2 => ?_)
  · have h := ie h hc2
    refine lv_aload_n hx hb dX8_letter_14 rfl (lv_at hl 0 rfl) ?_
    refine fG B X (LnX8_g L z) 9 rfl inTX8 (by decide) kw856 rfl dX8_letter_15 ?_
    refine lv_bipush (v := 36) hx hb dX8_letter_18 (by decide) ?_
    refine lv_icmp_ne (tgt := 26) hx hb dX8_letter_20 (by decide) (fun hc3 => ?_) (fun hc3 => ?_)
    · have h := ie h hc3
      refine lv_aload_n hx hb dX8_letter_26 rfl (lv_at hl 0 rfl) ?_
      refine fG B X (LnX8_g L z) 10 rfl inTX8 (by decide) kw857 rfl dX8_letter_27 ?_
      refine lv_aload_n hx hb dX8_letter_30 rfl (lv_at hl 0 rfl) ?_
      refine fG B X (LnX8_g L z) 9 rfl inTX8 (by decide) kw856 rfl dX8_letter_31 ?_
      refine lv_iload_n hx hb dX8_letter_34 rfl (lv_at hl 1 rfl) ?_
      refine lv_i2b hx hb dX8_letter_35 rfl ?_
      by_cases hc4 : ((z.1 9) < 0 ∨ 36 ≤ (z.1 9).toNatClampNeg)
      · cases it h hc4
      have h := ie h hc4
      refine aPb B X (LnX8_a10 L z) (LnX8_b10 L z _) 1 rfl hc4 dX8_letter_36 (fun H locs X => ?_)
      have X : Hx A D S.heap (wf (z.1, z.2.1, (va_up z.2.2 10 (upd (z.2.2 10) (z.1 9).toNatClampNeg (vp_nar .byte (x1.toInt8.toInt32)))))) H locs := X
      refine lv_aload_n hx hb dX8_letter_37 rfl (lv_at hl 0 rfl) ?_
      refine lv_dup hx hb dX8_letter_38 rfl ?_
      refine fG B X (LnX8_g L (z.1, z.2.1, (va_up z.2.2 10 (upd (z.2.2 10) (z.1 9).toNatClampNeg (vp_nar .byte (x1.toInt8.toInt32)))))) 9 rfl inTX8 (by decide) kw856 rfl dX8_letter_39 ?_
      refine lv_iconst (v := 1) hx hb dX8_letter_42 (by decide) ?_
      refine lv_iadd hx hb dX8_letter_43 ?_
      refine fP tyX8 B X (LnX8_g L (z.1, z.2.1, (va_up z.2.2 10 (upd (z.2.2 10) (z.1 9).toNatClampNeg (vp_nar .byte (x1.toInt8.toInt32)))))) 9 (LnX8_i9 L (z.1, z.2.1, (va_up z.2.2 10 (upd (z.2.2 10) (z.1 9).toNatClampNeg (vp_nar .byte (x1.toInt8.toInt32))))) _) rfl inTX8 tyX8_ok nmX8 (by decide) kw856 rfl rfl rfl rfl (Nat.le_of_ble_eq_true rfl) dX8_letter_44 (fun H locs X => ?_)
      have X : Hx A D S.heap (wf ((upd z.1 9 ((z.1 9) + 1)), z.2.1, (va_up z.2.2 10 (upd (z.2.2 10) (z.1 9).toNatClampNeg (vp_nar .byte (x1.toInt8.toInt32)))))) H locs := X
      refine lv_aload_n hx hb dX8_letter_47 rfl (lv_at hl 0 rfl) ?_
      refine fG B X (LnX8_g L ((upd z.1 9 ((z.1 9) + 1)), z.2.1, (va_up z.2.2 10 (upd (z.2.2 10) (z.1 9).toNatClampNeg (vp_nar .byte (x1.toInt8.toInt32)))))) 9 rfl inTX8 (by decide) kw856 rfl dX8_letter_48 ?_
      exact rI B X (congrArg (fun q => wf q.2) (Option.some.inj h)) (congrArg (fun q => q.1) (Option.some.inj h)) dX8_letter_51
    · have h := it h hc3
      refine lv_bipush (v := (-104)) hx hb dX8_letter_23 (by decide) ?_
      exact rI B X (congrArg (fun q => wf q.2) (Option.some.inj h)) (congrArg (fun q => q.1) (Option.some.inj h)) dX8_letter_25
  · have h := it h hc2
    refine lv_bipush (v := (-102)) hx hb dX8_letter_11 (by decide) ?_
    exact rI B X (congrArg (fun q => wf q.2) (Option.some.inj h)) (congrArg (fun q => q.1) (Option.some.inj h)) dX8_letter_13
def fX8_blank (z : SX8) : Option (Int32 × SX8) :=
    some ((z.1 9), ((upd z.1 9 0), z.2.1, z.2.2))
set_option maxRecDepth 100000 in
set_option maxHeartbeats 4000000 in
theorem tX8_blank {a q : Nat → Nat} {wf : SX8 → va_W} (L : LnX8 a q cI cB wf) {d : Nat} (hd : 1 ≤ d) {z : SX8} {q : Int32 × SX8} (h : fX8_blank z = some q) : Ct l yX8_blank cX8_blank 2 (some .int) d A g D [(cI, .int), (cB, .byte)] [.ref (a 0)] (wf z) (QI A D (wf q.2) q.1) := by
  refine mkM (by decide) (Nat.le_of_ble_eq_true rfl) ?_
  intro p e S m args below meth c B X ls hl
  have B : Bd RX8 cX8_blank 2 (some .int) d A g D [(cI, .int), (cB, .byte)] p (rmd d) S m args meth c := B
  have hx := B.1
  have hb := B.2.1
  have hd1 : 1 ≤ d := by omega
  have hl : lv_has ls 2 [(0, .ref (a 0))] := hl
  unfold fX8_blank at h
  refine lv_aload_n hx hb dX8_blank_0 rfl (lv_at hl 0 rfl) ?_
  refine fG B X (LnX8_g L z) 9 rfl inTX8 (by decide) kw856 rfl dX8_blank_1 ?_
  refine lv_istore_n (lv' := [(1, .int (z.1 9)), (0, .ref (a 0))]) hx hb dX8_blank_4 rfl hl (by decide) rfl (fun ls hl => ?_)
  refine lv_aload_n hx hb dX8_blank_5 rfl (lv_at hl 1 rfl) ?_
  refine lv_iconst (v := 0) hx hb dX8_blank_6 (by decide) ?_
  refine fP tyX8 B X (LnX8_g L z) 9 (LnX8_i9 L z _) rfl inTX8 tyX8_ok nmX8 (by decide) kw856 rfl rfl rfl rfl (Nat.le_of_ble_eq_true rfl) dX8_blank_7 (fun H locs X => ?_)
  have X : Hx A D S.heap (wf ((upd z.1 9 0), z.2.1, z.2.2)) H locs := X
  refine lv_iload_n hx hb dX8_blank_10 rfl (lv_at hl 0 rfl) ?_
  exact rI B X (congrArg (fun q => wf q.2) (Option.some.inj h)) (congrArg (fun q => q.1) (Option.some.inj h)) dX8_blank_11
def fX8_kindBy (x0 : Int32) : Option Int32 :=
    if x0 = 97 then (some 2) else
    if x0 = 102 then (some 4) else
    if x0 = 106 then (some 0) else
    if x0 = 108 then (some 1) else
    if x0 = 115 then (some 3) else
    (some (-1))
set_option maxRecDepth 100000 in
set_option maxHeartbeats 4000000 in
theorem tX8_kindBy {w : va_W} {d : Nat} (hd : 1 ≤ d) {x0 : Int32} {q : Int32} (h : fX8_kindBy x0 = some q) : Ct l yX8_kindBy cX8_kindBy 1 (some .int) d A g D [(cI, .int), (cB, .byte)] [.int x0] (w) (QI A D w q) := by
  refine mkM (by decide) (Nat.le_of_ble_eq_true rfl) ?_
  intro p e S m args below meth c B X ls hl
  have B : Bd RX8 cX8_kindBy 1 (some .int) d A g D [(cI, .int), (cB, .byte)] p (rmd d) S m args meth c := B
  have hx := B.1
  have hb := B.2.1
  have hd1 : 1 ≤ d := by omega
  have hl : lv_has ls 1 [(0, .int x0)] := hl
  unfold fX8_kindBy at h
  refine lv_iload_n hx hb dX8_kindBy_0 rfl (lv_at hl 0 rfl) ?_
  by_cases hc1 : (x0 = 97)
  · have h := it h hc1
    refine lv_lookup (off := 55) (tgt := 56) hx hb dX8_kindBy_1 (by decide) (by rw [hc1]; decide) (by decide) ?_
    refine lv_iconst (v := 2) hx hb dX8_kindBy_56 (by decide) ?_
    exact rI B X rfl (Option.some.inj h) dX8_kindBy_57
  have h := ie h hc1
  by_cases hc2 : (x0 = 102)
  · have h := it h hc2
    refine lv_lookup (off := 59) (tgt := 60) hx hb dX8_kindBy_1 (by decide) (by rw [hc2]; decide) (by decide) ?_
    refine lv_iconst (v := 4) hx hb dX8_kindBy_60 (by decide) ?_
    exact rI B X rfl (Option.some.inj h) dX8_kindBy_61
  have h := ie h hc2
  by_cases hc3 : (x0 = 106)
  · have h := it h hc3
    refine lv_lookup (off := 51) (tgt := 52) hx hb dX8_kindBy_1 (by decide) (by rw [hc3]; decide) (by decide) ?_
    refine lv_iconst (v := 0) hx hb dX8_kindBy_52 (by decide) ?_
    exact rI B X rfl (Option.some.inj h) dX8_kindBy_53
  have h := ie h hc3
  by_cases hc4 : (x0 = 108)
  · have h := it h hc4
    refine lv_lookup (off := 53) (tgt := 54) hx hb dX8_kindBy_1 (by decide) (by rw [hc4]; decide) (by decide) ?_
    refine lv_iconst (v := 1) hx hb dX8_kindBy_54 (by decide) ?_
    exact rI B X rfl (Option.some.inj h) dX8_kindBy_55
  have h := ie h hc4
  by_cases hc5 : (x0 = 115)
  · have h := it h hc5
    refine lv_lookup (off := 57) (tgt := 58) hx hb dX8_kindBy_1 (by decide) (by rw [hc5]; decide) (by decide) ?_
    refine lv_iconst (v := 3) hx hb dX8_kindBy_58 (by decide) ?_
    exact rI B X rfl (Option.some.inj h) dX8_kindBy_59
  have h := ie h hc5
  refine lv_lookup (off := 61) (tgt := 62) hx hb dX8_kindBy_1 (by decide) (by
    show (if (97 : Int) = (x0).toInt then (55 : Int) else if (102 : Int) = (x0).toInt then (59 : Int) else if (106 : Int) = (x0).toInt then (51 : Int) else if (108 : Int) = (x0).toInt then (53 : Int) else if (115 : Int) = (x0).toInt then (57 : Int) else (61 : Int)) = 61
    rw [if_neg (lk_ne 97 (by decide) hc1), if_neg (lk_ne 102 (by decide) hc2), if_neg (lk_ne 106 (by decide) hc3), if_neg (lk_ne 108 (by decide) hc4), if_neg (lk_ne 115 (by decide) hc5)]) (by decide) ?_
  refine lv_iconst (v := (-1)) hx hb dX8_kindBy_62 (by decide) ?_
  exact rI B X rfl (Option.some.inj h) dX8_kindBy_63
def fX8_at (z : SX8) (x1 : Int32) : Option Int32 :=
    if (z.1 9) ≤ x1 then (some 0) else
    (if x1 < 0 ∨ 36 ≤ x1.toNatClampNeg then none else
    (some ((z.2.2 10) x1.toNatClampNeg)))
set_option maxRecDepth 100000 in
set_option maxHeartbeats 4000000 in
theorem tX8_at {a q : Nat → Nat} {wf : SX8 → va_W} (L : LnX8 a q cI cB wf) {d : Nat} (hd : 1 ≤ d) {z : SX8} {x1 : Int32} {q : Int32} (h : fX8_at z x1 = some q) : Ct l yX8_at cX8_at 2 (some .int) d A g D [(cI, .int), (cB, .byte)] [.ref (a 0), .int x1] (wf z) (QI A D (wf z) q) := by
  refine mkM (by decide) (Nat.le_of_ble_eq_true rfl) ?_
  intro p e S m args below meth c B X ls hl
  have B : Bd RX8 cX8_at 2 (some .int) d A g D [(cI, .int), (cB, .byte)] p (rmd d) S m args meth c := B
  have hx := B.1
  have hb := B.2.1
  have hd1 : 1 ≤ d := by omega
  have hl : lv_has ls 2 [(0, .ref (a 0)), (1, .int x1)] := hl
  unfold fX8_at at h
  refine lv_iload_n hx hb dX8_at_0 rfl (lv_at hl 1 rfl) ?_
  refine lv_aload_n hx hb dX8_at_1 rfl (lv_at hl 0 rfl) ?_
  refine fG B X (LnX8_g L z) 9 rfl inTX8 (by decide) kw856 rfl dX8_at_2 ?_
  refine lv_icmp_ge (tgt := 17) hx hb dX8_at_5 (by decide) (fun hc1 => ?_) (fun hc1 => ?_)
  · have h := it h hc1
    refine lv_iconst (v := 0) hx hb dX8_at_17 (by decide) ?_
    exact rI B X rfl (Option.some.inj h) dX8_at_18
  · have h := ie h hc1
    refine lv_aload_n hx hb dX8_at_8 rfl (lv_at hl 0 rfl) ?_
    refine fG B X (LnX8_g L z) 10 rfl inTX8 (by decide) kw857 rfl dX8_at_9 ?_
    refine lv_iload_n hx hb dX8_at_12 rfl (lv_at hl 1 rfl) ?_
    by_cases hc2 : (x1 < 0 ∨ 36 ≤ x1.toNatClampNeg)
    · cases it h hc2
    have h := ie h hc2
    refine aGb B X (LnX8_a10 L z) 1 rfl hc2 dX8_at_13 ?_
    refine lv_goto (tgt := 18) hx hb dX8_at_14 (by decide) ?_
    exact rI B X rfl (Option.some.inj h) dX8_at_18
def fX8_isRowAt (z : SX8) (x1 : Int32) : Option Int32 :=
    (fX8_at z x1).bind fun q1 =>
    if q1 = 45 then (some 1) else
    ((fX8_at z x1).bind fun q3 =>
    (fX8_within (q3 - 97) 0 15).bind fun q4 =>
    if q4 = 0 then (some 0) else
    (some 1))
set_option maxRecDepth 100000 in
set_option maxHeartbeats 4000000 in
theorem tX8_isRowAt {a q : Nat → Nat} {wf : SX8 → va_W} (L : LnX8 a q cI cB wf) {d : Nat} (hd : 2 ≤ d) {z : SX8} {x1 : Int32} {q : Int32} (h : fX8_isRowAt z x1 = some q) : Ct l yX8_isRowAt cX8_isRowAt 2 (some .boolean) d A g D [(cI, .int), (cB, .byte)] [.ref (a 0), .int x1] (wf z) (QI A D (wf z) q) := by
  refine mkM (by decide) (Nat.le_of_ble_eq_true rfl) ?_
  intro p e S m args below meth c B X ls hl
  have B : Bd RX8 cX8_isRowAt 2 (some .boolean) d A g D [(cI, .int), (cB, .byte)] p (rmd d) S m args meth c := B
  have hx := B.1
  have hb := B.2.1
  have hd1 : 1 ≤ d := by omega
  have hl : lv_has ls 2 [(0, .ref (a 0)), (1, .int x1)] := hl
  unfold fX8_isRowAt at h
  refine lv_aload_n hx hb dX8_isRowAt_0 rfl (lv_at hl 0 rfl) ?_
  refine lv_iload_n hx hb dX8_isRowAt_1 rfl (lv_at hl 1 rfl) ?_
  obtain ⟨q1, h1, h⟩ := bs h
  refine kI X (cV (As := [.int x1]) (rest := []) B X (tX8_at (d := d - 1) L (by omega) h1) mfX8_at kw1053 (by omega) (LnX8_g L z) rfl rfl (Nat.le_of_ble_eq_true rfl) hl.1 ⟨Nat.zero_le _, Nat.zero_le _⟩ dX8_isRowAt_2) (fun H locs X => ?_)
  have X : Hx A D S.heap (wf z) H locs := X
  refine lv_bipush (v := 45) hx hb dX8_isRowAt_5 (by decide) ?_
  refine lv_icmp_eq (tgt := 27) hx hb dX8_isRowAt_7 (by decide) (fun hc2 => ?_) (fun hc2 => ?_)
  · have h := it h hc2
    refine lv_iconst (v := 1) hx hb dX8_isRowAt_27 (by decide) ?_
    refine lv_goto (tgt := 32) hx hb dX8_isRowAt_28 (by decide) ?_
    exact rZ B X rfl (Option.some.inj h) rfl dX8_isRowAt_32
  · have h := ie h hc2
    refine lv_aload_n hx hb dX8_isRowAt_10 rfl (lv_at hl 0 rfl) ?_
    refine lv_iload_n hx hb dX8_isRowAt_11 rfl (lv_at hl 1 rfl) ?_
    obtain ⟨q3, h3, h⟩ := bs h
    refine kI X (cV (As := [.int x1]) (rest := []) B X (tX8_at (d := d - 1) L (by omega) h3) mfX8_at kw1053 (by omega) (LnX8_g L z) rfl rfl (Nat.le_of_ble_eq_true rfl) hl.1 ⟨Nat.zero_le _, Nat.zero_le _⟩ dX8_isRowAt_12) (fun H locs X => ?_)
    have X : Hx A D S.heap (wf z) H locs := X
    refine lv_bipush (v := 97) hx hb dX8_isRowAt_15 (by decide) ?_
    refine lv_isub hx hb dX8_isRowAt_17 ?_
    refine lv_iconst (v := 0) hx hb dX8_isRowAt_18 (by decide) ?_
    refine lv_bipush (v := 15) hx hb dX8_isRowAt_19 (by decide) ?_
    obtain ⟨q4, h4, h⟩ := bs h
    refine kI X (cS (As := [.int (q3 - 97), .int 0, .int 15]) (rest := []) B X (tX8_within (d := d - 1) (by omega) h4) msX8_within kw1038 (by omega) rfl (Nat.le_of_ble_eq_true rfl) hl.1 ⟨Nat.zero_le _, Nat.zero_le _⟩ dX8_isRowAt_21) (fun H locs X => ?_)
    have X : Hx A D S.heap (wf z) H locs := X
    refine lv_if_eq (tgt := 31) hx hb dX8_isRowAt_24 (by decide) (fun hc5 => ?_) (fun hc5 => ?_)
    · have h := it h hc5
      refine lv_iconst (v := 0) hx hb dX8_isRowAt_31 (by decide) ?_
      exact rZ B X rfl (Option.some.inj h) rfl dX8_isRowAt_32
    · have h := ie h hc5
      refine lv_iconst (v := 1) hx hb dX8_isRowAt_27 (by decide) ?_
      refine lv_goto (tgt := 32) hx hb dX8_isRowAt_28 (by decide) ?_
      exact rZ B X rfl (Option.some.inj h) rfl dX8_isRowAt_32
def fX8_rowsFrom_b2 (z : SX8) : Nat → Int32 → Int32 → Option Int32
  | 0, _, _ => none
  | n + 1, x1, x2 =>
    if 14 ≤ x2 then (some x2) else
    ((fX8_isRowAt z (x1 + x2)).bind fun q2 =>
    if q2 = 0 then (some x2) else
    (fX8_rowsFrom_b2 z n x1 (x2 + 1)))
set_option maxRecDepth 100000 in
set_option maxHeartbeats 4000000 in
theorem tX8_rowsFrom_b2 {a q : Nat → Nat} {wf : SX8 → va_W} (L : LnX8 a q cI cB wf) {d : Nat} (hd : 3 ≤ d) {z : SX8} (B : Bd RX8 cX8_rowsFrom 3 (some .int) d A g D [(cI, .int), (cB, .byte)] p R S m args meth c) {q : Int32} : ∀ (n : Nat) (x1 : Int32) (x2 : Int32) (H : Heap) (locs : List Loc) (ls : Array Slot), Hx A D S.heap (wf z) H locs → lv_has ls 3 [(0, .ref (a 0)), (1, .int x1), (2, .int x2)] → fX8_rowsFrom_b2 z n x1 x2 = some q → W p l e R S m args below meth c H locs 0 0 (MQ below (QI A D (wf z) q) args S 0 0 A) (F0 m 2 ls []) := by
  have hx := B.1
  have hb := B.2.1
  have hd1 : 1 ≤ d := by omega
  intro n
  induction n with
  | zero =>
    intro x1 x2 H locs ls X hl h
    cases h
  | succ n ih =>
    intro x1 x2 H locs ls X hl h
    rw [fX8_rowsFrom_b2] at h
    refine lv_iload_n hx hb dX8_rowsFrom_2 rfl (lv_at hl 2 rfl) ?_
    refine lv_bipush (v := 14) hx hb dX8_rowsFrom_3 (by decide) ?_
    refine lv_icmp_ge (tgt := 24) hx hb dX8_rowsFrom_5 (by decide) (fun hc1 => ?_) (fun hc1 => ?_)
    · have h := it h hc1
      refine lv_iload_n hx hb dX8_rowsFrom_24 rfl (lv_at hl 2 rfl) ?_
      exact rI B X rfl (Option.some.inj h) dX8_rowsFrom_25
    · have h := ie h hc1
      refine lv_aload_n hx hb dX8_rowsFrom_8 rfl (lv_at hl 0 rfl) ?_
      refine lv_iload_n hx hb dX8_rowsFrom_9 rfl (lv_at hl 1 rfl) ?_
      refine lv_iload_n hx hb dX8_rowsFrom_10 rfl (lv_at hl 2 rfl) ?_
      refine lv_iadd hx hb dX8_rowsFrom_11 ?_
      obtain ⟨q2, h2, h⟩ := bs h
      refine kI X (cV (As := [.int (x1 + x2)]) (rest := []) B X (tX8_isRowAt (d := d - 1) L (by omega) h2) mfX8_isRowAt kw1064 (by omega) (LnX8_g L z) rfl rfl (Nat.le_of_ble_eq_true rfl) hl.1 ⟨Nat.zero_le _, Nat.zero_le _⟩ dX8_rowsFrom_12) (fun H locs X => ?_)
      have X : Hx A D S.heap (wf z) H locs := X
      refine lv_if_eq (tgt := 24) hx hb dX8_rowsFrom_15 (by decide) (fun hc3 => ?_) (fun hc3 => ?_)
      · have h := it h hc3
        refine lv_iload_n hx hb dX8_rowsFrom_24 rfl (lv_at hl 2 rfl) ?_
        exact rI B X rfl (Option.some.inj h) dX8_rowsFrom_25
      · have h := ie h hc3
        refine lv_iinc (v := x2 + 1) (lv' := [(2, .int (x2 + 1)), (0, .ref (a 0)), (1, .int x1)]) hx hb dX8_rowsFrom_18 hl (k := 2) rfl rfl (by decide) rfl (fun ls hl => ?_)
        refine lv_goto (tgt := 2) hx hb dX8_rowsFrom_21 (by decide) ?_
        exact ih x1 (x2 + 1) _ _ _ X (lv_sub hl [1, 2, 0] rfl) h
def fX8_rowsFrom (z : SX8) (x1 : Int32) : Option Int32 :=
    fX8_rowsFrom_b2 z 1000 x1 0
set_option maxRecDepth 100000 in
set_option maxHeartbeats 4000000 in
theorem tX8_rowsFrom {a q : Nat → Nat} {wf : SX8 → va_W} (L : LnX8 a q cI cB wf) {d : Nat} (hd : 3 ≤ d) {z : SX8} {x1 : Int32} {q : Int32} (h : fX8_rowsFrom z x1 = some q) : Ct l yX8_rowsFrom cX8_rowsFrom 3 (some .int) d A g D [(cI, .int), (cB, .byte)] [.ref (a 0), .int x1] (wf z) (QI A D (wf z) q) := by
  refine mkM (by decide) (Nat.le_of_ble_eq_true rfl) ?_
  intro p e S m args below meth c B X ls hl
  have B : Bd RX8 cX8_rowsFrom 3 (some .int) d A g D [(cI, .int), (cB, .byte)] p (rmd d) S m args meth c := B
  have hx := B.1
  have hb := B.2.1
  have hd1 : 1 ≤ d := by omega
  have hl : lv_has ls 3 [(0, .ref (a 0)), (1, .int x1)] := hl
  unfold fX8_rowsFrom at h
  refine lv_iconst (v := 0) hx hb dX8_rowsFrom_0 (by decide) ?_
  refine lv_istore_n (lv' := [(2, .int 0), (0, .ref (a 0)), (1, .int x1)]) hx hb dX8_rowsFrom_1 rfl hl (by decide) rfl (fun ls hl => ?_)
  exact tX8_rowsFrom_b2 L hd B 1000 x1 0 _ _ _ X (lv_sub hl [1, 2, 0] rfl) h
def fX8_read (z : SX8) : Option (Int32 × SX8) :=
    (fX8_at ((upd z.1 11 0), z.2.1, z.2.2) 0).bind fun q1 =>
    (fX8_within (q1 - 48) 1 9).bind fun q2 =>
    if q2 = 0 then (some (0, ((upd z.1 11 0), z.2.1, z.2.2))) else
    ((fX8_at ((upd z.1 11 0), z.2.1, z.2.2) 1).bind fun q4 =>
    (fX8_kindBy q4).bind fun q5 =>
    if q5 = (-1) then (some (1, ((upd z.1 11 0), z.2.1, z.2.2))) else
    ((fX8_at ((upd z.1 11 0), z.2.1, z.2.2) 2).bind fun q7 =>
    if q7 = 59 then ((fX8_rowsFrom ((upd z.1 11 0), z.2.1, z.2.2) 3).bind fun q9 =>
    (fX8_at ((upd (upd z.1 11 0) 12 q9), z.2.1, z.2.2) (3 + q9)).bind fun q10 =>
    if q10 = 59 then ((fX8_rowsFrom ((upd (upd z.1 11 0) 12 q9), z.2.1, z.2.2) ((3 + q9) + 1)).bind fun q12 =>
    if ((3 + q9) + (1 + q12)) = (z.1 9) then (some (((3 + q9) + (1 + q12)), ((upd (upd (upd (upd z.1 11 0) 12 q9) 13 q12) 11 1), z.2.1, z.2.2))) else
    (some (((3 + q9) + (1 + q12)), ((upd (upd (upd (upd z.1 11 0) 12 q9) 13 q12) 11 0), z.2.1, z.2.2)))) else
    (some ((3 + q9), ((upd (upd z.1 11 0) 12 q9), z.2.1, z.2.2)))) else
    (some (2, ((upd z.1 11 0), z.2.1, z.2.2)))))
set_option maxRecDepth 100000 in
set_option maxHeartbeats 4000000 in
theorem tX8_read {a q : Nat → Nat} {wf : SX8 → va_W} (L : LnX8 a q cI cB wf) {d : Nat} (hd : 4 ≤ d) {z : SX8} {q : Int32 × SX8} (h : fX8_read z = some q) : Ct l yX8_read cX8_read 2 (some .int) d A g D [(cI, .int), (cB, .byte)] [.ref (a 0)] (wf z) (QI A D (wf q.2) q.1) := by
  refine mkM (by decide) (Nat.le_of_ble_eq_true rfl) ?_
  intro p e S m args below meth c B X ls hl
  have B : Bd RX8 cX8_read 2 (some .int) d A g D [(cI, .int), (cB, .byte)] p (rmd d) S m args meth c := B
  have hx := B.1
  have hb := B.2.1
  have hd1 : 1 ≤ d := by omega
  have hl : lv_has ls 2 [(0, .ref (a 0))] := hl
  unfold fX8_read at h
  refine lv_aload_n hx hb dX8_read_0 rfl (lv_at hl 0 rfl) ?_
  refine lv_iconst (v := 0) hx hb dX8_read_1 (by decide) ?_
  refine fP tyX8 B X (LnX8_g L z) 11 (LnX8_i11 L z _) rfl inTX8 tyX8_ok nmX8 (by decide) kw858 rfl rfl rfl rfl (Nat.le_of_ble_eq_true rfl) dX8_read_2 (fun H locs X => ?_)
  have X : Hx A D S.heap (wf ((upd z.1 11 0), z.2.1, z.2.2)) H locs := X
  refine lv_aload_n hx hb dX8_read_5 rfl (lv_at hl 0 rfl) ?_
  refine lv_iconst (v := 0) hx hb dX8_read_6 (by decide) ?_
  obtain ⟨q1, h1, h⟩ := bs h
  refine kI X (cV (As := [.int 0]) (rest := []) B X (tX8_at (d := d - 1) L (by omega) h1) mfX8_at kw1053 (by omega) (LnX8_g L ((upd z.1 11 0), z.2.1, z.2.2)) rfl rfl (Nat.le_of_ble_eq_true rfl) hl.1 ⟨Nat.zero_le _, Nat.zero_le _⟩ dX8_read_7) (fun H locs X => ?_)
  have X : Hx A D S.heap (wf ((upd z.1 11 0), z.2.1, z.2.2)) H locs := X
  refine lv_bipush (v := 48) hx hb dX8_read_10 (by decide) ?_
  refine lv_isub hx hb dX8_read_12 ?_
  refine lv_iconst (v := 1) hx hb dX8_read_13 (by decide) ?_
  refine lv_bipush (v := 9) hx hb dX8_read_14 (by decide) ?_
  obtain ⟨q2, h2, h⟩ := bs h
  refine kI X (cS (As := [.int (q1 - 48), .int 1, .int 9]) (rest := []) B X (tX8_within (d := d - 1) (by omega) h2) msX8_within kw1038 (by omega) rfl (Nat.le_of_ble_eq_true rfl) hl.1 ⟨Nat.zero_le _, Nat.zero_le _⟩ dX8_read_16) (fun H locs X => ?_)
  have X : Hx A D S.heap (wf ((upd z.1 11 0), z.2.1, z.2.2)) H locs := X
  refine lv_if_ne (tgt := 24) hx hb dX8_read_19 (by decide) (fun hc3 => ?_) (fun hc3 => ?_)
  · have h := ie h hc3
    refine lv_aload_n hx hb dX8_read_24 rfl (lv_at hl 0 rfl) ?_
    refine lv_iconst (v := 1) hx hb dX8_read_25 (by decide) ?_
    obtain ⟨q4, h4, h⟩ := bs h
    refine kI X (cV (As := [.int 1]) (rest := []) B X (tX8_at (d := d - 1) L (by omega) h4) mfX8_at kw1053 (by omega) (LnX8_g L ((upd z.1 11 0), z.2.1, z.2.2)) rfl rfl (Nat.le_of_ble_eq_true rfl) hl.1 ⟨Nat.zero_le _, Nat.zero_le _⟩ dX8_read_26) (fun H locs X => ?_)
    have X : Hx A D S.heap (wf ((upd z.1 11 0), z.2.1, z.2.2)) H locs := X
    obtain ⟨q5, h5, h⟩ := bs h
    refine kI X (cS (As := [.int q4]) (rest := []) B X (tX8_kindBy (d := d - 1) (by omega) h5) msX8_kindBy kw1057 (by omega) rfl (Nat.le_of_ble_eq_true rfl) hl.1 ⟨Nat.zero_le _, Nat.zero_le _⟩ dX8_read_29) (fun H locs X => ?_)
    have X : Hx A D S.heap (wf ((upd z.1 11 0), z.2.1, z.2.2)) H locs := X
    refine lv_iconst (v := (-1)) hx hb dX8_read_32 (by decide) ?_
    refine lv_icmp_ne (tgt := 38) hx hb dX8_read_33 (by decide) (fun hc6 => ?_) (fun hc6 => ?_)
    · have h := ie h hc6
      refine lv_aload_n hx hb dX8_read_38 rfl (lv_at hl 0 rfl) ?_
      refine lv_iconst (v := 2) hx hb dX8_read_39 (by decide) ?_
      obtain ⟨q7, h7, h⟩ := bs h
      refine kI X (cV (As := [.int 2]) (rest := []) B X (tX8_at (d := d - 1) L (by omega) h7) mfX8_at kw1053 (by omega) (LnX8_g L ((upd z.1 11 0), z.2.1, z.2.2)) rfl rfl (Nat.le_of_ble_eq_true rfl) hl.1 ⟨Nat.zero_le _, Nat.zero_le _⟩ dX8_read_40) (fun H locs X => ?_)
      have X : Hx A D S.heap (wf ((upd z.1 11 0), z.2.1, z.2.2)) H locs := X
      refine lv_bipush (v := 59) hx hb dX8_read_43 (by decide) ?_
      refine lv_icmp_eq (tgt := 50) hx hb dX8_read_45 (by decide) (fun hc8 => ?_) (fun hc8 => ?_)
      · have h := it h hc8
        refine lv_aload_n hx hb dX8_read_50 rfl (lv_at hl 0 rfl) ?_
        refine lv_aload_n hx hb dX8_read_51 rfl (lv_at hl 0 rfl) ?_
        refine lv_iconst (v := 3) hx hb dX8_read_52 (by decide) ?_
        obtain ⟨q9, h9, h⟩ := bs h
        refine kI X (cV (As := [.int 3]) (rest := [.ref (a 0)]) B X (tX8_rowsFrom (d := d - 1) L (by omega) h9) mfX8_rowsFrom kw1060 (by omega) (LnX8_g L ((upd z.1 11 0), z.2.1, z.2.2)) rfl rfl (Nat.le_of_ble_eq_true rfl) hl.1 ⟨Nat.zero_le _, Nat.zero_le _⟩ dX8_read_53) (fun H locs X => ?_)
        have X : Hx A D S.heap (wf ((upd z.1 11 0), z.2.1, z.2.2)) H locs := X
        refine fP tyX8 B X (LnX8_g L ((upd z.1 11 0), z.2.1, z.2.2)) 12 (LnX8_i12 L ((upd z.1 11 0), z.2.1, z.2.2) _) rfl inTX8 tyX8_ok nmX8 (by decide) kw859 rfl rfl rfl rfl (Nat.le_of_ble_eq_true rfl) dX8_read_56 (fun H locs X => ?_)
        have X : Hx A D S.heap (wf ((upd (upd z.1 11 0) 12 q9), z.2.1, z.2.2)) H locs := X
        refine lv_iconst (v := 3) hx hb dX8_read_59 (by decide) ?_
        refine lv_aload_n hx hb dX8_read_60 rfl (lv_at hl 0 rfl) ?_
        refine fG B X (LnX8_g L ((upd (upd z.1 11 0) 12 q9), z.2.1, z.2.2)) 12 rfl inTX8 (by decide) kw859 rfl dX8_read_61 ?_
        refine lv_iadd hx hb dX8_read_64 ?_
        refine lv_istore_n (lv' := [(1, .int (3 + q9)), (0, .ref (a 0))]) hx hb dX8_read_65 rfl hl (by decide) rfl (fun ls hl => ?_)
        refine lv_aload_n hx hb dX8_read_66 rfl (lv_at hl 1 rfl) ?_
        refine lv_iload_n hx hb dX8_read_67 rfl (lv_at hl 0 rfl) ?_
        obtain ⟨q10, h10, h⟩ := bs h
        refine kI X (cV (As := [.int (3 + q9)]) (rest := []) B X (tX8_at (d := d - 1) L (by omega) h10) mfX8_at kw1053 (by omega) (LnX8_g L ((upd (upd z.1 11 0) 12 q9), z.2.1, z.2.2)) rfl rfl (Nat.le_of_ble_eq_true rfl) hl.1 ⟨Nat.zero_le _, Nat.zero_le _⟩ dX8_read_68) (fun H locs X => ?_)
        have X : Hx A D S.heap (wf ((upd (upd z.1 11 0) 12 q9), z.2.1, z.2.2)) H locs := X
        refine lv_bipush (v := 59) hx hb dX8_read_71 (by decide) ?_
        refine lv_icmp_eq (tgt := 78) hx hb dX8_read_73 (by decide) (fun hc11 => ?_) (fun hc11 => ?_)
        · have h := it h hc11
          refine lv_aload_n hx hb dX8_read_78 rfl (lv_at hl 1 rfl) ?_
          refine lv_aload_n hx hb dX8_read_79 rfl (lv_at hl 1 rfl) ?_
          refine lv_iload_n hx hb dX8_read_80 rfl (lv_at hl 0 rfl) ?_
          refine lv_iconst (v := 1) hx hb dX8_read_81 (by decide) ?_
          refine lv_iadd hx hb dX8_read_82 ?_
          obtain ⟨q12, h12, h⟩ := bs h
          refine kI X (cV (As := [.int ((3 + q9) + 1)]) (rest := [.ref (a 0)]) B X (tX8_rowsFrom (d := d - 1) L (by omega) h12) mfX8_rowsFrom kw1060 (by omega) (LnX8_g L ((upd (upd z.1 11 0) 12 q9), z.2.1, z.2.2)) rfl rfl (Nat.le_of_ble_eq_true rfl) hl.1 ⟨Nat.zero_le _, Nat.zero_le _⟩ dX8_read_83) (fun H locs X => ?_)
          have X : Hx A D S.heap (wf ((upd (upd z.1 11 0) 12 q9), z.2.1, z.2.2)) H locs := X
          refine fP tyX8 B X (LnX8_g L ((upd (upd z.1 11 0) 12 q9), z.2.1, z.2.2)) 13 (LnX8_i13 L ((upd (upd z.1 11 0) 12 q9), z.2.1, z.2.2) _) rfl inTX8 tyX8_ok nmX8 (by decide) kw860 rfl rfl rfl rfl (Nat.le_of_ble_eq_true rfl) dX8_read_86 (fun H locs X => ?_)
          have X : Hx A D S.heap (wf ((upd (upd (upd z.1 11 0) 12 q9) 13 q12), z.2.1, z.2.2)) H locs := X
          refine lv_iload_n hx hb dX8_read_89 rfl (lv_at hl 0 rfl) ?_
          refine lv_iconst (v := 1) hx hb dX8_read_90 (by decide) ?_
          refine lv_aload_n hx hb dX8_read_91 rfl (lv_at hl 1 rfl) ?_
          refine fG B X (LnX8_g L ((upd (upd (upd z.1 11 0) 12 q9) 13 q12), z.2.1, z.2.2)) 13 rfl inTX8 (by decide) kw860 rfl dX8_read_92 ?_
          refine lv_iadd hx hb dX8_read_95 ?_
          refine lv_iadd hx hb dX8_read_96 ?_
          refine lv_istore_n (lv' := [(1, .int ((3 + q9) + (1 + q12))), (0, .ref (a 0))]) hx hb dX8_read_97 rfl hl (by decide) rfl (fun ls hl => ?_)
          refine lv_aload_n hx hb dX8_read_98 rfl (lv_at hl 1 rfl) ?_
          refine lv_iload_n hx hb dX8_read_99 rfl (lv_at hl 0 rfl) ?_
          refine lv_aload_n hx hb dX8_read_100 rfl (lv_at hl 1 rfl) ?_
          refine fG B X (LnX8_g L ((upd (upd (upd z.1 11 0) 12 q9) 13 q12), z.2.1, z.2.2)) 9 rfl inTX8 (by decide) kw856 rfl dX8_read_101 ?_
          refine lv_icmp_ne (tgt := 111) hx hb dX8_read_104 (by decide) (fun hc13 => ?_) (fun hc13 => ?_)
          · have h := ie h hc13
            refine lv_iconst (v := 0) hx hb dX8_read_111 (by decide) ?_
            refine fP tyX8 B X (LnX8_g L ((upd (upd (upd z.1 11 0) 12 q9) 13 q12), z.2.1, z.2.2)) 11 (LnX8_i11 L ((upd (upd (upd z.1 11 0) 12 q9) 13 q12), z.2.1, z.2.2) _) rfl inTX8 tyX8_ok nmX8 (by decide) kw858 rfl rfl rfl rfl (Nat.le_of_ble_eq_true rfl) dX8_read_112 (fun H locs X => ?_)
            have X : Hx A D S.heap (wf ((upd (upd (upd (upd z.1 11 0) 12 q9) 13 q12) 11 0), z.2.1, z.2.2)) H locs := X
            refine lv_iload_n hx hb dX8_read_115 rfl (lv_at hl 0 rfl) ?_
            exact rI B X (congrArg (fun q => wf q.2) (Option.some.inj h)) (congrArg (fun q => q.1) (Option.some.inj h)) dX8_read_116
          · have h := it h hc13
            refine lv_iconst (v := 1) hx hb dX8_read_107 (by decide) ?_
            refine lv_goto (tgt := 112) hx hb dX8_read_108 (by decide) ?_
            refine fP tyX8 B X (LnX8_g L ((upd (upd (upd z.1 11 0) 12 q9) 13 q12), z.2.1, z.2.2)) 11 (LnX8_i11 L ((upd (upd (upd z.1 11 0) 12 q9) 13 q12), z.2.1, z.2.2) _) rfl inTX8 tyX8_ok nmX8 (by decide) kw858 rfl rfl rfl rfl (Nat.le_of_ble_eq_true rfl) dX8_read_112 (fun H locs X => ?_)
            have X : Hx A D S.heap (wf ((upd (upd (upd (upd z.1 11 0) 12 q9) 13 q12) 11 1), z.2.1, z.2.2)) H locs := X
            refine lv_iload_n hx hb dX8_read_115 rfl (lv_at hl 0 rfl) ?_
            exact rI B X (congrArg (fun q => wf q.2) (Option.some.inj h)) (congrArg (fun q => q.1) (Option.some.inj h)) dX8_read_116
        · have h := ie h hc11
          refine lv_iload_n hx hb dX8_read_76 rfl (lv_at hl 0 rfl) ?_
          exact rI B X (congrArg (fun q => wf q.2) (Option.some.inj h)) (congrArg (fun q => q.1) (Option.some.inj h)) dX8_read_77
      · have h := ie h hc8
        refine lv_iconst (v := 2) hx hb dX8_read_48 (by decide) ?_
        exact rI B X (congrArg (fun q => wf q.2) (Option.some.inj h)) (congrArg (fun q => q.1) (Option.some.inj h)) dX8_read_49
    · have h := it h hc6
      refine lv_iconst (v := 1) hx hb dX8_read_36 (by decide) ?_
      exact rI B X (congrArg (fun q => wf q.2) (Option.some.inj h)) (congrArg (fun q => q.1) (Option.some.inj h)) dX8_read_37
  · have h := it h hc3
    refine lv_iconst (v := 0) hx hb dX8_read_22 (by decide) ?_
    exact rI B X (congrArg (fun q => wf q.2) (Option.some.inj h)) (congrArg (fun q => q.1) (Option.some.inj h)) dX8_read_23
def fX8_fault (z : SX8) : Option (Int32 × SX8) :=
    (fX8_read z).bind fun q1 =>
    some (q1.1, q1.2)
set_option maxRecDepth 100000 in
set_option maxHeartbeats 4000000 in
theorem tX8_fault {a q : Nat → Nat} {wf : SX8 → va_W} (L : LnX8 a q cI cB wf) {d : Nat} (hd : 5 ≤ d) {z : SX8} {q : Int32 × SX8} (h : fX8_fault z = some q) : Ct l yX8_fault cX8_fault 1 (some .int) d A g D [(cI, .int), (cB, .byte)] [.ref (a 0)] (wf z) (QI A D (wf q.2) q.1) := by
  refine mkM (by decide) (Nat.le_of_ble_eq_true rfl) ?_
  intro p e S m args below meth c B X ls hl
  have B : Bd RX8 cX8_fault 1 (some .int) d A g D [(cI, .int), (cB, .byte)] p (rmd d) S m args meth c := B
  have hx := B.1
  have hb := B.2.1
  have hd1 : 1 ≤ d := by omega
  have hl : lv_has ls 1 [(0, .ref (a 0))] := hl
  unfold fX8_fault at h
  refine lv_aload_n hx hb dX8_fault_0 rfl (lv_at hl 0 rfl) ?_
  obtain ⟨q1, h1, h⟩ := bs h
  refine kI X (cV (As := []) (rest := []) B X (tX8_read (d := d - 1) L (by omega) h1) mfX8_read kw1049 (by omega) (LnX8_g L z) rfl rfl (Nat.le_of_ble_eq_true rfl) hl.1 ⟨Nat.zero_le _, Nat.zero_le _⟩ dX8_fault_1) (fun H locs X => ?_)
  have X : Hx A D S.heap (wf q1.2) H locs := X
  exact rI B X (congrArg (fun q => wf q.2) (Option.some.inj h)) (congrArg (fun q => q.1) (Option.some.inj h)) dX8_fault_4
def fX8_keyBy (x0 : Int32) : Option Int32 :=
    if x0 = 45 then (some (-1)) else
    (some (x0 - 97))
set_option maxRecDepth 100000 in
set_option maxHeartbeats 4000000 in
theorem tX8_keyBy {w : va_W} {d : Nat} (hd : 1 ≤ d) {x0 : Int32} {q : Int32} (h : fX8_keyBy x0 = some q) : Ct l yX8_keyBy cX8_keyBy 1 (some .int) d A g D [(cI, .int), (cB, .byte)] [.int x0] (w) (QI A D w q) := by
  refine mkM (by decide) (Nat.le_of_ble_eq_true rfl) ?_
  intro p e S m args below meth c B X ls hl
  have B : Bd RX8 cX8_keyBy 1 (some .int) d A g D [(cI, .int), (cB, .byte)] p (rmd d) S m args meth c := B
  have hx := B.1
  have hb := B.2.1
  have hd1 : 1 ≤ d := by omega
  have hl : lv_has ls 1 [(0, .int x0)] := hl
  unfold fX8_keyBy at h
  refine lv_iload_n hx hb dX8_keyBy_0 rfl (lv_at hl 0 rfl) ?_
  refine lv_bipush (v := 45) hx hb dX8_keyBy_1 (by decide) ?_
  refine lv_icmp_ne (tgt := 10) hx hb dX8_keyBy_3 (by decide) (fun hc1 => ?_) (fun hc1 => ?_)
  · have h := ie h hc1
    refine lv_iload_n hx hb dX8_keyBy_10 rfl (lv_at hl 0 rfl) ?_
    refine lv_bipush (v := 97) hx hb dX8_keyBy_11 (by decide) ?_
    refine lv_isub hx hb dX8_keyBy_13 ?_
    exact rI B X rfl (Option.some.inj h) dX8_keyBy_14
  · have h := it h hc1
    refine lv_iconst (v := (-1)) hx hb dX8_keyBy_6 (by decide) ?_
    refine lv_goto (tgt := 14) hx hb dX8_keyBy_7 (by decide) ?_
    exact rI B X rfl (Option.some.inj h) dX8_keyBy_14
def fX8_clearTold_b12 : Nat → Int32 → SX8 → Option SX8
  | 0, _, _ => none
  | n + 1, x1, z =>
    if 10 ≤ x1 then (some z) else
    (if x1 = 4 then (if x1 < 0 ∨ 10 ≤ x1.toNatClampNeg then none else
    (fX8_clearTold_b12 n (x1 + 1) (z.1, z.2.1, (va_up z.2.2 43 (upd (z.2.2 43) x1.toNatClampNeg (-1)))))) else
    (if x1 < 0 ∨ 10 ≤ x1.toNatClampNeg then none else
    (fX8_clearTold_b12 n (x1 + 1) (z.1, z.2.1, (va_up z.2.2 43 (upd (z.2.2 43) x1.toNatClampNeg 0))))))
set_option maxRecDepth 100000 in
set_option maxHeartbeats 4000000 in
theorem tX8_clearTold_b12 {a q : Nat → Nat} {wf : SX8 → va_W} (L : LnX8 a q cI cB wf) {d : Nat} (hd : 1 ≤ d) (B : Bd RX8 cX8_clearTold 2 none d A g D [(cI, .int), (cB, .byte)] p R S m args meth c) {q : SX8} : ∀ (n : Nat) (x1 : Int32) (z : SX8) (H : Heap) (locs : List Loc) (ls : Array Slot), Hx A D S.heap (wf z) H locs → lv_has ls 2 [(0, .ref (a 0)), (1, .int x1)] → fX8_clearTold_b12 n x1 z = some q → W p l e R S m args below meth c H locs 0 0 (MQ below (QV A D (wf q)) args S 0 0 A) (F0 m 12 ls []) := by
  have hx := B.1
  have hb := B.2.1
  have hd1 : 1 ≤ d := by omega
  intro n
  induction n with
  | zero =>
    intro x1 z H locs ls X hl h
    cases h
  | succ n ih =>
    intro x1 z H locs ls X hl h
    rw [fX8_clearTold_b12] at h
    refine lv_iload_n hx hb dX8_clearTold_12 rfl (lv_at hl 1 rfl) ?_
    refine lv_bipush (v := 10) hx hb dX8_clearTold_13 (by decide) ?_
    refine lv_icmp_ge (tgt := 40) hx hb dX8_clearTold_15 (by decide) (fun hc1 => ?_) (fun hc1 => ?_)
    · have h := it h hc1
      exact rV B X (congrArg wf (Option.some.inj h)) dX8_clearTold_40
    · have h := ie h hc1
      refine lv_aload_n hx hb dX8_clearTold_18 rfl (lv_at hl 0 rfl) ?_
      refine fG B X (LnX8_g L z) 43 rfl inTX8 (by decide) kw890 rfl dX8_clearTold_19 ?_
      refine lv_iload_n hx hb dX8_clearTold_22 rfl (lv_at hl 1 rfl) ?_
      refine lv_iload_n hx hb dX8_clearTold_23 rfl (lv_at hl 1 rfl) ?_
      refine lv_iconst (v := 4) hx hb dX8_clearTold_24 (by decide) ?_
      refine lv_icmp_ne (tgt := 32) hx hb dX8_clearTold_25 (by decide) (fun hc2 => ?_) (fun hc2 => ?_)
      · have h := ie h hc2
        refine lv_iconst (v := 0) hx hb dX8_clearTold_32 (by decide) ?_
        by_cases hc3 : (x1 < 0 ∨ 10 ≤ x1.toNatClampNeg)
        · cases it h hc3
        have h := ie h hc3
        refine aP B X (LnX8_a43 L z) (LnX8_b43 L z _) 0 rfl hc3 dX8_clearTold_33 (fun H locs X => ?_)
        have X : Hx A D S.heap (wf (z.1, z.2.1, (va_up z.2.2 43 (upd (z.2.2 43) x1.toNatClampNeg 0)))) H locs := X
        refine lv_iinc (v := x1 + 1) (lv' := [(1, .int (x1 + 1)), (0, .ref (a 0))]) hx hb dX8_clearTold_34 hl (k := 1) rfl rfl (by decide) rfl (fun ls hl => ?_)
        refine lv_goto (tgt := 12) hx hb dX8_clearTold_37 (by decide) ?_
        exact ih (x1 + 1) (z.1, z.2.1, (va_up z.2.2 43 (upd (z.2.2 43) x1.toNatClampNeg 0))) _ _ _ X (lv_sub hl [1, 0] rfl) h
      · have h := it h hc2
        refine lv_iconst (v := (-1)) hx hb dX8_clearTold_28 (by decide) ?_
        refine lv_goto (tgt := 33) hx hb dX8_clearTold_29 (by decide) ?_
        by_cases hc4 : (x1 < 0 ∨ 10 ≤ x1.toNatClampNeg)
        · cases it h hc4
        have h := ie h hc4
        refine aP B X (LnX8_a43 L z) (LnX8_b43 L z _) 0 rfl hc4 dX8_clearTold_33 (fun H locs X => ?_)
        have X : Hx A D S.heap (wf (z.1, z.2.1, (va_up z.2.2 43 (upd (z.2.2 43) x1.toNatClampNeg (-1))))) H locs := X
        refine lv_iinc (v := x1 + 1) (lv' := [(1, .int (x1 + 1)), (0, .ref (a 0))]) hx hb dX8_clearTold_34 hl (k := 1) rfl rfl (by decide) rfl (fun ls hl => ?_)
        refine lv_goto (tgt := 12) hx hb dX8_clearTold_37 (by decide) ?_
        exact ih (x1 + 1) (z.1, z.2.1, (va_up z.2.2 43 (upd (z.2.2 43) x1.toNatClampNeg (-1)))) _ _ _ X (lv_sub hl [1, 0] rfl) h
def fX8_clearTold (z : SX8) : Option SX8 :=
    fX8_clearTold_b12 1000 0 ((upd (upd z.1 41 0) 42 0), z.2.1, z.2.2)
set_option maxRecDepth 100000 in
set_option maxHeartbeats 4000000 in
theorem tX8_clearTold {a q : Nat → Nat} {wf : SX8 → va_W} (L : LnX8 a q cI cB wf) {d : Nat} (hd : 1 ≤ d) {z : SX8} {q : SX8} (h : fX8_clearTold z = some q) : Ct l yX8_clearTold cX8_clearTold 2 none d A g D [(cI, .int), (cB, .byte)] [.ref (a 0)] (wf z) (QV A D (wf q)) := by
  refine mkM (by decide) (Nat.le_of_ble_eq_true rfl) ?_
  intro p e S m args below meth c B X ls hl
  have B : Bd RX8 cX8_clearTold 2 none d A g D [(cI, .int), (cB, .byte)] p (rmd d) S m args meth c := B
  have hx := B.1
  have hb := B.2.1
  have hd1 : 1 ≤ d := by omega
  have hl : lv_has ls 2 [(0, .ref (a 0))] := hl
  unfold fX8_clearTold at h
  refine lv_aload_n hx hb dX8_clearTold_0 rfl (lv_at hl 0 rfl) ?_
  refine lv_iconst (v := 0) hx hb dX8_clearTold_1 (by decide) ?_
  refine fP tyX8 B X (LnX8_g L z) 41 (LnX8_i41 L z _) rfl inTX8 tyX8_ok nmX8 (by decide) kw888 rfl rfl rfl rfl (Nat.le_of_ble_eq_true rfl) dX8_clearTold_2 (fun H locs X => ?_)
  have X : Hx A D S.heap (wf ((upd z.1 41 0), z.2.1, z.2.2)) H locs := X
  refine lv_aload_n hx hb dX8_clearTold_5 rfl (lv_at hl 0 rfl) ?_
  refine lv_iconst (v := 0) hx hb dX8_clearTold_6 (by decide) ?_
  refine fP tyX8 B X (LnX8_g L ((upd z.1 41 0), z.2.1, z.2.2)) 42 (LnX8_i42 L ((upd z.1 41 0), z.2.1, z.2.2) _) rfl inTX8 tyX8_ok nmX8 (by decide) kw889 rfl rfl rfl rfl (Nat.le_of_ble_eq_true rfl) dX8_clearTold_7 (fun H locs X => ?_)
  have X : Hx A D S.heap (wf ((upd (upd z.1 41 0) 42 0), z.2.1, z.2.2)) H locs := X
  refine lv_iconst (v := 0) hx hb dX8_clearTold_10 (by decide) ?_
  refine lv_istore_n (lv' := [(1, .int 0), (0, .ref (a 0))]) hx hb dX8_clearTold_11 rfl hl (by decide) rfl (fun ls hl => ?_)
  exact tX8_clearTold_b12 L hd B 1000 0 ((upd (upd z.1 41 0) 42 0), z.2.1, z.2.2) _ _ _ X (lv_sub hl [1, 0] rfl) h
def fX8_tables_b96 : Nat → Int32 → SX8 → Option (Int32 × SX8)
  | 0, _, _ => none
  | n + 1, x1, z =>
    if (z.1 13) ≤ x1 then ((fX8_clearTold ((upd z.1 5 0), z.2.1, z.2.2)).bind fun q2 =>
    some ((((q2.2.2 4) (0 : Int32).toNatClampNeg) + ((q2.2.2 4) (1 : Int32).toNatClampNeg)), ((upd (upd (upd q2.1 0 ((q2.1 0) + 1)) 6 0) 9 0), q2.2.1, q2.2.2))) else
    (if ((4 + (z.1 12)) + x1) < 0 ∨ 36 ≤ ((4 + (z.1 12)) + x1).toNatClampNeg then none else
    ((fX8_keyBy ((z.2.2 10) ((4 + (z.1 12)) + x1).toNatClampNeg)).bind fun q6 =>
    if (14 + x1) < 0 ∨ 28 ≤ (14 + x1).toNatClampNeg then none else
    (fX8_tables_b96 n (x1 + 1) (z.1, z.2.1, (va_up z.2.2 3 (upd (z.2.2 3) (14 + x1).toNatClampNeg q6))))))
set_option maxRecDepth 100000 in
set_option maxHeartbeats 4000000 in
theorem tX8_tables_b96 {a q : Nat → Nat} {wf : SX8 → va_W} (L : LnX8 a q cI cB wf) {d : Nat} (hd : 5 ≤ d) (B : Bd RX8 cX8_tables 2 (some .int) d A g D [(cI, .int), (cB, .byte)] p R S m args meth c) {q : Int32 × SX8} : ∀ (n : Nat) (x1 : Int32) (z : SX8) (H : Heap) (locs : List Loc) (ls : Array Slot), Hx A D S.heap (wf z) H locs → lv_has ls 2 [(0, .ref (a 0)), (1, .int x1)] → fX8_tables_b96 n x1 z = some q → W p l e R S m args below meth c H locs 0 0 (MQ below (QI A D (wf q.2) q.1) args S 0 0 A) (F0 m 96 ls []) := by
  have hx := B.1
  have hb := B.2.1
  have hd1 : 1 ≤ d := by omega
  intro n
  induction n with
  | zero =>
    intro x1 z H locs ls X hl h
    cases h
  | succ n ih =>
    intro x1 z H locs ls X hl h
    rw [fX8_tables_b96] at h
    refine lv_iload_n hx hb dX8_tables_96 rfl (lv_at hl 1 rfl) ?_
    refine lv_aload_n hx hb dX8_tables_97 rfl (lv_at hl 0 rfl) ?_
    refine fG B X (LnX8_g L z) 13 rfl inTX8 (by decide) kw860 rfl dX8_tables_98 ?_
    refine lv_icmp_ge (tgt := 135) hx hb dX8_tables_101 (by decide) (fun hc1 => ?_) (fun hc1 => ?_)
    · have h := it h hc1
      refine lv_aload_n hx hb dX8_tables_135 rfl (lv_at hl 0 rfl) ?_
      refine lv_iconst (v := 0) hx hb dX8_tables_136 (by decide) ?_
      refine fP tyX8 B X (LnX8_g L z) 5 (LnX8_i5 L z _) rfl inTX8 tyX8_ok nmX8 (by decide) kw852 rfl rfl rfl rfl (Nat.le_of_ble_eq_true rfl) dX8_tables_137 (fun H locs X => ?_)
      have X : Hx A D S.heap (wf ((upd z.1 5 0), z.2.1, z.2.2)) H locs := X
      refine lv_aload_n hx hb dX8_tables_140 rfl (lv_at hl 0 rfl) ?_
      obtain ⟨q2, h2, h⟩ := bs h
      refine kV X (cV (As := []) (rest := []) B X (tX8_clearTold (d := d - 1) L (by omega) h2) mfX8_clearTold kw843 (by omega) (LnX8_g L ((upd z.1 5 0), z.2.1, z.2.2)) rfl rfl (Nat.le_of_ble_eq_true rfl) hl.1 ⟨Nat.zero_le _, Nat.zero_le _⟩ dX8_tables_141) (fun H locs X => ?_)
      have X : Hx A D S.heap (wf q2) H locs := X
      refine lv_aload_n hx hb dX8_tables_144 rfl (lv_at hl 0 rfl) ?_
      refine lv_dup hx hb dX8_tables_145 rfl ?_
      refine fG B X (LnX8_g L q2) 0 rfl inTX8 (by decide) kw847 rfl dX8_tables_146 ?_
      refine lv_iconst (v := 1) hx hb dX8_tables_149 (by decide) ?_
      refine lv_iadd hx hb dX8_tables_150 ?_
      refine fP tyX8 B X (LnX8_g L q2) 0 (LnX8_i0 L q2 _) rfl inTX8 tyX8_ok nmX8 (by decide) kw847 rfl rfl rfl rfl (Nat.le_of_ble_eq_true rfl) dX8_tables_151 (fun H locs X => ?_)
      have X : Hx A D S.heap (wf ((upd q2.1 0 ((q2.1 0) + 1)), q2.2.1, q2.2.2)) H locs := X
      refine lv_aload_n hx hb dX8_tables_154 rfl (lv_at hl 0 rfl) ?_
      refine lv_iconst (v := 0) hx hb dX8_tables_155 (by decide) ?_
      refine fP tyX8 B X (LnX8_g L ((upd q2.1 0 ((q2.1 0) + 1)), q2.2.1, q2.2.2)) 6 (LnX8_i6 L ((upd q2.1 0 ((q2.1 0) + 1)), q2.2.1, q2.2.2) _) rfl inTX8 tyX8_ok nmX8 (by decide) kw853 rfl rfl rfl rfl (Nat.le_of_ble_eq_true rfl) dX8_tables_156 (fun H locs X => ?_)
      have X : Hx A D S.heap (wf ((upd (upd q2.1 0 ((q2.1 0) + 1)) 6 0), q2.2.1, q2.2.2)) H locs := X
      refine lv_aload_n hx hb dX8_tables_159 rfl (lv_at hl 0 rfl) ?_
      refine lv_iconst (v := 0) hx hb dX8_tables_160 (by decide) ?_
      refine fP tyX8 B X (LnX8_g L ((upd (upd q2.1 0 ((q2.1 0) + 1)) 6 0), q2.2.1, q2.2.2)) 9 (LnX8_i9 L ((upd (upd q2.1 0 ((q2.1 0) + 1)) 6 0), q2.2.1, q2.2.2) _) rfl inTX8 tyX8_ok nmX8 (by decide) kw856 rfl rfl rfl rfl (Nat.le_of_ble_eq_true rfl) dX8_tables_161 (fun H locs X => ?_)
      have X : Hx A D S.heap (wf ((upd (upd (upd q2.1 0 ((q2.1 0) + 1)) 6 0) 9 0), q2.2.1, q2.2.2)) H locs := X
      refine lv_aload_n hx hb dX8_tables_164 rfl (lv_at hl 0 rfl) ?_
      refine fG B X (LnX8_g L ((upd (upd (upd q2.1 0 ((q2.1 0) + 1)) 6 0) 9 0), q2.2.1, q2.2.2)) 4 rfl inTX8 (by decide) kw851 rfl dX8_tables_165 ?_
      refine lv_iconst (v := 0) hx hb dX8_tables_168 (by decide) ?_
      refine aG B X (LnX8_a4 L ((upd (upd (upd q2.1 0 ((q2.1 0) + 1)) 6 0) 9 0), q2.2.1, q2.2.2)) 0 rfl (by decide) dX8_tables_169 ?_
      refine lv_aload_n hx hb dX8_tables_170 rfl (lv_at hl 0 rfl) ?_
      refine fG B X (LnX8_g L ((upd (upd (upd q2.1 0 ((q2.1 0) + 1)) 6 0) 9 0), q2.2.1, q2.2.2)) 4 rfl inTX8 (by decide) kw851 rfl dX8_tables_171 ?_
      refine lv_iconst (v := 1) hx hb dX8_tables_174 (by decide) ?_
      refine aG B X (LnX8_a4 L ((upd (upd (upd q2.1 0 ((q2.1 0) + 1)) 6 0) 9 0), q2.2.1, q2.2.2)) 0 rfl (by decide) dX8_tables_175 ?_
      refine lv_iadd hx hb dX8_tables_176 ?_
      exact rI B X (congrArg (fun q => wf q.2) (Option.some.inj h)) (congrArg (fun q => q.1) (Option.some.inj h)) dX8_tables_177
    · have h := ie h hc1
      refine lv_aload_n hx hb dX8_tables_104 rfl (lv_at hl 0 rfl) ?_
      refine fG B X (LnX8_g L z) 3 rfl inTX8 (by decide) kw850 rfl dX8_tables_105 ?_
      refine lv_bipush (v := 14) hx hb dX8_tables_108 (by decide) ?_
      refine lv_iload_n hx hb dX8_tables_110 rfl (lv_at hl 1 rfl) ?_
      refine lv_iadd hx hb dX8_tables_111 ?_
      refine lv_aload_n hx hb dX8_tables_112 rfl (lv_at hl 0 rfl) ?_
      refine fG B X (LnX8_g L z) 10 rfl inTX8 (by decide) kw857 rfl dX8_tables_113 ?_
      refine lv_iconst (v := 4) hx hb dX8_tables_116 (by decide) ?_
      refine lv_aload_n hx hb dX8_tables_117 rfl (lv_at hl 0 rfl) ?_
      refine fG B X (LnX8_g L z) 12 rfl inTX8 (by decide) kw859 rfl dX8_tables_118 ?_
      refine lv_iadd hx hb dX8_tables_121 ?_
      refine lv_iload_n hx hb dX8_tables_122 rfl (lv_at hl 1 rfl) ?_
      refine lv_iadd hx hb dX8_tables_123 ?_
      by_cases hc5 : (((4 + (z.1 12)) + x1) < 0 ∨ 36 ≤ ((4 + (z.1 12)) + x1).toNatClampNeg)
      · cases it h hc5
      have h := ie h hc5
      refine aGb B X (LnX8_a10 L z) 1 rfl hc5 dX8_tables_124 ?_
      obtain ⟨q6, h6, h⟩ := bs h
      refine kI X (cS (As := [.int ((z.2.2 10) ((4 + (z.1 12)) + x1).toNatClampNeg)]) (rest := [.int (14 + x1), .ref (a 3)]) B X (tX8_keyBy (d := d - 1) (by omega) h6) msX8_keyBy kw1072 (by omega) rfl (Nat.le_of_ble_eq_true rfl) hl.1 ⟨Nat.zero_le _, Nat.zero_le _⟩ dX8_tables_125) (fun H locs X => ?_)
      have X : Hx A D S.heap (wf z) H locs := X
      by_cases hc7 : ((14 + x1) < 0 ∨ 28 ≤ (14 + x1).toNatClampNeg)
      · cases it h hc7
      have h := ie h hc7
      refine aP B X (LnX8_a3 L z) (LnX8_b3 L z _) 0 rfl hc7 dX8_tables_128 (fun H locs X => ?_)
      have X : Hx A D S.heap (wf (z.1, z.2.1, (va_up z.2.2 3 (upd (z.2.2 3) (14 + x1).toNatClampNeg q6)))) H locs := X
      refine lv_iinc (v := x1 + 1) (lv' := [(1, .int (x1 + 1)), (0, .ref (a 0))]) hx hb dX8_tables_129 hl (k := 1) rfl rfl (by decide) rfl (fun ls hl => ?_)
      refine lv_goto (tgt := 96) hx hb dX8_tables_132 (by decide) ?_
      exact ih (x1 + 1) (z.1, z.2.1, (va_up z.2.2 3 (upd (z.2.2 3) (14 + x1).toNatClampNeg q6))) _ _ _ X (lv_sub hl [1, 0] rfl) h
def fX8_tables_b63 : Nat → Int32 → SX8 → Option (Int32 × SX8)
  | 0, _, _ => none
  | n + 1, x1, z =>
    if (z.1 12) ≤ x1 then (fX8_tables_b96 1000 0 z) else
    (if (3 + x1) < 0 ∨ 36 ≤ (3 + x1).toNatClampNeg then none else
    ((fX8_keyBy ((z.2.2 10) (3 + x1).toNatClampNeg)).bind fun q3 =>
    if x1 < 0 ∨ 28 ≤ x1.toNatClampNeg then none else
    (fX8_tables_b63 n (x1 + 1) (z.1, z.2.1, (va_up z.2.2 3 (upd (z.2.2 3) x1.toNatClampNeg q3))))))
set_option maxRecDepth 100000 in
set_option maxHeartbeats 4000000 in
theorem tX8_tables_b63 {a q : Nat → Nat} {wf : SX8 → va_W} (L : LnX8 a q cI cB wf) {d : Nat} (hd : 5 ≤ d) (B : Bd RX8 cX8_tables 2 (some .int) d A g D [(cI, .int), (cB, .byte)] p R S m args meth c) {q : Int32 × SX8} : ∀ (n : Nat) (x1 : Int32) (z : SX8) (H : Heap) (locs : List Loc) (ls : Array Slot), Hx A D S.heap (wf z) H locs → lv_has ls 2 [(0, .ref (a 0)), (1, .int x1)] → fX8_tables_b63 n x1 z = some q → W p l e R S m args below meth c H locs 0 0 (MQ below (QI A D (wf q.2) q.1) args S 0 0 A) (F0 m 63 ls []) := by
  have hx := B.1
  have hb := B.2.1
  have hd1 : 1 ≤ d := by omega
  intro n
  induction n with
  | zero =>
    intro x1 z H locs ls X hl h
    cases h
  | succ n ih =>
    intro x1 z H locs ls X hl h
    rw [fX8_tables_b63] at h
    refine lv_iload_n hx hb dX8_tables_63 rfl (lv_at hl 1 rfl) ?_
    refine lv_aload_n hx hb dX8_tables_64 rfl (lv_at hl 0 rfl) ?_
    refine fG B X (LnX8_g L z) 12 rfl inTX8 (by decide) kw859 rfl dX8_tables_65 ?_
    refine lv_icmp_ge (tgt := 94) hx hb dX8_tables_68 (by decide) (fun hc1 => ?_) (fun hc1 => ?_)
    · have h := it h hc1
      refine lv_iconst (v := 0) hx hb dX8_tables_94 (by decide) ?_
      refine lv_istore_n (lv' := [(1, .int 0), (0, .ref (a 0))]) hx hb dX8_tables_95 rfl hl (by decide) rfl (fun ls hl => ?_)
      exact tX8_tables_b96 L hd B 1000 0 z _ _ _ X (lv_sub hl [1, 0] rfl) h
    · have h := ie h hc1
      refine lv_aload_n hx hb dX8_tables_71 rfl (lv_at hl 0 rfl) ?_
      refine fG B X (LnX8_g L z) 3 rfl inTX8 (by decide) kw850 rfl dX8_tables_72 ?_
      refine lv_iload_n hx hb dX8_tables_75 rfl (lv_at hl 1 rfl) ?_
      refine lv_aload_n hx hb dX8_tables_76 rfl (lv_at hl 0 rfl) ?_
      refine fG B X (LnX8_g L z) 10 rfl inTX8 (by decide) kw857 rfl dX8_tables_77 ?_
      refine lv_iconst (v := 3) hx hb dX8_tables_80 (by decide) ?_
      refine lv_iload_n hx hb dX8_tables_81 rfl (lv_at hl 1 rfl) ?_
      refine lv_iadd hx hb dX8_tables_82 ?_
      by_cases hc2 : ((3 + x1) < 0 ∨ 36 ≤ (3 + x1).toNatClampNeg)
      · cases it h hc2
      have h := ie h hc2
      refine aGb B X (LnX8_a10 L z) 1 rfl hc2 dX8_tables_83 ?_
      obtain ⟨q3, h3, h⟩ := bs h
      refine kI X (cS (As := [.int ((z.2.2 10) (3 + x1).toNatClampNeg)]) (rest := [.int x1, .ref (a 3)]) B X (tX8_keyBy (d := d - 1) (by omega) h3) msX8_keyBy kw1072 (by omega) rfl (Nat.le_of_ble_eq_true rfl) hl.1 ⟨Nat.zero_le _, Nat.zero_le _⟩ dX8_tables_84) (fun H locs X => ?_)
      have X : Hx A D S.heap (wf z) H locs := X
      by_cases hc4 : (x1 < 0 ∨ 28 ≤ x1.toNatClampNeg)
      · cases it h hc4
      have h := ie h hc4
      refine aP B X (LnX8_a3 L z) (LnX8_b3 L z _) 0 rfl hc4 dX8_tables_87 (fun H locs X => ?_)
      have X : Hx A D S.heap (wf (z.1, z.2.1, (va_up z.2.2 3 (upd (z.2.2 3) x1.toNatClampNeg q3)))) H locs := X
      refine lv_iinc (v := x1 + 1) (lv' := [(1, .int (x1 + 1)), (0, .ref (a 0))]) hx hb dX8_tables_88 hl (k := 1) rfl rfl (by decide) rfl (fun ls hl => ?_)
      refine lv_goto (tgt := 63) hx hb dX8_tables_91 (by decide) ?_
      exact ih (x1 + 1) (z.1, z.2.1, (va_up z.2.2 3 (upd (z.2.2 3) x1.toNatClampNeg q3))) _ _ _ X (lv_sub hl [1, 0] rfl) h
def fX8_tables (z : SX8) : Option (Int32 × SX8) :=
    (fX8_read z).bind fun q1 =>
    if (q1.2.1 11) = 0 then (some ((-103), q1.2)) else
    ((fX8_kindBy ((q1.2.2.2 10) (1 : Int32).toNatClampNeg)).bind fun q5 =>
    fX8_tables_b63 1000 0 ((upd (upd q1.2.1 1 (((q1.2.2.2 10) (0 : Int32).toNatClampNeg) - 48)) 2 q5), q1.2.2.1, (va_up (va_up q1.2.2.2 4 (upd (q1.2.2.2 4) (0 : Int32).toNatClampNeg (q1.2.1 12))) 4 (upd (upd (q1.2.2.2 4) (0 : Int32).toNatClampNeg (q1.2.1 12)) (1 : Int32).toNatClampNeg (q1.2.1 13)))))
set_option maxRecDepth 100000 in
set_option maxHeartbeats 4000000 in
theorem tX8_tables {a q : Nat → Nat} {wf : SX8 → va_W} (L : LnX8 a q cI cB wf) {d : Nat} (hd : 5 ≤ d) {z : SX8} {q : Int32 × SX8} (h : fX8_tables z = some q) : Ct l yX8_tables cX8_tables 2 (some .int) d A g D [(cI, .int), (cB, .byte)] [.ref (a 0)] (wf z) (QI A D (wf q.2) q.1) := by
  refine mkM (by decide) (Nat.le_of_ble_eq_true rfl) ?_
  intro p e S m args below meth c B X ls hl
  have B : Bd RX8 cX8_tables 2 (some .int) d A g D [(cI, .int), (cB, .byte)] p (rmd d) S m args meth c := B
  have hx := B.1
  have hb := B.2.1
  have hd1 : 1 ≤ d := by omega
  have hl : lv_has ls 2 [(0, .ref (a 0))] := hl
  unfold fX8_tables at h
  refine lv_aload_n hx hb dX8_tables_0 rfl (lv_at hl 0 rfl) ?_
  obtain ⟨q1, h1, h⟩ := bs h
  refine kI X (cV (As := []) (rest := []) B X (tX8_read (d := d - 1) L (by omega) h1) mfX8_read kw1049 (by omega) (LnX8_g L z) rfl rfl (Nat.le_of_ble_eq_true rfl) hl.1 ⟨Nat.zero_le _, Nat.zero_le _⟩ dX8_tables_1) (fun H locs X => ?_)
  have X : Hx A D S.heap (wf q1.2) H locs := X
  refine lv_pop hx hb dX8_tables_4 rfl ?_
  refine lv_aload_n hx hb dX8_tables_5 rfl (lv_at hl 0 rfl) ?_
  refine fG B X (LnX8_g L q1.2) 11 rfl inTX8 (by decide) kw858 rfl dX8_tables_6 ?_
  refine lv_if_ne (tgt := 15) hx hb dX8_tables_9 (by decide) (fun hc2 => ?_) (fun hc2 => ?_)
  · have h := ie h hc2
    refine lv_aload_n hx hb dX8_tables_15 rfl (lv_at hl 0 rfl) ?_
    refine lv_aload_n hx hb dX8_tables_16 rfl (lv_at hl 0 rfl) ?_
    refine fG B X (LnX8_g L q1.2) 10 rfl inTX8 (by decide) kw857 rfl dX8_tables_17 ?_
    refine lv_iconst (v := 0) hx hb dX8_tables_20 (by decide) ?_
    refine aGb B X (LnX8_a10 L q1.2) 1 rfl (by decide) dX8_tables_21 ?_
    refine lv_bipush (v := 48) hx hb dX8_tables_22 (by decide) ?_
    refine lv_isub hx hb dX8_tables_24 ?_
    refine fP tyX8 B X (LnX8_g L q1.2) 1 (LnX8_i1 L q1.2 _) rfl inTX8 tyX8_ok nmX8 (by decide) kw848 rfl rfl rfl rfl (Nat.le_of_ble_eq_true rfl) dX8_tables_25 (fun H locs X => ?_)
    have X : Hx A D S.heap (wf ((upd q1.2.1 1 (((q1.2.2.2 10) (0 : Int32).toNatClampNeg) - 48)), q1.2.2.1, q1.2.2.2)) H locs := X
    refine lv_aload_n hx hb dX8_tables_28 rfl (lv_at hl 0 rfl) ?_
    refine lv_aload_n hx hb dX8_tables_29 rfl (lv_at hl 0 rfl) ?_
    refine fG B X (LnX8_g L ((upd q1.2.1 1 (((q1.2.2.2 10) (0 : Int32).toNatClampNeg) - 48)), q1.2.2.1, q1.2.2.2)) 10 rfl inTX8 (by decide) kw857 rfl dX8_tables_30 ?_
    refine lv_iconst (v := 1) hx hb dX8_tables_33 (by decide) ?_
    refine aGb B X (LnX8_a10 L ((upd q1.2.1 1 (((q1.2.2.2 10) (0 : Int32).toNatClampNeg) - 48)), q1.2.2.1, q1.2.2.2)) 1 rfl (by decide) dX8_tables_34 ?_
    obtain ⟨q5, h5, h⟩ := bs h
    refine kI X (cS (As := [.int ((q1.2.2.2 10) (1 : Int32).toNatClampNeg)]) (rest := [.ref (a 0)]) B X (tX8_kindBy (d := d - 1) (by omega) h5) msX8_kindBy kw1057 (by omega) rfl (Nat.le_of_ble_eq_true rfl) hl.1 ⟨Nat.zero_le _, Nat.zero_le _⟩ dX8_tables_35) (fun H locs X => ?_)
    have X : Hx A D S.heap (wf ((upd q1.2.1 1 (((q1.2.2.2 10) (0 : Int32).toNatClampNeg) - 48)), q1.2.2.1, q1.2.2.2)) H locs := X
    refine fP tyX8 B X (LnX8_g L ((upd q1.2.1 1 (((q1.2.2.2 10) (0 : Int32).toNatClampNeg) - 48)), q1.2.2.1, q1.2.2.2)) 2 (LnX8_i2 L ((upd q1.2.1 1 (((q1.2.2.2 10) (0 : Int32).toNatClampNeg) - 48)), q1.2.2.1, q1.2.2.2) _) rfl inTX8 tyX8_ok nmX8 (by decide) kw849 rfl rfl rfl rfl (Nat.le_of_ble_eq_true rfl) dX8_tables_38 (fun H locs X => ?_)
    have X : Hx A D S.heap (wf ((upd (upd q1.2.1 1 (((q1.2.2.2 10) (0 : Int32).toNatClampNeg) - 48)) 2 q5), q1.2.2.1, q1.2.2.2)) H locs := X
    refine lv_aload_n hx hb dX8_tables_41 rfl (lv_at hl 0 rfl) ?_
    refine fG B X (LnX8_g L ((upd (upd q1.2.1 1 (((q1.2.2.2 10) (0 : Int32).toNatClampNeg) - 48)) 2 q5), q1.2.2.1, q1.2.2.2)) 4 rfl inTX8 (by decide) kw851 rfl dX8_tables_42 ?_
    refine lv_iconst (v := 0) hx hb dX8_tables_45 (by decide) ?_
    refine lv_aload_n hx hb dX8_tables_46 rfl (lv_at hl 0 rfl) ?_
    refine fG B X (LnX8_g L ((upd (upd q1.2.1 1 (((q1.2.2.2 10) (0 : Int32).toNatClampNeg) - 48)) 2 q5), q1.2.2.1, q1.2.2.2)) 12 rfl inTX8 (by decide) kw859 rfl dX8_tables_47 ?_
    refine aP B X (LnX8_a4 L ((upd (upd q1.2.1 1 (((q1.2.2.2 10) (0 : Int32).toNatClampNeg) - 48)) 2 q5), q1.2.2.1, q1.2.2.2)) (LnX8_b4 L ((upd (upd q1.2.1 1 (((q1.2.2.2 10) (0 : Int32).toNatClampNeg) - 48)) 2 q5), q1.2.2.1, q1.2.2.2) _) 0 rfl (by decide) dX8_tables_50 (fun H locs X => ?_)
    have X : Hx A D S.heap (wf ((upd (upd q1.2.1 1 (((q1.2.2.2 10) (0 : Int32).toNatClampNeg) - 48)) 2 q5), q1.2.2.1, (va_up q1.2.2.2 4 (upd (q1.2.2.2 4) (0 : Int32).toNatClampNeg (q1.2.1 12))))) H locs := X
    refine lv_aload_n hx hb dX8_tables_51 rfl (lv_at hl 0 rfl) ?_
    refine fG B X (LnX8_g L ((upd (upd q1.2.1 1 (((q1.2.2.2 10) (0 : Int32).toNatClampNeg) - 48)) 2 q5), q1.2.2.1, (va_up q1.2.2.2 4 (upd (q1.2.2.2 4) (0 : Int32).toNatClampNeg (q1.2.1 12))))) 4 rfl inTX8 (by decide) kw851 rfl dX8_tables_52 ?_
    refine lv_iconst (v := 1) hx hb dX8_tables_55 (by decide) ?_
    refine lv_aload_n hx hb dX8_tables_56 rfl (lv_at hl 0 rfl) ?_
    refine fG B X (LnX8_g L ((upd (upd q1.2.1 1 (((q1.2.2.2 10) (0 : Int32).toNatClampNeg) - 48)) 2 q5), q1.2.2.1, (va_up q1.2.2.2 4 (upd (q1.2.2.2 4) (0 : Int32).toNatClampNeg (q1.2.1 12))))) 13 rfl inTX8 (by decide) kw860 rfl dX8_tables_57 ?_
    refine aP B X (LnX8_a4 L ((upd (upd q1.2.1 1 (((q1.2.2.2 10) (0 : Int32).toNatClampNeg) - 48)) 2 q5), q1.2.2.1, (va_up q1.2.2.2 4 (upd (q1.2.2.2 4) (0 : Int32).toNatClampNeg (q1.2.1 12))))) (LnX8_b4 L ((upd (upd q1.2.1 1 (((q1.2.2.2 10) (0 : Int32).toNatClampNeg) - 48)) 2 q5), q1.2.2.1, (va_up q1.2.2.2 4 (upd (q1.2.2.2 4) (0 : Int32).toNatClampNeg (q1.2.1 12)))) _) 0 rfl (by decide) dX8_tables_60 (fun H locs X => ?_)
    have X : Hx A D S.heap (wf ((upd (upd q1.2.1 1 (((q1.2.2.2 10) (0 : Int32).toNatClampNeg) - 48)) 2 q5), q1.2.2.1, (va_up (va_up q1.2.2.2 4 (upd (q1.2.2.2 4) (0 : Int32).toNatClampNeg (q1.2.1 12))) 4 (upd (upd (q1.2.2.2 4) (0 : Int32).toNatClampNeg (q1.2.1 12)) (1 : Int32).toNatClampNeg (q1.2.1 13))))) H locs := X
    refine lv_iconst (v := 0) hx hb dX8_tables_61 (by decide) ?_
    refine lv_istore_n (lv' := [(1, .int 0), (0, .ref (a 0))]) hx hb dX8_tables_62 rfl hl (by decide) rfl (fun ls hl => ?_)
    exact tX8_tables_b63 L hd B 1000 0 ((upd (upd q1.2.1 1 (((q1.2.2.2 10) (0 : Int32).toNatClampNeg) - 48)) 2 q5), q1.2.2.1, (va_up (va_up q1.2.2.2 4 (upd (q1.2.2.2 4) (0 : Int32).toNatClampNeg (q1.2.1 12))) 4 (upd (upd (q1.2.2.2 4) (0 : Int32).toNatClampNeg (q1.2.1 12)) (1 : Int32).toNatClampNeg (q1.2.1 13)))) _ _ _ X (lv_sub hl [1, 0] rfl) h
  · have h := it h hc2
    refine lv_bipush (v := (-103)) hx hb dX8_tables_12 (by decide) ?_
    exact rI B X (congrArg (fun q => wf q.2) (Option.some.inj h)) (congrArg (fun q => q.1) (Option.some.inj h)) dX8_tables_14
def fX8_isSide (x0 : Int32) : Option Int32 :=
    (fX8_within x0 0 1).bind fun q1 =>
    if q1 = 0 ∨ q1 = 1 then some q1 else none
set_option maxRecDepth 100000 in
set_option maxHeartbeats 4000000 in
theorem tX8_isSide {w : va_W} {d : Nat} (hd : 2 ≤ d) {x0 : Int32} {q : Int32} (h : fX8_isSide x0 = some q) : Ct l yX8_isSide cX8_isSide 1 (some .boolean) d A g D [(cI, .int), (cB, .byte)] [.int x0] (w) (QI A D w q) := by
  refine mkM (by decide) (Nat.le_of_ble_eq_true rfl) ?_
  intro p e S m args below meth c B X ls hl
  have B : Bd RX8 cX8_isSide 1 (some .boolean) d A g D [(cI, .int), (cB, .byte)] p (rmd d) S m args meth c := B
  have hx := B.1
  have hb := B.2.1
  have hd1 : 1 ≤ d := by omega
  have hl : lv_has ls 1 [(0, .int x0)] := hl
  unfold fX8_isSide at h
  refine lv_iload_n hx hb dX8_isSide_0 rfl (lv_at hl 0 rfl) ?_
  refine lv_iconst (v := 0) hx hb dX8_isSide_1 (by decide) ?_
  refine lv_iconst (v := 1) hx hb dX8_isSide_2 (by decide) ?_
  obtain ⟨q1, h1, h⟩ := bs h
  refine kI X (cS (As := [.int x0, .int 0, .int 1]) (rest := []) B X (tX8_within (d := d - 1) (by omega) h1) msX8_within kw1038 (by omega) rfl (Nat.le_of_ble_eq_true rfl) hl.1 ⟨Nat.zero_le _, Nat.zero_le _⟩ dX8_isSide_3) (fun H locs X => ?_)
  by_cases hc2 : (q1 = 0 ∨ q1 = 1)
  · have h := it h hc2
    exact rZ B X rfl (Option.some.inj h) (by rcases hc2 with e1 | e1 <;> rw [e1] <;> rfl) dX8_isSide_6
  · cases ie h hc2
def fX8_isRow (z : SX8) (x1 : Int32) (x2 : Int32) : Option Int32 :=
    (fX8_isSide x1).bind fun q1 =>
    if q1 = 0 then (some 0) else
    (if x1 < 0 ∨ 2 ≤ x1.toNatClampNeg then none else
    ((fX8_within x2 0 (((z.2.2 4) x1.toNatClampNeg) - 1)).bind fun q4 =>
    if q4 = 0 then (some 0) else
    (some 1)))
set_option maxRecDepth 100000 in
set_option maxHeartbeats 4000000 in
theorem tX8_isRow {a q : Nat → Nat} {wf : SX8 → va_W} (L : LnX8 a q cI cB wf) {d : Nat} (hd : 3 ≤ d) {z : SX8} {x1 x2 : Int32} {q : Int32} (h : fX8_isRow z x1 x2 = some q) : Ct l yX8_isRow cX8_isRow 3 (some .boolean) d A g D [(cI, .int), (cB, .byte)] [.ref (a 0), .int x1, .int x2] (wf z) (QI A D (wf z) q) := by
  refine mkM (by decide) (Nat.le_of_ble_eq_true rfl) ?_
  intro p e S m args below meth c B X ls hl
  have B : Bd RX8 cX8_isRow 3 (some .boolean) d A g D [(cI, .int), (cB, .byte)] p (rmd d) S m args meth c := B
  have hx := B.1
  have hb := B.2.1
  have hd1 : 1 ≤ d := by omega
  have hl : lv_has ls 3 [(0, .ref (a 0)), (1, .int x1), (2, .int x2)] := hl
  unfold fX8_isRow at h
  refine lv_iload_n hx hb dX8_isRow_0 rfl (lv_at hl 1 rfl) ?_
  obtain ⟨q1, h1, h⟩ := bs h
  refine kI X (cS (As := [.int x1]) (rest := []) B X (tX8_isSide (d := d - 1) (by omega) h1) msX8_isSide kw1083 (by omega) rfl (Nat.le_of_ble_eq_true rfl) hl.1 ⟨Nat.zero_le _, Nat.zero_le _⟩ dX8_isRow_1) (fun H locs X => ?_)
  have X : Hx A D S.heap (wf z) H locs := X
  refine lv_if_eq (tgt := 27) hx hb dX8_isRow_4 (by decide) (fun hc2 => ?_) (fun hc2 => ?_)
  · have h := it h hc2
    refine lv_iconst (v := 0) hx hb dX8_isRow_27 (by decide) ?_
    exact rZ B X rfl (Option.some.inj h) rfl dX8_isRow_28
  · have h := ie h hc2
    refine lv_iload_n hx hb dX8_isRow_7 rfl (lv_at hl 2 rfl) ?_
    refine lv_iconst (v := 0) hx hb dX8_isRow_8 (by decide) ?_
    refine lv_aload_n hx hb dX8_isRow_9 rfl (lv_at hl 0 rfl) ?_
    refine fG B X (LnX8_g L z) 4 rfl inTX8 (by decide) kw851 rfl dX8_isRow_10 ?_
    refine lv_iload_n hx hb dX8_isRow_13 rfl (lv_at hl 1 rfl) ?_
    by_cases hc3 : (x1 < 0 ∨ 2 ≤ x1.toNatClampNeg)
    · cases it h hc3
    have h := ie h hc3
    refine aG B X (LnX8_a4 L z) 0 rfl hc3 dX8_isRow_14 ?_
    refine lv_iconst (v := 1) hx hb dX8_isRow_15 (by decide) ?_
    refine lv_isub hx hb dX8_isRow_16 ?_
    obtain ⟨q4, h4, h⟩ := bs h
    refine kI X (cS (As := [.int x2, .int 0, .int (((z.2.2 4) x1.toNatClampNeg) - 1)]) (rest := []) B X (tX8_within (d := d - 1) (by omega) h4) msX8_within kw1038 (by omega) rfl (Nat.le_of_ble_eq_true rfl) hl.1 ⟨Nat.zero_le _, Nat.zero_le _⟩ dX8_isRow_17) (fun H locs X => ?_)
    have X : Hx A D S.heap (wf z) H locs := X
    refine lv_if_eq (tgt := 27) hx hb dX8_isRow_20 (by decide) (fun hc5 => ?_) (fun hc5 => ?_)
    · have h := it h hc5
      refine lv_iconst (v := 0) hx hb dX8_isRow_27 (by decide) ?_
      exact rZ B X rfl (Option.some.inj h) rfl dX8_isRow_28
    · have h := ie h hc5
      refine lv_iconst (v := 1) hx hb dX8_isRow_23 (by decide) ?_
      refine lv_goto (tgt := 28) hx hb dX8_isRow_24 (by decide) ?_
      exact rZ B X rfl (Option.some.inj h) rfl dX8_isRow_28
def fX8_keyAt (z : SX8) (x1 : Int32) (x2 : Int32) : Option Int32 :=
    if ((14 * x1) + x2) < 0 ∨ 28 ≤ ((14 * x1) + x2).toNatClampNeg then none else
    (some ((z.2.2 3) ((14 * x1) + x2).toNatClampNeg))
set_option maxRecDepth 100000 in
set_option maxHeartbeats 4000000 in
theorem tX8_keyAt {a q : Nat → Nat} {wf : SX8 → va_W} (L : LnX8 a q cI cB wf) {d : Nat} (hd : 1 ≤ d) {z : SX8} {x1 x2 : Int32} {q : Int32} (h : fX8_keyAt z x1 x2 = some q) : Ct l yX8_keyAt cX8_keyAt 3 (some .int) d A g D [(cI, .int), (cB, .byte)] [.ref (a 0), .int x1, .int x2] (wf z) (QI A D (wf z) q) := by
  refine mkM (by decide) (Nat.le_of_ble_eq_true rfl) ?_
  intro p e S m args below meth c B X ls hl
  have B : Bd RX8 cX8_keyAt 3 (some .int) d A g D [(cI, .int), (cB, .byte)] p (rmd d) S m args meth c := B
  have hx := B.1
  have hb := B.2.1
  have hd1 : 1 ≤ d := by omega
  have hl : lv_has ls 3 [(0, .ref (a 0)), (1, .int x1), (2, .int x2)] := hl
  unfold fX8_keyAt at h
  refine lv_aload_n hx hb dX8_keyAt_0 rfl (lv_at hl 0 rfl) ?_
  refine fG B X (LnX8_g L z) 3 rfl inTX8 (by decide) kw850 rfl dX8_keyAt_1 ?_
  refine lv_bipush (v := 14) hx hb dX8_keyAt_4 (by decide) ?_
  refine lv_iload_n hx hb dX8_keyAt_6 rfl (lv_at hl 1 rfl) ?_
  refine lv_imul hx hb dX8_keyAt_7 ?_
  refine lv_iload_n hx hb dX8_keyAt_8 rfl (lv_at hl 2 rfl) ?_
  refine lv_iadd hx hb dX8_keyAt_9 ?_
  by_cases hc1 : (((14 * x1) + x2) < 0 ∨ 28 ≤ ((14 * x1) + x2).toNatClampNeg)
  · cases it h hc1
  have h := ie h hc1
  refine aG B X (LnX8_a3 L z) 0 rfl hc1 dX8_keyAt_10 ?_
  exact rI B X rfl (Option.some.inj h) dX8_keyAt_11
def fX8_partnersOf_b5 (z : SX8) : Nat → Int32 → Int32 → Int32 → Int32 → Option Int32
  | 0, _, _, _, _ => none
  | n + 1, x1, x2, x3, x4 =>
    if (1 - x1) < 0 ∨ 2 ≤ (1 - x1).toNatClampNeg then none else
    (if ((z.2.2 4) (1 - x1).toNatClampNeg) ≤ x4 then (some x3) else
    ((fX8_keyAt z x1 x2).bind fun q3 =>
    if q3 = (-1) then (fX8_partnersOf_b5 z n x1 x2 (x3 + 0) (x4 + 1)) else
    ((fX8_keyAt z (1 - x1) x4).bind fun q5 =>
    (fX8_keyAt z x1 x2).bind fun q6 =>
    if q5 = q6 then (fX8_partnersOf_b5 z n x1 x2 (x3 + 1) (x4 + 1)) else
    (fX8_partnersOf_b5 z n x1 x2 (x3 + 0) (x4 + 1)))))
set_option maxRecDepth 100000 in
set_option maxHeartbeats 4000000 in
theorem tX8_partnersOf_b5 {a q : Nat → Nat} {wf : SX8 → va_W} (L : LnX8 a q cI cB wf) {d : Nat} (hd : 2 ≤ d) {z : SX8} (B : Bd RX8 cX8_partnersOf 5 (some .int) d A g D [(cI, .int), (cB, .byte)] p R S m args meth c) {q : Int32} : ∀ (n : Nat) (x1 : Int32) (x2 : Int32) (x3 : Int32) (x4 : Int32) (H : Heap) (locs : List Loc) (ls : Array Slot), Hx A D S.heap (wf z) H locs → lv_has ls 5 [(0, .ref (a 0)), (1, .int x1), (2, .int x2), (3, .int x3), (4, .int x4)] → fX8_partnersOf_b5 z n x1 x2 x3 x4 = some q → W p l e R S m args below meth c H locs 0 0 (MQ below (QI A D (wf z) q) args S 0 0 A) (F0 m 5 ls []) := by
  have hx := B.1
  have hb := B.2.1
  have hd1 : 1 ≤ d := by omega
  intro n
  induction n with
  | zero =>
    intro x1 x2 x3 x4 H locs ls X hl h
    cases h
  | succ n ih =>
    intro x1 x2 x3 x4 H locs ls X hl h
    rw [fX8_partnersOf_b5] at h
    refine lv_iload hx hb dX8_partnersOf_5 (lv_at hl 4 rfl) ?_
    refine lv_aload_n hx hb dX8_partnersOf_7 rfl (lv_at hl 0 rfl) ?_
    refine fG B X (LnX8_g L z) 4 rfl inTX8 (by decide) kw851 rfl dX8_partnersOf_8 ?_
    refine lv_iconst (v := 1) hx hb dX8_partnersOf_11 (by decide) ?_
    refine lv_iload_n hx hb dX8_partnersOf_12 rfl (lv_at hl 1 rfl) ?_
    refine lv_isub hx hb dX8_partnersOf_13 ?_
    by_cases hc1 : ((1 - x1) < 0 ∨ 2 ≤ (1 - x1).toNatClampNeg)
    · cases it h hc1
    have h := ie h hc1
    refine aG B X (LnX8_a4 L z) 0 rfl hc1 dX8_partnersOf_14 ?_
    refine lv_icmp_ge (tgt := 60) hx hb dX8_partnersOf_15 (by decide) (fun hc2 => ?_) (fun hc2 => ?_)
    · have h := it h hc2
      refine lv_iload_n hx hb dX8_partnersOf_60 rfl (lv_at hl 3 rfl) ?_
      exact rI B X rfl (Option.some.inj h) dX8_partnersOf_61
    · have h := ie h hc2
      refine lv_iload_n hx hb dX8_partnersOf_18 rfl (lv_at hl 3 rfl) ?_
      refine lv_aload_n hx hb dX8_partnersOf_19 rfl (lv_at hl 0 rfl) ?_
      refine lv_iload_n hx hb dX8_partnersOf_20 rfl (lv_at hl 1 rfl) ?_
      refine lv_iload_n hx hb dX8_partnersOf_21 rfl (lv_at hl 2 rfl) ?_
      obtain ⟨q3, h3, h⟩ := bs h
      refine kI X (cV (As := [.int x1, .int x2]) (rest := [.int x3]) B X (tX8_keyAt (d := d - 1) L (by omega) h3) mfX8_keyAt kw1090 (by omega) (LnX8_g L z) rfl rfl (Nat.le_of_ble_eq_true rfl) hl.1 ⟨Nat.zero_le _, Nat.zero_le _⟩ dX8_partnersOf_22) (fun H locs X => ?_)
      have X : Hx A D S.heap (wf z) H locs := X
      refine lv_iconst (v := (-1)) hx hb dX8_partnersOf_25 (by decide) ?_
      refine lv_icmp_eq (tgt := 51) hx hb dX8_partnersOf_26 (by decide) (fun hc4 => ?_) (fun hc4 => ?_)
      · have h := it h hc4
        refine lv_iconst (v := 0) hx hb dX8_partnersOf_51 (by decide) ?_
        refine lv_iadd hx hb dX8_partnersOf_52 ?_
        refine lv_istore_n (lv' := [(3, .int (x3 + 0)), (0, .ref (a 0)), (1, .int x1), (2, .int x2), (4, .int x4)]) hx hb dX8_partnersOf_53 rfl hl (by decide) rfl (fun ls hl => ?_)
        refine lv_iinc (v := x4 + 1) (lv' := [(4, .int (x4 + 1)), (3, .int (x3 + 0)), (0, .ref (a 0)), (1, .int x1), (2, .int x2)]) hx hb dX8_partnersOf_54 hl (k := 4) rfl rfl (by decide) rfl (fun ls hl => ?_)
        refine lv_goto (tgt := 5) hx hb dX8_partnersOf_57 (by decide) ?_
        exact ih x1 x2 (x3 + 0) (x4 + 1) _ _ _ X (lv_sub hl [2, 3, 4, 1, 0] rfl) h
      · have h := ie h hc4
        refine lv_aload_n hx hb dX8_partnersOf_29 rfl (lv_at hl 0 rfl) ?_
        refine lv_iconst (v := 1) hx hb dX8_partnersOf_30 (by decide) ?_
        refine lv_iload_n hx hb dX8_partnersOf_31 rfl (lv_at hl 1 rfl) ?_
        refine lv_isub hx hb dX8_partnersOf_32 ?_
        refine lv_iload hx hb dX8_partnersOf_33 (lv_at hl 4 rfl) ?_
        obtain ⟨q5, h5, h⟩ := bs h
        refine kI X (cV (As := [.int (1 - x1), .int x4]) (rest := [.int x3]) B X (tX8_keyAt (d := d - 1) L (by omega) h5) mfX8_keyAt kw1090 (by omega) (LnX8_g L z) rfl rfl (Nat.le_of_ble_eq_true rfl) hl.1 ⟨Nat.zero_le _, Nat.zero_le _⟩ dX8_partnersOf_35) (fun H locs X => ?_)
        have X : Hx A D S.heap (wf z) H locs := X
        refine lv_aload_n hx hb dX8_partnersOf_38 rfl (lv_at hl 0 rfl) ?_
        refine lv_iload_n hx hb dX8_partnersOf_39 rfl (lv_at hl 1 rfl) ?_
        refine lv_iload_n hx hb dX8_partnersOf_40 rfl (lv_at hl 2 rfl) ?_
        obtain ⟨q6, h6, h⟩ := bs h
        refine kI X (cV (As := [.int x1, .int x2]) (rest := [.int q5, .int x3]) B X (tX8_keyAt (d := d - 1) L (by omega) h6) mfX8_keyAt kw1090 (by omega) (LnX8_g L z) rfl rfl (Nat.le_of_ble_eq_true rfl) hl.1 ⟨Nat.zero_le _, Nat.zero_le _⟩ dX8_partnersOf_41) (fun H locs X => ?_)
        have X : Hx A D S.heap (wf z) H locs := X
        refine lv_icmp_ne (tgt := 51) hx hb dX8_partnersOf_44 (by decide) (fun hc7 => ?_) (fun hc7 => ?_)
        · have h := ie h hc7
          refine lv_iconst (v := 0) hx hb dX8_partnersOf_51 (by decide) ?_
          refine lv_iadd hx hb dX8_partnersOf_52 ?_
          refine lv_istore_n (lv' := [(3, .int (x3 + 0)), (0, .ref (a 0)), (1, .int x1), (2, .int x2), (4, .int x4)]) hx hb dX8_partnersOf_53 rfl hl (by decide) rfl (fun ls hl => ?_)
          refine lv_iinc (v := x4 + 1) (lv' := [(4, .int (x4 + 1)), (3, .int (x3 + 0)), (0, .ref (a 0)), (1, .int x1), (2, .int x2)]) hx hb dX8_partnersOf_54 hl (k := 4) rfl rfl (by decide) rfl (fun ls hl => ?_)
          refine lv_goto (tgt := 5) hx hb dX8_partnersOf_57 (by decide) ?_
          exact ih x1 x2 (x3 + 0) (x4 + 1) _ _ _ X (lv_sub hl [2, 3, 4, 1, 0] rfl) h
        · have h := it h hc7
          refine lv_iconst (v := 1) hx hb dX8_partnersOf_47 (by decide) ?_
          refine lv_goto (tgt := 52) hx hb dX8_partnersOf_48 (by decide) ?_
          refine lv_iadd hx hb dX8_partnersOf_52 ?_
          refine lv_istore_n (lv' := [(3, .int (x3 + 1)), (0, .ref (a 0)), (1, .int x1), (2, .int x2), (4, .int x4)]) hx hb dX8_partnersOf_53 rfl hl (by decide) rfl (fun ls hl => ?_)
          refine lv_iinc (v := x4 + 1) (lv' := [(4, .int (x4 + 1)), (3, .int (x3 + 1)), (0, .ref (a 0)), (1, .int x1), (2, .int x2)]) hx hb dX8_partnersOf_54 hl (k := 4) rfl rfl (by decide) rfl (fun ls hl => ?_)
          refine lv_goto (tgt := 5) hx hb dX8_partnersOf_57 (by decide) ?_
          exact ih x1 x2 (x3 + 1) (x4 + 1) _ _ _ X (lv_sub hl [2, 3, 4, 1, 0] rfl) h
def fX8_partnersOf (z : SX8) (x1 : Int32) (x2 : Int32) : Option Int32 :=
    fX8_partnersOf_b5 z 1000 x1 x2 0 0
set_option maxRecDepth 100000 in
set_option maxHeartbeats 4000000 in
theorem tX8_partnersOf {a q : Nat → Nat} {wf : SX8 → va_W} (L : LnX8 a q cI cB wf) {d : Nat} (hd : 2 ≤ d) {z : SX8} {x1 x2 : Int32} {q : Int32} (h : fX8_partnersOf z x1 x2 = some q) : Ct l yX8_partnersOf cX8_partnersOf 5 (some .int) d A g D [(cI, .int), (cB, .byte)] [.ref (a 0), .int x1, .int x2] (wf z) (QI A D (wf z) q) := by
  refine mkM (by decide) (Nat.le_of_ble_eq_true rfl) ?_
  intro p e S m args below meth c B X ls hl
  have B : Bd RX8 cX8_partnersOf 5 (some .int) d A g D [(cI, .int), (cB, .byte)] p (rmd d) S m args meth c := B
  have hx := B.1
  have hb := B.2.1
  have hd1 : 1 ≤ d := by omega
  have hl : lv_has ls 5 [(0, .ref (a 0)), (1, .int x1), (2, .int x2)] := hl
  unfold fX8_partnersOf at h
  refine lv_iconst (v := 0) hx hb dX8_partnersOf_0 (by decide) ?_
  refine lv_istore_n (lv' := [(3, .int 0), (0, .ref (a 0)), (1, .int x1), (2, .int x2)]) hx hb dX8_partnersOf_1 rfl hl (by decide) rfl (fun ls hl => ?_)
  refine lv_iconst (v := 0) hx hb dX8_partnersOf_2 (by decide) ?_
  refine lv_istore (lv' := [(4, .int 0), (3, .int 0), (0, .ref (a 0)), (1, .int x1), (2, .int x2)]) hx hb dX8_partnersOf_3 hl (by decide) rfl (fun ls hl => ?_)
  exact tX8_partnersOf_b5 L hd B 1000 x1 x2 0 0 _ _ _ X (lv_sub hl [2, 3, 4, 1, 0] rfl) h
def fX8_rowNow (z : SX8) (x1 : Int32) (x2 : Int32) (x3 : Int32) : Option Int32 :=
    if x3 = 0 then ((fX8_keyAt z x1 x2).bind fun q3 =>
    some q3) else
    ((fX8_partnersOf z x1 x2).bind fun q2 =>
    some q2)
set_option maxRecDepth 100000 in
set_option maxHeartbeats 4000000 in
theorem tX8_rowNow {a q : Nat → Nat} {wf : SX8 → va_W} (L : LnX8 a q cI cB wf) {d : Nat} (hd : 3 ≤ d) {z : SX8} {x1 x2 x3 : Int32} {q : Int32} (h : fX8_rowNow z x1 x2 x3 = some q) : Ct l yX8_rowNow cX8_rowNow 4 (some .int) d A g D [(cI, .int), (cB, .byte)] [.ref (a 0), .int x1, .int x2, .int x3] (wf z) (QI A D (wf z) q) := by
  refine mkM (by decide) (Nat.le_of_ble_eq_true rfl) ?_
  intro p e S m args below meth c B X ls hl
  have B : Bd RX8 cX8_rowNow 4 (some .int) d A g D [(cI, .int), (cB, .byte)] p (rmd d) S m args meth c := B
  have hx := B.1
  have hb := B.2.1
  have hd1 : 1 ≤ d := by omega
  have hl : lv_has ls 4 [(0, .ref (a 0)), (1, .int x1), (2, .int x2), (3, .int x3)] := hl
  unfold fX8_rowNow at h
  refine lv_iload_n hx hb dX8_rowNow_0 rfl (lv_at hl 3 rfl) ?_
  refine lv_if_ne (tgt := 13) hx hb dX8_rowNow_1 (by decide) (fun hc1 => ?_) (fun hc1 => ?_)
  · have h := ie h hc1
    refine lv_aload_n hx hb dX8_rowNow_13 rfl (lv_at hl 0 rfl) ?_
    refine lv_iload_n hx hb dX8_rowNow_14 rfl (lv_at hl 1 rfl) ?_
    refine lv_iload_n hx hb dX8_rowNow_15 rfl (lv_at hl 2 rfl) ?_
    obtain ⟨q2, h2, h⟩ := bs h
    refine kI X (cV (As := [.int x1, .int x2]) (rest := []) B X (tX8_partnersOf (d := d - 1) L (by omega) h2) mfX8_partnersOf kw1094 (by omega) (LnX8_g L z) rfl rfl (Nat.le_of_ble_eq_true rfl) hl.1 ⟨Nat.zero_le _, Nat.zero_le _⟩ dX8_rowNow_16) (fun H locs X => ?_)
    have X : Hx A D S.heap (wf z) H locs := X
    exact rI B X rfl (Option.some.inj h) dX8_rowNow_19
  · have h := it h hc1
    refine lv_aload_n hx hb dX8_rowNow_4 rfl (lv_at hl 0 rfl) ?_
    refine lv_iload_n hx hb dX8_rowNow_5 rfl (lv_at hl 1 rfl) ?_
    refine lv_iload_n hx hb dX8_rowNow_6 rfl (lv_at hl 2 rfl) ?_
    obtain ⟨q3, h3, h⟩ := bs h
    refine kI X (cV (As := [.int x1, .int x2]) (rest := []) B X (tX8_keyAt (d := d - 1) L (by omega) h3) mfX8_keyAt kw1090 (by omega) (LnX8_g L z) rfl rfl (Nat.le_of_ble_eq_true rfl) hl.1 ⟨Nat.zero_le _, Nat.zero_le _⟩ dX8_rowNow_7) (fun H locs X => ?_)
    have X : Hx A D S.heap (wf z) H locs := X
    refine lv_goto (tgt := 19) hx hb dX8_rowNow_10 (by decide) ?_
    exact rI B X rfl (Option.some.inj h) dX8_rowNow_19
def fX8_row (z : SX8) (x1 : Int32) (x2 : Int32) (x3 : Int32) : Option Int32 :=
    (fX8_isRow z x1 x2).bind fun q1 =>
    if q1 = 0 then (some (-101)) else
    ((fX8_within x3 0 1).bind fun q3 =>
    if q3 = 0 then (some (-102)) else
    ((fX8_rowNow z x1 x2 x3).bind fun q5 =>
    some q5))
set_option maxRecDepth 100000 in
set_option maxHeartbeats 4000000 in
theorem tX8_row {a q : Nat → Nat} {wf : SX8 → va_W} (L : LnX8 a q cI cB wf) {d : Nat} (hd : 4 ≤ d) {z : SX8} {x1 x2 x3 : Int32} {q : Int32} (h : fX8_row z x1 x2 x3 = some q) : Ct l yX8_row cX8_row 4 (some .int) d A g D [(cI, .int), (cB, .byte)] [.ref (a 0), .int x1, .int x2, .int x3] (wf z) (QI A D (wf z) q) := by
  refine mkM (by decide) (Nat.le_of_ble_eq_true rfl) ?_
  intro p e S m args below meth c B X ls hl
  have B : Bd RX8 cX8_row 4 (some .int) d A g D [(cI, .int), (cB, .byte)] p (rmd d) S m args meth c := B
  have hx := B.1
  have hb := B.2.1
  have hd1 : 1 ≤ d := by omega
  have hl : lv_has ls 4 [(0, .ref (a 0)), (1, .int x1), (2, .int x2), (3, .int x3)] := hl
  unfold fX8_row at h
  refine lv_aload_n hx hb dX8_row_0 rfl (lv_at hl 0 rfl) ?_
  refine lv_iload_n hx hb dX8_row_1 rfl (lv_at hl 1 rfl) ?_
  refine lv_iload_n hx hb dX8_row_2 rfl (lv_at hl 2 rfl) ?_
  obtain ⟨q1, h1, h⟩ := bs h
  refine kI X (cV (As := [.int x1, .int x2]) (rest := []) B X (tX8_isRow (d := d - 1) L (by omega) h1) mfX8_isRow kw1079 (by omega) (LnX8_g L z) rfl rfl (Nat.le_of_ble_eq_true rfl) hl.1 ⟨Nat.zero_le _, Nat.zero_le _⟩ dX8_row_3) (fun H locs X => ?_)
  have X : Hx A D S.heap (wf z) H locs := X
  refine lv_if_ne (tgt := 14) hx hb dX8_row_6 (by decide) (fun hc2 => ?_) (fun hc2 => ?_)
  · have h := ie h hc2
    refine lv_iload_n hx hb dX8_row_14 rfl (lv_at hl 3 rfl) ?_
    refine lv_iconst (v := 0) hx hb dX8_row_15 (by decide) ?_
    refine lv_iconst (v := 1) hx hb dX8_row_16 (by decide) ?_
    obtain ⟨q3, h3, h⟩ := bs h
    refine kI X (cS (As := [.int x3, .int 0, .int 1]) (rest := []) B X (tX8_within (d := d - 1) (by omega) h3) msX8_within kw1038 (by omega) rfl (Nat.le_of_ble_eq_true rfl) hl.1 ⟨Nat.zero_le _, Nat.zero_le _⟩ dX8_row_17) (fun H locs X => ?_)
    have X : Hx A D S.heap (wf z) H locs := X
    refine lv_if_eq (tgt := 33) hx hb dX8_row_20 (by decide) (fun hc4 => ?_) (fun hc4 => ?_)
    · have h := it h hc4
      refine lv_bipush (v := (-102)) hx hb dX8_row_33 (by decide) ?_
      exact rI B X rfl (Option.some.inj h) dX8_row_35
    · have h := ie h hc4
      refine lv_aload_n hx hb dX8_row_23 rfl (lv_at hl 0 rfl) ?_
      refine lv_iload_n hx hb dX8_row_24 rfl (lv_at hl 1 rfl) ?_
      refine lv_iload_n hx hb dX8_row_25 rfl (lv_at hl 2 rfl) ?_
      refine lv_iload_n hx hb dX8_row_26 rfl (lv_at hl 3 rfl) ?_
      obtain ⟨q5, h5, h⟩ := bs h
      refine kI X (cV (As := [.int x1, .int x2, .int x3]) (rest := []) B X (tX8_rowNow (d := d - 1) L (by omega) h5) mfX8_rowNow kw1086 (by omega) (LnX8_g L z) rfl rfl (Nat.le_of_ble_eq_true rfl) hl.1 ⟨Nat.zero_le _, Nat.zero_le _⟩ dX8_row_27) (fun H locs X => ?_)
      have X : Hx A D S.heap (wf z) H locs := X
      refine lv_goto (tgt := 35) hx hb dX8_row_30 (by decide) ?_
      exact rI B X rfl (Option.some.inj h) dX8_row_35
  · have h := it h hc2
    refine lv_bipush (v := (-101)) hx hb dX8_row_9 (by decide) ?_
    refine lv_goto (tgt := 35) hx hb dX8_row_11 (by decide) ?_
    exact rI B X rfl (Option.some.inj h) dX8_row_35
def fX8_as (z : SX8) (x1 : Int32) : Option Int32 :=
    (fX8_within x1 0 4).bind fun q1 =>
    if q1 = 0 then (some (-102)) else
    (if (z.1 0) = 0 then (some (-103)) else
    (if x1 = 0 then (some (z.1 2)) else
    (if x1 = (z.1 2) then (some (z.1 2)) else
    (if x1 = 1 then (if (z.1 2) = 4 then (some (z.1 2)) else
    (some (-1))) else
    (some (-1))))))
set_option maxRecDepth 100000 in
set_option maxHeartbeats 4000000 in
theorem tX8_as {a q : Nat → Nat} {wf : SX8 → va_W} (L : LnX8 a q cI cB wf) {d : Nat} (hd : 2 ≤ d) {z : SX8} {x1 : Int32} {q : Int32} (h : fX8_as z x1 = some q) : Ct l yX8_as cX8_as 2 (some .int) d A g D [(cI, .int), (cB, .byte)] [.ref (a 0), .int x1] (wf z) (QI A D (wf z) q) := by
  refine mkM (by decide) (Nat.le_of_ble_eq_true rfl) ?_
  intro p e S m args below meth c B X ls hl
  have B : Bd RX8 cX8_as 2 (some .int) d A g D [(cI, .int), (cB, .byte)] p (rmd d) S m args meth c := B
  have hx := B.1
  have hb := B.2.1
  have hd1 : 1 ≤ d := by omega
  have hl : lv_has ls 2 [(0, .ref (a 0)), (1, .int x1)] := hl
  unfold fX8_as at h
  refine lv_iload_n hx hb dX8_as_0 rfl (lv_at hl 1 rfl) ?_
  refine lv_iconst (v := 0) hx hb dX8_as_1 (by decide) ?_
  refine lv_iconst (v := 4) hx hb dX8_as_2 (by decide) ?_
  obtain ⟨q1, h1, h⟩ := bs h
  refine kI X (cS (As := [.int x1, .int 0, .int 4]) (rest := []) B X (tX8_within (d := d - 1) (by omega) h1) msX8_within kw1038 (by omega) rfl (Nat.le_of_ble_eq_true rfl) hl.1 ⟨Nat.zero_le _, Nat.zero_le _⟩ dX8_as_3) (fun H locs X => ?_)
  have X : Hx A D S.heap (wf z) H locs := X
  refine lv_if_ne (tgt := 12) hx hb dX8_as_6 (by decide) (fun hc2 => ?_) (fun hc2 => ?_)
  · have h := ie h hc2
    refine lv_aload_n hx hb dX8_as_12 rfl (lv_at hl 0 rfl) ?_
    refine fG B X (LnX8_g L z) 0 rfl inTX8 (by decide) kw847 rfl dX8_as_13 ?_
    refine lv_if_ne (tgt := 22) hx hb dX8_as_16 (by decide) (fun hc3 => ?_) (fun hc3 => ?_)
    · have h := ie h hc3
      refine lv_iload_n hx hb dX8_as_22 rfl (lv_at hl 1 rfl) ?_
      refine lv_if_eq (tgt := 47) hx hb dX8_as_23 (by decide) (fun hc4 => ?_) (fun hc4 => ?_)
      · have h := it h hc4
        refine lv_aload_n hx hb dX8_as_47 rfl (lv_at hl 0 rfl) ?_
        refine fG B X (LnX8_g L z) 2 rfl inTX8 (by decide) kw849 rfl dX8_as_48 ?_
        refine lv_goto (tgt := 55) hx hb dX8_as_51 (by decide) ?_
        exact rI B X rfl (Option.some.inj h) dX8_as_55
      · have h := ie h hc4
        refine lv_iload_n hx hb dX8_as_26 rfl (lv_at hl 1 rfl) ?_
        refine lv_aload_n hx hb dX8_as_27 rfl (lv_at hl 0 rfl) ?_
        refine fG B X (LnX8_g L z) 2 rfl inTX8 (by decide) kw849 rfl dX8_as_28 ?_
        refine lv_icmp_eq (tgt := 47) hx hb dX8_as_31 (by decide) (fun hc5 => ?_) (fun hc5 => ?_)
        · have h := it h hc5
          refine lv_aload_n hx hb dX8_as_47 rfl (lv_at hl 0 rfl) ?_
          refine fG B X (LnX8_g L z) 2 rfl inTX8 (by decide) kw849 rfl dX8_as_48 ?_
          refine lv_goto (tgt := 55) hx hb dX8_as_51 (by decide) ?_
          exact rI B X rfl (Option.some.inj h) dX8_as_55
        · have h := ie h hc5
          refine lv_iload_n hx hb dX8_as_34 rfl (lv_at hl 1 rfl) ?_
          refine lv_iconst (v := 1) hx hb dX8_as_35 (by decide) ?_
          refine lv_icmp_ne (tgt := 54) hx hb dX8_as_36 (by decide) (fun hc6 => ?_) (fun hc6 => ?_)
          · have h := ie h hc6
            refine lv_iconst (v := (-1)) hx hb dX8_as_54 (by decide) ?_
            exact rI B X rfl (Option.some.inj h) dX8_as_55
          · have h := it h hc6
            refine lv_aload_n hx hb dX8_as_39 rfl (lv_at hl 0 rfl) ?_
            refine fG B X (LnX8_g L z) 2 rfl inTX8 (by decide) kw849 rfl dX8_as_40 ?_
            refine lv_iconst (v := 4) hx hb dX8_as_43 (by decide) ?_
            refine lv_icmp_ne (tgt := 54) hx hb dX8_as_44 (by decide) (fun hc7 => ?_) (fun hc7 => ?_)
            · have h := ie h hc7
              refine lv_iconst (v := (-1)) hx hb dX8_as_54 (by decide) ?_
              exact rI B X rfl (Option.some.inj h) dX8_as_55
            · have h := it h hc7
              refine lv_aload_n hx hb dX8_as_47 rfl (lv_at hl 0 rfl) ?_
              refine fG B X (LnX8_g L z) 2 rfl inTX8 (by decide) kw849 rfl dX8_as_48 ?_
              refine lv_goto (tgt := 55) hx hb dX8_as_51 (by decide) ?_
              exact rI B X rfl (Option.some.inj h) dX8_as_55
    · have h := it h hc3
      refine lv_bipush (v := (-103)) hx hb dX8_as_19 (by decide) ?_
      exact rI B X rfl (Option.some.inj h) dX8_as_21
  · have h := it h hc2
    refine lv_bipush (v := (-102)) hx hb dX8_as_9 (by decide) ?_
    exact rI B X rfl (Option.some.inj h) dX8_as_11
def fX8_isKey (x0 : Int32) : Option Int32 :=
    (fX8_within x0 (-1) 15).bind fun q1 =>
    if q1 = 0 ∨ q1 = 1 then some q1 else none
set_option maxRecDepth 100000 in
set_option maxHeartbeats 4000000 in
theorem tX8_isKey {w : va_W} {d : Nat} (hd : 2 ≤ d) {x0 : Int32} {q : Int32} (h : fX8_isKey x0 = some q) : Ct l yX8_isKey cX8_isKey 1 (some .boolean) d A g D [(cI, .int), (cB, .byte)] [.int x0] (w) (QI A D w q) := by
  refine mkM (by decide) (Nat.le_of_ble_eq_true rfl) ?_
  intro p e S m args below meth c B X ls hl
  have B : Bd RX8 cX8_isKey 1 (some .boolean) d A g D [(cI, .int), (cB, .byte)] p (rmd d) S m args meth c := B
  have hx := B.1
  have hb := B.2.1
  have hd1 : 1 ≤ d := by omega
  have hl : lv_has ls 1 [(0, .int x0)] := hl
  unfold fX8_isKey at h
  refine lv_iload_n hx hb dX8_isKey_0 rfl (lv_at hl 0 rfl) ?_
  refine lv_iconst (v := (-1)) hx hb dX8_isKey_1 (by decide) ?_
  refine lv_bipush (v := 15) hx hb dX8_isKey_2 (by decide) ?_
  obtain ⟨q1, h1, h⟩ := bs h
  refine kI X (cS (As := [.int x0, .int (-1), .int 15]) (rest := []) B X (tX8_within (d := d - 1) (by omega) h1) msX8_within kw1038 (by omega) rfl (Nat.le_of_ble_eq_true rfl) hl.1 ⟨Nat.zero_le _, Nat.zero_le _⟩ dX8_isKey_4) (fun H locs X => ?_)
  by_cases hc2 : (q1 = 0 ∨ q1 = 1)
  · have h := it h hc2
    exact rZ B X rfl (Option.some.inj h) (by rcases hc2 with e1 | e1 <;> rw [e1] <;> rfl) dX8_isKey_7
  · cases ie h hc2
def fX8_put (z : SX8) (x1 : Int32) (x2 : Int32) : Option (Int32 × SX8) :=
    (fX8_isSide x1).bind fun q1 =>
    if q1 = 0 then (some ((-101), z)) else
    ((fX8_isKey x2).bind fun q3 =>
    if q3 = 0 then (some ((-102), z)) else
    (if (z.1 0) = 0 then (some ((-103), z)) else
    (if x1 < 0 ∨ 2 ≤ x1.toNatClampNeg then none else
    (if ((z.2.2 4) x1.toNatClampNeg) = 14 then (some ((-104), z)) else
    (if x1 < 0 ∨ 2 ≤ x1.toNatClampNeg then none else
    (if ((14 * x1) + ((z.2.2 4) x1.toNatClampNeg)) < 0 ∨ 28 ≤ ((14 * x1) + ((z.2.2 4) x1.toNatClampNeg)).toNatClampNeg then none else
    (if x1 < 0 ∨ 2 ≤ x1.toNatClampNeg then none else
    (if x1 < 0 ∨ 2 ≤ x1.toNatClampNeg then none else
    (if x1 < 0 ∨ 2 ≤ x1.toNatClampNeg then none else
    (some (((upd (z.2.2 4) x1.toNatClampNeg (((z.2.2 4) x1.toNatClampNeg) + 1)) x1.toNatClampNeg), (z.1, z.2.1, (va_up (va_up z.2.2 3 (upd (z.2.2 3) ((14 * x1) + ((z.2.2 4) x1.toNatClampNeg)).toNatClampNeg x2)) 4 (upd (z.2.2 4) x1.toNatClampNeg (((z.2.2 4) x1.toNatClampNeg) + 1)))))))))))))))
set_option maxRecDepth 100000 in
set_option maxHeartbeats 4000000 in
theorem tX8_put {a q : Nat → Nat} {wf : SX8 → va_W} (L : LnX8 a q cI cB wf) {d : Nat} (hd : 3 ≤ d) {z : SX8} {x1 x2 : Int32} {q : Int32 × SX8} (h : fX8_put z x1 x2 = some q) : Ct l yX8_put cX8_put 3 (some .int) d A g D [(cI, .int), (cB, .byte)] [.ref (a 0), .int x1, .int x2] (wf z) (QI A D (wf q.2) q.1) := by
  refine mkM (by decide) (Nat.le_of_ble_eq_true rfl) ?_
  intro p e S m args below meth c B X ls hl
  have B : Bd RX8 cX8_put 3 (some .int) d A g D [(cI, .int), (cB, .byte)] p (rmd d) S m args meth c := B
  have hx := B.1
  have hb := B.2.1
  have hd1 : 1 ≤ d := by omega
  have hl : lv_has ls 3 [(0, .ref (a 0)), (1, .int x1), (2, .int x2)] := hl
  unfold fX8_put at h
  refine lv_iload_n hx hb dX8_put_0 rfl (lv_at hl 1 rfl) ?_
  obtain ⟨q1, h1, h⟩ := bs h
  refine kI X (cS (As := [.int x1]) (rest := []) B X (tX8_isSide (d := d - 1) (by omega) h1) msX8_isSide kw1083 (by omega) rfl (Nat.le_of_ble_eq_true rfl) hl.1 ⟨Nat.zero_le _, Nat.zero_le _⟩ dX8_put_1) (fun H locs X => ?_)
  have X : Hx A D S.heap (wf z) H locs := X
  refine lv_if_ne (tgt := 10) hx hb dX8_put_4 (by decide) (fun hc2 => ?_) (fun hc2 => ?_)
  · have h := ie h hc2
    refine lv_iload_n hx hb dX8_put_10 rfl (lv_at hl 2 rfl) ?_
    obtain ⟨q3, h3, h⟩ := bs h
    refine kI X (cS (As := [.int x2]) (rest := []) B X (tX8_isKey (d := d - 1) (by omega) h3) msX8_isKey kw1106 (by omega) rfl (Nat.le_of_ble_eq_true rfl) hl.1 ⟨Nat.zero_le _, Nat.zero_le _⟩ dX8_put_11) (fun H locs X => ?_)
    have X : Hx A D S.heap (wf z) H locs := X
    refine lv_if_ne (tgt := 20) hx hb dX8_put_14 (by decide) (fun hc4 => ?_) (fun hc4 => ?_)
    · have h := ie h hc4
      refine lv_aload_n hx hb dX8_put_20 rfl (lv_at hl 0 rfl) ?_
      refine fG B X (LnX8_g L z) 0 rfl inTX8 (by decide) kw847 rfl dX8_put_21 ?_
      refine lv_if_ne (tgt := 30) hx hb dX8_put_24 (by decide) (fun hc5 => ?_) (fun hc5 => ?_)
      · have h := ie h hc5
        refine lv_aload_n hx hb dX8_put_30 rfl (lv_at hl 0 rfl) ?_
        refine fG B X (LnX8_g L z) 4 rfl inTX8 (by decide) kw851 rfl dX8_put_31 ?_
        refine lv_iload_n hx hb dX8_put_34 rfl (lv_at hl 1 rfl) ?_
        by_cases hc6 : (x1 < 0 ∨ 2 ≤ x1.toNatClampNeg)
        · cases it h hc6
        have h := ie h hc6
        refine aG B X (LnX8_a4 L z) 0 rfl hc6 dX8_put_35 ?_
        refine lv_bipush (v := 14) hx hb dX8_put_36 (by decide) ?_
        refine lv_icmp_ne (tgt := 44) hx hb dX8_put_38 (by decide) (fun hc7 => ?_) (fun hc7 => ?_)
        · have h := ie h hc7
          refine lv_aload_n hx hb dX8_put_44 rfl (lv_at hl 0 rfl) ?_
          refine fG B X (LnX8_g L z) 3 rfl inTX8 (by decide) kw850 rfl dX8_put_45 ?_
          refine lv_bipush (v := 14) hx hb dX8_put_48 (by decide) ?_
          refine lv_iload_n hx hb dX8_put_50 rfl (lv_at hl 1 rfl) ?_
          refine lv_imul hx hb dX8_put_51 ?_
          refine lv_aload_n hx hb dX8_put_52 rfl (lv_at hl 0 rfl) ?_
          refine fG B X (LnX8_g L z) 4 rfl inTX8 (by decide) kw851 rfl dX8_put_53 ?_
          refine lv_iload_n hx hb dX8_put_56 rfl (lv_at hl 1 rfl) ?_
          by_cases hc8 : (x1 < 0 ∨ 2 ≤ x1.toNatClampNeg)
          · cases it h hc8
          have h := ie h hc8
          refine aG B X (LnX8_a4 L z) 0 rfl hc8 dX8_put_57 ?_
          refine lv_iadd hx hb dX8_put_58 ?_
          refine lv_iload_n hx hb dX8_put_59 rfl (lv_at hl 2 rfl) ?_
          by_cases hc9 : (((14 * x1) + ((z.2.2 4) x1.toNatClampNeg)) < 0 ∨ 28 ≤ ((14 * x1) + ((z.2.2 4) x1.toNatClampNeg)).toNatClampNeg)
          · cases it h hc9
          have h := ie h hc9
          refine aP B X (LnX8_a3 L z) (LnX8_b3 L z _) 0 rfl hc9 dX8_put_60 (fun H locs X => ?_)
          have X : Hx A D S.heap (wf (z.1, z.2.1, (va_up z.2.2 3 (upd (z.2.2 3) ((14 * x1) + ((z.2.2 4) x1.toNatClampNeg)).toNatClampNeg x2)))) H locs := X
          refine lv_aload_n hx hb dX8_put_61 rfl (lv_at hl 0 rfl) ?_
          refine fG B X (LnX8_g L (z.1, z.2.1, (va_up z.2.2 3 (upd (z.2.2 3) ((14 * x1) + ((z.2.2 4) x1.toNatClampNeg)).toNatClampNeg x2)))) 4 rfl inTX8 (by decide) kw851 rfl dX8_put_62 ?_
          refine lv_iload_n hx hb dX8_put_65 rfl (lv_at hl 1 rfl) ?_
          refine lv_dup2_11 hx hb dX8_put_66 rfl rfl ?_
          by_cases hc10 : (x1 < 0 ∨ 2 ≤ x1.toNatClampNeg)
          · cases it h hc10
          have h := ie h hc10
          refine aG B X (LnX8_a4 L (z.1, z.2.1, (va_up z.2.2 3 (upd (z.2.2 3) ((14 * x1) + ((z.2.2 4) x1.toNatClampNeg)).toNatClampNeg x2)))) 0 rfl hc10 dX8_put_67 ?_
          refine lv_iconst (v := 1) hx hb dX8_put_68 (by decide) ?_
          refine lv_iadd hx hb dX8_put_69 ?_
          by_cases hc11 : (x1 < 0 ∨ 2 ≤ x1.toNatClampNeg)
          · cases it h hc11
          have h := ie h hc11
          refine aP B X (LnX8_a4 L (z.1, z.2.1, (va_up z.2.2 3 (upd (z.2.2 3) ((14 * x1) + ((z.2.2 4) x1.toNatClampNeg)).toNatClampNeg x2)))) (LnX8_b4 L (z.1, z.2.1, (va_up z.2.2 3 (upd (z.2.2 3) ((14 * x1) + ((z.2.2 4) x1.toNatClampNeg)).toNatClampNeg x2))) _) 0 rfl hc11 dX8_put_70 (fun H locs X => ?_)
          have X : Hx A D S.heap (wf (z.1, z.2.1, (va_up (va_up z.2.2 3 (upd (z.2.2 3) ((14 * x1) + ((z.2.2 4) x1.toNatClampNeg)).toNatClampNeg x2)) 4 (upd (z.2.2 4) x1.toNatClampNeg (((z.2.2 4) x1.toNatClampNeg) + 1))))) H locs := X
          refine lv_aload_n hx hb dX8_put_71 rfl (lv_at hl 0 rfl) ?_
          refine fG B X (LnX8_g L (z.1, z.2.1, (va_up (va_up z.2.2 3 (upd (z.2.2 3) ((14 * x1) + ((z.2.2 4) x1.toNatClampNeg)).toNatClampNeg x2)) 4 (upd (z.2.2 4) x1.toNatClampNeg (((z.2.2 4) x1.toNatClampNeg) + 1))))) 4 rfl inTX8 (by decide) kw851 rfl dX8_put_72 ?_
          refine lv_iload_n hx hb dX8_put_75 rfl (lv_at hl 1 rfl) ?_
          by_cases hc12 : (x1 < 0 ∨ 2 ≤ x1.toNatClampNeg)
          · cases it h hc12
          have h := ie h hc12
          refine aG B X (LnX8_a4 L (z.1, z.2.1, (va_up (va_up z.2.2 3 (upd (z.2.2 3) ((14 * x1) + ((z.2.2 4) x1.toNatClampNeg)).toNatClampNeg x2)) 4 (upd (z.2.2 4) x1.toNatClampNeg (((z.2.2 4) x1.toNatClampNeg) + 1))))) 0 rfl hc12 dX8_put_76 ?_
          exact rI B X (congrArg (fun q => wf q.2) (Option.some.inj h)) (congrArg (fun q => q.1) (Option.some.inj h)) dX8_put_77
        · have h := it h hc7
          refine lv_bipush (v := (-104)) hx hb dX8_put_41 (by decide) ?_
          exact rI B X (congrArg (fun q => wf q.2) (Option.some.inj h)) (congrArg (fun q => q.1) (Option.some.inj h)) dX8_put_43
      · have h := it h hc5
        refine lv_bipush (v := (-103)) hx hb dX8_put_27 (by decide) ?_
        exact rI B X (congrArg (fun q => wf q.2) (Option.some.inj h)) (congrArg (fun q => q.1) (Option.some.inj h)) dX8_put_29
    · have h := it h hc4
      refine lv_bipush (v := (-102)) hx hb dX8_put_17 (by decide) ?_
      exact rI B X (congrArg (fun q => wf q.2) (Option.some.inj h)) (congrArg (fun q => q.1) (Option.some.inj h)) dX8_put_19
  · have h := it h hc2
    refine lv_bipush (v := (-101)) hx hb dX8_put_7 (by decide) ?_
    exact rI B X (congrArg (fun q => wf q.2) (Option.some.inj h)) (congrArg (fun q => q.1) (Option.some.inj h)) dX8_put_9
def fX8_take_b24 : Nat → Int32 → Int32 → Int32 → SX8 → Option (Int32 × SX8)
  | 0, _, _, _, _ => none
  | n + 1, x1, x3, x4, z =>
    if x1 < 0 ∨ 2 ≤ x1.toNatClampNeg then none else
    (if ((z.2.2 4) x1.toNatClampNeg) ≤ x4 then (if x1 < 0 ∨ 2 ≤ x1.toNatClampNeg then none else
    (if x1 < 0 ∨ 2 ≤ x1.toNatClampNeg then none else
    (some (x3, (z.1, z.2.1, (va_up z.2.2 4 (upd (z.2.2 4) x1.toNatClampNeg (((z.2.2 4) x1.toNatClampNeg) - 1)))))))) else
    ((fX8_keyAt z x1 x4).bind fun q5 =>
    if (((14 * x1) + x4) - 1) < 0 ∨ 28 ≤ (((14 * x1) + x4) - 1).toNatClampNeg then none else
    (fX8_take_b24 n x1 x3 (x4 + 1) (z.1, z.2.1, (va_up z.2.2 3 (upd (z.2.2 3) (((14 * x1) + x4) - 1).toNatClampNeg q5))))))
set_option maxRecDepth 100000 in
set_option maxHeartbeats 4000000 in
theorem tX8_take_b24 {a q : Nat → Nat} {wf : SX8 → va_W} (L : LnX8 a q cI cB wf) {d : Nat} (hd : 4 ≤ d) (B : Bd RX8 cX8_take 5 (some .int) d A g D [(cI, .int), (cB, .byte)] p R S m args meth c) {q : Int32 × SX8} : ∀ (n : Nat) (x1 : Int32) (x3 : Int32) (x4 : Int32) (z : SX8) (H : Heap) (locs : List Loc) (ls : Array Slot), Hx A D S.heap (wf z) H locs → lv_has ls 5 [(0, .ref (a 0)), (1, .int x1), (3, .int x3), (4, .int x4)] → fX8_take_b24 n x1 x3 x4 z = some q → W p l e R S m args below meth c H locs 0 0 (MQ below (QI A D (wf q.2) q.1) args S 0 0 A) (F0 m 24 ls []) := by
  have hx := B.1
  have hb := B.2.1
  have hd1 : 1 ≤ d := by omega
  intro n
  induction n with
  | zero =>
    intro x1 x3 x4 z H locs ls X hl h
    cases h
  | succ n ih =>
    intro x1 x3 x4 z H locs ls X hl h
    rw [fX8_take_b24] at h
    refine lv_iload hx hb dX8_take_24 (lv_at hl 3 rfl) ?_
    refine lv_aload_n hx hb dX8_take_26 rfl (lv_at hl 0 rfl) ?_
    refine fG B X (LnX8_g L z) 4 rfl inTX8 (by decide) kw851 rfl dX8_take_27 ?_
    refine lv_iload_n hx hb dX8_take_30 rfl (lv_at hl 1 rfl) ?_
    by_cases hc1 : (x1 < 0 ∨ 2 ≤ x1.toNatClampNeg)
    · cases it h hc1
    have h := ie h hc1
    refine aG B X (LnX8_a4 L z) 0 rfl hc1 dX8_take_31 ?_
    refine lv_icmp_ge (tgt := 62) hx hb dX8_take_32 (by decide) (fun hc2 => ?_) (fun hc2 => ?_)
    · have h := it h hc2
      refine lv_aload_n hx hb dX8_take_62 rfl (lv_at hl 0 rfl) ?_
      refine fG B X (LnX8_g L z) 4 rfl inTX8 (by decide) kw851 rfl dX8_take_63 ?_
      refine lv_iload_n hx hb dX8_take_66 rfl (lv_at hl 1 rfl) ?_
      refine lv_dup2_11 hx hb dX8_take_67 rfl rfl ?_
      by_cases hc3 : (x1 < 0 ∨ 2 ≤ x1.toNatClampNeg)
      · cases it h hc3
      have h := ie h hc3
      refine aG B X (LnX8_a4 L z) 0 rfl hc3 dX8_take_68 ?_
      refine lv_iconst (v := 1) hx hb dX8_take_69 (by decide) ?_
      refine lv_isub hx hb dX8_take_70 ?_
      by_cases hc4 : (x1 < 0 ∨ 2 ≤ x1.toNatClampNeg)
      · cases it h hc4
      have h := ie h hc4
      refine aP B X (LnX8_a4 L z) (LnX8_b4 L z _) 0 rfl hc4 dX8_take_71 (fun H locs X => ?_)
      have X : Hx A D S.heap (wf (z.1, z.2.1, (va_up z.2.2 4 (upd (z.2.2 4) x1.toNatClampNeg (((z.2.2 4) x1.toNatClampNeg) - 1))))) H locs := X
      refine lv_iload_n hx hb dX8_take_72 rfl (lv_at hl 2 rfl) ?_
      exact rI B X (congrArg (fun q => wf q.2) (Option.some.inj h)) (congrArg (fun q => q.1) (Option.some.inj h)) dX8_take_73
    · have h := ie h hc2
      refine lv_aload_n hx hb dX8_take_35 rfl (lv_at hl 0 rfl) ?_
      refine fG B X (LnX8_g L z) 3 rfl inTX8 (by decide) kw850 rfl dX8_take_36 ?_
      refine lv_bipush (v := 14) hx hb dX8_take_39 (by decide) ?_
      refine lv_iload_n hx hb dX8_take_41 rfl (lv_at hl 1 rfl) ?_
      refine lv_imul hx hb dX8_take_42 ?_
      refine lv_iload hx hb dX8_take_43 (lv_at hl 3 rfl) ?_
      refine lv_iadd hx hb dX8_take_45 ?_
      refine lv_iconst (v := 1) hx hb dX8_take_46 (by decide) ?_
      refine lv_isub hx hb dX8_take_47 ?_
      refine lv_aload_n hx hb dX8_take_48 rfl (lv_at hl 0 rfl) ?_
      refine lv_iload_n hx hb dX8_take_49 rfl (lv_at hl 1 rfl) ?_
      refine lv_iload hx hb dX8_take_50 (lv_at hl 3 rfl) ?_
      obtain ⟨q5, h5, h⟩ := bs h
      refine kI X (cV (As := [.int x1, .int x4]) (rest := [.int (((14 * x1) + x4) - 1), .ref (a 3)]) B X (tX8_keyAt (d := d - 1) L (by omega) h5) mfX8_keyAt kw1090 (by omega) (LnX8_g L z) rfl rfl (Nat.le_of_ble_eq_true rfl) hl.1 ⟨Nat.zero_le _, Nat.zero_le _⟩ dX8_take_52) (fun H locs X => ?_)
      have X : Hx A D S.heap (wf z) H locs := X
      by_cases hc6 : ((((14 * x1) + x4) - 1) < 0 ∨ 28 ≤ (((14 * x1) + x4) - 1).toNatClampNeg)
      · cases it h hc6
      have h := ie h hc6
      refine aP B X (LnX8_a3 L z) (LnX8_b3 L z _) 0 rfl hc6 dX8_take_55 (fun H locs X => ?_)
      have X : Hx A D S.heap (wf (z.1, z.2.1, (va_up z.2.2 3 (upd (z.2.2 3) (((14 * x1) + x4) - 1).toNatClampNeg q5)))) H locs := X
      refine lv_iinc (v := x4 + 1) (lv' := [(4, .int (x4 + 1)), (0, .ref (a 0)), (1, .int x1), (3, .int x3)]) hx hb dX8_take_56 hl (k := 3) rfl rfl (by decide) rfl (fun ls hl => ?_)
      refine lv_goto (tgt := 24) hx hb dX8_take_59 (by decide) ?_
      exact ih x1 x3 (x4 + 1) (z.1, z.2.1, (va_up z.2.2 3 (upd (z.2.2 3) (((14 * x1) + x4) - 1).toNatClampNeg q5))) _ _ _ X (lv_sub hl [1, 2, 3, 0] rfl) h
def fX8_take (z : SX8) (x1 : Int32) (x2 : Int32) : Option (Int32 × SX8) :=
    (fX8_isRow z x1 x2).bind fun q1 =>
    if q1 = 0 then (some ((-101), z)) else
    ((fX8_keyAt z x1 x2).bind fun q3 =>
    fX8_take_b24 1000 x1 q3 (x2 + 1) z)
set_option maxRecDepth 100000 in
set_option maxHeartbeats 4000000 in
theorem tX8_take {a q : Nat → Nat} {wf : SX8 → va_W} (L : LnX8 a q cI cB wf) {d : Nat} (hd : 4 ≤ d) {z : SX8} {x1 x2 : Int32} {q : Int32 × SX8} (h : fX8_take z x1 x2 = some q) : Ct l yX8_take cX8_take 5 (some .int) d A g D [(cI, .int), (cB, .byte)] [.ref (a 0), .int x1, .int x2] (wf z) (QI A D (wf q.2) q.1) := by
  refine mkM (by decide) (Nat.le_of_ble_eq_true rfl) ?_
  intro p e S m args below meth c B X ls hl
  have B : Bd RX8 cX8_take 5 (some .int) d A g D [(cI, .int), (cB, .byte)] p (rmd d) S m args meth c := B
  have hx := B.1
  have hb := B.2.1
  have hd1 : 1 ≤ d := by omega
  have hl : lv_has ls 5 [(0, .ref (a 0)), (1, .int x1), (2, .int x2)] := hl
  unfold fX8_take at h
  refine lv_aload_n hx hb dX8_take_0 rfl (lv_at hl 0 rfl) ?_
  refine lv_iload_n hx hb dX8_take_1 rfl (lv_at hl 1 rfl) ?_
  refine lv_iload_n hx hb dX8_take_2 rfl (lv_at hl 2 rfl) ?_
  obtain ⟨q1, h1, h⟩ := bs h
  refine kI X (cV (As := [.int x1, .int x2]) (rest := []) B X (tX8_isRow (d := d - 1) L (by omega) h1) mfX8_isRow kw1079 (by omega) (LnX8_g L z) rfl rfl (Nat.le_of_ble_eq_true rfl) hl.1 ⟨Nat.zero_le _, Nat.zero_le _⟩ dX8_take_3) (fun H locs X => ?_)
  have X : Hx A D S.heap (wf z) H locs := X
  refine lv_if_ne (tgt := 12) hx hb dX8_take_6 (by decide) (fun hc2 => ?_) (fun hc2 => ?_)
  · have h := ie h hc2
    refine lv_aload_n hx hb dX8_take_12 rfl (lv_at hl 0 rfl) ?_
    refine lv_iload_n hx hb dX8_take_13 rfl (lv_at hl 1 rfl) ?_
    refine lv_iload_n hx hb dX8_take_14 rfl (lv_at hl 2 rfl) ?_
    obtain ⟨q3, h3, h⟩ := bs h
    refine kI X (cV (As := [.int x1, .int x2]) (rest := []) B X (tX8_keyAt (d := d - 1) L (by omega) h3) mfX8_keyAt kw1090 (by omega) (LnX8_g L z) rfl rfl (Nat.le_of_ble_eq_true rfl) hl.1 ⟨Nat.zero_le _, Nat.zero_le _⟩ dX8_take_15) (fun H locs X => ?_)
    have X : Hx A D S.heap (wf z) H locs := X
    refine lv_istore_n (lv' := [(3, .int q3), (0, .ref (a 0)), (1, .int x1), (2, .int x2)]) hx hb dX8_take_18 rfl hl (by decide) rfl (fun ls hl => ?_)
    refine lv_iload_n hx hb dX8_take_19 rfl (lv_at hl 3 rfl) ?_
    refine lv_iconst (v := 1) hx hb dX8_take_20 (by decide) ?_
    refine lv_iadd hx hb dX8_take_21 ?_
    refine lv_istore (lv' := [(4, .int (x2 + 1)), (3, .int q3), (0, .ref (a 0)), (1, .int x1), (2, .int x2)]) hx hb dX8_take_22 hl (by decide) rfl (fun ls hl => ?_)
    exact tX8_take_b24 L hd B 1000 x1 q3 (x2 + 1) z _ _ _ X (lv_sub hl [2, 3, 1, 0] rfl) h
  · have h := it h hc2
    refine lv_bipush (v := (-101)) hx hb dX8_take_9 (by decide) ?_
    exact rI B X (congrArg (fun q => wf q.2) (Option.some.inj h)) (congrArg (fun q => q.1) (Option.some.inj h)) dX8_take_11
def fX8_key (z : SX8) (x1 : Int32) (x2 : Int32) (x3 : Int32) : Option (Int32 × SX8) :=
    (fX8_isRow z x1 x2).bind fun q1 =>
    if q1 = 0 then (some ((-101), z)) else
    ((fX8_isKey x3).bind fun q3 =>
    if q3 = 0 then (some ((-102), z)) else
    ((fX8_keyAt z x1 x2).bind fun q5 =>
    if ((14 * x1) + x2) < 0 ∨ 28 ≤ ((14 * x1) + x2).toNatClampNeg then none else
    (some (q5, (z.1, z.2.1, (va_up z.2.2 3 (upd (z.2.2 3) ((14 * x1) + x2).toNatClampNeg x3)))))))
set_option maxRecDepth 100000 in
set_option maxHeartbeats 4000000 in
theorem tX8_key {a q : Nat → Nat} {wf : SX8 → va_W} (L : LnX8 a q cI cB wf) {d : Nat} (hd : 4 ≤ d) {z : SX8} {x1 x2 x3 : Int32} {q : Int32 × SX8} (h : fX8_key z x1 x2 x3 = some q) : Ct l yX8_key cX8_key 5 (some .int) d A g D [(cI, .int), (cB, .byte)] [.ref (a 0), .int x1, .int x2, .int x3] (wf z) (QI A D (wf q.2) q.1) := by
  refine mkM (by decide) (Nat.le_of_ble_eq_true rfl) ?_
  intro p e S m args below meth c B X ls hl
  have B : Bd RX8 cX8_key 5 (some .int) d A g D [(cI, .int), (cB, .byte)] p (rmd d) S m args meth c := B
  have hx := B.1
  have hb := B.2.1
  have hd1 : 1 ≤ d := by omega
  have hl : lv_has ls 5 [(0, .ref (a 0)), (1, .int x1), (2, .int x2), (3, .int x3)] := hl
  unfold fX8_key at h
  refine lv_aload_n hx hb dX8_key_0 rfl (lv_at hl 0 rfl) ?_
  refine lv_iload_n hx hb dX8_key_1 rfl (lv_at hl 1 rfl) ?_
  refine lv_iload_n hx hb dX8_key_2 rfl (lv_at hl 2 rfl) ?_
  obtain ⟨q1, h1, h⟩ := bs h
  refine kI X (cV (As := [.int x1, .int x2]) (rest := []) B X (tX8_isRow (d := d - 1) L (by omega) h1) mfX8_isRow kw1079 (by omega) (LnX8_g L z) rfl rfl (Nat.le_of_ble_eq_true rfl) hl.1 ⟨Nat.zero_le _, Nat.zero_le _⟩ dX8_key_3) (fun H locs X => ?_)
  have X : Hx A D S.heap (wf z) H locs := X
  refine lv_if_ne (tgt := 12) hx hb dX8_key_6 (by decide) (fun hc2 => ?_) (fun hc2 => ?_)
  · have h := ie h hc2
    refine lv_iload_n hx hb dX8_key_12 rfl (lv_at hl 3 rfl) ?_
    obtain ⟨q3, h3, h⟩ := bs h
    refine kI X (cS (As := [.int x3]) (rest := []) B X (tX8_isKey (d := d - 1) (by omega) h3) msX8_isKey kw1106 (by omega) rfl (Nat.le_of_ble_eq_true rfl) hl.1 ⟨Nat.zero_le _, Nat.zero_le _⟩ dX8_key_13) (fun H locs X => ?_)
    have X : Hx A D S.heap (wf z) H locs := X
    refine lv_if_ne (tgt := 22) hx hb dX8_key_16 (by decide) (fun hc4 => ?_) (fun hc4 => ?_)
    · have h := ie h hc4
      refine lv_aload_n hx hb dX8_key_22 rfl (lv_at hl 0 rfl) ?_
      refine lv_iload_n hx hb dX8_key_23 rfl (lv_at hl 1 rfl) ?_
      refine lv_iload_n hx hb dX8_key_24 rfl (lv_at hl 2 rfl) ?_
      obtain ⟨q5, h5, h⟩ := bs h
      refine kI X (cV (As := [.int x1, .int x2]) (rest := []) B X (tX8_keyAt (d := d - 1) L (by omega) h5) mfX8_keyAt kw1090 (by omega) (LnX8_g L z) rfl rfl (Nat.le_of_ble_eq_true rfl) hl.1 ⟨Nat.zero_le _, Nat.zero_le _⟩ dX8_key_25) (fun H locs X => ?_)
      have X : Hx A D S.heap (wf z) H locs := X
      refine lv_istore (lv' := [(4, .int q5), (0, .ref (a 0)), (1, .int x1), (2, .int x2), (3, .int x3)]) hx hb dX8_key_28 hl (by decide) rfl (fun ls hl => ?_)
      refine lv_aload_n hx hb dX8_key_30 rfl (lv_at hl 1 rfl) ?_
      refine fG B X (LnX8_g L z) 3 rfl inTX8 (by decide) kw850 rfl dX8_key_31 ?_
      refine lv_bipush (v := 14) hx hb dX8_key_34 (by decide) ?_
      refine lv_iload_n hx hb dX8_key_36 rfl (lv_at hl 2 rfl) ?_
      refine lv_imul hx hb dX8_key_37 ?_
      refine lv_iload_n hx hb dX8_key_38 rfl (lv_at hl 3 rfl) ?_
      refine lv_iadd hx hb dX8_key_39 ?_
      refine lv_iload_n hx hb dX8_key_40 rfl (lv_at hl 4 rfl) ?_
      by_cases hc6 : (((14 * x1) + x2) < 0 ∨ 28 ≤ ((14 * x1) + x2).toNatClampNeg)
      · cases it h hc6
      have h := ie h hc6
      refine aP B X (LnX8_a3 L z) (LnX8_b3 L z _) 0 rfl hc6 dX8_key_41 (fun H locs X => ?_)
      have X : Hx A D S.heap (wf (z.1, z.2.1, (va_up z.2.2 3 (upd (z.2.2 3) ((14 * x1) + x2).toNatClampNeg x3)))) H locs := X
      refine lv_iload hx hb dX8_key_42 (lv_at hl 0 rfl) ?_
      exact rI B X (congrArg (fun q => wf q.2) (Option.some.inj h)) (congrArg (fun q => q.1) (Option.some.inj h)) dX8_key_44
    · have h := it h hc4
      refine lv_bipush (v := (-102)) hx hb dX8_key_19 (by decide) ?_
      exact rI B X (congrArg (fun q => wf q.2) (Option.some.inj h)) (congrArg (fun q => q.1) (Option.some.inj h)) dX8_key_21
  · have h := it h hc2
    refine lv_bipush (v := (-101)) hx hb dX8_key_9 (by decide) ?_
    exact rI B X (congrArg (fun q => wf q.2) (Option.some.inj h)) (congrArg (fun q => q.1) (Option.some.inj h)) dX8_key_11
def fX8_memory (z : SX8) (x1 : Int32) : Option (Int32 × SX8) :=
    (fX8_within x1 1 9).bind fun q1 =>
    if q1 = 0 then (some ((-102), z)) else
    (if (z.1 0) = 0 then (some ((-103), z)) else
    (some ((z.1 1), ((upd z.1 1 x1), z.2.1, z.2.2))))
set_option maxRecDepth 100000 in
set_option maxHeartbeats 4000000 in
theorem tX8_memory {a q : Nat → Nat} {wf : SX8 → va_W} (L : LnX8 a q cI cB wf) {d : Nat} (hd : 2 ≤ d) {z : SX8} {x1 : Int32} {q : Int32 × SX8} (h : fX8_memory z x1 = some q) : Ct l yX8_memory cX8_memory 3 (some .int) d A g D [(cI, .int), (cB, .byte)] [.ref (a 0), .int x1] (wf z) (QI A D (wf q.2) q.1) := by
  refine mkM (by decide) (Nat.le_of_ble_eq_true rfl) ?_
  intro p e S m args below meth c B X ls hl
  have B : Bd RX8 cX8_memory 3 (some .int) d A g D [(cI, .int), (cB, .byte)] p (rmd d) S m args meth c := B
  have hx := B.1
  have hb := B.2.1
  have hd1 : 1 ≤ d := by omega
  have hl : lv_has ls 3 [(0, .ref (a 0)), (1, .int x1)] := hl
  unfold fX8_memory at h
  refine lv_iload_n hx hb dX8_memory_0 rfl (lv_at hl 1 rfl) ?_
  refine lv_iconst (v := 1) hx hb dX8_memory_1 (by decide) ?_
  refine lv_bipush (v := 9) hx hb dX8_memory_2 (by decide) ?_
  obtain ⟨q1, h1, h⟩ := bs h
  refine kI X (cS (As := [.int x1, .int 1, .int 9]) (rest := []) B X (tX8_within (d := d - 1) (by omega) h1) msX8_within kw1038 (by omega) rfl (Nat.le_of_ble_eq_true rfl) hl.1 ⟨Nat.zero_le _, Nat.zero_le _⟩ dX8_memory_4) (fun H locs X => ?_)
  have X : Hx A D S.heap (wf z) H locs := X
  refine lv_if_ne (tgt := 13) hx hb dX8_memory_7 (by decide) (fun hc2 => ?_) (fun hc2 => ?_)
  · have h := ie h hc2
    refine lv_aload_n hx hb dX8_memory_13 rfl (lv_at hl 0 rfl) ?_
    refine fG B X (LnX8_g L z) 0 rfl inTX8 (by decide) kw847 rfl dX8_memory_14 ?_
    refine lv_if_ne (tgt := 23) hx hb dX8_memory_17 (by decide) (fun hc3 => ?_) (fun hc3 => ?_)
    · have h := ie h hc3
      refine lv_aload_n hx hb dX8_memory_23 rfl (lv_at hl 0 rfl) ?_
      refine fG B X (LnX8_g L z) 1 rfl inTX8 (by decide) kw848 rfl dX8_memory_24 ?_
      refine lv_istore_n (lv' := [(2, .int (z.1 1)), (0, .ref (a 0)), (1, .int x1)]) hx hb dX8_memory_27 rfl hl (by decide) rfl (fun ls hl => ?_)
      refine lv_aload_n hx hb dX8_memory_28 rfl (lv_at hl 1 rfl) ?_
      refine lv_iload_n hx hb dX8_memory_29 rfl (lv_at hl 2 rfl) ?_
      refine fP tyX8 B X (LnX8_g L z) 1 (LnX8_i1 L z _) rfl inTX8 tyX8_ok nmX8 (by decide) kw848 rfl rfl rfl rfl (Nat.le_of_ble_eq_true rfl) dX8_memory_30 (fun H locs X => ?_)
      have X : Hx A D S.heap (wf ((upd z.1 1 x1), z.2.1, z.2.2)) H locs := X
      refine lv_iload_n hx hb dX8_memory_33 rfl (lv_at hl 0 rfl) ?_
      exact rI B X (congrArg (fun q => wf q.2) (Option.some.inj h)) (congrArg (fun q => q.1) (Option.some.inj h)) dX8_memory_34
    · have h := it h hc3
      refine lv_bipush (v := (-103)) hx hb dX8_memory_20 (by decide) ?_
      exact rI B X (congrArg (fun q => wf q.2) (Option.some.inj h)) (congrArg (fun q => q.1) (Option.some.inj h)) dX8_memory_22
  · have h := it h hc2
    refine lv_bipush (v := (-102)) hx hb dX8_memory_10 (by decide) ?_
    exact rI B X (congrArg (fun q => wf q.2) (Option.some.inj h)) (congrArg (fun q => q.1) (Option.some.inj h)) dX8_memory_12
def fX8_be (z : SX8) (x1 : Int32) : Option (Int32 × SX8) :=
    (fX8_within x1 0 4).bind fun q1 =>
    if q1 = 0 then (some ((-102), z)) else
    (if (z.1 0) = 0 then (some ((-103), z)) else
    (some ((z.1 2), ((upd z.1 2 x1), z.2.1, z.2.2))))
set_option maxRecDepth 100000 in
set_option maxHeartbeats 4000000 in
theorem tX8_be {a q : Nat → Nat} {wf : SX8 → va_W} (L : LnX8 a q cI cB wf) {d : Nat} (hd : 2 ≤ d) {z : SX8} {x1 : Int32} {q : Int32 × SX8} (h : fX8_be z x1 = some q) : Ct l yX8_be cX8_be 3 (some .int) d A g D [(cI, .int), (cB, .byte)] [.ref (a 0), .int x1] (wf z) (QI A D (wf q.2) q.1) := by
  refine mkM (by decide) (Nat.le_of_ble_eq_true rfl) ?_
  intro p e S m args below meth c B X ls hl
  have B : Bd RX8 cX8_be 3 (some .int) d A g D [(cI, .int), (cB, .byte)] p (rmd d) S m args meth c := B
  have hx := B.1
  have hb := B.2.1
  have hd1 : 1 ≤ d := by omega
  have hl : lv_has ls 3 [(0, .ref (a 0)), (1, .int x1)] := hl
  unfold fX8_be at h
  refine lv_iload_n hx hb dX8_be_0 rfl (lv_at hl 1 rfl) ?_
  refine lv_iconst (v := 0) hx hb dX8_be_1 (by decide) ?_
  refine lv_iconst (v := 4) hx hb dX8_be_2 (by decide) ?_
  obtain ⟨q1, h1, h⟩ := bs h
  refine kI X (cS (As := [.int x1, .int 0, .int 4]) (rest := []) B X (tX8_within (d := d - 1) (by omega) h1) msX8_within kw1038 (by omega) rfl (Nat.le_of_ble_eq_true rfl) hl.1 ⟨Nat.zero_le _, Nat.zero_le _⟩ dX8_be_3) (fun H locs X => ?_)
  have X : Hx A D S.heap (wf z) H locs := X
  refine lv_if_ne (tgt := 12) hx hb dX8_be_6 (by decide) (fun hc2 => ?_) (fun hc2 => ?_)
  · have h := ie h hc2
    refine lv_aload_n hx hb dX8_be_12 rfl (lv_at hl 0 rfl) ?_
    refine fG B X (LnX8_g L z) 0 rfl inTX8 (by decide) kw847 rfl dX8_be_13 ?_
    refine lv_if_ne (tgt := 22) hx hb dX8_be_16 (by decide) (fun hc3 => ?_) (fun hc3 => ?_)
    · have h := ie h hc3
      refine lv_aload_n hx hb dX8_be_22 rfl (lv_at hl 0 rfl) ?_
      refine fG B X (LnX8_g L z) 2 rfl inTX8 (by decide) kw849 rfl dX8_be_23 ?_
      refine lv_istore_n (lv' := [(2, .int (z.1 2)), (0, .ref (a 0)), (1, .int x1)]) hx hb dX8_be_26 rfl hl (by decide) rfl (fun ls hl => ?_)
      refine lv_aload_n hx hb dX8_be_27 rfl (lv_at hl 1 rfl) ?_
      refine lv_iload_n hx hb dX8_be_28 rfl (lv_at hl 2 rfl) ?_
      refine fP tyX8 B X (LnX8_g L z) 2 (LnX8_i2 L z _) rfl inTX8 tyX8_ok nmX8 (by decide) kw849 rfl rfl rfl rfl (Nat.le_of_ble_eq_true rfl) dX8_be_29 (fun H locs X => ?_)
      have X : Hx A D S.heap (wf ((upd z.1 2 x1), z.2.1, z.2.2)) H locs := X
      refine lv_iload_n hx hb dX8_be_32 rfl (lv_at hl 0 rfl) ?_
      exact rI B X (congrArg (fun q => wf q.2) (Option.some.inj h)) (congrArg (fun q => q.1) (Option.some.inj h)) dX8_be_33
    · have h := it h hc3
      refine lv_bipush (v := (-103)) hx hb dX8_be_19 (by decide) ?_
      exact rI B X (congrArg (fun q => wf q.2) (Option.some.inj h)) (congrArg (fun q => q.1) (Option.some.inj h)) dX8_be_21
  · have h := it h hc2
    refine lv_bipush (v := (-102)) hx hb dX8_be_9 (by decide) ?_
    exact rI B X (congrArg (fun q => wf q.2) (Option.some.inj h)) (congrArg (fun q => q.1) (Option.some.inj h)) dX8_be_11
end
