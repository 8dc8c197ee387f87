section
variable {l : Launch} {p : Program} {e : Env} {R : Room} {S : State} {m : MethodId} {args : Array Value} {below : List Frame} {meth : Method} {c : Code} {A : Nat → Prop} {g : Nat → Nat} {D : va_G} {cI cB : ClassId}
def fX4_clear (z : SX4) : Option SX4 :=
    some (0, 31)
set_option maxRecDepth 100000 in
set_option maxHeartbeats 4000000 in
theorem tX4_clear {a0 p0 : Nat} {wf : SX4 → va_W} (L : LnX4 a0 p0 cI wf) {d : Nat} (hd : 1 ≤ d) {z : SX4} {q : SX4} (h : fX4_clear z = some q) : Ct l yX4_clear cX4_clear 1 none d A g D [(cI, .int), (cB, .byte)] [.ref a0] (wf z) (QV A D (wf q)) := by
  refine mkM (by decide) (Nat.le_of_ble_eq_true rfl) ?_
  intro p e S m args below meth c B X ls hl
  have B : Bd RX4 cX4_clear 1 none d A g D [(cI, .int), (cB, .byte)] p (rmd d) S m args meth c := B
  have hx := B.1
  have hb := B.2.1
  have hd1 : 1 ≤ d := by omega
  have hl : lv_has ls 1 [(0, .ref a0)] := hl
  unfold fX4_clear at h
  refine lv_aload_n hx hb dX4_clear_0 rfl (lv_at hl 0 rfl) ?_
  refine lv_iconst (v := 0) hx hb dX4_clear_1 (by decide) ?_
  refine fP tyX4 B X (LnX4_g L z) 0 (LnX4_i0 L z _) rfl inTX4 tyX4_ok nmX4 (by decide) kw280 rfl rfl rfl rfl (Nat.le_of_ble_eq_true rfl) dX4_clear_2 (fun H locs X => ?_)
  have X : Hx A D S.heap (wf (0, z.2)) H locs := X
  refine lv_aload_n hx hb dX4_clear_5 rfl (lv_at hl 0 rfl) ?_
  refine lv_bipush (v := 31) hx hb dX4_clear_6 (by decide) ?_
  refine fP tyX4 B X (LnX4_g L (0, z.2)) 1 (LnX4_i1 L (0, z.2) _) rfl inTX4 tyX4_ok nmX4 (by decide) kw282 rfl rfl rfl rfl (Nat.le_of_ble_eq_true rfl) dX4_clear_8 (fun H locs X => ?_)
  have X : Hx A D S.heap (wf (0, 31)) H locs := X
  exact rV B X (congrArg wf (Option.some.inj h)) dX4_clear_11
def fX4_kindsThatLetOut_b4 : Nat → Int32 → Int32 → Int32 → Option Int32
  | 0, _, _, _ => none
  | n + 1, x0, x1, x2 =>
    if 5 ≤ x2 then (some x1) else
    ((fX7_comesOutBy x2 x0).bind fun q2 =>
    if q2 = 0 then (fX4_kindsThatLetOut_b4 n x0 x1 (x2 + 1)) else
    (fX4_kindsThatLetOut_b4 n x0 (x1 ||| (1 <<< (x2 &&& 31))) (x2 + 1)))
set_option maxRecDepth 100000 in
set_option maxHeartbeats 4000000 in
theorem tX4_kindsThatLetOut_b4 {w : va_W} {d : Nat} (hd : 2 ≤ d) (B : Bd RX4 cX4_kindsThatLetOut 3 (some .int) d A g D [(cI, .int), (cB, .byte)] p R S m args meth c) {q : Int32} : ∀ (n : Nat) (x0 : Int32) (x1 : Int32) (x2 : Int32) (H : Heap) (locs : List Loc) (ls : Array Slot), Hx A D S.heap (w) H locs → lv_has ls 3 [(0, .int x0), (1, .int x1), (2, .int x2)] → fX4_kindsThatLetOut_b4 n x0 x1 x2 = some q → W p l e R S m args below meth c H locs 0 0 (MQ below (QI A D w q) args S 0 0 A) (F0 m 4 ls []) := by
  have hx := B.1
  have hb := B.2.1
  have hd1 : 1 ≤ d := by omega
  intro n
  induction n with
  | zero =>
    intro x0 x1 x2 H locs ls X hl h
    cases h
  | succ n ih =>
    intro x0 x1 x2 H locs ls X hl h
    rw [fX4_kindsThatLetOut_b4] at h
    refine lv_iload_n hx hb dX4_kindsThatLetOut_4 rfl (lv_at hl 2 rfl) ?_
    refine lv_iconst (v := 5) hx hb dX4_kindsThatLetOut_5 (by decide) ?_
    refine lv_icmp_ge (tgt := 29) hx hb dX4_kindsThatLetOut_6 (by decide) (fun hc1 => ?_) (fun hc1 => ?_)
    · have h := it h hc1
      refine lv_iload_n hx hb dX4_kindsThatLetOut_29 rfl (lv_at hl 1 rfl) ?_
      exact rI B X rfl (Option.some.inj h) dX4_kindsThatLetOut_30
    · have h := ie h hc1
      refine lv_iload_n hx hb dX4_kindsThatLetOut_9 rfl (lv_at hl 2 rfl) ?_
      refine lv_iload_n hx hb dX4_kindsThatLetOut_10 rfl (lv_at hl 0 rfl) ?_
      obtain ⟨q2, h2, h⟩ := bs h
      refine kI X (cSN (As := [.int x2, .int x0]) (rest := []) B X (tX7_comesOutBy (d := d - 1) (by omega) h2) msX7_comesOutBy kn754 (by omega) rfl (Nat.le_of_ble_eq_true rfl) hl.1 ⟨Nat.zero_le _, Nat.zero_le _⟩ dX4_kindsThatLetOut_11) (fun H locs X => ?_)
      refine lv_if_eq (tgt := 23) hx hb dX4_kindsThatLetOut_14 (by decide) (fun hc3 => ?_) (fun hc3 => ?_)
      · have h := it h hc3
        refine lv_iinc (v := x2 + 1) (lv' := [(2, .int (x2 + 1)), (0, .int x0), (1, .int x1)]) hx hb dX4_kindsThatLetOut_23 hl (k := 2) rfl rfl (by decide) rfl (fun ls hl => ?_)
        refine lv_goto (tgt := 4) hx hb dX4_kindsThatLetOut_26 (by decide) ?_
        exact ih x0 x1 (x2 + 1) _ _ _ X (lv_sub hl [1, 2, 0] rfl) h
      · have h := ie h hc3
        refine lv_iload_n hx hb dX4_kindsThatLetOut_17 rfl (lv_at hl 1 rfl) ?_
        refine lv_iconst (v := 1) hx hb dX4_kindsThatLetOut_18 (by decide) ?_
        refine lv_iload_n hx hb dX4_kindsThatLetOut_19 rfl (lv_at hl 2 rfl) ?_
        refine lv_ishl hx hb dX4_kindsThatLetOut_20 ?_
        refine lv_ior hx hb dX4_kindsThatLetOut_21 ?_
        refine lv_istore_n (lv' := [(1, .int (x1 ||| (1 <<< (x2 &&& 31)))), (0, .int x0), (2, .int x2)]) hx hb dX4_kindsThatLetOut_22 rfl hl (by decide) rfl (fun ls hl => ?_)
        refine lv_iinc (v := x2 + 1) (lv' := [(2, .int (x2 + 1)), (1, .int (x1 ||| (1 <<< (x2 &&& 31)))), (0, .int x0)]) hx hb dX4_kindsThatLetOut_23 hl (k := 2) rfl rfl (by decide) rfl (fun ls hl => ?_)
        refine lv_goto (tgt := 4) hx hb dX4_kindsThatLetOut_26 (by decide) ?_
        exact ih x0 (x1 ||| (1 <<< (x2 &&& 31))) (x2 + 1) _ _ _ X (lv_sub hl [2, 1, 0] rfl) h
def fX4_kindsThatLetOut (x0 : Int32) : Option Int32 :=
    fX4_kindsThatLetOut_b4 1000 x0 0 0
set_option maxRecDepth 100000 in
set_option maxHeartbeats 4000000 in
theorem tX4_kindsThatLetOut {w : va_W} {d : Nat} (hd : 2 ≤ d) {x0 : Int32} {q : Int32} (h : fX4_kindsThatLetOut x0 = some q) : Ct l yX4_kindsThatLetOut cX4_kindsThatLetOut 3 (some .int) d A g D [(cI, .int), (cB, .byte)] [.int x0] (w) (QI A D w q) := by
  refine mkM (by decide) (Nat.le_of_ble_eq_true rfl) ?_
  intro p e S m args below meth c B X ls hl
  have B : Bd RX4 cX4_kindsThatLetOut 3 (some .int) d A g D [(cI, .int), (cB, .byte)] p (rmd d) S m args meth c := B
  have hx := B.1
  have hb := B.2.1
  have hd1 : 1 ≤ d := by omega
  have hl : lv_has ls 3 [(0, .int x0)] := hl
  unfold fX4_kindsThatLetOut at h
  refine lv_iconst (v := 0) hx hb dX4_kindsThatLetOut_0 (by decide) ?_
  refine lv_istore_n (lv' := [(1, .int 0), (0, .int x0)]) hx hb dX4_kindsThatLetOut_1 rfl hl (by decide) rfl (fun ls hl => ?_)
  refine lv_iconst (v := 0) hx hb dX4_kindsThatLetOut_2 (by decide) ?_
  refine lv_istore_n (lv' := [(2, .int 0), (1, .int 0), (0, .int x0)]) hx hb dX4_kindsThatLetOut_3 rfl hl (by decide) rfl (fun ls hl => ?_)
  exact tX4_kindsThatLetOut_b4 hd B 1000 x0 0 0 _ _ _ X (lv_sub hl [2, 1, 0] rfl) h
def fX4_add (z : SX4) (x1 : Int32) (x2 : Int32) : Option SX4 :=
    (fX4_kindsThatLetOut x1).bind fun q1 =>
    if x2 = 0 then (some ((z.1 + 1), (z.2 &&& (q1 ^^^ (-1))))) else
    (some ((z.1 + 1), (z.2 &&& q1)))
set_option maxRecDepth 100000 in
set_option maxHeartbeats 4000000 in
theorem tX4_add {a0 p0 : Nat} {wf : SX4 → va_W} (L : LnX4 a0 p0 cI wf) {d : Nat} (hd : 3 ≤ d) {z : SX4} {x1 x2 : Int32} {q : SX4} (h : fX4_add z x1 x2 = some q) : Ct l yX4_add cX4_add 4 none d A g D [(cI, .int), (cB, .byte)] [.ref a0, .int x1, .int x2] (wf z) (QV A D (wf q)) := by
  refine mkM (by decide) (Nat.le_of_ble_eq_true rfl) ?_
  intro p e S m args below meth c B X ls hl
  have B : Bd RX4 cX4_add 4 none d A g D [(cI, .int), (cB, .byte)] p (rmd d) S m args meth c := B
  have hx := B.1
  have hb := B.2.1
  have hd1 : 1 ≤ d := by omega
  have hl : lv_has ls 4 [(0, .ref a0), (1, .int x1), (2, .int x2)] := hl
  unfold fX4_add at h
  refine lv_iload_n hx hb dX4_add_0 rfl (lv_at hl 1 rfl) ?_
  obtain ⟨q1, h1, h⟩ := bs h
  refine kI X (cS (As := [.int x1]) (rest := []) B X (tX4_kindsThatLetOut (d := d - 1) (by omega) h1) msX4_kindsThatLetOut kw751 (by omega) rfl (Nat.le_of_ble_eq_true rfl) hl.1 ⟨Nat.zero_le _, Nat.zero_le _⟩ dX4_add_1) (fun H locs X => ?_)
  have X : Hx A D S.heap (wf z) H locs := X
  refine lv_istore_n (lv' := [(3, .int q1), (0, .ref a0), (1, .int x1), (2, .int x2)]) hx hb dX4_add_4 rfl hl (by decide) rfl (fun ls hl => ?_)
  refine lv_aload_n hx hb dX4_add_5 rfl (lv_at hl 1 rfl) ?_
  refine lv_dup hx hb dX4_add_6 rfl ?_
  refine fG B X (LnX4_g L z) 1 rfl inTX4 (by decide) kw282 rfl dX4_add_7 ?_
  refine lv_iload_n hx hb dX4_add_10 rfl (lv_at hl 3 rfl) ?_
  refine lv_if_eq (tgt := 18) hx hb dX4_add_11 (by decide) (fun hc2 => ?_) (fun hc2 => ?_)
  · have h := it h hc2
    refine lv_iload_n hx hb dX4_add_18 rfl (lv_at hl 0 rfl) ?_
    refine lv_iconst (v := (-1)) hx hb dX4_add_19 (by decide) ?_
    refine lv_ixor hx hb dX4_add_20 ?_
    refine lv_iand hx hb dX4_add_21 ?_
    refine fP tyX4 B X (LnX4_g L z) 1 (LnX4_i1 L z _) rfl inTX4 tyX4_ok nmX4 (by decide) kw282 rfl rfl rfl rfl (Nat.le_of_ble_eq_true rfl) dX4_add_22 (fun H locs X => ?_)
    have X : Hx A D S.heap (wf (z.1, (z.2 &&& (q1 ^^^ (-1))))) H locs := X
    refine lv_aload_n hx hb dX4_add_25 rfl (lv_at hl 1 rfl) ?_
    refine lv_dup hx hb dX4_add_26 rfl ?_
    refine fG B X (LnX4_g L (z.1, (z.2 &&& (q1 ^^^ (-1))))) 0 rfl inTX4 (by decide) kw280 rfl dX4_add_27 ?_
    refine lv_iconst (v := 1) hx hb dX4_add_30 (by decide) ?_
    refine lv_iadd hx hb dX4_add_31 ?_
    refine fP tyX4 B X (LnX4_g L (z.1, (z.2 &&& (q1 ^^^ (-1))))) 0 (LnX4_i0 L (z.1, (z.2 &&& (q1 ^^^ (-1)))) _) rfl inTX4 tyX4_ok nmX4 (by decide) kw280 rfl rfl rfl rfl (Nat.le_of_ble_eq_true rfl) dX4_add_32 (fun H locs X => ?_)
    have X : Hx A D S.heap (wf ((z.1 + 1), (z.2 &&& (q1 ^^^ (-1))))) H locs := X
    exact rV B X (congrArg wf (Option.some.inj h)) dX4_add_35
  · have h := ie h hc2
    refine lv_iload_n hx hb dX4_add_14 rfl (lv_at hl 0 rfl) ?_
    refine lv_goto (tgt := 21) hx hb dX4_add_15 (by decide) ?_
    refine lv_iand hx hb dX4_add_21 ?_
    refine fP tyX4 B X (LnX4_g L z) 1 (LnX4_i1 L z _) rfl inTX4 tyX4_ok nmX4 (by decide) kw282 rfl rfl rfl rfl (Nat.le_of_ble_eq_true rfl) dX4_add_22 (fun H locs X => ?_)
    have X : Hx A D S.heap (wf (z.1, (z.2 &&& q1))) H locs := X
    refine lv_aload_n hx hb dX4_add_25 rfl (lv_at hl 1 rfl) ?_
    refine lv_dup hx hb dX4_add_26 rfl ?_
    refine fG B X (LnX4_g L (z.1, (z.2 &&& q1))) 0 rfl inTX4 (by decide) kw280 rfl dX4_add_27 ?_
    refine lv_iconst (v := 1) hx hb dX4_add_30 (by decide) ?_
    refine lv_iadd hx hb dX4_add_31 ?_
    refine fP tyX4 B X (LnX4_g L (z.1, (z.2 &&& q1))) 0 (LnX4_i0 L (z.1, (z.2 &&& q1)) _) rfl inTX4 tyX4_ok nmX4 (by decide) kw280 rfl rfl rfl rfl (Nat.le_of_ble_eq_true rfl) dX4_add_32 (fun H locs X => ?_)
    have X : Hx A D S.heap (wf ((z.1 + 1), (z.2 &&& q1))) H locs := X
    exact rV B X (congrArg wf (Option.some.inj h)) dX4_add_35
def fX4_copy (z : SP44) : Option SP44 :=
    some ((z.2.1, z.2.2), z.2)
set_option maxRecDepth 100000 in
set_option maxHeartbeats 4000000 in
theorem tX4_copy {a0 a1 p0 p1 : Nat} {wf : SP44 → va_W} (L : LnP44 a0 a1 p0 p1 cI wf) {d : Nat} (hd : 1 ≤ d) {z : SP44} {q : SP44} (h : fX4_copy z = some q) : Ct l yX4_copy cX4_copy 2 none d A g D [(cI, .int), (cB, .byte)] [.ref a0, .ref a1] (wf z) (QV A D (wf q)) := by
  refine mkM (by decide) (Nat.le_of_ble_eq_true rfl) ?_
  intro p e S m args below meth c B X ls hl
  have B : Bd RX4 cX4_copy 2 none d A g D [(cI, .int), (cB, .byte)] p (rmd d) S m args meth c := B
  have hx := B.1
  have hb := B.2.1
  have hd1 : 1 ≤ d := by omega
  have hl : lv_has ls 2 [(0, .ref a0), (1, .ref a1)] := hl
  unfold fX4_copy at h
  refine lv_aload_n hx hb dX4_copy_0 rfl (lv_at hl 0 rfl) ?_
  refine lv_aload_n hx hb dX4_copy_1 rfl (lv_at hl 1 rfl) ?_
  refine fG B X (LnX4_g (LnP44_s1 L z) z.2) 0 rfl inTX4 (by decide) kw280 rfl dX4_copy_2 ?_
  refine fP tyX4 B X (LnX4_g (LnP44_s0 L z) z.1) 0 (LnX4_i0 (LnP44_s0 L z) z.1 _) rfl inTX4 tyX4_ok nmX4 (by decide) kw280 rfl rfl rfl rfl (Nat.le_of_ble_eq_true rfl) dX4_copy_5 (fun H locs X => ?_)
  have X : Hx A D S.heap (wf ((z.2.1, z.1.2), z.2)) H locs := X
  refine lv_aload_n hx hb dX4_copy_8 rfl (lv_at hl 0 rfl) ?_
  refine lv_aload_n hx hb dX4_copy_9 rfl (lv_at hl 1 rfl) ?_
  refine fG B X (LnX4_g (LnP44_s1 L ((z.2.1, z.1.2), z.2)) z.2) 1 rfl inTX4 (by decide) kw282 rfl dX4_copy_10 ?_
  refine fP tyX4 B X (LnX4_g (LnP44_s0 L ((z.2.1, z.1.2), z.2)) (z.2.1, z.1.2)) 1 (LnX4_i1 (LnP44_s0 L ((z.2.1, z.1.2), z.2)) (z.2.1, z.1.2) _) rfl inTX4 tyX4_ok nmX4 (by decide) kw282 rfl rfl rfl rfl (Nat.le_of_ble_eq_true rfl) dX4_copy_13 (fun H locs X => ?_)
  have X : Hx A D S.heap (wf ((z.2.1, z.2.2), z.2)) H locs := X
  exact rV B X (congrArg wf (Option.some.inj h)) dX4_copy_16
def fX4_bestQuestion_b16 (z : SX4) : Nat → Int32 → Int32 → Int32 → Int32 → Option Int32
  | 0, _, _, _, _ => none
  | n + 1, x1, x2, x3, x4 =>
    if 4 ≤ x4 then (some x1) else
    (if x2 ≤ 0 then (some x1) else
    ((fX4_kindsThatLetOut x4).bind fun q3 =>
    (fJ6_bitCount_0f7a4 (z.2 &&& q3)).bind fun q4 =>
    if x3 ≤ (if q4 < (x2 - q4) then (x2 - q4) else q4) then (fX4_bestQuestion_b16 z n x1 x2 x3 (x4 + 1)) else
    (fX4_bestQuestion_b16 z n x4 x2 (if q4 < (x2 - q4) then (x2 - q4) else q4) (x4 + 1))))
set_option maxRecDepth 100000 in
set_option maxHeartbeats 4000000 in
theorem tX4_bestQuestion_b16 {a0 p0 : Nat} {wf : SX4 → va_W} (L : LnX4 a0 p0 cI wf) {d : Nat} (hd : 3 ≤ d) {z : SX4} (B : Bd RX4 cX4_bestQuestion 7 (some .int) d A g D [(cI, .int), (cB, .byte)] p R S m args meth c) {q : Int32} : ∀ (n : Nat) (x1 : Int32) (x2 : Int32) (x3 : Int32) (x4 : Int32) (H : Heap) (locs : List Loc) (ls : Array Slot), Hx A D S.heap (wf z) H locs → lv_has ls 7 [(0, .ref a0), (1, .int x1), (2, .int x2), (3, .int x3), (4, .int x4)] → fX4_bestQuestion_b16 z n x1 x2 x3 x4 = some q → W p l e R S m args below meth c H locs 0 0 (MQ below (QI A D (wf z) q) args S 0 0 A) (F0 m 16 ls []) := by
  have hx := B.1
  have hb := B.2.1
  have hd1 : 1 ≤ d := by omega
  intro n
  induction n with
  | zero =>
    intro x1 x2 x3 x4 H locs ls X hl h
    cases h
  | succ n ih =>
    intro x1 x2 x3 x4 H locs ls X hl h
    rw [fX4_bestQuestion_b16] at h
    refine lv_iload hx hb dX4_bestQuestion_16 (lv_at hl 4 rfl) ?_
    refine lv_iconst (v := 4) hx hb dX4_bestQuestion_18 (by decide) ?_
    refine lv_icmp_ge (tgt := 70) hx hb dX4_bestQuestion_19 (by decide) (fun hc1 => ?_) (fun hc1 => ?_)
    · have h := it h hc1
      refine lv_iload_n hx hb dX4_bestQuestion_70 rfl (lv_at hl 1 rfl) ?_
      exact rI B X rfl (Option.some.inj h) dX4_bestQuestion_71
    · have h := ie h hc1
      refine lv_iload_n hx hb dX4_bestQuestion_22 rfl (lv_at hl 2 rfl) ?_
      refine lv_if_le (tgt := 70) hx hb dX4_bestQuestion_23 (by decide) (fun hc2 => ?_) (fun hc2 => ?_)
      · have h := it h hc2
        refine lv_iload_n hx hb dX4_bestQuestion_70 rfl (lv_at hl 1 rfl) ?_
        exact rI B X rfl (Option.some.inj h) dX4_bestQuestion_71
      · have h := ie h hc2
        refine lv_aload_n hx hb dX4_bestQuestion_26 rfl (lv_at hl 0 rfl) ?_
        refine fG B X (LnX4_g L z) 1 rfl inTX4 (by decide) kw282 rfl dX4_bestQuestion_27 ?_
        refine lv_iload hx hb dX4_bestQuestion_30 (lv_at hl 4 rfl) ?_
        obtain ⟨q3, h3, h⟩ := bs h
        refine kI X (cS (As := [.int x4]) (rest := [.int z.2]) B X (tX4_kindsThatLetOut (d := d - 1) (by omega) h3) msX4_kindsThatLetOut kw751 (by omega) rfl (Nat.le_of_ble_eq_true rfl) hl.1 ⟨Nat.zero_le _, Nat.zero_le _⟩ dX4_bestQuestion_32) (fun H locs X => ?_)
        have X : Hx A D S.heap (wf z) H locs := X
        refine lv_iand hx hb dX4_bestQuestion_35 ?_
        obtain ⟨q4, h4, h⟩ := bs h
        refine kI X (cS (As := [.int (z.2 &&& q3)]) (rest := []) B X (tJ6_bitCount_0f7a4 (d := d - 1) (by omega) h4) msJ6_bitCount_0f7a4 kw767 (by omega) rfl (Nat.le_of_ble_eq_true rfl) hl.1 ⟨Nat.zero_le _, Nat.zero_le _⟩ dX4_bestQuestion_36) (fun H locs X => ?_)
        have X : Hx A D S.heap (wf z) H locs := X
        refine lv_istore (lv' := [(5, .int q4), (0, .ref a0), (1, .int x1), (2, .int x2), (3, .int x3), (4, .int x4)]) hx hb dX4_bestQuestion_39 hl (by decide) rfl (fun ls hl => ?_)
        refine lv_iload hx hb dX4_bestQuestion_41 (lv_at hl 0 rfl) ?_
        refine lv_iload_n hx hb dX4_bestQuestion_43 rfl (lv_at hl 3 rfl) ?_
        refine lv_iload hx hb dX4_bestQuestion_44 (lv_at hl 0 rfl) ?_
        refine lv_isub hx hb dX4_bestQuestion_46 ?_
        refine kMax B kw768 hd1 (Nat.le_of_ble_eq_true rfl) hl.1 ⟨Nat.zero_le _, Nat.zero_le _⟩ dX4_bestQuestion_47 ?_
        refine lv_istore (lv' := [(6, .int (if q4 < (x2 - q4) then (x2 - q4) else q4)), (5, .int q4), (0, .ref a0), (1, .int x1), (2, .int x2), (3, .int x3), (4, .int x4)]) hx hb dX4_bestQuestion_50 hl (by decide) rfl (fun ls hl => ?_)
        refine lv_iload hx hb dX4_bestQuestion_52 (lv_at hl 0 rfl) ?_
        refine lv_iload_n hx hb dX4_bestQuestion_54 rfl (lv_at hl 5 rfl) ?_
        refine lv_icmp_ge (tgt := 64) hx hb dX4_bestQuestion_55 (by decide) (fun hc5 => ?_) (fun hc5 => ?_)
        · have h := it h hc5
          refine lv_iinc (v := x4 + 1) (lv' := [(4, .int (x4 + 1)), (6, .int (if q4 < (x2 - q4) then (x2 - q4) else q4)), (5, .int q4), (0, .ref a0), (1, .int x1), (2, .int x2), (3, .int x3)]) hx hb dX4_bestQuestion_64 hl (k := 6) rfl rfl (by decide) rfl (fun ls hl => ?_)
          refine lv_goto (tgt := 16) hx hb dX4_bestQuestion_67 (by decide) ?_
          exact ih x1 x2 x3 (x4 + 1) _ _ _ X (lv_sub hl [3, 4, 5, 6, 0] rfl) h
        · have h := ie h hc5
          refine lv_iload hx hb dX4_bestQuestion_58 (lv_at hl 0 rfl) ?_
          refine lv_istore_n (lv' := [(3, .int (if q4 < (x2 - q4) then (x2 - q4) else q4)), (6, .int (if q4 < (x2 - q4) then (x2 - q4) else q4)), (5, .int q4), (0, .ref a0), (1, .int x1), (2, .int x2), (4, .int x4)]) hx hb dX4_bestQuestion_60 rfl hl (by decide) rfl (fun ls hl => ?_)
          refine lv_iload hx hb dX4_bestQuestion_61 (lv_at hl 6 rfl) ?_
          refine lv_istore_n (lv' := [(1, .int x4), (3, .int (if q4 < (x2 - q4) then (x2 - q4) else q4)), (6, .int (if q4 < (x2 - q4) then (x2 - q4) else q4)), (5, .int q4), (0, .ref a0), (2, .int x2), (4, .int x4)]) hx hb dX4_bestQuestion_63 rfl hl (by decide) rfl (fun ls hl => ?_)
          refine lv_iinc (v := x4 + 1) (lv' := [(4, .int (x4 + 1)), (1, .int x4), (3, .int (if q4 < (x2 - q4) then (x2 - q4) else q4)), (6, .int (if q4 < (x2 - q4) then (x2 - q4) else q4)), (5, .int q4), (0, .ref a0), (2, .int x2)]) hx hb dX4_bestQuestion_64 hl (k := 6) rfl rfl (by decide) rfl (fun ls hl => ?_)
          refine lv_goto (tgt := 16) hx hb dX4_bestQuestion_67 (by decide) ?_
          exact ih x4 x2 (if q4 < (x2 - q4) then (x2 - q4) else q4) (x4 + 1) _ _ _ X (lv_sub hl [5, 1, 6, 2, 0] rfl) h
def fX4_bestQuestion (z : SX4) : Option Int32 :=
    (fJ6_bitCount_0f7a4 z.2).bind fun q1 =>
    fX4_bestQuestion_b16 z 1000 (-1) q1 6 0
set_option maxRecDepth 100000 in
set_option maxHeartbeats 4000000 in
theorem tX4_bestQuestion {a0 p0 : Nat} {wf : SX4 → va_W} (L : LnX4 a0 p0 cI wf) {d : Nat} (hd : 3 ≤ d) {z : SX4} {q : Int32} (h : fX4_bestQuestion z = some q) : Ct l yX4_bestQuestion cX4_bestQuestion 7 (some .int) d A g D [(cI, .int), (cB, .byte)] [.ref a0] (wf z) (QI A D (wf z) q) := by
  refine mkM (by decide) (Nat.le_of_ble_eq_true rfl) ?_
  intro p e S m args below meth c B X ls hl
  have B : Bd RX4 cX4_bestQuestion 7 (some .int) d A g D [(cI, .int), (cB, .byte)] p (rmd d) S m args meth c := B
  have hx := B.1
  have hb := B.2.1
  have hd1 : 1 ≤ d := by omega
  have hl : lv_has ls 7 [(0, .ref a0)] := hl
  unfold fX4_bestQuestion at h
  refine lv_iconst (v := (-1)) hx hb dX4_bestQuestion_0 (by decide) ?_
  refine lv_istore_n (lv' := [(1, .int (-1)), (0, .ref a0)]) hx hb dX4_bestQuestion_1 rfl hl (by decide) rfl (fun ls hl => ?_)
  refine lv_aload_n hx hb dX4_bestQuestion_2 rfl (lv_at hl 1 rfl) ?_
  refine fG B X (LnX4_g L z) 1 rfl inTX4 (by decide) kw282 rfl dX4_bestQuestion_3 ?_
  obtain ⟨q1, h1, h⟩ := bs h
  refine kI X (cS (As := [.int z.2]) (rest := []) B X (tJ6_bitCount_0f7a4 (d := d - 1) (by omega) h1) msJ6_bitCount_0f7a4 kw767 (by omega) rfl (Nat.le_of_ble_eq_true rfl) hl.1 ⟨Nat.zero_le _, Nat.zero_le _⟩ dX4_bestQuestion_6) (fun H locs X => ?_)
  have X : Hx A D S.heap (wf z) H locs := X
  refine lv_istore_n (lv' := [(2, .int q1), (1, .int (-1)), (0, .ref a0)]) hx hb dX4_bestQuestion_9 rfl hl (by decide) rfl (fun ls hl => ?_)
  refine lv_bipush (v := 6) hx hb dX4_bestQuestion_10 (by decide) ?_
  refine lv_istore_n (lv' := [(3, .int 6), (2, .int q1), (1, .int (-1)), (0, .ref a0)]) hx hb dX4_bestQuestion_12 rfl hl (by decide) rfl (fun ls hl => ?_)
  refine lv_iconst (v := 0) hx hb dX4_bestQuestion_13 (by decide) ?_
  refine lv_istore (lv' := [(4, .int 0), (3, .int 6), (2, .int q1), (1, .int (-1)), (0, .ref a0)]) hx hb dX4_bestQuestion_14 hl (by decide) rfl (fun ls hl => ?_)
  exact tX4_bestQuestion_b16 L hd B 1000 (-1) q1 6 0 _ _ _ X (lv_sub hl [4, 3, 2, 1, 0] rfl) h
end
