section
variable {l : Launch} {p : Program} {e : Env} {R : Room} {S : State} {m : MethodId} {args : Array Value} {below : List Frame} {meth : Method} {c : Code} {A : Nat → Prop} {g : Nat → Nat} {D : va_G} {cI cB : ClassId}
def fJ6_bitCount_0f7a4_b48 (x0 : Int32) : Option Int32 :=
    some (x0 &&& 63)
set_option maxRecDepth 100000 in
set_option maxHeartbeats 4000000 in
theorem tJ6_bitCount_0f7a4_b48 {w : va_W} {d : Nat} (hd : 1 ≤ d) (B : Bd RJ6 cJ6_bitCount_0f7a4 1 (some .int) d A g D [(cI, .int), (cB, .byte)] p R S m args meth c) {q : Int32} : ∀ (x0 : Int32) (H : Heap) (locs : List Loc) (ls : Array Slot), Hx A D S.heap (w) H locs → lv_has ls 1 [(0, .int x0)] → fJ6_bitCount_0f7a4_b48 x0 = some q → W p l e R S m args below meth c H locs 0 0 (MQ below (QI A D w q) args S 0 0 A) (F0 m 48 ls []) := by
  have hx := B.1
  have hb := B.2.1
  have hd1 : 1 ≤ d := by omega
  intro x0 H locs ls X hl h
  unfold fJ6_bitCount_0f7a4_b48 at h
  refine lv_iload_n hx hb dJ6_bitCount_0f7a4_48 rfl (lv_at hl 0 rfl) ?_
  refine lv_bipush (v := 63) hx hb dJ6_bitCount_0f7a4_49 (by decide) ?_
  refine lv_iand hx hb dJ6_bitCount_0f7a4_51 ?_
  exact rI B X rfl (Option.some.inj h) dJ6_bitCount_0f7a4_52
def fJ6_bitCount_0f7a4_b41 (x0 : Int32) : Option Int32 :=
    fJ6_bitCount_0f7a4_b48 (x0 + (((x0).toUInt32 >>> (((16 : Int32)).toUInt32 &&& Int32.toUInt32 31)).toInt32))
set_option maxRecDepth 100000 in
set_option maxHeartbeats 4000000 in
theorem tJ6_bitCount_0f7a4_b41 {w : va_W} {d : Nat} (hd : 1 ≤ d) (B : Bd RJ6 cJ6_bitCount_0f7a4 1 (some .int) d A g D [(cI, .int), (cB, .byte)] p R S m args meth c) {q : Int32} : ∀ (x0 : Int32) (H : Heap) (locs : List Loc) (ls : Array Slot), Hx A D S.heap (w) H locs → lv_has ls 1 [(0, .int x0)] → fJ6_bitCount_0f7a4_b41 x0 = some q → W p l e R S m args below meth c H locs 0 0 (MQ below (QI A D w q) args S 0 0 A) (F0 m 41 ls []) := by
  have hx := B.1
  have hb := B.2.1
  have hd1 : 1 ≤ d := by omega
  intro x0 H locs ls X hl h
  unfold fJ6_bitCount_0f7a4_b41 at h
  refine lv_iload_n hx hb dJ6_bitCount_0f7a4_41 rfl (lv_at hl 0 rfl) ?_
  refine lv_iload_n hx hb dJ6_bitCount_0f7a4_42 rfl (lv_at hl 0 rfl) ?_
  refine lv_bipush (v := 16) hx hb dJ6_bitCount_0f7a4_43 (by decide) ?_
  refine lv_iushr hx hb dJ6_bitCount_0f7a4_45 rfl ?_
  refine lv_iadd hx hb dJ6_bitCount_0f7a4_46 ?_
  refine lv_istore_n (lv' := [(0, .int (x0 + (((x0).toUInt32 >>> (((16 : Int32)).toUInt32 &&& Int32.toUInt32 31)).toInt32)))]) hx hb dJ6_bitCount_0f7a4_47 rfl hl (by decide) rfl (fun ls hl => ?_)
  exact tJ6_bitCount_0f7a4_b48 hd B (x0 + (((x0).toUInt32 >>> (((16 : Int32)).toUInt32 &&& Int32.toUInt32 31)).toInt32)) _ _ _ X (lv_sub hl [0] rfl) h
def fJ6_bitCount_0f7a4_b34 (x0 : Int32) : Option Int32 :=
    fJ6_bitCount_0f7a4_b41 (x0 + (((x0).toUInt32 >>> (((8 : Int32)).toUInt32 &&& Int32.toUInt32 31)).toInt32))
set_option maxRecDepth 100000 in
set_option maxHeartbeats 4000000 in
theorem tJ6_bitCount_0f7a4_b34 {w : va_W} {d : Nat} (hd : 1 ≤ d) (B : Bd RJ6 cJ6_bitCount_0f7a4 1 (some .int) d A g D [(cI, .int), (cB, .byte)] p R S m args meth c) {q : Int32} : ∀ (x0 : Int32) (H : Heap) (locs : List Loc) (ls : Array Slot), Hx A D S.heap (w) H locs → lv_has ls 1 [(0, .int x0)] → fJ6_bitCount_0f7a4_b34 x0 = some q → W p l e R S m args below meth c H locs 0 0 (MQ below (QI A D w q) args S 0 0 A) (F0 m 34 ls []) := by
  have hx := B.1
  have hb := B.2.1
  have hd1 : 1 ≤ d := by omega
  intro x0 H locs ls X hl h
  unfold fJ6_bitCount_0f7a4_b34 at h
  refine lv_iload_n hx hb dJ6_bitCount_0f7a4_34 rfl (lv_at hl 0 rfl) ?_
  refine lv_iload_n hx hb dJ6_bitCount_0f7a4_35 rfl (lv_at hl 0 rfl) ?_
  refine lv_bipush (v := 8) hx hb dJ6_bitCount_0f7a4_36 (by decide) ?_
  refine lv_iushr hx hb dJ6_bitCount_0f7a4_38 rfl ?_
  refine lv_iadd hx hb dJ6_bitCount_0f7a4_39 ?_
  refine lv_istore_n (lv' := [(0, .int (x0 + (((x0).toUInt32 >>> (((8 : Int32)).toUInt32 &&& Int32.toUInt32 31)).toInt32)))]) hx hb dJ6_bitCount_0f7a4_40 rfl hl (by decide) rfl (fun ls hl => ?_)
  exact tJ6_bitCount_0f7a4_b41 hd B (x0 + (((x0).toUInt32 >>> (((8 : Int32)).toUInt32 &&& Int32.toUInt32 31)).toInt32)) _ _ _ X (lv_sub hl [0] rfl) h
def fJ6_bitCount_0f7a4_b24 (x0 : Int32) : Option Int32 :=
    fJ6_bitCount_0f7a4_b34 ((x0 + (((x0).toUInt32 >>> (((4 : Int32)).toUInt32 &&& Int32.toUInt32 31)).toInt32)) &&& 252645135)
set_option maxRecDepth 100000 in
set_option maxHeartbeats 4000000 in
theorem tJ6_bitCount_0f7a4_b24 {w : va_W} {d : Nat} (hd : 1 ≤ d) (B : Bd RJ6 cJ6_bitCount_0f7a4 1 (some .int) d A g D [(cI, .int), (cB, .byte)] p R S m args meth c) {q : Int32} : ∀ (x0 : Int32) (H : Heap) (locs : List Loc) (ls : Array Slot), Hx A D S.heap (w) H locs → lv_has ls 1 [(0, .int x0)] → fJ6_bitCount_0f7a4_b24 x0 = some q → W p l e R S m args below meth c H locs 0 0 (MQ below (QI A D w q) args S 0 0 A) (F0 m 24 ls []) := by
  have hx := B.1
  have hb := B.2.1
  have hd1 : 1 ≤ d := by omega
  intro x0 H locs ls X hl h
  unfold fJ6_bitCount_0f7a4_b24 at h
  refine lv_iload_n hx hb dJ6_bitCount_0f7a4_24 rfl (lv_at hl 0 rfl) ?_
  refine lv_iload_n hx hb dJ6_bitCount_0f7a4_25 rfl (lv_at hl 0 rfl) ?_
  refine lv_iconst (v := 4) hx hb dJ6_bitCount_0f7a4_26 (by decide) ?_
  refine lv_iushr hx hb dJ6_bitCount_0f7a4_27 rfl ?_
  refine lv_iadd hx hb dJ6_bitCount_0f7a4_28 ?_
  refine lv_ldcw hx hb B.2.2.2.1 (B.2.2.2.2.1 _ kw543) dJ6_bitCount_0f7a4_29 ?_
  refine lv_iand hx hb dJ6_bitCount_0f7a4_32 ?_
  refine lv_istore_n (lv' := [(0, .int ((x0 + (((x0).toUInt32 >>> (((4 : Int32)).toUInt32 &&& Int32.toUInt32 31)).toInt32)) &&& 252645135))]) hx hb dJ6_bitCount_0f7a4_33 rfl hl (by decide) rfl (fun ls hl => ?_)
  exact tJ6_bitCount_0f7a4_b34 hd B ((x0 + (((x0).toUInt32 >>> (((4 : Int32)).toUInt32 &&& Int32.toUInt32 31)).toInt32)) &&& 252645135) _ _ _ X (lv_sub hl [0] rfl) h
def fJ6_bitCount_0f7a4_b10 (x0 : Int32) : Option Int32 :=
    fJ6_bitCount_0f7a4_b24 ((x0 &&& 858993459) + ((((x0).toUInt32 >>> (((2 : Int32)).toUInt32 &&& Int32.toUInt32 31)).toInt32) &&& 858993459))
set_option maxRecDepth 100000 in
set_option maxHeartbeats 4000000 in
theorem tJ6_bitCount_0f7a4_b10 {w : va_W} {d : Nat} (hd : 1 ≤ d) (B : Bd RJ6 cJ6_bitCount_0f7a4 1 (some .int) d A g D [(cI, .int), (cB, .byte)] p R S m args meth c) {q : Int32} : ∀ (x0 : Int32) (H : Heap) (locs : List Loc) (ls : Array Slot), Hx A D S.heap (w) H locs → lv_has ls 1 [(0, .int x0)] → fJ6_bitCount_0f7a4_b10 x0 = some q → W p l e R S m args below meth c H locs 0 0 (MQ below (QI A D w q) args S 0 0 A) (F0 m 10 ls []) := by
  have hx := B.1
  have hb := B.2.1
  have hd1 : 1 ≤ d := by omega
  intro x0 H locs ls X hl h
  unfold fJ6_bitCount_0f7a4_b10 at h
  refine lv_iload_n hx hb dJ6_bitCount_0f7a4_10 rfl (lv_at hl 0 rfl) ?_
  refine lv_ldcw hx hb B.2.2.2.1 (B.2.2.2.2.1 _ kw542) dJ6_bitCount_0f7a4_11 ?_
  refine lv_iand hx hb dJ6_bitCount_0f7a4_14 ?_
  refine lv_iload_n hx hb dJ6_bitCount_0f7a4_15 rfl (lv_at hl 0 rfl) ?_
  refine lv_iconst (v := 2) hx hb dJ6_bitCount_0f7a4_16 (by decide) ?_
  refine lv_iushr hx hb dJ6_bitCount_0f7a4_17 rfl ?_
  refine lv_ldcw hx hb B.2.2.2.1 (B.2.2.2.2.1 _ kw542) dJ6_bitCount_0f7a4_18 ?_
  refine lv_iand hx hb dJ6_bitCount_0f7a4_21 ?_
  refine lv_iadd hx hb dJ6_bitCount_0f7a4_22 ?_
  refine lv_istore_n (lv' := [(0, .int ((x0 &&& 858993459) + ((((x0).toUInt32 >>> (((2 : Int32)).toUInt32 &&& Int32.toUInt32 31)).toInt32) &&& 858993459)))]) hx hb dJ6_bitCount_0f7a4_23 rfl hl (by decide) rfl (fun ls hl => ?_)
  exact tJ6_bitCount_0f7a4_b24 hd B ((x0 &&& 858993459) + ((((x0).toUInt32 >>> (((2 : Int32)).toUInt32 &&& Int32.toUInt32 31)).toInt32) &&& 858993459)) _ _ _ X (lv_sub hl [0] rfl) h
def fJ6_bitCount_0f7a4 (x0 : Int32) : Option Int32 :=
    fJ6_bitCount_0f7a4_b10 (x0 - ((((x0).toUInt32 >>> (((1 : Int32)).toUInt32 &&& Int32.toUInt32 31)).toInt32) &&& 1431655765))
set_option maxRecDepth 100000 in
set_option maxHeartbeats 4000000 in
theorem tJ6_bitCount_0f7a4 {w : va_W} {d : Nat} (hd : 1 ≤ d) {x0 : Int32} {q : Int32} (h : fJ6_bitCount_0f7a4 x0 = some q) : Ct l yJ6_bitCount_0f7a4 cJ6_bitCount_0f7a4 1 (some .int) d A g D [(cI, .int), (cB, .byte)] [.int x0] (w) (QI A D w q) := by
  refine mkM (by decide) (Nat.le_of_ble_eq_true rfl) ?_
  intro p e S m args below meth c B X ls hl
  have B : Bd RJ6 cJ6_bitCount_0f7a4 1 (some .int) d A g D [(cI, .int), (cB, .byte)] p (rmd d) S m args meth c := B
  have hx := B.1
  have hb := B.2.1
  have hd1 : 1 ≤ d := by omega
  have hl : lv_has ls 1 [(0, .int x0)] := hl
  unfold fJ6_bitCount_0f7a4 at h
  refine lv_iload_n hx hb dJ6_bitCount_0f7a4_0 rfl (lv_at hl 0 rfl) ?_
  refine lv_iload_n hx hb dJ6_bitCount_0f7a4_1 rfl (lv_at hl 0 rfl) ?_
  refine lv_iconst (v := 1) hx hb dJ6_bitCount_0f7a4_2 (by decide) ?_
  refine lv_iushr hx hb dJ6_bitCount_0f7a4_3 rfl ?_
  refine lv_ldcw hx hb B.2.2.2.1 (B.2.2.2.2.1 _ kw541) dJ6_bitCount_0f7a4_4 ?_
  refine lv_iand hx hb dJ6_bitCount_0f7a4_7 ?_
  refine lv_isub hx hb dJ6_bitCount_0f7a4_8 ?_
  refine lv_istore_n (lv' := [(0, .int (x0 - ((((x0).toUInt32 >>> (((1 : Int32)).toUInt32 &&& Int32.toUInt32 31)).toInt32) &&& 1431655765)))]) hx hb dJ6_bitCount_0f7a4_9 rfl hl (by decide) rfl (fun ls hl => ?_)
  exact tJ6_bitCount_0f7a4_b10 hd B (x0 - ((((x0).toUInt32 >>> (((1 : Int32)).toUInt32 &&& Int32.toUInt32 31)).toInt32) &&& 1431655765)) _ _ _ X (lv_sub hl [0] rfl) h
def fJ6_numberOfTrailingZeros_0f7a4_b62 (x0 : Int32) (x1 : Int32) : Option Int32 :=
    if x0 ≤ 4 then (some (x1 + (((x0).toUInt32 >>> (((1 : Int32)).toUInt32 &&& Int32.toUInt32 31)).toInt32))) else
    (some ((x1 + 2) + ((((((x0).toUInt32 >>> (((2 : Int32)).toUInt32 &&& Int32.toUInt32 31)).toInt32)).toUInt32 >>> (((1 : Int32)).toUInt32 &&& Int32.toUInt32 31)).toInt32)))
set_option maxRecDepth 100000 in
set_option maxHeartbeats 4000000 in
theorem tJ6_numberOfTrailingZeros_0f7a4_b62 {w : va_W} {d : Nat} (hd : 1 ≤ d) (B : Bd RJ6 cJ6_numberOfTrailingZeros_0f7a4 2 (some .int) d A g D [(cI, .int), (cB, .byte)] p R S m args meth c) {q : Int32} : ∀ (x0 : Int32) (x1 : Int32) (H : Heap) (locs : List Loc) (ls : Array Slot), Hx A D S.heap (w) H locs → lv_has ls 2 [(0, .int x0), (1, .int x1)] → fJ6_numberOfTrailingZeros_0f7a4_b62 x0 x1 = some q → W p l e R S m args below meth c H locs 0 0 (MQ below (QI A D w q) args S 0 0 A) (F0 m 62 ls []) := by
  have hx := B.1
  have hb := B.2.1
  have hd1 : 1 ≤ d := by omega
  intro x0 x1 H locs ls X hl h
  unfold fJ6_numberOfTrailingZeros_0f7a4_b62 at h
  refine lv_iload_n hx hb dJ6_numberOfTrailingZeros_0f7a4_62 rfl (lv_at hl 0 rfl) ?_
  refine lv_iconst (v := 4) hx hb dJ6_numberOfTrailingZeros_0f7a4_63 (by decide) ?_
  refine lv_icmp_le (tgt := 74) hx hb dJ6_numberOfTrailingZeros_0f7a4_64 (by decide) (fun hc1 => ?_) (fun hc1 => ?_)
  · have h := it h hc1
    refine lv_iload_n hx hb dJ6_numberOfTrailingZeros_0f7a4_74 rfl (lv_at hl 1 rfl) ?_
    refine lv_iload_n hx hb dJ6_numberOfTrailingZeros_0f7a4_75 rfl (lv_at hl 0 rfl) ?_
    refine lv_iconst (v := 1) hx hb dJ6_numberOfTrailingZeros_0f7a4_76 (by decide) ?_
    refine lv_iushr hx hb dJ6_numberOfTrailingZeros_0f7a4_77 rfl ?_
    refine lv_iadd hx hb dJ6_numberOfTrailingZeros_0f7a4_78 ?_
    exact rI B X rfl (Option.some.inj h) dJ6_numberOfTrailingZeros_0f7a4_79
  · have h := ie h hc1
    refine lv_iinc (v := x1 + 2) (lv' := [(1, .int (x1 + 2)), (0, .int x0)]) hx hb dJ6_numberOfTrailingZeros_0f7a4_67 hl (k := 1) rfl rfl (by decide) rfl (fun ls hl => ?_)
    refine lv_iload_n hx hb dJ6_numberOfTrailingZeros_0f7a4_70 rfl (lv_at hl 1 rfl) ?_
    refine lv_iconst (v := 2) hx hb dJ6_numberOfTrailingZeros_0f7a4_71 (by decide) ?_
    refine lv_iushr hx hb dJ6_numberOfTrailingZeros_0f7a4_72 rfl ?_
    refine lv_istore_n (lv' := [(0, .int (((x0).toUInt32 >>> (((2 : Int32)).toUInt32 &&& Int32.toUInt32 31)).toInt32)), (1, .int (x1 + 2))]) hx hb dJ6_numberOfTrailingZeros_0f7a4_73 rfl hl (by decide) rfl (fun ls hl => ?_)
    refine lv_iload_n hx hb dJ6_numberOfTrailingZeros_0f7a4_74 rfl (lv_at hl 1 rfl) ?_
    refine lv_iload_n hx hb dJ6_numberOfTrailingZeros_0f7a4_75 rfl (lv_at hl 0 rfl) ?_
    refine lv_iconst (v := 1) hx hb dJ6_numberOfTrailingZeros_0f7a4_76 (by decide) ?_
    refine lv_iushr hx hb dJ6_numberOfTrailingZeros_0f7a4_77 rfl ?_
    refine lv_iadd hx hb dJ6_numberOfTrailingZeros_0f7a4_78 ?_
    exact rI B X rfl (Option.some.inj h) dJ6_numberOfTrailingZeros_0f7a4_79
def fJ6_numberOfTrailingZeros_0f7a4_b49 (x0 : Int32) (x1 : Int32) : Option Int32 :=
    if x0 ≤ 16 then (fJ6_numberOfTrailingZeros_0f7a4_b62 x0 x1) else
    (fJ6_numberOfTrailingZeros_0f7a4_b62 (((x0).toUInt32 >>> (((4 : Int32)).toUInt32 &&& Int32.toUInt32 31)).toInt32) (x1 + 4))
set_option maxRecDepth 100000 in
set_option maxHeartbeats 4000000 in
theorem tJ6_numberOfTrailingZeros_0f7a4_b49 {w : va_W} {d : Nat} (hd : 1 ≤ d) (B : Bd RJ6 cJ6_numberOfTrailingZeros_0f7a4 2 (some .int) d A g D [(cI, .int), (cB, .byte)] p R S m args meth c) {q : Int32} : ∀ (x0 : Int32) (x1 : Int32) (H : Heap) (locs : List Loc) (ls : Array Slot), Hx A D S.heap (w) H locs → lv_has ls 2 [(0, .int x0), (1, .int x1)] → fJ6_numberOfTrailingZeros_0f7a4_b49 x0 x1 = some q → W p l e R S m args below meth c H locs 0 0 (MQ below (QI A D w q) args S 0 0 A) (F0 m 49 ls []) := by
  have hx := B.1
  have hb := B.2.1
  have hd1 : 1 ≤ d := by omega
  intro x0 x1 H locs ls X hl h
  unfold fJ6_numberOfTrailingZeros_0f7a4_b49 at h
  refine lv_iload_n hx hb dJ6_numberOfTrailingZeros_0f7a4_49 rfl (lv_at hl 0 rfl) ?_
  refine lv_bipush (v := 16) hx hb dJ6_numberOfTrailingZeros_0f7a4_50 (by decide) ?_
  refine lv_icmp_le (tgt := 62) hx hb dJ6_numberOfTrailingZeros_0f7a4_52 (by decide) (fun hc1 => ?_) (fun hc1 => ?_)
  · have h := it h hc1
    exact tJ6_numberOfTrailingZeros_0f7a4_b62 hd B x0 x1 _ _ _ X (lv_sub hl [0, 1] rfl) h
  · have h := ie h hc1
    refine lv_iinc (v := x1 + 4) (lv' := [(1, .int (x1 + 4)), (0, .int x0)]) hx hb dJ6_numberOfTrailingZeros_0f7a4_55 hl (k := 1) rfl rfl (by decide) rfl (fun ls hl => ?_)
    refine lv_iload_n hx hb dJ6_numberOfTrailingZeros_0f7a4_58 rfl (lv_at hl 1 rfl) ?_
    refine lv_iconst (v := 4) hx hb dJ6_numberOfTrailingZeros_0f7a4_59 (by decide) ?_
    refine lv_iushr hx hb dJ6_numberOfTrailingZeros_0f7a4_60 rfl ?_
    refine lv_istore_n (lv' := [(0, .int (((x0).toUInt32 >>> (((4 : Int32)).toUInt32 &&& Int32.toUInt32 31)).toInt32)), (1, .int (x1 + 4))]) hx hb dJ6_numberOfTrailingZeros_0f7a4_61 rfl hl (by decide) rfl (fun ls hl => ?_)
    exact tJ6_numberOfTrailingZeros_0f7a4_b62 hd B (((x0).toUInt32 >>> (((4 : Int32)).toUInt32 &&& Int32.toUInt32 31)).toInt32) (x1 + 4) _ _ _ X (lv_sub hl [0, 1] rfl) h
def fJ6_numberOfTrailingZeros_0f7a4_b34 (x0 : Int32) (x1 : Int32) : Option Int32 :=
    if x0 ≤ 256 then (fJ6_numberOfTrailingZeros_0f7a4_b49 x0 x1) else
    (fJ6_numberOfTrailingZeros_0f7a4_b49 (((x0).toUInt32 >>> (((8 : Int32)).toUInt32 &&& Int32.toUInt32 31)).toInt32) (x1 + 8))
set_option maxRecDepth 100000 in
set_option maxHeartbeats 4000000 in
theorem tJ6_numberOfTrailingZeros_0f7a4_b34 {w : va_W} {d : Nat} (hd : 1 ≤ d) (B : Bd RJ6 cJ6_numberOfTrailingZeros_0f7a4 2 (some .int) d A g D [(cI, .int), (cB, .byte)] p R S m args meth c) {q : Int32} : ∀ (x0 : Int32) (x1 : Int32) (H : Heap) (locs : List Loc) (ls : Array Slot), Hx A D S.heap (w) H locs → lv_has ls 2 [(0, .int x0), (1, .int x1)] → fJ6_numberOfTrailingZeros_0f7a4_b34 x0 x1 = some q → W p l e R S m args below meth c H locs 0 0 (MQ below (QI A D w q) args S 0 0 A) (F0 m 34 ls []) := by
  have hx := B.1
  have hb := B.2.1
  have hd1 : 1 ≤ d := by omega
  intro x0 x1 H locs ls X hl h
  unfold fJ6_numberOfTrailingZeros_0f7a4_b34 at h
  refine lv_iload_n hx hb dJ6_numberOfTrailingZeros_0f7a4_34 rfl (lv_at hl 0 rfl) ?_
  refine lv_sipush (v := 256) hx hb dJ6_numberOfTrailingZeros_0f7a4_35 (by decide) ?_
  refine lv_icmp_le (tgt := 49) hx hb dJ6_numberOfTrailingZeros_0f7a4_38 (by decide) (fun hc1 => ?_) (fun hc1 => ?_)
  · have h := it h hc1
    exact tJ6_numberOfTrailingZeros_0f7a4_b49 hd B x0 x1 _ _ _ X (lv_sub hl [0, 1] rfl) h
  · have h := ie h hc1
    refine lv_iinc (v := x1 + 8) (lv' := [(1, .int (x1 + 8)), (0, .int x0)]) hx hb dJ6_numberOfTrailingZeros_0f7a4_41 hl (k := 1) rfl rfl (by decide) rfl (fun ls hl => ?_)
    refine lv_iload_n hx hb dJ6_numberOfTrailingZeros_0f7a4_44 rfl (lv_at hl 1 rfl) ?_
    refine lv_bipush (v := 8) hx hb dJ6_numberOfTrailingZeros_0f7a4_45 (by decide) ?_
    refine lv_iushr hx hb dJ6_numberOfTrailingZeros_0f7a4_47 rfl ?_
    refine lv_istore_n (lv' := [(0, .int (((x0).toUInt32 >>> (((8 : Int32)).toUInt32 &&& Int32.toUInt32 31)).toInt32)), (1, .int (x1 + 8))]) hx hb dJ6_numberOfTrailingZeros_0f7a4_48 rfl hl (by decide) rfl (fun ls hl => ?_)
    exact tJ6_numberOfTrailingZeros_0f7a4_b49 hd B (((x0).toUInt32 >>> (((8 : Int32)).toUInt32 &&& Int32.toUInt32 31)).toInt32) (x1 + 8) _ _ _ X (lv_sub hl [0, 1] rfl) h
def fJ6_numberOfTrailingZeros_0f7a4 (x0 : Int32) : Option Int32 :=
    if 0 < ((x0 ^^^ (-1)) &&& (x0 - 1)) then (if ((x0 ^^^ (-1)) &&& (x0 - 1)) ≤ 65536 then (fJ6_numberOfTrailingZeros_0f7a4_b34 ((x0 ^^^ (-1)) &&& (x0 - 1)) 1) else
    (fJ6_numberOfTrailingZeros_0f7a4_b34 (((((x0 ^^^ (-1)) &&& (x0 - 1))).toUInt32 >>> (((16 : Int32)).toUInt32 &&& Int32.toUInt32 31)).toInt32) (1 + 16))) else
    (some (((x0 ^^^ (-1)) &&& (x0 - 1)) &&& 32))
set_option maxRecDepth 100000 in
set_option maxHeartbeats 4000000 in
theorem tJ6_numberOfTrailingZeros_0f7a4 {w : va_W} {d : Nat} (hd : 1 ≤ d) {x0 : Int32} {q : Int32} (h : fJ6_numberOfTrailingZeros_0f7a4 x0 = some q) : Ct l yJ6_numberOfTrailingZeros_0f7a4 cJ6_numberOfTrailingZeros_0f7a4 2 (some .int) d A g D [(cI, .int), (cB, .byte)] [.int x0] (w) (QI A D w q) := by
  refine mkM (by decide) (Nat.le_of_ble_eq_true rfl) ?_
  intro p e S m args below meth c B X ls hl
  have B : Bd RJ6 cJ6_numberOfTrailingZeros_0f7a4 2 (some .int) d A g D [(cI, .int), (cB, .byte)] p (rmd d) S m args meth c := B
  have hx := B.1
  have hb := B.2.1
  have hd1 : 1 ≤ d := by omega
  have hl : lv_has ls 2 [(0, .int x0)] := hl
  unfold fJ6_numberOfTrailingZeros_0f7a4 at h
  refine lv_iload_n hx hb dJ6_numberOfTrailingZeros_0f7a4_0 rfl (lv_at hl 0 rfl) ?_
  refine lv_iconst (v := (-1)) hx hb dJ6_numberOfTrailingZeros_0f7a4_1 (by decide) ?_
  refine lv_ixor hx hb dJ6_numberOfTrailingZeros_0f7a4_2 ?_
  refine lv_iload_n hx hb dJ6_numberOfTrailingZeros_0f7a4_3 rfl (lv_at hl 0 rfl) ?_
  refine lv_iconst (v := 1) hx hb dJ6_numberOfTrailingZeros_0f7a4_4 (by decide) ?_
  refine lv_isub hx hb dJ6_numberOfTrailingZeros_0f7a4_5 ?_
  refine lv_iand hx hb dJ6_numberOfTrailingZeros_0f7a4_6 ?_
  refine lv_istore_n (lv' := [(0, .int ((x0 ^^^ (-1)) &&& (x0 - 1)))]) hx hb dJ6_numberOfTrailingZeros_0f7a4_7 rfl hl (by decide) rfl (fun ls hl => ?_)
  refine lv_iload_n hx hb dJ6_numberOfTrailingZeros_0f7a4_8 rfl (lv_at hl 0 rfl) ?_
  refine lv_if_gt (tgt := 17) hx hb dJ6_numberOfTrailingZeros_0f7a4_9 (by decide) (fun hc1 => ?_) (fun hc1 => ?_)
  · have h := it h hc1
    refine lv_iconst (v := 1) hx hb dJ6_numberOfTrailingZeros_0f7a4_17 (by decide) ?_
    refine lv_istore_n (lv' := [(1, .int 1), (0, .int ((x0 ^^^ (-1)) &&& (x0 - 1)))]) hx hb dJ6_numberOfTrailingZeros_0f7a4_18 rfl hl (by decide) rfl (fun ls hl => ?_)
    refine lv_iload_n hx hb dJ6_numberOfTrailingZeros_0f7a4_19 rfl (lv_at hl 1 rfl) ?_
    refine lv_ldcw hx hb B.2.2.2.1 (B.2.2.2.2.1 _ kw626) dJ6_numberOfTrailingZeros_0f7a4_20 ?_
    refine lv_icmp_le (tgt := 34) hx hb dJ6_numberOfTrailingZeros_0f7a4_23 (by decide) (fun hc2 => ?_) (fun hc2 => ?_)
    · have h := it h hc2
      exact tJ6_numberOfTrailingZeros_0f7a4_b34 hd B ((x0 ^^^ (-1)) &&& (x0 - 1)) 1 _ _ _ X (lv_sub hl [1, 0] rfl) h
    · have h := ie h hc2
      refine lv_iinc (v := 1 + 16) (lv' := [(1, .int (1 + 16)), (0, .int ((x0 ^^^ (-1)) &&& (x0 - 1)))]) hx hb dJ6_numberOfTrailingZeros_0f7a4_26 hl (k := 0) rfl rfl (by decide) rfl (fun ls hl => ?_)
      refine lv_iload_n hx hb dJ6_numberOfTrailingZeros_0f7a4_29 rfl (lv_at hl 1 rfl) ?_
      refine lv_bipush (v := 16) hx hb dJ6_numberOfTrailingZeros_0f7a4_30 (by decide) ?_
      refine lv_iushr hx hb dJ6_numberOfTrailingZeros_0f7a4_32 rfl ?_
      refine lv_istore_n (lv' := [(0, .int (((((x0 ^^^ (-1)) &&& (x0 - 1))).toUInt32 >>> (((16 : Int32)).toUInt32 &&& Int32.toUInt32 31)).toInt32)), (1, .int (1 + 16))]) hx hb dJ6_numberOfTrailingZeros_0f7a4_33 rfl hl (by decide) rfl (fun ls hl => ?_)
      exact tJ6_numberOfTrailingZeros_0f7a4_b34 hd B (((((x0 ^^^ (-1)) &&& (x0 - 1))).toUInt32 >>> (((16 : Int32)).toUInt32 &&& Int32.toUInt32 31)).toInt32) (1 + 16) _ _ _ X (lv_sub hl [0, 1] rfl) h
  · have h := ie h hc1
    refine lv_iload_n hx hb dJ6_numberOfTrailingZeros_0f7a4_12 rfl (lv_at hl 0 rfl) ?_
    refine lv_bipush (v := 32) hx hb dJ6_numberOfTrailingZeros_0f7a4_13 (by decide) ?_
    refine lv_iand hx hb dJ6_numberOfTrailingZeros_0f7a4_15 ?_
    exact rI B X rfl (Option.some.inj h) dJ6_numberOfTrailingZeros_0f7a4_16
def fJ7_fill_53178_b5 : Nat → Int32 → Int32 → Int32 → (Nat → Int32) → Option (Nat → Int32)
  | 0, _, _, _, _ => none
  | n + 1, x1, x2, x3, z =>
    if x3 ≤ x2 then (some z) else
    (if x2 < 0 ∨ 10 ≤ x2.toNatClampNeg then none else
    (fJ7_fill_53178_b5 n x1 (x2 + 1) x3 (upd z x2.toNatClampNeg x1)))
set_option maxRecDepth 100000 in
set_option maxHeartbeats 4000000 in
theorem tJ7_fill_53178_b5 {a0 p0 : Nat} {wf : (Nat → Int32) → va_W} (L : LnA a0 p0 10 cI wf) {d : Nat} (hd : 1 ≤ d) (B : Bd RJ7 cJ7_fill_53178 4 none d A g D [(cI, .int), (cB, .byte)] p R S m args meth c) {q : (Nat → Int32)} : ∀ (n : Nat) (x1 : Int32) (x2 : Int32) (x3 : Int32) (z : (Nat → Int32)) (H : Heap) (locs : List Loc) (ls : Array Slot), Hx A D S.heap (wf z) H locs → lv_has ls 4 [(0, .ref a0), (1, .int x1), (2, .int x2), (3, .int x3)] → fJ7_fill_53178_b5 n x1 x2 x3 z = some q → W p l e R S m args below meth c H locs 0 0 (MQ below (QV A D (wf q)) args S 0 0 A) (F0 m 5 ls []) := by
  have hx := B.1
  have hb := B.2.1
  have hd1 : 1 ≤ d := by omega
  intro n
  induction n with
  | zero =>
    intro x1 x2 x3 z H locs ls X hl h
    cases h
  | succ n ih =>
    intro x1 x2 x3 z H locs ls X hl h
    rw [fJ7_fill_53178_b5] at h
    refine lv_iload_n hx hb dJ7_fill_53178_5 rfl (lv_at hl 2 rfl) ?_
    refine lv_iload_n hx hb dJ7_fill_53178_6 rfl (lv_at hl 3 rfl) ?_
    refine lv_icmp_ge (tgt := 20) hx hb dJ7_fill_53178_7 (by decide) (fun hc1 => ?_) (fun hc1 => ?_)
    · have h := it h hc1
      exact rV B X (congrArg wf (Option.some.inj h)) dJ7_fill_53178_20
    · have h := ie h hc1
      refine lv_aload_n hx hb dJ7_fill_53178_10 rfl (lv_at hl 0 rfl) ?_
      refine lv_iload_n hx hb dJ7_fill_53178_11 rfl (lv_at hl 2 rfl) ?_
      refine lv_iload_n hx hb dJ7_fill_53178_12 rfl (lv_at hl 1 rfl) ?_
      by_cases hc2 : (x2 < 0 ∨ 10 ≤ x2.toNatClampNeg)
      · cases it h hc2
      have h := ie h hc2
      refine aP B X (L.1 z) (L.2 z _) 0 rfl hc2 dJ7_fill_53178_13 (fun H locs X => ?_)
      have X : Hx A D S.heap (wf (upd z x2.toNatClampNeg x1)) H locs := X
      refine lv_iinc (v := x2 + 1) (lv' := [(2, .int (x2 + 1)), (0, .ref a0), (1, .int x1), (3, .int x3)]) hx hb dJ7_fill_53178_14 hl (k := 2) rfl rfl (by decide) rfl (fun ls hl => ?_)
      refine lv_goto (tgt := 5) hx hb dJ7_fill_53178_17 (by decide) ?_
      exact ih x1 (x2 + 1) x3 (upd z x2.toNatClampNeg x1) _ _ _ X (lv_sub hl [1, 2, 0, 3] rfl) h
def fJ7_fill_53178 (z : (Nat → Int32)) (x1 : Int32) : Option (Nat → Int32) :=
    fJ7_fill_53178_b5 1000 x1 0 10 z
set_option maxRecDepth 100000 in
set_option maxHeartbeats 4000000 in
theorem tJ7_fill_53178 {a0 p0 : Nat} {wf : (Nat → Int32) → va_W} (L : LnA a0 p0 10 cI wf) {d : Nat} (hd : 1 ≤ d) {z : (Nat → Int32)} {x1 : Int32} {q : (Nat → Int32)} (h : fJ7_fill_53178 z x1 = some q) : Ct l yJ7_fill_53178 cJ7_fill_53178 4 none d A g D [(cI, .int), (cB, .byte)] [.ref a0, .int x1] (wf z) (QV A D (wf q)) := by
  refine mkM (by decide) (Nat.le_of_ble_eq_true rfl) ?_
  intro p e S m args below meth c B X ls hl
  have B : Bd RJ7 cJ7_fill_53178 4 none d A g D [(cI, .int), (cB, .byte)] p (rmd d) S m args meth c := B
  have hx := B.1
  have hb := B.2.1
  have hd1 : 1 ≤ d := by omega
  have hl : lv_has ls 4 [(0, .ref a0), (1, .int x1)] := hl
  unfold fJ7_fill_53178 at h
  refine lv_iconst (v := 0) hx hb dJ7_fill_53178_0 (by decide) ?_
  refine lv_istore_n (lv' := [(2, .int 0), (0, .ref a0), (1, .int x1)]) hx hb dJ7_fill_53178_1 rfl hl (by decide) rfl (fun ls hl => ?_)
  refine lv_aload_n hx hb dJ7_fill_53178_2 rfl (lv_at hl 1 rfl) ?_
  refine va_alen (v := 10) hx hb B.2.2.2.2.2.1 X.1 _ 0 (L.1 z) rfl (show Int32.ofNat 10 = 10 by decide) dJ7_fill_53178_3 ?_
  refine lv_istore_n (lv' := [(3, .int 10), (2, .int 0), (0, .ref a0), (1, .int x1)]) hx hb dJ7_fill_53178_4 rfl hl (by decide) rfl (fun ls hl => ?_)
  exact tJ7_fill_53178_b5 L hd B 1000 x1 0 10 z _ _ _ X (lv_sub hl [2, 3, 1, 0] rfl) h
end
