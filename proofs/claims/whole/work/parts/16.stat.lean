section
variable {l : Launch} {p : Program} {e : Env} {R : Room} {S : State} {m : MethodId} {args : Array Value} {below : List Frame} {meth : Method} {c : Code} {A : Nat → Prop} {g : Nat → Nat} {D : va_G} {cI cB : ClassId}
def fX7_isSide (x0 : Int32) : Option Int32 :=
    if x0 = 0 then (some 1) else
    (if x0 = 1 then (some 1) else
    (some 0))
set_option maxRecDepth 100000 in
set_option maxHeartbeats 4000000 in
theorem tX7_isSide {w : va_W} {d : Nat} (hd : 1 ≤ d) {x0 : Int32} {q : Int32} (h : fX7_isSide x0 = some q) : Ct l yX7_isSide cX7_isSide 1 (some .boolean) d A g D [(cI, .int), (cB, .byte)] [.int x0] (w) (QI A D w q) := by
  refine mkM (by decide) (Nat.le_of_ble_eq_true rfl) ?_
  intro p e S m args below meth c B X ls hl
  have B : Bd RX7 cX7_isSide 1 (some .boolean) d A g D [(cI, .int), (cB, .byte)] p (rmd d) S m args meth c := B
  have hx := B.1
  have hb := B.2.1
  have hd1 : 1 ≤ d := by omega
  have hl : lv_has ls 1 [(0, .int x0)] := hl
  unfold fX7_isSide at h
  refine lv_iload_n hx hb dX7_isSide_0 rfl (lv_at hl 0 rfl) ?_
  refine lv_if_eq (tgt := 9) hx hb dX7_isSide_1 (by decide) (fun hc1 => ?_) (fun hc1 => ?_)
  · have h := it h hc1
    refine lv_iconst (v := 1) hx hb dX7_isSide_9 (by decide) ?_
    refine lv_goto (tgt := 14) hx hb dX7_isSide_10 (by decide) ?_
    exact rZ B X rfl (Option.some.inj h) rfl dX7_isSide_14
  · have h := ie h hc1
    refine lv_iload_n hx hb dX7_isSide_4 rfl (lv_at hl 0 rfl) ?_
    refine lv_iconst (v := 1) hx hb dX7_isSide_5 (by decide) ?_
    refine lv_icmp_ne (tgt := 13) hx hb dX7_isSide_6 (by decide) (fun hc2 => ?_) (fun hc2 => ?_)
    · have h := ie h hc2
      refine lv_iconst (v := 0) hx hb dX7_isSide_13 (by decide) ?_
      exact rZ B X rfl (Option.some.inj h) rfl dX7_isSide_14
    · have h := it h hc2
      refine lv_iconst (v := 1) hx hb dX7_isSide_9 (by decide) ?_
      refine lv_goto (tgt := 14) hx hb dX7_isSide_10 (by decide) ?_
      exact rZ B X rfl (Option.some.inj h) rfl dX7_isSide_14
def fX7_otherSide (x0 : Int32) : Option Int32 :=
    if x0 = 0 then (some 1) else
    (some 0)
set_option maxRecDepth 100000 in
set_option maxHeartbeats 4000000 in
theorem tX7_otherSide {w : va_W} {d : Nat} (hd : 1 ≤ d) {x0 : Int32} {q : Int32} (h : fX7_otherSide x0 = some q) : Ct l yX7_otherSide cX7_otherSide 1 (some .int) d A g D [(cI, .int), (cB, .byte)] [.int x0] (w) (QI A D w q) := by
  refine mkM (by decide) (Nat.le_of_ble_eq_true rfl) ?_
  intro p e S m args below meth c B X ls hl
  have B : Bd RX7 cX7_otherSide 1 (some .int) d A g D [(cI, .int), (cB, .byte)] p (rmd d) S m args meth c := B
  have hx := B.1
  have hb := B.2.1
  have hd1 : 1 ≤ d := by omega
  have hl : lv_has ls 1 [(0, .int x0)] := hl
  unfold fX7_otherSide at h
  refine lv_iload_n hx hb dX7_otherSide_0 rfl (lv_at hl 0 rfl) ?_
  refine lv_if_ne (tgt := 8) hx hb dX7_otherSide_1 (by decide) (fun hc1 => ?_) (fun hc1 => ?_)
  · have h := ie h hc1
    refine lv_iconst (v := 0) hx hb dX7_otherSide_8 (by decide) ?_
    exact rI B X rfl (Option.some.inj h) dX7_otherSide_9
  · have h := it h hc1
    refine lv_iconst (v := 1) hx hb dX7_otherSide_4 (by decide) ?_
    refine lv_goto (tgt := 9) hx hb dX7_otherSide_5 (by decide) ?_
    exact rI B X rfl (Option.some.inj h) dX7_otherSide_9
def fX7_isKind (x0 : Int32) : Option Int32 :=
    if x0 < 0 then (some 0) else
    (if 5 ≤ x0 then (some 0) else
    (some 1))
set_option maxRecDepth 100000 in
set_option maxHeartbeats 4000000 in
theorem tX7_isKind {w : va_W} {d : Nat} (hd : 1 ≤ d) {x0 : Int32} {q : Int32} (h : fX7_isKind x0 = some q) : Ct l yX7_isKind cX7_isKind 1 (some .boolean) d A g D [(cI, .int), (cB, .byte)] [.int x0] (w) (QI A D w q) := by
  refine mkM (by decide) (Nat.le_of_ble_eq_true rfl) ?_
  intro p e S m args below meth c B X ls hl
  have B : Bd RX7 cX7_isKind 1 (some .boolean) d A g D [(cI, .int), (cB, .byte)] p (rmd d) S m args meth c := B
  have hx := B.1
  have hb := B.2.1
  have hd1 : 1 ≤ d := by omega
  have hl : lv_has ls 1 [(0, .int x0)] := hl
  unfold fX7_isKind at h
  refine lv_iload_n hx hb dX7_isKind_0 rfl (lv_at hl 0 rfl) ?_
  refine lv_if_lt (tgt := 13) hx hb dX7_isKind_1 (by decide) (fun hc1 => ?_) (fun hc1 => ?_)
  · have h := it h hc1
    refine lv_iconst (v := 0) hx hb dX7_isKind_13 (by decide) ?_
    exact rZ B X rfl (Option.some.inj h) rfl dX7_isKind_14
  · have h := ie h hc1
    refine lv_iload_n hx hb dX7_isKind_4 rfl (lv_at hl 0 rfl) ?_
    refine lv_iconst (v := 5) hx hb dX7_isKind_5 (by decide) ?_
    refine lv_icmp_ge (tgt := 13) hx hb dX7_isKind_6 (by decide) (fun hc2 => ?_) (fun hc2 => ?_)
    · have h := it h hc2
      refine lv_iconst (v := 0) hx hb dX7_isKind_13 (by decide) ?_
      exact rZ B X rfl (Option.some.inj h) rfl dX7_isKind_14
    · have h := ie h hc2
      refine lv_iconst (v := 1) hx hb dX7_isKind_9 (by decide) ?_
      refine lv_goto (tgt := 14) hx hb dX7_isKind_10 (by decide) ?_
      exact rZ B X rfl (Option.some.inj h) rfl dX7_isKind_14
def fX7_isKeyOrNone (x0 : Int32) : Option Int32 :=
    if x0 < (-1) then (some 0) else
    (if 15 < x0 then (some 0) else
    (some 1))
set_option maxRecDepth 100000 in
set_option maxHeartbeats 4000000 in
theorem tX7_isKeyOrNone {w : va_W} {d : Nat} (hd : 1 ≤ d) {x0 : Int32} {q : Int32} (h : fX7_isKeyOrNone x0 = some q) : Ct l yX7_isKeyOrNone cX7_isKeyOrNone 1 (some .boolean) d A g D [(cI, .int), (cB, .byte)] [.int x0] (w) (QI A D w q) := by
  refine mkM (by decide) (Nat.le_of_ble_eq_true rfl) ?_
  intro p e S m args below meth c B X ls hl
  have B : Bd RX7 cX7_isKeyOrNone 1 (some .boolean) d A g D [(cI, .int), (cB, .byte)] p (rmd d) S m args meth c := B
  have hx := B.1
  have hb := B.2.1
  have hd1 : 1 ≤ d := by omega
  have hl : lv_has ls 1 [(0, .int x0)] := hl
  unfold fX7_isKeyOrNone at h
  refine lv_iload_n hx hb dX7_isKeyOrNone_0 rfl (lv_at hl 0 rfl) ?_
  refine lv_iconst (v := (-1)) hx hb dX7_isKeyOrNone_1 (by decide) ?_
  refine lv_icmp_lt (tgt := 15) hx hb dX7_isKeyOrNone_2 (by decide) (fun hc1 => ?_) (fun hc1 => ?_)
  · have h := it h hc1
    refine lv_iconst (v := 0) hx hb dX7_isKeyOrNone_15 (by decide) ?_
    exact rZ B X rfl (Option.some.inj h) rfl dX7_isKeyOrNone_16
  · have h := ie h hc1
    refine lv_iload_n hx hb dX7_isKeyOrNone_5 rfl (lv_at hl 0 rfl) ?_
    refine lv_bipush (v := 15) hx hb dX7_isKeyOrNone_6 (by decide) ?_
    refine lv_icmp_gt (tgt := 15) hx hb dX7_isKeyOrNone_8 (by decide) (fun hc2 => ?_) (fun hc2 => ?_)
    · have h := it h hc2
      refine lv_iconst (v := 0) hx hb dX7_isKeyOrNone_15 (by decide) ?_
      exact rZ B X rfl (Option.some.inj h) rfl dX7_isKeyOrNone_16
    · have h := ie h hc2
      refine lv_iconst (v := 1) hx hb dX7_isKeyOrNone_11 (by decide) ?_
      refine lv_goto (tgt := 16) hx hb dX7_isKeyOrNone_12 (by decide) ?_
      exact rZ B X rfl (Option.some.inj h) rfl dX7_isKeyOrNone_16
def fX7_comesOutBy (x0 : Int32) (x1 : Int32) : Option Int32 :=
    if x0 < 0 then (some 0) else
    (if 5 ≤ x0 then (some 0) else
    (if x0 < 0 ∨ 5 ≤ x0.toNatClampNeg then none else
    (if (((([1, 3, 2, 8, 7] : List Int32).getD x0.toNatClampNeg 0) >>> (x1 &&& 31)) &&& 1) = 1 then (some 1) else
    (some 0))))
set_option maxRecDepth 100000 in
set_option maxHeartbeats 4000000 in
theorem tX7_comesOutBy {w : va_W} {d : Nat} (hd : 1 ≤ d) {x0 x1 : Int32} {q : Int32} (h : fX7_comesOutBy x0 x1 = some q) : Ct l yX7_comesOutBy cX7_comesOutBy 2 (some .boolean) d A g D [(cI, .int), (cB, .byte)] [.int x0, .int x1] (w) (QI A D w q) := by
  refine mkM (by decide) (Nat.le_of_ble_eq_true rfl) ?_
  intro p e S m args below meth c B X ls hl
  have B : Bd RX7 cX7_comesOutBy 2 (some .boolean) d A g D [(cI, .int), (cB, .byte)] p (rmd d) S m args meth c := B
  have hx := B.1
  have hb := B.2.1
  have hd1 : 1 ≤ d := by omega
  have hl : lv_has ls 2 [(0, .int x0), (1, .int x1)] := hl
  unfold fX7_comesOutBy at h
  refine lv_iload_n hx hb dX7_comesOutBy_0 rfl (lv_at hl 0 rfl) ?_
  refine lv_if_lt (tgt := 29) hx hb dX7_comesOutBy_1 (by decide) (fun hc1 => ?_) (fun hc1 => ?_)
  · have h := it h hc1
    refine lv_iconst (v := 0) hx hb dX7_comesOutBy_29 (by decide) ?_
    exact rZ B X rfl (Option.some.inj h) rfl dX7_comesOutBy_30
  · have h := ie h hc1
    refine lv_iload_n hx hb dX7_comesOutBy_4 rfl (lv_at hl 0 rfl) ?_
    refine va_gets hx hb B.2.2.2.2.2.2.2.1.2.1 X.2.2 B.2.2.2.1 (B.2.2.2.2.1 _ kw665) (fun _ h => h) dX7_comesOutBy_5 ?_
    refine va_tlen (v := 5) hx hb B.2.2.2.2.2.2.2.1.2.2.1 X.2.2 (by decide) dX7_comesOutBy_8 ?_
    refine lv_icmp_ge (tgt := 29) hx hb dX7_comesOutBy_9 (by decide) (fun hc2 => ?_) (fun hc2 => ?_)
    · have h := it h hc2
      refine lv_iconst (v := 0) hx hb dX7_comesOutBy_29 (by decide) ?_
      exact rZ B X rfl (Option.some.inj h) rfl dX7_comesOutBy_30
    · have h := ie h hc2
      refine va_gets hx hb B.2.2.2.2.2.2.2.1.2.1 X.2.2 B.2.2.2.1 (B.2.2.2.2.1 _ kw665) (fun _ h => h) dX7_comesOutBy_12 ?_
      refine lv_iload_n hx hb dX7_comesOutBy_15 rfl (lv_at hl 0 rfl) ?_
      by_cases hc3 : (x0 < 0 ∨ 5 ≤ x0.toNatClampNeg)
      · cases it h hc3
      have h := ie h hc3
      refine va_ti hx hb B.2.2.2.2.2.2.2.1.2.2.1 X.2.2 hc3 rfl dX7_comesOutBy_16 ?_
      refine lv_iload_n hx hb dX7_comesOutBy_17 rfl (lv_at hl 1 rfl) ?_
      refine lv_ishr hx hb dX7_comesOutBy_18 ?_
      refine lv_iconst (v := 1) hx hb dX7_comesOutBy_19 (by decide) ?_
      refine lv_iand hx hb dX7_comesOutBy_20 ?_
      refine lv_iconst (v := 1) hx hb dX7_comesOutBy_21 (by decide) ?_
      refine lv_icmp_ne (tgt := 29) hx hb dX7_comesOutBy_22 (by decide) (fun hc4 => ?_) (fun hc4 => ?_)
      · have h := ie h hc4
        refine lv_iconst (v := 0) hx hb dX7_comesOutBy_29 (by decide) ?_
        exact rZ B X rfl (Option.some.inj h) rfl dX7_comesOutBy_30
      · have h := it h hc4
        refine lv_iconst (v := 1) hx hb dX7_comesOutBy_25 (by decide) ?_
        refine lv_goto (tgt := 30) hx hb dX7_comesOutBy_26 (by decide) ?_
        exact rZ B X rfl (Option.some.inj h) rfl dX7_comesOutBy_30
def fX7_isIn (x0 : Int32) (x1 : Int32) : Option Int32 :=
    if ((x0 >>> (x1 &&& 31)) &&& 1) = 1 then (some 1) else
    (some 0)
set_option maxRecDepth 100000 in
set_option maxHeartbeats 4000000 in
theorem tX7_isIn {w : va_W} {d : Nat} (hd : 1 ≤ d) {x0 x1 : Int32} {q : Int32} (h : fX7_isIn x0 x1 = some q) : Ct l yX7_isIn cX7_isIn 2 (some .boolean) d A g D [(cI, .int), (cB, .byte)] [.int x0, .int x1] (w) (QI A D w q) := by
  refine mkM (by decide) (Nat.le_of_ble_eq_true rfl) ?_
  intro p e S m args below meth c B X ls hl
  have B : Bd RX7 cX7_isIn 2 (some .boolean) d A g D [(cI, .int), (cB, .byte)] p (rmd d) S m args meth c := B
  have hx := B.1
  have hb := B.2.1
  have hd1 : 1 ≤ d := by omega
  have hl : lv_has ls 2 [(0, .int x0), (1, .int x1)] := hl
  unfold fX7_isIn at h
  refine lv_iload_n hx hb dX7_isIn_0 rfl (lv_at hl 0 rfl) ?_
  refine lv_iload_n hx hb dX7_isIn_1 rfl (lv_at hl 1 rfl) ?_
  refine lv_ishr hx hb dX7_isIn_2 ?_
  refine lv_iconst (v := 1) hx hb dX7_isIn_3 (by decide) ?_
  refine lv_iand hx hb dX7_isIn_4 ?_
  refine lv_iconst (v := 1) hx hb dX7_isIn_5 (by decide) ?_
  refine lv_icmp_ne (tgt := 13) hx hb dX7_isIn_6 (by decide) (fun hc1 => ?_) (fun hc1 => ?_)
  · have h := ie h hc1
    refine lv_iconst (v := 0) hx hb dX7_isIn_13 (by decide) ?_
    exact rZ B X rfl (Option.some.inj h) rfl dX7_isIn_14
  · have h := it h hc1
    refine lv_iconst (v := 1) hx hb dX7_isIn_9 (by decide) ?_
    refine lv_goto (tgt := 14) hx hb dX7_isIn_10 (by decide) ?_
    exact rZ B X rfl (Option.some.inj h) rfl dX7_isIn_14
def fX7_mix (x0 : Int64) (x2 : Int64) : Option Int64 :=
    some ((31 * x0) + x2)
set_option maxRecDepth 100000 in
set_option maxHeartbeats 4000000 in
theorem tX7_mix {w : va_W} {d : Nat} (hd : 1 ≤ d) {x0 x2 : Int64} {q : Int64} (h : fX7_mix x0 x2 = some q) : Ct l yX7_mix cX7_mix 4 (some .long) d A g D [(cI, .int), (cB, .byte)] [.long x0, .long x2] (w) (QJ A D w q) := by
  refine mkM (by decide) (Nat.le_of_ble_eq_true rfl) ?_
  intro p e S m args below meth c B X ls hl
  have B : Bd RX7 cX7_mix 4 (some .long) d A g D [(cI, .int), (cB, .byte)] p (rmd d) S m args meth c := B
  have hx := B.1
  have hb := B.2.1
  have hd1 : 1 ≤ d := by omega
  have hl : lv_has ls 4 [(0, .long x0), (2, .long x2)] := hl
  unfold fX7_mix at h
  refine lv_ldc2 hx hb B.2.2.2.1 (B.2.2.2.2.1 _ kw830) dX7_mix_0 ?_
  refine lv_lload_n hx hb dX7_mix_3 rfl (lv_at hl 0 rfl) ?_
  refine lv_lmul hx hb dX7_mix_4 ?_
  refine lv_lload_n hx hb dX7_mix_5 rfl (lv_at hl 1 rfl) ?_
  refine lv_ladd hx hb dX7_mix_6 ?_
  exact rJ B X rfl (Option.some.inj h) dX7_mix_7
end
