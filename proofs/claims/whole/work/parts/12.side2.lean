section
variable {l : Launch} {p : Program} {e : Env} {R : Room} {S : State} {m : MethodId} {args : Array Value} {below : List Frame} {meth : Method} {c : Code} {A : Nat → Prop} {g : Nat → Nat} {D : va_G} {cI cB : ClassId}
def fX5_copy_b6 : Nat → Int32 → SP55 → Option SP55
  | 0, _, _ => none
  | n + 1, x2, z =>
    if z.2.2 ≤ x2 then (some z) else
    ((fX5_keyAt z.2 x2).bind fun q2 =>
    (fX5_add z.1 q2).bind fun q3 =>
    fX5_copy_b6 n (x2 + 1) (q3, z.2))
set_option maxRecDepth 100000 in
set_option maxHeartbeats 4000000 in
theorem tX5_copy_b6 {a0 a1 a2 a3 p0 p1 p2 p3 : Nat} {wf : SP55 → va_W} (L : LnP55 a0 a1 a2 a3 p0 p1 p2 p3 cI wf) {d : Nat} (hd : 2 ≤ d) (B : Bd RX5 cX5_copy 3 none d A g D [(cI, .int), (cB, .byte)] p R S m args meth c) {q : SP55} : ∀ (n : Nat) (x2 : Int32) (z : SP55) (H : Heap) (locs : List Loc) (ls : Array Slot), Hx A D S.heap (wf z) H locs → lv_has ls 3 [(0, .ref a0), (1, .ref a2), (2, .int x2)] → fX5_copy_b6 n x2 z = some q → W p l e R S m args below meth c H locs 0 0 (MQ below (QV A D (wf q)) args S 0 0 A) (F0 m 6 ls []) := by
  have hx := B.1
  have hb := B.2.1
  have hd1 : 1 ≤ d := by omega
  intro n
  induction n with
  | zero =>
    intro x2 z H locs ls X hl h
    cases h
  | succ n ih =>
    intro x2 z H locs ls X hl h
    rw [fX5_copy_b6] at h
    refine lv_iload_n hx hb dX5_copy_6 rfl (lv_at hl 2 rfl) ?_
    refine lv_aload_n hx hb dX5_copy_7 rfl (lv_at hl 1 rfl) ?_
    refine fG B X (LnX5_g (LnP55_s1 L z) z.2) 1 rfl inTX5 (by decide) kw166 rfl dX5_copy_8 ?_
    refine lv_icmp_ge (tgt := 29) hx hb dX5_copy_11 (by decide) (fun hc1 => ?_) (fun hc1 => ?_)
    · have h := it h hc1
      exact rV B X (congrArg wf (Option.some.inj h)) dX5_copy_29
    · have h := ie h hc1
      refine lv_aload_n hx hb dX5_copy_14 rfl (lv_at hl 0 rfl) ?_
      refine lv_aload_n hx hb dX5_copy_15 rfl (lv_at hl 1 rfl) ?_
      refine lv_iload_n hx hb dX5_copy_16 rfl (lv_at hl 2 rfl) ?_
      obtain ⟨q2, h2, h⟩ := bs h
      refine kI X (cV (As := [.int x2]) (rest := [.ref a0]) B X (tX5_keyAt (d := d - 1) (LnP55_s1 L z) (by omega) h2) mfX5_keyAt kw573 (by omega) (LnX5_g (LnP55_s1 L z) z.2) rfl rfl (Nat.le_of_ble_eq_true rfl) hl.1 ⟨Nat.zero_le _, Nat.zero_le _⟩ dX5_copy_17) (fun H locs X => ?_)
      have X : Hx A D S.heap (wf z) H locs := X
      obtain ⟨q3, h3, h⟩ := bs h
      refine kV X (cV (As := [.int q2]) (rest := []) B X (tX5_add (d := d - 1) (LnP55_s0 L z) (by omega) h3) mfX5_add kw795 (by omega) (LnX5_g (LnP55_s0 L z) z.1) rfl rfl (Nat.le_of_ble_eq_true rfl) hl.1 ⟨Nat.zero_le _, Nat.zero_le _⟩ dX5_copy_20) (fun H locs X => ?_)
      have X : Hx A D S.heap (wf (q3, z.2)) H locs := X
      refine lv_iinc (v := x2 + 1) (lv' := [(2, .int (x2 + 1)), (0, .ref a0), (1, .ref a2)]) hx hb dX5_copy_23 hl (k := 2) rfl rfl (by decide) rfl (fun ls hl => ?_)
      refine lv_goto (tgt := 6) hx hb dX5_copy_26 (by decide) ?_
      exact ih (x2 + 1) (q3, z.2) _ _ _ X (lv_sub hl [1, 2, 0] rfl) h
def fX5_copy (z : SP55) : Option SP55 :=
    (fX5_clear z.1).bind fun q1 =>
    fX5_copy_b6 1000 0 (q1, z.2)
set_option maxRecDepth 100000 in
set_option maxHeartbeats 4000000 in
theorem tX5_copy {a0 a1 a2 a3 p0 p1 p2 p3 : Nat} {wf : SP55 → va_W} (L : LnP55 a0 a1 a2 a3 p0 p1 p2 p3 cI wf) {d : Nat} (hd : 2 ≤ d) {z : SP55} {q : SP55} (h : fX5_copy z = some q) : Ct l yX5_copy cX5_copy 3 none d A g D [(cI, .int), (cB, .byte)] [.ref a0, .ref a2] (wf z) (QV A D (wf q)) := by
  refine mkM (by decide) (Nat.le_of_ble_eq_true rfl) ?_
  intro p e S m args below meth c B X ls hl
  have B : Bd RX5 cX5_copy 3 none d A g D [(cI, .int), (cB, .byte)] p (rmd d) S m args meth c := B
  have hx := B.1
  have hb := B.2.1
  have hd1 : 1 ≤ d := by omega
  have hl : lv_has ls 3 [(0, .ref a0), (1, .ref a2)] := hl
  unfold fX5_copy at h
  refine lv_aload_n hx hb dX5_copy_0 rfl (lv_at hl 0 rfl) ?_
  obtain ⟨q1, h1, h⟩ := bs h
  refine kV X (cV (As := []) (rest := []) B X (tX5_clear (d := d - 1) (LnP55_s0 L z) (by omega) h1) mfX5_clear kw794 (by omega) (LnX5_g (LnP55_s0 L z) z.1) rfl rfl (Nat.le_of_ble_eq_true rfl) hl.1 ⟨Nat.zero_le _, Nat.zero_le _⟩ dX5_copy_1) (fun H locs X => ?_)
  have X : Hx A D S.heap (wf (q1, z.2)) H locs := X
  refine lv_iconst (v := 0) hx hb dX5_copy_4 (by decide) ?_
  refine lv_istore_n (lv' := [(2, .int 0), (0, .ref a0), (1, .ref a2)]) hx hb dX5_copy_5 rfl hl (by decide) rfl (fun ls hl => ?_)
  exact tX5_copy_b6 L hd B 1000 0 (q1, z.2) _ _ _ X (lv_sub hl [1, 2, 0] rfl) h
def fX5_haveOneKey (z : SX5) (x1 : Int32) : Option Int32 :=
    (fJ6_numberOfTrailingZeros_0f7a4 x1).bind fun q1 =>
    (fX5_has z q1).bind fun q2 =>
    if q2 = 0 then (some 0) else
    ((fX5_keyAt z q1).bind fun q4 =>
    (fX5_rowsOfKey z q4).bind fun q5 =>
    if (x1 &&& (q5 ^^^ (-1))) = 0 then (some 1) else
    (some 0))
set_option maxRecDepth 100000 in
set_option maxHeartbeats 4000000 in
theorem tX5_haveOneKey {a0 a1 p0 p1 : Nat} {wf : SX5 → va_W} (L : LnX5 a0 a1 p0 p1 cI wf) {d : Nat} (hd : 2 ≤ d) {z : SX5} {x1 : Int32} {q : Int32} (h : fX5_haveOneKey z x1 = some q) : Ct l yX5_haveOneKey cX5_haveOneKey 3 (some .boolean) d A g D [(cI, .int), (cB, .byte)] [.ref a0, .int x1] (wf z) (QI A D (wf z) q) := by
  refine mkM (by decide) (Nat.le_of_ble_eq_true rfl) ?_
  intro p e S m args below meth c B X ls hl
  have B : Bd RX5 cX5_haveOneKey 3 (some .boolean) d A g D [(cI, .int), (cB, .byte)] p (rmd d) S m args meth c := B
  have hx := B.1
  have hb := B.2.1
  have hd1 : 1 ≤ d := by omega
  have hl : lv_has ls 3 [(0, .ref a0), (1, .int x1)] := hl
  unfold fX5_haveOneKey at h
  refine lv_iload_n hx hb dX5_haveOneKey_0 rfl (lv_at hl 1 rfl) ?_
  obtain ⟨q1, h1, h⟩ := bs h
  refine kI X (cS (As := [.int x1]) (rest := []) B X (tJ6_numberOfTrailingZeros_0f7a4 (d := d - 1) (by omega) h1) msJ6_numberOfTrailingZeros_0f7a4 kw623 (by omega) rfl (Nat.le_of_ble_eq_true rfl) hl.1 ⟨Nat.zero_le _, Nat.zero_le _⟩ dX5_haveOneKey_1) (fun H locs X => ?_)
  have X : Hx A D S.heap (wf z) H locs := X
  refine lv_istore_n (lv' := [(2, .int q1), (0, .ref a0), (1, .int x1)]) hx hb dX5_haveOneKey_4 rfl hl (by decide) rfl (fun ls hl => ?_)
  refine lv_aload_n hx hb dX5_haveOneKey_5 rfl (lv_at hl 1 rfl) ?_
  refine lv_iload_n hx hb dX5_haveOneKey_6 rfl (lv_at hl 0 rfl) ?_
  obtain ⟨q2, h2, h⟩ := bs h
  refine kI X (cV (As := [.int q1]) (rest := []) B X (tX5_has (d := d - 1) L (by omega) h2) mfX5_has kw572 (by omega) (LnX5_g L z) rfl rfl (Nat.le_of_ble_eq_true rfl) hl.1 ⟨Nat.zero_le _, Nat.zero_le _⟩ dX5_haveOneKey_7) (fun H locs X => ?_)
  have X : Hx A D S.heap (wf z) H locs := X
  refine lv_if_eq (tgt := 33) hx hb dX5_haveOneKey_10 (by decide) (fun hc3 => ?_) (fun hc3 => ?_)
  · have h := it h hc3
    refine lv_iconst (v := 0) hx hb dX5_haveOneKey_33 (by decide) ?_
    exact rZ B X rfl (Option.some.inj h) rfl dX5_haveOneKey_34
  · have h := ie h hc3
    refine lv_iload_n hx hb dX5_haveOneKey_13 rfl (lv_at hl 2 rfl) ?_
    refine lv_aload_n hx hb dX5_haveOneKey_14 rfl (lv_at hl 1 rfl) ?_
    refine lv_aload_n hx hb dX5_haveOneKey_15 rfl (lv_at hl 1 rfl) ?_
    refine lv_iload_n hx hb dX5_haveOneKey_16 rfl (lv_at hl 0 rfl) ?_
    obtain ⟨q4, h4, h⟩ := bs h
    refine kI X (cV (As := [.int q1]) (rest := [.ref a0, .int x1]) B X (tX5_keyAt (d := d - 1) L (by omega) h4) mfX5_keyAt kw573 (by omega) (LnX5_g L z) rfl rfl (Nat.le_of_ble_eq_true rfl) hl.1 ⟨Nat.zero_le _, Nat.zero_le _⟩ dX5_haveOneKey_17) (fun H locs X => ?_)
    have X : Hx A D S.heap (wf z) H locs := X
    obtain ⟨q5, h5, h⟩ := bs h
    refine kI X (cV (As := [.int q4]) (rest := [.int x1]) B X (tX5_rowsOfKey (d := d - 1) L (by omega) h5) mfX5_rowsOfKey kw627 (by omega) (LnX5_g L z) rfl rfl (Nat.le_of_ble_eq_true rfl) hl.1 ⟨Nat.zero_le _, Nat.zero_le _⟩ dX5_haveOneKey_20) (fun H locs X => ?_)
    have X : Hx A D S.heap (wf z) H locs := X
    refine lv_iconst (v := (-1)) hx hb dX5_haveOneKey_23 (by decide) ?_
    refine lv_ixor hx hb dX5_haveOneKey_24 ?_
    refine lv_iand hx hb dX5_haveOneKey_25 ?_
    refine lv_if_ne (tgt := 33) hx hb dX5_haveOneKey_26 (by decide) (fun hc6 => ?_) (fun hc6 => ?_)
    · have h := ie h hc6
      refine lv_iconst (v := 0) hx hb dX5_haveOneKey_33 (by decide) ?_
      exact rZ B X rfl (Option.some.inj h) rfl dX5_haveOneKey_34
    · have h := it h hc6
      refine lv_iconst (v := 1) hx hb dX5_haveOneKey_29 (by decide) ?_
      refine lv_goto (tgt := 34) hx hb dX5_haveOneKey_30 (by decide) ?_
      exact rZ B X rfl (Option.some.inj h) rfl dX5_haveOneKey_34
end
