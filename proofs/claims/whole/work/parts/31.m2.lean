section
variable {l : Launch} {p : Program} {e : Env} {R : Room} {S : State} {m : MethodId} {args : Array Value} {below : List Frame} {meth : Method} {c : Code} {A : Nat → Prop} {g : Nat → Nat} {D : va_G} {cI cB : ClassId}
def fX8_noteLog (z : SX8) (x1 : Int32) (x2 : Int32) (x3 : Int32) : Option SX8 :=
    if (z.1 26) < 0 ∨ 512 ≤ (z.1 26).toNatClampNeg then none else
    (if (z.1 26) < 0 ∨ 512 ≤ (z.1 26).toNatClampNeg then none else
    (if (z.1 26) < 0 ∨ 512 ≤ (z.1 26).toNatClampNeg then none else
    (some ((upd z.1 26 ((z.1 26) + 1)), z.2.1, (va_up (va_up (va_up z.2.2 33 (upd (z.2.2 33) (z.1 26).toNatClampNeg x1)) 34 (upd (z.2.2 34) (z.1 26).toNatClampNeg x2)) 35 (upd (z.2.2 35) (z.1 26).toNatClampNeg x3))))))
set_option maxRecDepth 100000 in
set_option maxHeartbeats 4000000 in
theorem tX8_noteLog {a q : Nat → Nat} {wf : SX8 → va_W} (L : LnX8 a q cI cB wf) {d : Nat} (hd : 1 ≤ d) {z : SX8} {x1 x2 x3 : Int32} {q : SX8} (h : fX8_noteLog z x1 x2 x3 = some q) : Ct l yX8_noteLog cX8_noteLog 4 none d A g D [(cI, .int), (cB, .byte)] [.ref (a 0), .int x1, .int x2, .int x3] (wf z) (QV A D (wf q)) := by
  refine mkM (by decide) (Nat.le_of_ble_eq_true rfl) ?_
  intro p e S m args below meth c B X ls hl
  have B : Bd RX8 cX8_noteLog 4 none d A g D [(cI, .int), (cB, .byte)] p (rmd d) S m args meth c := B
  have hx := B.1
  have hb := B.2.1
  have hd1 : 1 ≤ d := by omega
  have hl : lv_has ls 4 [(0, .ref (a 0)), (1, .int x1), (2, .int x2), (3, .int x3)] := hl
  unfold fX8_noteLog at h
  refine lv_aload_n hx hb dX8_noteLog_0 rfl (lv_at hl 0 rfl) ?_
  refine fG B X (LnX8_g L z) 33 rfl inTX8 (by decide) kw880 rfl dX8_noteLog_1 ?_
  refine lv_aload_n hx hb dX8_noteLog_4 rfl (lv_at hl 0 rfl) ?_
  refine fG B X (LnX8_g L z) 26 rfl inTX8 (by decide) kw873 rfl dX8_noteLog_5 ?_
  refine lv_iload_n hx hb dX8_noteLog_8 rfl (lv_at hl 1 rfl) ?_
  by_cases hc1 : ((z.1 26) < 0 ∨ 512 ≤ (z.1 26).toNatClampNeg)
  · cases it h hc1
  have h := ie h hc1
  refine aP B X (LnX8_a33 L z) (LnX8_b33 L z _) 0 rfl hc1 dX8_noteLog_9 (fun H locs X => ?_)
  have X : Hx A D S.heap (wf (z.1, z.2.1, (va_up z.2.2 33 (upd (z.2.2 33) (z.1 26).toNatClampNeg x1)))) H locs := X
  refine lv_aload_n hx hb dX8_noteLog_10 rfl (lv_at hl 0 rfl) ?_
  refine fG B X (LnX8_g L (z.1, z.2.1, (va_up z.2.2 33 (upd (z.2.2 33) (z.1 26).toNatClampNeg x1)))) 34 rfl inTX8 (by decide) kw881 rfl dX8_noteLog_11 ?_
  refine lv_aload_n hx hb dX8_noteLog_14 rfl (lv_at hl 0 rfl) ?_
  refine fG B X (LnX8_g L (z.1, z.2.1, (va_up z.2.2 33 (upd (z.2.2 33) (z.1 26).toNatClampNeg x1)))) 26 rfl inTX8 (by decide) kw873 rfl dX8_noteLog_15 ?_
  refine lv_iload_n hx hb dX8_noteLog_18 rfl (lv_at hl 2 rfl) ?_
  by_cases hc2 : ((z.1 26) < 0 ∨ 512 ≤ (z.1 26).toNatClampNeg)
  · cases it h hc2
  have h := ie h hc2
  refine aP B X (LnX8_a34 L (z.1, z.2.1, (va_up z.2.2 33 (upd (z.2.2 33) (z.1 26).toNatClampNeg x1)))) (LnX8_b34 L (z.1, z.2.1, (va_up z.2.2 33 (upd (z.2.2 33) (z.1 26).toNatClampNeg x1))) _) 0 rfl hc2 dX8_noteLog_19 (fun H locs X => ?_)
  have X : Hx A D S.heap (wf (z.1, z.2.1, (va_up (va_up z.2.2 33 (upd (z.2.2 33) (z.1 26).toNatClampNeg x1)) 34 (upd (z.2.2 34) (z.1 26).toNatClampNeg x2)))) H locs := X
  refine lv_aload_n hx hb dX8_noteLog_20 rfl (lv_at hl 0 rfl) ?_
  refine fG B X (LnX8_g L (z.1, z.2.1, (va_up (va_up z.2.2 33 (upd (z.2.2 33) (z.1 26).toNatClampNeg x1)) 34 (upd (z.2.2 34) (z.1 26).toNatClampNeg x2)))) 35 rfl inTX8 (by decide) kw882 rfl dX8_noteLog_21 ?_
  refine lv_aload_n hx hb dX8_noteLog_24 rfl (lv_at hl 0 rfl) ?_
  refine fG B X (LnX8_g L (z.1, z.2.1, (va_up (va_up z.2.2 33 (upd (z.2.2 33) (z.1 26).toNatClampNeg x1)) 34 (upd (z.2.2 34) (z.1 26).toNatClampNeg x2)))) 26 rfl inTX8 (by decide) kw873 rfl dX8_noteLog_25 ?_
  refine lv_iload_n hx hb dX8_noteLog_28 rfl (lv_at hl 3 rfl) ?_
  by_cases hc3 : ((z.1 26) < 0 ∨ 512 ≤ (z.1 26).toNatClampNeg)
  · cases it h hc3
  have h := ie h hc3
  refine aP B X (LnX8_a35 L (z.1, z.2.1, (va_up (va_up z.2.2 33 (upd (z.2.2 33) (z.1 26).toNatClampNeg x1)) 34 (upd (z.2.2 34) (z.1 26).toNatClampNeg x2)))) (LnX8_b35 L (z.1, z.2.1, (va_up (va_up z.2.2 33 (upd (z.2.2 33) (z.1 26).toNatClampNeg x1)) 34 (upd (z.2.2 34) (z.1 26).toNatClampNeg x2))) _) 0 rfl hc3 dX8_noteLog_29 (fun H locs X => ?_)
  have X : Hx A D S.heap (wf (z.1, z.2.1, (va_up (va_up (va_up z.2.2 33 (upd (z.2.2 33) (z.1 26).toNatClampNeg x1)) 34 (upd (z.2.2 34) (z.1 26).toNatClampNeg x2)) 35 (upd (z.2.2 35) (z.1 26).toNatClampNeg x3)))) H locs := X
  refine lv_aload_n hx hb dX8_noteLog_30 rfl (lv_at hl 0 rfl) ?_
  refine lv_dup hx hb dX8_noteLog_31 rfl ?_
  refine fG B X (LnX8_g L (z.1, z.2.1, (va_up (va_up (va_up z.2.2 33 (upd (z.2.2 33) (z.1 26).toNatClampNeg x1)) 34 (upd (z.2.2 34) (z.1 26).toNatClampNeg x2)) 35 (upd (z.2.2 35) (z.1 26).toNatClampNeg x3)))) 26 rfl inTX8 (by decide) kw873 rfl dX8_noteLog_32 ?_
  refine lv_iconst (v := 1) hx hb dX8_noteLog_35 (by decide) ?_
  refine lv_iadd hx hb dX8_noteLog_36 ?_
  refine fP tyX8 B X (LnX8_g L (z.1, z.2.1, (va_up (va_up (va_up z.2.2 33 (upd (z.2.2 33) (z.1 26).toNatClampNeg x1)) 34 (upd (z.2.2 34) (z.1 26).toNatClampNeg x2)) 35 (upd (z.2.2 35) (z.1 26).toNatClampNeg x3)))) 26 (LnX8_i26 L (z.1, z.2.1, (va_up (va_up (va_up z.2.2 33 (upd (z.2.2 33) (z.1 26).toNatClampNeg x1)) 34 (upd (z.2.2 34) (z.1 26).toNatClampNeg x2)) 35 (upd (z.2.2 35) (z.1 26).toNatClampNeg x3))) _) rfl inTX8 tyX8_ok nmX8 (by decide) kw873 rfl rfl rfl rfl (Nat.le_of_ble_eq_true rfl) dX8_noteLog_37 (fun H locs X => ?_)
  have X : Hx A D S.heap (wf ((upd z.1 26 ((z.1 26) + 1)), z.2.1, (va_up (va_up (va_up z.2.2 33 (upd (z.2.2 33) (z.1 26).toNatClampNeg x1)) 34 (upd (z.2.2 34) (z.1 26).toNatClampNeg x2)) 35 (upd (z.2.2 35) (z.1 26).toNatClampNeg x3)))) H locs := X
  exact rV B X (congrArg wf (Option.some.inj h)) dX8_noteLog_40
def fX8_openOne (z : SX8) (x1 : Int32) : Option SX8 :=
    if (z.1 28) < 0 ∨ 64 ≤ (z.1 28).toNatClampNeg then none else
    (if (z.1 28) < 0 ∨ 64 ≤ (z.1 28).toNatClampNeg then none else
    ((fX8_noteLog ((upd z.1 28 ((z.1 28) + 1)), z.2.1, (va_up (va_up z.2.2 29 (upd (z.2.2 29) (z.1 28).toNatClampNeg (z.1 27))) 30 (upd (z.2.2 30) (z.1 28).toNatClampNeg x1))) (z.1 27) 1 x1).bind fun q3 =>
    some ((upd q3.1 27 ((q3.1 27) + 1)), q3.2.1, q3.2.2)))
set_option maxRecDepth 100000 in
set_option maxHeartbeats 4000000 in
theorem tX8_openOne {a q : Nat → Nat} {wf : SX8 → va_W} (L : LnX8 a q cI cB wf) {d : Nat} (hd : 2 ≤ d) {z : SX8} {x1 : Int32} {q : SX8} (h : fX8_openOne z x1 = some q) : Ct l yX8_openOne cX8_openOne 2 none d A g D [(cI, .int), (cB, .byte)] [.ref (a 0), .int x1] (wf z) (QV A D (wf q)) := by
  refine mkM (by decide) (Nat.le_of_ble_eq_true rfl) ?_
  intro p e S m args below meth c B X ls hl
  have B : Bd RX8 cX8_openOne 2 none d A g D [(cI, .int), (cB, .byte)] p (rmd d) S m args meth c := B
  have hx := B.1
  have hb := B.2.1
  have hd1 : 1 ≤ d := by omega
  have hl : lv_has ls 2 [(0, .ref (a 0)), (1, .int x1)] := hl
  unfold fX8_openOne at h
  refine lv_aload_n hx hb dX8_openOne_0 rfl (lv_at hl 0 rfl) ?_
  refine fG B X (LnX8_g L z) 29 rfl inTX8 (by decide) kw876 rfl dX8_openOne_1 ?_
  refine lv_aload_n hx hb dX8_openOne_4 rfl (lv_at hl 0 rfl) ?_
  refine fG B X (LnX8_g L z) 28 rfl inTX8 (by decide) kw875 rfl dX8_openOne_5 ?_
  refine lv_aload_n hx hb dX8_openOne_8 rfl (lv_at hl 0 rfl) ?_
  refine fG B X (LnX8_g L z) 27 rfl inTX8 (by decide) kw874 rfl dX8_openOne_9 ?_
  by_cases hc1 : ((z.1 28) < 0 ∨ 64 ≤ (z.1 28).toNatClampNeg)
  · cases it h hc1
  have h := ie h hc1
  refine aP B X (LnX8_a29 L z) (LnX8_b29 L z _) 0 rfl hc1 dX8_openOne_12 (fun H locs X => ?_)
  have X : Hx A D S.heap (wf (z.1, z.2.1, (va_up z.2.2 29 (upd (z.2.2 29) (z.1 28).toNatClampNeg (z.1 27))))) H locs := X
  refine lv_aload_n hx hb dX8_openOne_13 rfl (lv_at hl 0 rfl) ?_
  refine fG B X (LnX8_g L (z.1, z.2.1, (va_up z.2.2 29 (upd (z.2.2 29) (z.1 28).toNatClampNeg (z.1 27))))) 30 rfl inTX8 (by decide) kw877 rfl dX8_openOne_14 ?_
  refine lv_aload_n hx hb dX8_openOne_17 rfl (lv_at hl 0 rfl) ?_
  refine fG B X (LnX8_g L (z.1, z.2.1, (va_up z.2.2 29 (upd (z.2.2 29) (z.1 28).toNatClampNeg (z.1 27))))) 28 rfl inTX8 (by decide) kw875 rfl dX8_openOne_18 ?_
  refine lv_iload_n hx hb dX8_openOne_21 rfl (lv_at hl 1 rfl) ?_
  by_cases hc2 : ((z.1 28) < 0 ∨ 64 ≤ (z.1 28).toNatClampNeg)
  · cases it h hc2
  have h := ie h hc2
  refine aP B X (LnX8_a30 L (z.1, z.2.1, (va_up z.2.2 29 (upd (z.2.2 29) (z.1 28).toNatClampNeg (z.1 27))))) (LnX8_b30 L (z.1, z.2.1, (va_up z.2.2 29 (upd (z.2.2 29) (z.1 28).toNatClampNeg (z.1 27)))) _) 0 rfl hc2 dX8_openOne_22 (fun H locs X => ?_)
  have X : Hx A D S.heap (wf (z.1, z.2.1, (va_up (va_up z.2.2 29 (upd (z.2.2 29) (z.1 28).toNatClampNeg (z.1 27))) 30 (upd (z.2.2 30) (z.1 28).toNatClampNeg x1)))) H locs := X
  refine lv_aload_n hx hb dX8_openOne_23 rfl (lv_at hl 0 rfl) ?_
  refine lv_dup hx hb dX8_openOne_24 rfl ?_
  refine fG B X (LnX8_g L (z.1, z.2.1, (va_up (va_up z.2.2 29 (upd (z.2.2 29) (z.1 28).toNatClampNeg (z.1 27))) 30 (upd (z.2.2 30) (z.1 28).toNatClampNeg x1)))) 28 rfl inTX8 (by decide) kw875 rfl dX8_openOne_25 ?_
  refine lv_iconst (v := 1) hx hb dX8_openOne_28 (by decide) ?_
  refine lv_iadd hx hb dX8_openOne_29 ?_
  refine fP tyX8 B X (LnX8_g L (z.1, z.2.1, (va_up (va_up z.2.2 29 (upd (z.2.2 29) (z.1 28).toNatClampNeg (z.1 27))) 30 (upd (z.2.2 30) (z.1 28).toNatClampNeg x1)))) 28 (LnX8_i28 L (z.1, z.2.1, (va_up (va_up z.2.2 29 (upd (z.2.2 29) (z.1 28).toNatClampNeg (z.1 27))) 30 (upd (z.2.2 30) (z.1 28).toNatClampNeg x1))) _) rfl inTX8 tyX8_ok nmX8 (by decide) kw875 rfl rfl rfl rfl (Nat.le_of_ble_eq_true rfl) dX8_openOne_30 (fun H locs X => ?_)
  have X : Hx A D S.heap (wf ((upd z.1 28 ((z.1 28) + 1)), z.2.1, (va_up (va_up z.2.2 29 (upd (z.2.2 29) (z.1 28).toNatClampNeg (z.1 27))) 30 (upd (z.2.2 30) (z.1 28).toNatClampNeg x1)))) H locs := X
  refine lv_aload_n hx hb dX8_openOne_33 rfl (lv_at hl 0 rfl) ?_
  refine lv_aload_n hx hb dX8_openOne_34 rfl (lv_at hl 0 rfl) ?_
  refine fG B X (LnX8_g L ((upd z.1 28 ((z.1 28) + 1)), z.2.1, (va_up (va_up z.2.2 29 (upd (z.2.2 29) (z.1 28).toNatClampNeg (z.1 27))) 30 (upd (z.2.2 30) (z.1 28).toNatClampNeg x1)))) 27 rfl inTX8 (by decide) kw874 rfl dX8_openOne_35 ?_
  refine lv_iconst (v := 1) hx hb dX8_openOne_38 (by decide) ?_
  refine lv_iload_n hx hb dX8_openOne_39 rfl (lv_at hl 1 rfl) ?_
  obtain ⟨q3, h3, h⟩ := bs h
  refine kV X (cV (As := [.int (z.1 27), .int 1, .int x1]) (rest := []) B X (tX8_noteLog (d := d - 1) L (by omega) h3) mfX8_noteLog kw1152 (by omega) (LnX8_g L ((upd z.1 28 ((z.1 28) + 1)), z.2.1, (va_up (va_up z.2.2 29 (upd (z.2.2 29) (z.1 28).toNatClampNeg (z.1 27))) 30 (upd (z.2.2 30) (z.1 28).toNatClampNeg x1)))) rfl rfl (Nat.le_of_ble_eq_true rfl) hl.1 ⟨Nat.zero_le _, Nat.zero_le _⟩ dX8_openOne_40) (fun H locs X => ?_)
  have X : Hx A D S.heap (wf q3) H locs := X
  refine lv_aload_n hx hb dX8_openOne_43 rfl (lv_at hl 0 rfl) ?_
  refine lv_dup hx hb dX8_openOne_44 rfl ?_
  refine fG B X (LnX8_g L q3) 27 rfl inTX8 (by decide) kw874 rfl dX8_openOne_45 ?_
  refine lv_iconst (v := 1) hx hb dX8_openOne_48 (by decide) ?_
  refine lv_iadd hx hb dX8_openOne_49 ?_
  refine fP tyX8 B X (LnX8_g L q3) 27 (LnX8_i27 L q3 _) rfl inTX8 tyX8_ok nmX8 (by decide) kw874 rfl rfl rfl rfl (Nat.le_of_ble_eq_true rfl) dX8_openOne_50 (fun H locs X => ?_)
  have X : Hx A D S.heap (wf ((upd q3.1 27 ((q3.1 27) + 1)), q3.2.1, q3.2.2)) H locs := X
  exact rV B X (congrArg wf (Option.some.inj h)) dX8_openOne_53
def fX8_shutOne (z : SX8) : Option SX8 :=
    if ((z.1 28) - 1) < 0 ∨ 64 ≤ ((z.1 28) - 1).toNatClampNeg then none else
    (if ((z.1 28) - 1) < 0 ∨ 64 ≤ ((z.1 28) - 1).toNatClampNeg then none else
    ((fX8_noteLog ((upd z.1 28 ((z.1 28) - 1)), z.2.1, z.2.2) ((z.2.2 29) ((z.1 28) - 1).toNatClampNeg) 0 ((z.2.2 30) ((z.1 28) - 1).toNatClampNeg)).bind fun q3 =>
    some q3))
set_option maxRecDepth 100000 in
set_option maxHeartbeats 4000000 in
theorem tX8_shutOne {a q : Nat → Nat} {wf : SX8 → va_W} (L : LnX8 a q cI cB wf) {d : Nat} (hd : 2 ≤ d) {z : SX8} {q : SX8} (h : fX8_shutOne z = some q) : Ct l yX8_shutOne cX8_shutOne 1 none d A g D [(cI, .int), (cB, .byte)] [.ref (a 0)] (wf z) (QV A D (wf q)) := by
  refine mkM (by decide) (Nat.le_of_ble_eq_true rfl) ?_
  intro p e S m args below meth c B X ls hl
  have B : Bd RX8 cX8_shutOne 1 none d A g D [(cI, .int), (cB, .byte)] p (rmd d) S m args meth c := B
  have hx := B.1
  have hb := B.2.1
  have hd1 : 1 ≤ d := by omega
  have hl : lv_has ls 1 [(0, .ref (a 0))] := hl
  unfold fX8_shutOne at h
  refine lv_aload_n hx hb dX8_shutOne_0 rfl (lv_at hl 0 rfl) ?_
  refine lv_dup hx hb dX8_shutOne_1 rfl ?_
  refine fG B X (LnX8_g L z) 28 rfl inTX8 (by decide) kw875 rfl dX8_shutOne_2 ?_
  refine lv_iconst (v := 1) hx hb dX8_shutOne_5 (by decide) ?_
  refine lv_isub hx hb dX8_shutOne_6 ?_
  refine fP tyX8 B X (LnX8_g L z) 28 (LnX8_i28 L z _) rfl inTX8 tyX8_ok nmX8 (by decide) kw875 rfl rfl rfl rfl (Nat.le_of_ble_eq_true rfl) dX8_shutOne_7 (fun H locs X => ?_)
  have X : Hx A D S.heap (wf ((upd z.1 28 ((z.1 28) - 1)), z.2.1, z.2.2)) H locs := X
  refine lv_aload_n hx hb dX8_shutOne_10 rfl (lv_at hl 0 rfl) ?_
  refine lv_aload_n hx hb dX8_shutOne_11 rfl (lv_at hl 0 rfl) ?_
  refine fG B X (LnX8_g L ((upd z.1 28 ((z.1 28) - 1)), z.2.1, z.2.2)) 29 rfl inTX8 (by decide) kw876 rfl dX8_shutOne_12 ?_
  refine lv_aload_n hx hb dX8_shutOne_15 rfl (lv_at hl 0 rfl) ?_
  refine fG B X (LnX8_g L ((upd z.1 28 ((z.1 28) - 1)), z.2.1, z.2.2)) 28 rfl inTX8 (by decide) kw875 rfl dX8_shutOne_16 ?_
  by_cases hc1 : (((z.1 28) - 1) < 0 ∨ 64 ≤ ((z.1 28) - 1).toNatClampNeg)
  · cases it h hc1
  have h := ie h hc1
  refine aG B X (LnX8_a29 L ((upd z.1 28 ((z.1 28) - 1)), z.2.1, z.2.2)) 0 rfl hc1 dX8_shutOne_19 ?_
  refine lv_iconst (v := 0) hx hb dX8_shutOne_20 (by decide) ?_
  refine lv_aload_n hx hb dX8_shutOne_21 rfl (lv_at hl 0 rfl) ?_
  refine fG B X (LnX8_g L ((upd z.1 28 ((z.1 28) - 1)), z.2.1, z.2.2)) 30 rfl inTX8 (by decide) kw877 rfl dX8_shutOne_22 ?_
  refine lv_aload_n hx hb dX8_shutOne_25 rfl (lv_at hl 0 rfl) ?_
  refine fG B X (LnX8_g L ((upd z.1 28 ((z.1 28) - 1)), z.2.1, z.2.2)) 28 rfl inTX8 (by decide) kw875 rfl dX8_shutOne_26 ?_
  by_cases hc2 : (((z.1 28) - 1) < 0 ∨ 64 ≤ ((z.1 28) - 1).toNatClampNeg)
  · cases it h hc2
  have h := ie h hc2
  refine aG B X (LnX8_a30 L ((upd z.1 28 ((z.1 28) - 1)), z.2.1, z.2.2)) 0 rfl hc2 dX8_shutOne_29 ?_
  obtain ⟨q3, h3, h⟩ := bs h
  refine kV X (cV (As := [.int ((z.2.2 29) ((z.1 28) - 1).toNatClampNeg), .int 0, .int ((z.2.2 30) ((z.1 28) - 1).toNatClampNeg)]) (rest := []) B X (tX8_noteLog (d := d - 1) L (by omega) h3) mfX8_noteLog kw1152 (by omega) (LnX8_g L ((upd z.1 28 ((z.1 28) - 1)), z.2.1, z.2.2)) rfl rfl (Nat.le_of_ble_eq_true rfl) hl.1 ⟨Nat.zero_le _, Nat.zero_le _⟩ dX8_shutOne_30) (fun H locs X => ?_)
  have X : Hx A D S.heap (wf q3) H locs := X
  exact rV B X (congrArg wf (Option.some.inj h)) dX8_shutOne_33
def fX8_come (z : SX8) (x1 : Int32) (x2 : Int32) : Option SX8 :=
    if (z.1 15) = 0 then (if (z.1 17) = (z.1 14) then (some ((upd z.1 15 1), z.2.1, z.2.2)) else
    (if (z.1 17) < 0 ∨ 256 ≤ (z.1 17).toNatClampNeg then none else
    (if (z.1 17) < 0 ∨ 256 ≤ (z.1 17).toNatClampNeg then none else
    (some ((upd z.1 17 ((z.1 17) + 1)), z.2.1, (va_up (va_up z.2.2 31 (upd (z.2.2 31) (z.1 17).toNatClampNeg x1)) 32 (upd (z.2.2 32) (z.1 17).toNatClampNeg x2))))))) else
    (some z)
set_option maxRecDepth 100000 in
set_option maxHeartbeats 4000000 in
theorem tX8_come {a q : Nat → Nat} {wf : SX8 → va_W} (L : LnX8 a q cI cB wf) {d : Nat} (hd : 1 ≤ d) {z : SX8} {x1 x2 : Int32} {q : SX8} (h : fX8_come z x1 x2 = some q) : Ct l yX8_come cX8_come 3 none d A g D [(cI, .int), (cB, .byte)] [.ref (a 0), .int x1, .int x2] (wf z) (QV A D (wf q)) := by
  refine mkM (by decide) (Nat.le_of_ble_eq_true rfl) ?_
  intro p e S m args below meth c B X ls hl
  have B : Bd RX8 cX8_come 3 none d A g D [(cI, .int), (cB, .byte)] p (rmd d) S m args meth c := B
  have hx := B.1
  have hb := B.2.1
  have hd1 : 1 ≤ d := by omega
  have hl : lv_has ls 3 [(0, .ref (a 0)), (1, .int x1), (2, .int x2)] := hl
  unfold fX8_come at h
  refine lv_aload_n hx hb dX8_come_0 rfl (lv_at hl 0 rfl) ?_
  refine fG B X (LnX8_g L z) 15 rfl inTX8 (by decide) kw862 rfl dX8_come_1 ?_
  refine lv_if_eq (tgt := 8) hx hb dX8_come_4 (by decide) (fun hc1 => ?_) (fun hc1 => ?_)
  · have h := it h hc1
    refine lv_aload_n hx hb dX8_come_8 rfl (lv_at hl 0 rfl) ?_
    refine fG B X (LnX8_g L z) 17 rfl inTX8 (by decide) kw864 rfl dX8_come_9 ?_
    refine lv_aload_n hx hb dX8_come_12 rfl (lv_at hl 0 rfl) ?_
    refine fG B X (LnX8_g L z) 14 rfl inTX8 (by decide) kw861 rfl dX8_come_13 ?_
    refine lv_icmp_ne (tgt := 25) hx hb dX8_come_16 (by decide) (fun hc2 => ?_) (fun hc2 => ?_)
    · have h := ie h hc2
      refine lv_aload_n hx hb dX8_come_25 rfl (lv_at hl 0 rfl) ?_
      refine fG B X (LnX8_g L z) 31 rfl inTX8 (by decide) kw878 rfl dX8_come_26 ?_
      refine lv_aload_n hx hb dX8_come_29 rfl (lv_at hl 0 rfl) ?_
      refine fG B X (LnX8_g L z) 17 rfl inTX8 (by decide) kw864 rfl dX8_come_30 ?_
      refine lv_iload_n hx hb dX8_come_33 rfl (lv_at hl 1 rfl) ?_
      by_cases hc3 : ((z.1 17) < 0 ∨ 256 ≤ (z.1 17).toNatClampNeg)
      · cases it h hc3
      have h := ie h hc3
      refine aP B X (LnX8_a31 L z) (LnX8_b31 L z _) 0 rfl hc3 dX8_come_34 (fun H locs X => ?_)
      have X : Hx A D S.heap (wf (z.1, z.2.1, (va_up z.2.2 31 (upd (z.2.2 31) (z.1 17).toNatClampNeg x1)))) H locs := X
      refine lv_aload_n hx hb dX8_come_35 rfl (lv_at hl 0 rfl) ?_
      refine fG B X (LnX8_g L (z.1, z.2.1, (va_up z.2.2 31 (upd (z.2.2 31) (z.1 17).toNatClampNeg x1)))) 32 rfl inTX8 (by decide) kw879 rfl dX8_come_36 ?_
      refine lv_aload_n hx hb dX8_come_39 rfl (lv_at hl 0 rfl) ?_
      refine fG B X (LnX8_g L (z.1, z.2.1, (va_up z.2.2 31 (upd (z.2.2 31) (z.1 17).toNatClampNeg x1)))) 17 rfl inTX8 (by decide) kw864 rfl dX8_come_40 ?_
      refine lv_iload_n hx hb dX8_come_43 rfl (lv_at hl 2 rfl) ?_
      by_cases hc4 : ((z.1 17) < 0 ∨ 256 ≤ (z.1 17).toNatClampNeg)
      · cases it h hc4
      have h := ie h hc4
      refine aP B X (LnX8_a32 L (z.1, z.2.1, (va_up z.2.2 31 (upd (z.2.2 31) (z.1 17).toNatClampNeg x1)))) (LnX8_b32 L (z.1, z.2.1, (va_up z.2.2 31 (upd (z.2.2 31) (z.1 17).toNatClampNeg x1))) _) 0 rfl hc4 dX8_come_44 (fun H locs X => ?_)
      have X : Hx A D S.heap (wf (z.1, z.2.1, (va_up (va_up z.2.2 31 (upd (z.2.2 31) (z.1 17).toNatClampNeg x1)) 32 (upd (z.2.2 32) (z.1 17).toNatClampNeg x2)))) H locs := X
      refine lv_aload_n hx hb dX8_come_45 rfl (lv_at hl 0 rfl) ?_
      refine lv_dup hx hb dX8_come_46 rfl ?_
      refine fG B X (LnX8_g L (z.1, z.2.1, (va_up (va_up z.2.2 31 (upd (z.2.2 31) (z.1 17).toNatClampNeg x1)) 32 (upd (z.2.2 32) (z.1 17).toNatClampNeg x2)))) 17 rfl inTX8 (by decide) kw864 rfl dX8_come_47 ?_
      refine lv_iconst (v := 1) hx hb dX8_come_50 (by decide) ?_
      refine lv_iadd hx hb dX8_come_51 ?_
      refine fP tyX8 B X (LnX8_g L (z.1, z.2.1, (va_up (va_up z.2.2 31 (upd (z.2.2 31) (z.1 17).toNatClampNeg x1)) 32 (upd (z.2.2 32) (z.1 17).toNatClampNeg x2)))) 17 (LnX8_i17 L (z.1, z.2.1, (va_up (va_up z.2.2 31 (upd (z.2.2 31) (z.1 17).toNatClampNeg x1)) 32 (upd (z.2.2 32) (z.1 17).toNatClampNeg x2))) _) rfl inTX8 tyX8_ok nmX8 (by decide) kw864 rfl rfl rfl rfl (Nat.le_of_ble_eq_true rfl) dX8_come_52 (fun H locs X => ?_)
      have X : Hx A D S.heap (wf ((upd z.1 17 ((z.1 17) + 1)), z.2.1, (va_up (va_up z.2.2 31 (upd (z.2.2 31) (z.1 17).toNatClampNeg x1)) 32 (upd (z.2.2 32) (z.1 17).toNatClampNeg x2)))) H locs := X
      exact rV B X (congrArg wf (Option.some.inj h)) dX8_come_55
    · have h := it h hc2
      refine lv_aload_n hx hb dX8_come_19 rfl (lv_at hl 0 rfl) ?_
      refine lv_iconst (v := 1) hx hb dX8_come_20 (by decide) ?_
      refine fP tyX8 B X (LnX8_g L z) 15 (LnX8_i15 L z _) rfl inTX8 tyX8_ok nmX8 (by decide) kw862 rfl rfl rfl rfl (Nat.le_of_ble_eq_true rfl) dX8_come_21 (fun H locs X => ?_)
      have X : Hx A D S.heap (wf ((upd z.1 15 1), z.2.1, z.2.2)) H locs := X
      exact rV B X (congrArg wf (Option.some.inj h)) dX8_come_24
  · have h := ie h hc1
    exact rV B X (congrArg wf (Option.some.inj h)) dX8_come_7
def fX8_comesAlone (z : SX8) (x1 : Int32) : Option Int32 :=
    if (z.1 2) = 4 then (some 1) else
    (if x1 = 0 then (if (z.1 2) = 1 then (some 1) else
    (if (z.1 2) = 2 then (some 1) else
    (some 0))) else
    (some 0))
set_option maxRecDepth 100000 in
set_option maxHeartbeats 4000000 in
theorem tX8_comesAlone {a q : Nat → Nat} {wf : SX8 → va_W} (L : LnX8 a q cI cB wf) {d : Nat} (hd : 1 ≤ d) {z : SX8} {x1 : Int32} {q : Int32} (h : fX8_comesAlone z x1 = some q) : Ct l yX8_comesAlone cX8_comesAlone 2 (some .boolean) d A g D [(cI, .int), (cB, .byte)] [.ref (a 0), .int x1] (wf z) (QI A D (wf z) q) := by
  refine mkM (by decide) (Nat.le_of_ble_eq_true rfl) ?_
  intro p e S m args below meth c B X ls hl
  have B : Bd RX8 cX8_comesAlone 2 (some .boolean) d A g D [(cI, .int), (cB, .byte)] p (rmd d) S m args meth c := B
  have hx := B.1
  have hb := B.2.1
  have hd1 : 1 ≤ d := by omega
  have hl : lv_has ls 2 [(0, .ref (a 0)), (1, .int x1)] := hl
  unfold fX8_comesAlone at h
  refine lv_aload_n hx hb dX8_comesAlone_0 rfl (lv_at hl 0 rfl) ?_
  refine fG B X (LnX8_g L z) 2 rfl inTX8 (by decide) kw849 rfl dX8_comesAlone_1 ?_
  refine lv_iconst (v := 4) hx hb dX8_comesAlone_4 (by decide) ?_
  refine lv_icmp_eq (tgt := 28) hx hb dX8_comesAlone_5 (by decide) (fun hc1 => ?_) (fun hc1 => ?_)
  · have h := it h hc1
    refine lv_iconst (v := 1) hx hb dX8_comesAlone_28 (by decide) ?_
    refine lv_goto (tgt := 33) hx hb dX8_comesAlone_29 (by decide) ?_
    exact rZ B X rfl (Option.some.inj h) rfl dX8_comesAlone_33
  · have h := ie h hc1
    refine lv_iload_n hx hb dX8_comesAlone_8 rfl (lv_at hl 1 rfl) ?_
    refine lv_if_ne (tgt := 32) hx hb dX8_comesAlone_9 (by decide) (fun hc2 => ?_) (fun hc2 => ?_)
    · have h := ie h hc2
      refine lv_iconst (v := 0) hx hb dX8_comesAlone_32 (by decide) ?_
      exact rZ B X rfl (Option.some.inj h) rfl dX8_comesAlone_33
    · have h := it h hc2
      refine lv_aload_n hx hb dX8_comesAlone_12 rfl (lv_at hl 0 rfl) ?_
      refine fG B X (LnX8_g L z) 2 rfl inTX8 (by decide) kw849 rfl dX8_comesAlone_13 ?_
      refine lv_iconst (v := 1) hx hb dX8_comesAlone_16 (by decide) ?_
      refine lv_icmp_eq (tgt := 28) hx hb dX8_comesAlone_17 (by decide) (fun hc3 => ?_) (fun hc3 => ?_)
      · have h := it h hc3
        refine lv_iconst (v := 1) hx hb dX8_comesAlone_28 (by decide) ?_
        refine lv_goto (tgt := 33) hx hb dX8_comesAlone_29 (by decide) ?_
        exact rZ B X rfl (Option.some.inj h) rfl dX8_comesAlone_33
      · have h := ie h hc3
        refine lv_aload_n hx hb dX8_comesAlone_20 rfl (lv_at hl 0 rfl) ?_
        refine fG B X (LnX8_g L z) 2 rfl inTX8 (by decide) kw849 rfl dX8_comesAlone_21 ?_
        refine lv_iconst (v := 2) hx hb dX8_comesAlone_24 (by decide) ?_
        refine lv_icmp_ne (tgt := 32) hx hb dX8_comesAlone_25 (by decide) (fun hc4 => ?_) (fun hc4 => ?_)
        · have h := ie h hc4
          refine lv_iconst (v := 0) hx hb dX8_comesAlone_32 (by decide) ?_
          exact rZ B X rfl (Option.some.inj h) rfl dX8_comesAlone_33
        · have h := it h hc4
          refine lv_iconst (v := 1) hx hb dX8_comesAlone_28 (by decide) ?_
          refine lv_goto (tgt := 33) hx hb dX8_comesAlone_29 (by decide) ?_
          exact rZ B X rfl (Option.some.inj h) rfl dX8_comesAlone_33
def fX8_alone (z : SX8) (x1 : Int32) (x2 : Int32) : Option SX8 :=
    (fX8_comesAlone z x1).bind fun q1 =>
    if q1 = 0 then (some z) else
    (if x1 = 0 then (if x1 = 0 then ((fX8_come z x2 (-1)).bind fun q9 =>
    some q9) else
    ((fX8_come z x2 x2).bind fun q8 =>
    some q8)) else
    (if x1 = 0 then ((fX8_come z (-1) (-1)).bind fun q6 =>
    some q6) else
    ((fX8_come z (-1) x2).bind fun q5 =>
    some q5)))
set_option maxRecDepth 100000 in
set_option maxHeartbeats 4000000 in
theorem tX8_alone {a q : Nat → Nat} {wf : SX8 → va_W} (L : LnX8 a q cI cB wf) {d : Nat} (hd : 2 ≤ d) {z : SX8} {x1 x2 : Int32} {q : SX8} (h : fX8_alone z x1 x2 = some q) : Ct l yX8_alone cX8_alone 3 none d A g D [(cI, .int), (cB, .byte)] [.ref (a 0), .int x1, .int x2] (wf z) (QV A D (wf q)) := by
  refine mkM (by decide) (Nat.le_of_ble_eq_true rfl) ?_
  intro p e S m args below meth c B X ls hl
  have B : Bd RX8 cX8_alone 3 none d A g D [(cI, .int), (cB, .byte)] p (rmd d) S m args meth c := B
  have hx := B.1
  have hb := B.2.1
  have hd1 : 1 ≤ d := by omega
  have hl : lv_has ls 3 [(0, .ref (a 0)), (1, .int x1), (2, .int x2)] := hl
  unfold fX8_alone at h
  refine lv_aload_n hx hb dX8_alone_0 rfl (lv_at hl 0 rfl) ?_
  refine lv_iload_n hx hb dX8_alone_1 rfl (lv_at hl 1 rfl) ?_
  obtain ⟨q1, h1, h⟩ := bs h
  refine kI X (cV (As := [.int x1]) (rest := []) B X (tX8_comesAlone (d := d - 1) L (by omega) h1) mfX8_comesAlone kw1183 (by omega) (LnX8_g L z) rfl rfl (Nat.le_of_ble_eq_true rfl) hl.1 ⟨Nat.zero_le _, Nat.zero_le _⟩ dX8_alone_2) (fun H locs X => ?_)
  have X : Hx A D S.heap (wf z) H locs := X
  refine lv_if_eq (tgt := 30) hx hb dX8_alone_5 (by decide) (fun hc2 => ?_) (fun hc2 => ?_)
  · have h := it h hc2
    exact rV B X (congrArg wf (Option.some.inj h)) dX8_alone_30
  · have h := ie h hc2
    refine lv_aload_n hx hb dX8_alone_8 rfl (lv_at hl 0 rfl) ?_
    refine lv_iload_n hx hb dX8_alone_9 rfl (lv_at hl 1 rfl) ?_
    refine lv_if_ne (tgt := 17) hx hb dX8_alone_10 (by decide) (fun hc3 => ?_) (fun hc3 => ?_)
    · have h := ie h hc3
      refine lv_iconst (v := (-1)) hx hb dX8_alone_17 (by decide) ?_
      refine lv_iload_n hx hb dX8_alone_18 rfl (lv_at hl 1 rfl) ?_
      refine lv_if_ne (tgt := 26) hx hb dX8_alone_19 (by decide) (fun hc4 => ?_) (fun hc4 => ?_)
      · have h := ie h hc4
        refine lv_iload_n hx hb dX8_alone_26 rfl (lv_at hl 2 rfl) ?_
        obtain ⟨q5, h5, h⟩ := bs h
        refine kV X (cV (As := [.int (-1), .int x2]) (rest := []) B X (tX8_come (d := d - 1) L (by omega) h5) mfX8_come kw1175 (by omega) (LnX8_g L z) rfl rfl (Nat.le_of_ble_eq_true rfl) hl.1 ⟨Nat.zero_le _, Nat.zero_le _⟩ dX8_alone_27) (fun H locs X => ?_)
        have X : Hx A D S.heap (wf q5) H locs := X
        exact rV B X (congrArg wf (Option.some.inj h)) dX8_alone_30
      · have h := it h hc4
        refine lv_iconst (v := (-1)) hx hb dX8_alone_22 (by decide) ?_
        refine lv_goto (tgt := 27) hx hb dX8_alone_23 (by decide) ?_
        obtain ⟨q6, h6, h⟩ := bs h
        refine kV X (cV (As := [.int (-1), .int (-1)]) (rest := []) B X (tX8_come (d := d - 1) L (by omega) h6) mfX8_come kw1175 (by omega) (LnX8_g L z) rfl rfl (Nat.le_of_ble_eq_true rfl) hl.1 ⟨Nat.zero_le _, Nat.zero_le _⟩ dX8_alone_27) (fun H locs X => ?_)
        have X : Hx A D S.heap (wf q6) H locs := X
        exact rV B X (congrArg wf (Option.some.inj h)) dX8_alone_30
    · have h := it h hc3
      refine lv_iload_n hx hb dX8_alone_13 rfl (lv_at hl 2 rfl) ?_
      refine lv_goto (tgt := 18) hx hb dX8_alone_14 (by decide) ?_
      refine lv_iload_n hx hb dX8_alone_18 rfl (lv_at hl 1 rfl) ?_
      refine lv_if_ne (tgt := 26) hx hb dX8_alone_19 (by decide) (fun hc7 => ?_) (fun hc7 => ?_)
      · have h := ie h hc7
        refine lv_iload_n hx hb dX8_alone_26 rfl (lv_at hl 2 rfl) ?_
        obtain ⟨q8, h8, h⟩ := bs h
        refine kV X (cV (As := [.int x2, .int x2]) (rest := []) B X (tX8_come (d := d - 1) L (by omega) h8) mfX8_come kw1175 (by omega) (LnX8_g L z) rfl rfl (Nat.le_of_ble_eq_true rfl) hl.1 ⟨Nat.zero_le _, Nat.zero_le _⟩ dX8_alone_27) (fun H locs X => ?_)
        have X : Hx A D S.heap (wf q8) H locs := X
        exact rV B X (congrArg wf (Option.some.inj h)) dX8_alone_30
      · have h := it h hc7
        refine lv_iconst (v := (-1)) hx hb dX8_alone_22 (by decide) ?_
        refine lv_goto (tgt := 27) hx hb dX8_alone_23 (by decide) ?_
        obtain ⟨q9, h9, h⟩ := bs h
        refine kV X (cV (As := [.int x2, .int (-1)]) (rest := []) B X (tX8_come (d := d - 1) L (by omega) h9) mfX8_come kw1175 (by omega) (LnX8_g L z) rfl rfl (Nat.le_of_ble_eq_true rfl) hl.1 ⟨Nat.zero_le _, Nat.zero_le _⟩ dX8_alone_27) (fun H locs X => ?_)
        have X : Hx A D S.heap (wf q9) H locs := X
        exact rV B X (congrArg wf (Option.some.inj h)) dX8_alone_30
def fX8_meet (z : SX8) (x1 : Int32) (x2 : Int32) : Option SX8 :=
    if (z.1 2) = 3 then ((fX8_isIn (z.1 16) x1).bind fun q4 =>
    if q4 = 0 then ((fX8_come ((upd z.1 16 ((z.1 16) ||| (1 <<< (x1 &&& 31)))), z.2.1, z.2.2) x1 (-1)).bind fun q6 =>
    some q6) else
    (some z)) else
    (if (z.1 2) = 2 then (some z) else
    ((fX8_come z x1 x2).bind fun q3 =>
    some q3))
set_option maxRecDepth 100000 in
set_option maxHeartbeats 4000000 in
theorem tX8_meet {a q : Nat → Nat} {wf : SX8 → va_W} (L : LnX8 a q cI cB wf) {d : Nat} (hd : 2 ≤ d) {z : SX8} {x1 x2 : Int32} {q : SX8} (h : fX8_meet z x1 x2 = some q) : Ct l yX8_meet cX8_meet 3 none d A g D [(cI, .int), (cB, .byte)] [.ref (a 0), .int x1, .int x2] (wf z) (QV A D (wf q)) := by
  refine mkM (by decide) (Nat.le_of_ble_eq_true rfl) ?_
  intro p e S m args below meth c B X ls hl
  have B : Bd RX8 cX8_meet 3 none d A g D [(cI, .int), (cB, .byte)] p (rmd d) S m args meth c := B
  have hx := B.1
  have hb := B.2.1
  have hd1 : 1 ≤ d := by omega
  have hl : lv_has ls 3 [(0, .ref (a 0)), (1, .int x1), (2, .int x2)] := hl
  unfold fX8_meet at h
  refine lv_aload_n hx hb dX8_meet_0 rfl (lv_at hl 0 rfl) ?_
  refine fG B X (LnX8_g L z) 2 rfl inTX8 (by decide) kw849 rfl dX8_meet_1 ?_
  refine lv_iconst (v := 3) hx hb dX8_meet_4 (by decide) ?_
  refine lv_icmp_ne (tgt := 40) hx hb dX8_meet_5 (by decide) (fun hc1 => ?_) (fun hc1 => ?_)
  · have h := ie h hc1
    refine lv_aload_n hx hb dX8_meet_40 rfl (lv_at hl 0 rfl) ?_
    refine fG B X (LnX8_g L z) 2 rfl inTX8 (by decide) kw849 rfl dX8_meet_41 ?_
    refine lv_iconst (v := 2) hx hb dX8_meet_44 (by decide) ?_
    refine lv_icmp_eq (tgt := 54) hx hb dX8_meet_45 (by decide) (fun hc2 => ?_) (fun hc2 => ?_)
    · have h := it h hc2
      exact rV B X (congrArg wf (Option.some.inj h)) dX8_meet_54
    · have h := ie h hc2
      refine lv_aload_n hx hb dX8_meet_48 rfl (lv_at hl 0 rfl) ?_
      refine lv_iload_n hx hb dX8_meet_49 rfl (lv_at hl 1 rfl) ?_
      refine lv_iload_n hx hb dX8_meet_50 rfl (lv_at hl 2 rfl) ?_
      obtain ⟨q3, h3, h⟩ := bs h
      refine kV X (cV (As := [.int x1, .int x2]) (rest := []) B X (tX8_come (d := d - 1) L (by omega) h3) mfX8_come kw1175 (by omega) (LnX8_g L z) rfl rfl (Nat.le_of_ble_eq_true rfl) hl.1 ⟨Nat.zero_le _, Nat.zero_le _⟩ dX8_meet_51) (fun H locs X => ?_)
      have X : Hx A D S.heap (wf q3) H locs := X
      exact rV B X (congrArg wf (Option.some.inj h)) dX8_meet_54
  · have h := it h hc1
    refine lv_aload_n hx hb dX8_meet_8 rfl (lv_at hl 0 rfl) ?_
    refine fG B X (LnX8_g L z) 16 rfl inTX8 (by decide) kw863 rfl dX8_meet_9 ?_
    refine lv_iload_n hx hb dX8_meet_12 rfl (lv_at hl 1 rfl) ?_
    obtain ⟨q4, h4, h⟩ := bs h
    refine kI X (cS (As := [.int (z.1 16), .int x1]) (rest := []) B X (tX8_isIn (d := d - 1) (by omega) h4) msX8_isIn kw1164 (by omega) rfl (Nat.le_of_ble_eq_true rfl) hl.1 ⟨Nat.zero_le _, Nat.zero_le _⟩ dX8_meet_13) (fun H locs X => ?_)
    have X : Hx A D S.heap (wf z) H locs := X
    refine lv_if_ne (tgt := 54) hx hb dX8_meet_16 (by decide) (fun hc5 => ?_) (fun hc5 => ?_)
    · have h := ie h hc5
      exact rV B X (congrArg wf (Option.some.inj h)) dX8_meet_54
    · have h := it h hc5
      refine lv_aload_n hx hb dX8_meet_19 rfl (lv_at hl 0 rfl) ?_
      refine lv_dup hx hb dX8_meet_20 rfl ?_
      refine fG B X (LnX8_g L z) 16 rfl inTX8 (by decide) kw863 rfl dX8_meet_21 ?_
      refine lv_iconst (v := 1) hx hb dX8_meet_24 (by decide) ?_
      refine lv_iload_n hx hb dX8_meet_25 rfl (lv_at hl 1 rfl) ?_
      refine lv_ishl hx hb dX8_meet_26 ?_
      refine lv_ior hx hb dX8_meet_27 ?_
      refine fP tyX8 B X (LnX8_g L z) 16 (LnX8_i16 L z _) rfl inTX8 tyX8_ok nmX8 (by decide) kw863 rfl rfl rfl rfl (Nat.le_of_ble_eq_true rfl) dX8_meet_28 (fun H locs X => ?_)
      have X : Hx A D S.heap (wf ((upd z.1 16 ((z.1 16) ||| (1 <<< (x1 &&& 31)))), z.2.1, z.2.2)) H locs := X
      refine lv_aload_n hx hb dX8_meet_31 rfl (lv_at hl 0 rfl) ?_
      refine lv_iload_n hx hb dX8_meet_32 rfl (lv_at hl 1 rfl) ?_
      refine lv_iconst (v := (-1)) hx hb dX8_meet_33 (by decide) ?_
      obtain ⟨q6, h6, h⟩ := bs h
      refine kV X (cV (As := [.int x1, .int (-1)]) (rest := []) B X (tX8_come (d := d - 1) L (by omega) h6) mfX8_come kw1175 (by omega) (LnX8_g L ((upd z.1 16 ((z.1 16) ||| (1 <<< (x1 &&& 31)))), z.2.1, z.2.2)) rfl rfl (Nat.le_of_ble_eq_true rfl) hl.1 ⟨Nat.zero_le _, Nat.zero_le _⟩ dX8_meet_34) (fun H locs X => ?_)
      have X : Hx A D S.heap (wf q6) H locs := X
      refine lv_goto (tgt := 54) hx hb dX8_meet_37 (by decide) ?_
      exact rV B X (congrArg wf (Option.some.inj h)) dX8_meet_54
def fX8_inMemory (z : SX8) (x1 : Int32) : Option SX8 :=
    if x1 ≤ (z.1 20) then (some ((upd z.1 20 (z.1 20)), z.2.1, z.2.2)) else
    (some ((upd z.1 20 x1), z.2.1, z.2.2))
set_option maxRecDepth 100000 in
set_option maxHeartbeats 4000000 in
theorem tX8_inMemory {a q : Nat → Nat} {wf : SX8 → va_W} (L : LnX8 a q cI cB wf) {d : Nat} (hd : 1 ≤ d) {z : SX8} {x1 : Int32} {q : SX8} (h : fX8_inMemory z x1 = some q) : Ct l yX8_inMemory cX8_inMemory 2 none d A g D [(cI, .int), (cB, .byte)] [.ref (a 0), .int x1] (wf z) (QV A D (wf q)) := by
  refine mkM (by decide) (Nat.le_of_ble_eq_true rfl) ?_
  intro p e S m args below meth c B X ls hl
  have B : Bd RX8 cX8_inMemory 2 none d A g D [(cI, .int), (cB, .byte)] p (rmd d) S m args meth c := B
  have hx := B.1
  have hb := B.2.1
  have hd1 : 1 ≤ d := by omega
  have hl : lv_has ls 2 [(0, .ref (a 0)), (1, .int x1)] := hl
  unfold fX8_inMemory at h
  refine lv_aload_n hx hb dX8_inMemory_0 rfl (lv_at hl 0 rfl) ?_
  refine lv_iload_n hx hb dX8_inMemory_1 rfl (lv_at hl 1 rfl) ?_
  refine lv_aload_n hx hb dX8_inMemory_2 rfl (lv_at hl 0 rfl) ?_
  refine fG B X (LnX8_g L z) 20 rfl inTX8 (by decide) kw867 rfl dX8_inMemory_3 ?_
  refine lv_icmp_le (tgt := 13) hx hb dX8_inMemory_6 (by decide) (fun hc1 => ?_) (fun hc1 => ?_)
  · have h := it h hc1
    refine lv_aload_n hx hb dX8_inMemory_13 rfl (lv_at hl 0 rfl) ?_
    refine fG B X (LnX8_g L z) 20 rfl inTX8 (by decide) kw867 rfl dX8_inMemory_14 ?_
    refine fP tyX8 B X (LnX8_g L z) 20 (LnX8_i20 L z _) rfl inTX8 tyX8_ok nmX8 (by decide) kw867 rfl rfl rfl rfl (Nat.le_of_ble_eq_true rfl) dX8_inMemory_17 (fun H locs X => ?_)
    have X : Hx A D S.heap (wf ((upd z.1 20 (z.1 20)), z.2.1, z.2.2)) H locs := X
    exact rV B X (congrArg wf (Option.some.inj h)) dX8_inMemory_20
  · have h := ie h hc1
    refine lv_iload_n hx hb dX8_inMemory_9 rfl (lv_at hl 1 rfl) ?_
    refine lv_goto (tgt := 17) hx hb dX8_inMemory_10 (by decide) ?_
    refine fP tyX8 B X (LnX8_g L z) 20 (LnX8_i20 L z _) rfl inTX8 tyX8_ok nmX8 (by decide) kw867 rfl rfl rfl rfl (Nat.le_of_ble_eq_true rfl) dX8_inMemory_17 (fun H locs X => ?_)
    have X : Hx A D S.heap (wf ((upd z.1 20 x1), z.2.1, z.2.2)) H locs := X
    exact rV B X (congrArg wf (Option.some.inj h)) dX8_inMemory_20
def fX8_meetAll_b46 (k3 : Int32 → Int32 → Int32 → Int32 → SX8 → Option SX8) (x1 : Int32) (x2 : Int32) (x3 : Int32) (x4 : Int32) (y0 : Int32) (z : SX8) : Option SX8 :=
    if y0 = 0 then (if y0 = 0 then (k3 x1 x2 x3 (x4 + 1) z) else
    ((fX8_meet z x2 x4).bind fun q3 =>
    k3 x1 x2 x3 (x4 + 1) q3)) else
    (if x1 = 0 then ((fX8_meet z x4 x2).bind fun q7 =>
    k3 x1 x2 x3 (x4 + 1) q7) else
    (if y0 = 0 then (k3 x1 x2 x3 (x4 + 1) z) else
    ((fX8_meet z x2 x4).bind fun q6 =>
    k3 x1 x2 x3 (x4 + 1) q6)))
set_option maxRecDepth 100000 in
set_option maxHeartbeats 4000000 in
theorem tX8_meetAll_b46 {a q : Nat → Nat} {wf : SX8 → va_W} (L : LnX8 a q cI cB wf) {d : Nat} (hd : 3 ≤ d) (B : Bd RX8 cX8_meetAll 6 none d A g D [(cI, .int), (cB, .byte)] p R S m args meth c) {q : SX8} {k3 : Int32 → Int32 → Int32 → Int32 → SX8 → Option SX8} (hk3 : ∀ (x1 : Int32) (x2 : Int32) (x3 : Int32) (x4 : Int32) (z : SX8) (H : Heap) (locs : List Loc) (ls : Array Slot), Hx A D S.heap (wf z) H locs → lv_has ls 6 [(0, .ref (a 0)), (1, .int x1), (2, .int x2), (3, .int x3), (4, .int x4)] → k3 x1 x2 x3 x4 z = some q → W p l e R S m args below meth c H locs 0 0 (MQ below (QV A D (wf q)) args S 0 0 A) (F0 m 3 ls [])) : ∀ (x1 : Int32) (x2 : Int32) (x3 : Int32) (x4 : Int32) (y0 : Int32) (z : SX8) (H : Heap) (locs : List Loc) (ls : Array Slot), Hx A D S.heap (wf z) H locs → lv_has ls 6 [(0, .ref (a 0)), (1, .int x1), (2, .int x2), (3, .int x3), (4, .int x4)] → fX8_meetAll_b46 k3 x1 x2 x3 x4 y0 z = some q → W p l e R S m args below meth c H locs 0 0 (MQ below (QV A D (wf q)) args S 0 0 A) (F0 m 46 ls [.int y0]) := by
  have hx := B.1
  have hb := B.2.1
  have hd1 : 1 ≤ d := by omega
  intro x1 x2 x3 x4 y0 z H locs ls X hl h
  unfold fX8_meetAll_b46 at h
  refine lv_istore (lv' := [(5, .int y0), (0, .ref (a 0)), (1, .int x1), (2, .int x2), (3, .int x3), (4, .int x4)]) hx hb dX8_meetAll_46 hl (by decide) rfl (fun ls hl => ?_)
  refine lv_iload hx hb dX8_meetAll_48 (lv_at hl 0 rfl) ?_
  refine lv_if_eq (tgt := 67) hx hb dX8_meetAll_50 (by decide) (fun hc1 => ?_) (fun hc1 => ?_)
  · have h := it h hc1
    refine lv_iload hx hb dX8_meetAll_67 (lv_at hl 0 rfl) ?_
    refine lv_if_eq (tgt := 79) hx hb dX8_meetAll_69 (by decide) (fun hc2 => ?_) (fun hc2 => ?_)
    · have h := it h hc2
      refine lv_iinc (v := x4 + 1) (lv' := [(4, .int (x4 + 1)), (5, .int y0), (0, .ref (a 0)), (1, .int x1), (2, .int x2), (3, .int x3)]) hx hb dX8_meetAll_79 hl (k := 5) rfl rfl (by decide) rfl (fun ls hl => ?_)
      refine lv_goto (tgt := 3) hx hb dX8_meetAll_82 (by decide) ?_
      exact hk3 x1 x2 x3 (x4 + 1) z _ _ _ X (lv_sub hl [2, 3, 4, 5, 0] rfl) h
    · have h := ie h hc2
      refine lv_aload_n hx hb dX8_meetAll_72 rfl (lv_at hl 1 rfl) ?_
      refine lv_iload_n hx hb dX8_meetAll_73 rfl (lv_at hl 3 rfl) ?_
      refine lv_iload hx hb dX8_meetAll_74 (lv_at hl 5 rfl) ?_
      obtain ⟨q3, h3, h⟩ := bs h
      refine kV X (cV (As := [.int x2, .int x4]) (rest := []) B X (tX8_meet (d := d - 1) L (by omega) h3) mfX8_meet kw1171 (by omega) (LnX8_g L z) rfl rfl (Nat.le_of_ble_eq_true rfl) hl.1 ⟨Nat.zero_le _, Nat.zero_le _⟩ dX8_meetAll_76) (fun H locs X => ?_)
      have X : Hx A D S.heap (wf q3) H locs := X
      refine lv_iinc (v := x4 + 1) (lv' := [(4, .int (x4 + 1)), (5, .int y0), (0, .ref (a 0)), (1, .int x1), (2, .int x2), (3, .int x3)]) hx hb dX8_meetAll_79 hl (k := 5) rfl rfl (by decide) rfl (fun ls hl => ?_)
      refine lv_goto (tgt := 3) hx hb dX8_meetAll_82 (by decide) ?_
      exact hk3 x1 x2 x3 (x4 + 1) q3 _ _ _ X (lv_sub hl [2, 3, 4, 5, 0] rfl) h
  · have h := ie h hc1
    refine lv_iload_n hx hb dX8_meetAll_53 rfl (lv_at hl 2 rfl) ?_
    refine lv_if_ne (tgt := 67) hx hb dX8_meetAll_54 (by decide) (fun hc4 => ?_) (fun hc4 => ?_)
    · have h := ie h hc4
      refine lv_iload hx hb dX8_meetAll_67 (lv_at hl 0 rfl) ?_
      refine lv_if_eq (tgt := 79) hx hb dX8_meetAll_69 (by decide) (fun hc5 => ?_) (fun hc5 => ?_)
      · have h := it h hc5
        refine lv_iinc (v := x4 + 1) (lv' := [(4, .int (x4 + 1)), (5, .int y0), (0, .ref (a 0)), (1, .int x1), (2, .int x2), (3, .int x3)]) hx hb dX8_meetAll_79 hl (k := 5) rfl rfl (by decide) rfl (fun ls hl => ?_)
        refine lv_goto (tgt := 3) hx hb dX8_meetAll_82 (by decide) ?_
        exact hk3 x1 x2 x3 (x4 + 1) z _ _ _ X (lv_sub hl [2, 3, 4, 5, 0] rfl) h
      · have h := ie h hc5
        refine lv_aload_n hx hb dX8_meetAll_72 rfl (lv_at hl 1 rfl) ?_
        refine lv_iload_n hx hb dX8_meetAll_73 rfl (lv_at hl 3 rfl) ?_
        refine lv_iload hx hb dX8_meetAll_74 (lv_at hl 5 rfl) ?_
        obtain ⟨q6, h6, h⟩ := bs h
        refine kV X (cV (As := [.int x2, .int x4]) (rest := []) B X (tX8_meet (d := d - 1) L (by omega) h6) mfX8_meet kw1171 (by omega) (LnX8_g L z) rfl rfl (Nat.le_of_ble_eq_true rfl) hl.1 ⟨Nat.zero_le _, Nat.zero_le _⟩ dX8_meetAll_76) (fun H locs X => ?_)
        have X : Hx A D S.heap (wf q6) H locs := X
        refine lv_iinc (v := x4 + 1) (lv' := [(4, .int (x4 + 1)), (5, .int y0), (0, .ref (a 0)), (1, .int x1), (2, .int x2), (3, .int x3)]) hx hb dX8_meetAll_79 hl (k := 5) rfl rfl (by decide) rfl (fun ls hl => ?_)
        refine lv_goto (tgt := 3) hx hb dX8_meetAll_82 (by decide) ?_
        exact hk3 x1 x2 x3 (x4 + 1) q6 _ _ _ X (lv_sub hl [2, 3, 4, 5, 0] rfl) h
    · have h := it h hc4
      refine lv_aload_n hx hb dX8_meetAll_57 rfl (lv_at hl 1 rfl) ?_
      refine lv_iload hx hb dX8_meetAll_58 (lv_at hl 5 rfl) ?_
      refine lv_iload_n hx hb dX8_meetAll_60 rfl (lv_at hl 3 rfl) ?_
      obtain ⟨q7, h7, h⟩ := bs h
      refine kV X (cV (As := [.int x4, .int x2]) (rest := []) B X (tX8_meet (d := d - 1) L (by omega) h7) mfX8_meet kw1171 (by omega) (LnX8_g L z) rfl rfl (Nat.le_of_ble_eq_true rfl) hl.1 ⟨Nat.zero_le _, Nat.zero_le _⟩ dX8_meetAll_61) (fun H locs X => ?_)
      have X : Hx A D S.heap (wf q7) H locs := X
      refine lv_goto (tgt := 79) hx hb dX8_meetAll_64 (by decide) ?_
      refine lv_iinc (v := x4 + 1) (lv' := [(4, .int (x4 + 1)), (5, .int y0), (0, .ref (a 0)), (1, .int x1), (2, .int x2), (3, .int x3)]) hx hb dX8_meetAll_79 hl (k := 5) rfl rfl (by decide) rfl (fun ls hl => ?_)
      refine lv_goto (tgt := 3) hx hb dX8_meetAll_82 (by decide) ?_
      exact hk3 x1 x2 x3 (x4 + 1) q7 _ _ _ X (lv_sub hl [2, 3, 4, 5, 0] rfl) h
def fX8_meetAll_b45 (k3 : Int32 → Int32 → Int32 → Int32 → SX8 → Option SX8) (x1 : Int32) (x2 : Int32) (x3 : Int32) (x4 : Int32) (z : SX8) : Option SX8 :=
    fX8_meetAll_b46 k3 x1 x2 x3 x4 0 z
set_option maxRecDepth 100000 in
set_option maxHeartbeats 4000000 in
theorem tX8_meetAll_b45 {a q : Nat → Nat} {wf : SX8 → va_W} (L : LnX8 a q cI cB wf) {d : Nat} (hd : 3 ≤ d) (B : Bd RX8 cX8_meetAll 6 none d A g D [(cI, .int), (cB, .byte)] p R S m args meth c) {q : SX8} {k3 : Int32 → Int32 → Int32 → Int32 → SX8 → Option SX8} (hk3 : ∀ (x1 : Int32) (x2 : Int32) (x3 : Int32) (x4 : Int32) (z : SX8) (H : Heap) (locs : List Loc) (ls : Array Slot), Hx A D S.heap (wf z) H locs → lv_has ls 6 [(0, .ref (a 0)), (1, .int x1), (2, .int x2), (3, .int x3), (4, .int x4)] → k3 x1 x2 x3 x4 z = some q → W p l e R S m args below meth c H locs 0 0 (MQ below (QV A D (wf q)) args S 0 0 A) (F0 m 3 ls [])) : ∀ (x1 : Int32) (x2 : Int32) (x3 : Int32) (x4 : Int32) (z : SX8) (H : Heap) (locs : List Loc) (ls : Array Slot), Hx A D S.heap (wf z) H locs → lv_has ls 6 [(0, .ref (a 0)), (1, .int x1), (2, .int x2), (3, .int x3), (4, .int x4)] → fX8_meetAll_b45 k3 x1 x2 x3 x4 z = some q → W p l e R S m args below meth c H locs 0 0 (MQ below (QV A D (wf q)) args S 0 0 A) (F0 m 45 ls []) := by
  have hx := B.1
  have hb := B.2.1
  have hd1 : 1 ≤ d := by omega
  intro x1 x2 x3 x4 z H locs ls X hl h
  unfold fX8_meetAll_b45 at h
  refine lv_iconst (v := 0) hx hb dX8_meetAll_45 (by decide) ?_
  exact tX8_meetAll_b46 L hd B hk3 x1 x2 x3 x4 0 z _ _ _ X (lv_sub hl [0, 1, 2, 3, 4] rfl) h
def fX8_meetAll_b3 : Nat → Int32 → Int32 → Int32 → Int32 → SX8 → Option SX8
  | 0, _, _, _, _, _ => none
  | n + 1, x1, x2, x3, x4, z =>
    if x1 < 0 ∨ 2 ≤ x1.toNatClampNeg then none else
    (if ((z.2.2 4) x1.toNatClampNeg) ≤ x4 then (some z) else
    ((fX8_isIn x3 x4).bind fun q3 =>
    if q3 = 0 then (fX8_meetAll_b45 (fX8_meetAll_b3 n) x1 x2 x3 x4 z) else
    ((fX8_keyAt z x1 x4).bind fun q5 =>
    (fX8_keyAt z (1 - x1) x2).bind fun q6 =>
    if q5 = q6 then (fX8_meetAll_b46 (fX8_meetAll_b3 n) x1 x2 x3 x4 1 z) else
    (fX8_meetAll_b45 (fX8_meetAll_b3 n) x1 x2 x3 x4 z))))
set_option maxRecDepth 100000 in
set_option maxHeartbeats 4000000 in
theorem tX8_meetAll_b3 {a q : Nat → Nat} {wf : SX8 → va_W} (L : LnX8 a q cI cB wf) {d : Nat} (hd : 3 ≤ d) (B : Bd RX8 cX8_meetAll 6 none d A g D [(cI, .int), (cB, .byte)] p R S m args meth c) {q : SX8} : ∀ (n : Nat) (x1 : Int32) (x2 : Int32) (x3 : Int32) (x4 : Int32) (z : SX8) (H : Heap) (locs : List Loc) (ls : Array Slot), Hx A D S.heap (wf z) H locs → lv_has ls 6 [(0, .ref (a 0)), (1, .int x1), (2, .int x2), (3, .int x3), (4, .int x4)] → fX8_meetAll_b3 n x1 x2 x3 x4 z = some q → W p l e R S m args below meth c H locs 0 0 (MQ below (QV A D (wf q)) args S 0 0 A) (F0 m 3 ls []) := by
  have hx := B.1
  have hb := B.2.1
  have hd1 : 1 ≤ d := by omega
  intro n
  induction n with
  | zero =>
    intro x1 x2 x3 x4 z H locs ls X hl h
    cases h
  | succ n ih =>
    intro x1 x2 x3 x4 z H locs ls X hl h
    rw [fX8_meetAll_b3] at h
    refine lv_iload hx hb dX8_meetAll_3 (lv_at hl 4 rfl) ?_
    refine lv_aload_n hx hb dX8_meetAll_5 rfl (lv_at hl 0 rfl) ?_
    refine fG B X (LnX8_g L z) 4 rfl inTX8 (by decide) kw851 rfl dX8_meetAll_6 ?_
    refine lv_iload_n hx hb dX8_meetAll_9 rfl (lv_at hl 1 rfl) ?_
    by_cases hc1 : (x1 < 0 ∨ 2 ≤ x1.toNatClampNeg)
    · cases it h hc1
    have h := ie h hc1
    refine aG B X (LnX8_a4 L z) 0 rfl hc1 dX8_meetAll_10 ?_
    refine lv_icmp_ge (tgt := 85) hx hb dX8_meetAll_11 (by decide) (fun hc2 => ?_) (fun hc2 => ?_)
    · have h := it h hc2
      exact rV B X (congrArg wf (Option.some.inj h)) dX8_meetAll_85
    · have h := ie h hc2
      refine lv_iload_n hx hb dX8_meetAll_14 rfl (lv_at hl 3 rfl) ?_
      refine lv_iload hx hb dX8_meetAll_15 (lv_at hl 4 rfl) ?_
      obtain ⟨q3, h3, h⟩ := bs h
      refine kI X (cS (As := [.int x3, .int x4]) (rest := []) B X (tX8_isIn (d := d - 1) (by omega) h3) msX8_isIn kw1164 (by omega) rfl (Nat.le_of_ble_eq_true rfl) hl.1 ⟨Nat.zero_le _, Nat.zero_le _⟩ dX8_meetAll_17) (fun H locs X => ?_)
      have X : Hx A D S.heap (wf z) H locs := X
      refine lv_if_eq (tgt := 45) hx hb dX8_meetAll_20 (by decide) (fun hc4 => ?_) (fun hc4 => ?_)
      · have h := it h hc4
        exact tX8_meetAll_b45 L hd B ih x1 x2 x3 x4 z _ _ _ X (lv_sub hl [0, 1, 2, 3, 4] rfl) h
      · have h := ie h hc4
        refine lv_aload_n hx hb dX8_meetAll_23 rfl (lv_at hl 0 rfl) ?_
        refine lv_iload_n hx hb dX8_meetAll_24 rfl (lv_at hl 1 rfl) ?_
        refine lv_iload hx hb dX8_meetAll_25 (lv_at hl 4 rfl) ?_
        obtain ⟨q5, h5, h⟩ := bs h
        refine kI X (cV (As := [.int x1, .int x4]) (rest := []) B X (tX8_keyAt (d := d - 1) L (by omega) h5) mfX8_keyAt kw1090 (by omega) (LnX8_g L z) rfl rfl (Nat.le_of_ble_eq_true rfl) hl.1 ⟨Nat.zero_le _, Nat.zero_le _⟩ dX8_meetAll_27) (fun H locs X => ?_)
        have X : Hx A D S.heap (wf z) H locs := X
        refine lv_aload_n hx hb dX8_meetAll_30 rfl (lv_at hl 0 rfl) ?_
        refine lv_iconst (v := 1) hx hb dX8_meetAll_31 (by decide) ?_
        refine lv_iload_n hx hb dX8_meetAll_32 rfl (lv_at hl 1 rfl) ?_
        refine lv_isub hx hb dX8_meetAll_33 ?_
        refine lv_iload_n hx hb dX8_meetAll_34 rfl (lv_at hl 2 rfl) ?_
        obtain ⟨q6, h6, h⟩ := bs h
        refine kI X (cV (As := [.int (1 - x1), .int x2]) (rest := [.int q5]) B X (tX8_keyAt (d := d - 1) L (by omega) h6) mfX8_keyAt kw1090 (by omega) (LnX8_g L z) rfl rfl (Nat.le_of_ble_eq_true rfl) hl.1 ⟨Nat.zero_le _, Nat.zero_le _⟩ dX8_meetAll_35) (fun H locs X => ?_)
        have X : Hx A D S.heap (wf z) H locs := X
        refine lv_icmp_ne (tgt := 45) hx hb dX8_meetAll_38 (by decide) (fun hc7 => ?_) (fun hc7 => ?_)
        · have h := ie h hc7
          exact tX8_meetAll_b45 L hd B ih x1 x2 x3 x4 z _ _ _ X (lv_sub hl [0, 1, 2, 3, 4] rfl) h
        · have h := it h hc7
          refine lv_iconst (v := 1) hx hb dX8_meetAll_41 (by decide) ?_
          refine lv_goto (tgt := 46) hx hb dX8_meetAll_42 (by decide) ?_
          exact tX8_meetAll_b46 L hd B ih x1 x2 x3 x4 1 z _ _ _ X (lv_sub hl [0, 1, 2, 3, 4] rfl) h
def fX8_meetAll (z : SX8) (x1 : Int32) (x2 : Int32) (x3 : Int32) : Option SX8 :=
    fX8_meetAll_b3 1000 x1 x2 x3 0 z
set_option maxRecDepth 100000 in
set_option maxHeartbeats 4000000 in
theorem tX8_meetAll {a q : Nat → Nat} {wf : SX8 → va_W} (L : LnX8 a q cI cB wf) {d : Nat} (hd : 3 ≤ d) {z : SX8} {x1 x2 x3 : Int32} {q : SX8} (h : fX8_meetAll z x1 x2 x3 = some q) : Ct l yX8_meetAll cX8_meetAll 6 none d A g D [(cI, .int), (cB, .byte)] [.ref (a 0), .int x1, .int x2, .int x3] (wf z) (QV A D (wf q)) := by
  refine mkM (by decide) (Nat.le_of_ble_eq_true rfl) ?_
  intro p e S m args below meth c B X ls hl
  have B : Bd RX8 cX8_meetAll 6 none d A g D [(cI, .int), (cB, .byte)] p (rmd d) S m args meth c := B
  have hx := B.1
  have hb := B.2.1
  have hd1 : 1 ≤ d := by omega
  have hl : lv_has ls 6 [(0, .ref (a 0)), (1, .int x1), (2, .int x2), (3, .int x3)] := hl
  unfold fX8_meetAll at h
  refine lv_iconst (v := 0) hx hb dX8_meetAll_0 (by decide) ?_
  refine lv_istore (lv' := [(4, .int 0), (0, .ref (a 0)), (1, .int x1), (2, .int x2), (3, .int x3)]) hx hb dX8_meetAll_1 hl (by decide) rfl (fun ls hl => ?_)
  exact tX8_meetAll_b3 L hd B 1000 x1 x2 x3 0 z _ _ _ X (lv_sub hl [1, 2, 3, 4, 0] rfl) h
def fX8_aloneOnes_b2 : Nat → Int32 → Int32 → Int32 → SX8 → Option SX8
  | 0, _, _, _, _ => none
  | n + 1, x1, x2, x3, z =>
    if x1 < 0 ∨ 2 ≤ x1.toNatClampNeg then none else
    (if ((z.2.2 4) x1.toNatClampNeg) ≤ x3 then (some z) else
    (if (z.1 15) = 0 then ((fX8_isIn x2 x3).bind fun q4 =>
    if q4 = 0 then (fX8_aloneOnes_b2 n x1 x2 (x3 + 1) z) else
    ((fX8_partnersOf z x1 x3).bind fun q6 =>
    if q6 = 0 then ((fX8_alone z x1 x3).bind fun q8 =>
    fX8_aloneOnes_b2 n x1 x2 (x3 + 1) q8) else
    (fX8_aloneOnes_b2 n x1 x2 (x3 + 1) z))) else
    (some z)))
set_option maxRecDepth 100000 in
set_option maxHeartbeats 4000000 in
theorem tX8_aloneOnes_b2 {a q : Nat → Nat} {wf : SX8 → va_W} (L : LnX8 a q cI cB wf) {d : Nat} (hd : 3 ≤ d) (B : Bd RX8 cX8_aloneOnes 4 none d A g D [(cI, .int), (cB, .byte)] p R S m args meth c) {q : SX8} : ∀ (n : Nat) (x1 : Int32) (x2 : Int32) (x3 : Int32) (z : SX8) (H : Heap) (locs : List Loc) (ls : Array Slot), Hx A D S.heap (wf z) H locs → lv_has ls 4 [(0, .ref (a 0)), (1, .int x1), (2, .int x2), (3, .int x3)] → fX8_aloneOnes_b2 n x1 x2 x3 z = some q → W p l e R S m args below meth c H locs 0 0 (MQ below (QV A D (wf q)) args S 0 0 A) (F0 m 2 ls []) := by
  have hx := B.1
  have hb := B.2.1
  have hd1 : 1 ≤ d := by omega
  intro n
  induction n with
  | zero =>
    intro x1 x2 x3 z H locs ls X hl h
    cases h
  | succ n ih =>
    intro x1 x2 x3 z H locs ls X hl h
    rw [fX8_aloneOnes_b2] at h
    refine lv_iload_n hx hb dX8_aloneOnes_2 rfl (lv_at hl 3 rfl) ?_
    refine lv_aload_n hx hb dX8_aloneOnes_3 rfl (lv_at hl 0 rfl) ?_
    refine fG B X (LnX8_g L z) 4 rfl inTX8 (by decide) kw851 rfl dX8_aloneOnes_4 ?_
    refine lv_iload_n hx hb dX8_aloneOnes_7 rfl (lv_at hl 1 rfl) ?_
    by_cases hc1 : (x1 < 0 ∨ 2 ≤ x1.toNatClampNeg)
    · cases it h hc1
    have h := ie h hc1
    refine aG B X (LnX8_a4 L z) 0 rfl hc1 dX8_aloneOnes_8 ?_
    refine lv_icmp_ge (tgt := 48) hx hb dX8_aloneOnes_9 (by decide) (fun hc2 => ?_) (fun hc2 => ?_)
    · have h := it h hc2
      exact rV B X (congrArg wf (Option.some.inj h)) dX8_aloneOnes_48
    · have h := ie h hc2
      refine lv_aload_n hx hb dX8_aloneOnes_12 rfl (lv_at hl 0 rfl) ?_
      refine fG B X (LnX8_g L z) 15 rfl inTX8 (by decide) kw862 rfl dX8_aloneOnes_13 ?_
      refine lv_if_ne (tgt := 48) hx hb dX8_aloneOnes_16 (by decide) (fun hc3 => ?_) (fun hc3 => ?_)
      · have h := ie h hc3
        exact rV B X (congrArg wf (Option.some.inj h)) dX8_aloneOnes_48
      · have h := it h hc3
        refine lv_iload_n hx hb dX8_aloneOnes_19 rfl (lv_at hl 2 rfl) ?_
        refine lv_iload_n hx hb dX8_aloneOnes_20 rfl (lv_at hl 3 rfl) ?_
        obtain ⟨q4, h4, h⟩ := bs h
        refine kI X (cS (As := [.int x2, .int x3]) (rest := []) B X (tX8_isIn (d := d - 1) (by omega) h4) msX8_isIn kw1164 (by omega) rfl (Nat.le_of_ble_eq_true rfl) hl.1 ⟨Nat.zero_le _, Nat.zero_le _⟩ dX8_aloneOnes_21) (fun H locs X => ?_)
        have X : Hx A D S.heap (wf z) H locs := X
        refine lv_if_eq (tgt := 42) hx hb dX8_aloneOnes_24 (by decide) (fun hc5 => ?_) (fun hc5 => ?_)
        · have h := it h hc5
          refine lv_iinc (v := x3 + 1) (lv' := [(3, .int (x3 + 1)), (0, .ref (a 0)), (1, .int x1), (2, .int x2)]) hx hb dX8_aloneOnes_42 hl (k := 3) rfl rfl (by decide) rfl (fun ls hl => ?_)
          refine lv_goto (tgt := 2) hx hb dX8_aloneOnes_45 (by decide) ?_
          exact ih x1 x2 (x3 + 1) z _ _ _ X (lv_sub hl [1, 2, 3, 0] rfl) h
        · have h := ie h hc5
          refine lv_aload_n hx hb dX8_aloneOnes_27 rfl (lv_at hl 0 rfl) ?_
          refine lv_iload_n hx hb dX8_aloneOnes_28 rfl (lv_at hl 1 rfl) ?_
          refine lv_iload_n hx hb dX8_aloneOnes_29 rfl (lv_at hl 3 rfl) ?_
          obtain ⟨q6, h6, h⟩ := bs h
          refine kI X (cV (As := [.int x1, .int x3]) (rest := []) B X (tX8_partnersOf (d := d - 1) L (by omega) h6) mfX8_partnersOf kw1094 (by omega) (LnX8_g L z) rfl rfl (Nat.le_of_ble_eq_true rfl) hl.1 ⟨Nat.zero_le _, Nat.zero_le _⟩ dX8_aloneOnes_30) (fun H locs X => ?_)
          have X : Hx A D S.heap (wf z) H locs := X
          refine lv_if_ne (tgt := 42) hx hb dX8_aloneOnes_33 (by decide) (fun hc7 => ?_) (fun hc7 => ?_)
          · have h := ie h hc7
            refine lv_iinc (v := x3 + 1) (lv' := [(3, .int (x3 + 1)), (0, .ref (a 0)), (1, .int x1), (2, .int x2)]) hx hb dX8_aloneOnes_42 hl (k := 3) rfl rfl (by decide) rfl (fun ls hl => ?_)
            refine lv_goto (tgt := 2) hx hb dX8_aloneOnes_45 (by decide) ?_
            exact ih x1 x2 (x3 + 1) z _ _ _ X (lv_sub hl [1, 2, 3, 0] rfl) h
          · have h := it h hc7
            refine lv_aload_n hx hb dX8_aloneOnes_36 rfl (lv_at hl 0 rfl) ?_
            refine lv_iload_n hx hb dX8_aloneOnes_37 rfl (lv_at hl 1 rfl) ?_
            refine lv_iload_n hx hb dX8_aloneOnes_38 rfl (lv_at hl 3 rfl) ?_
            obtain ⟨q8, h8, h⟩ := bs h
            refine kV X (cV (As := [.int x1, .int x3]) (rest := []) B X (tX8_alone (d := d - 1) L (by omega) h8) mfX8_alone kw1179 (by omega) (LnX8_g L z) rfl rfl (Nat.le_of_ble_eq_true rfl) hl.1 ⟨Nat.zero_le _, Nat.zero_le _⟩ dX8_aloneOnes_39) (fun H locs X => ?_)
            have X : Hx A D S.heap (wf q8) H locs := X
            refine lv_iinc (v := x3 + 1) (lv' := [(3, .int (x3 + 1)), (0, .ref (a 0)), (1, .int x1), (2, .int x2)]) hx hb dX8_aloneOnes_42 hl (k := 3) rfl rfl (by decide) rfl (fun ls hl => ?_)
            refine lv_goto (tgt := 2) hx hb dX8_aloneOnes_45 (by decide) ?_
            exact ih x1 x2 (x3 + 1) q8 _ _ _ X (lv_sub hl [1, 2, 3, 0] rfl) h
def fX8_aloneOnes (z : SX8) (x1 : Int32) (x2 : Int32) : Option SX8 :=
    fX8_aloneOnes_b2 1000 x1 x2 0 z
set_option maxRecDepth 100000 in
set_option maxHeartbeats 4000000 in
theorem tX8_aloneOnes {a q : Nat → Nat} {wf : SX8 → va_W} (L : LnX8 a q cI cB wf) {d : Nat} (hd : 3 ≤ d) {z : SX8} {x1 x2 : Int32} {q : SX8} (h : fX8_aloneOnes z x1 x2 = some q) : Ct l yX8_aloneOnes cX8_aloneOnes 4 none d A g D [(cI, .int), (cB, .byte)] [.ref (a 0), .int x1, .int x2] (wf z) (QV A D (wf q)) := by
  refine mkM (by decide) (Nat.le_of_ble_eq_true rfl) ?_
  intro p e S m args below meth c B X ls hl
  have B : Bd RX8 cX8_aloneOnes 4 none d A g D [(cI, .int), (cB, .byte)] p (rmd d) S m args meth c := B
  have hx := B.1
  have hb := B.2.1
  have hd1 : 1 ≤ d := by omega
  have hl : lv_has ls 4 [(0, .ref (a 0)), (1, .int x1), (2, .int x2)] := hl
  unfold fX8_aloneOnes at h
  refine lv_iconst (v := 0) hx hb dX8_aloneOnes_0 (by decide) ?_
  refine lv_istore_n (lv' := [(3, .int 0), (0, .ref (a 0)), (1, .int x1), (2, .int x2)]) hx hb dX8_aloneOnes_1 rfl hl (by decide) rfl (fun ls hl => ?_)
  exact tX8_aloneOnes_b2 L hd B 1000 x1 x2 0 z _ _ _ X (lv_sub hl [1, 2, 3, 0] rfl) h
def fX8_holdNow_b11 : Nat → Int32 → Int32 → Int32 → Int32 → SX8 → Option SX8
  | 0, _, _, _, _, _ => none
  | n + 1, x1, x2, x3, x4, z =>
    if (1 - x1) < 0 ∨ 2 ≤ (1 - x1).toNatClampNeg then none else
    (if ((z.2.2 4) (1 - x1).toNatClampNeg) ≤ x4 then ((fX8_aloneOnes z x1 x2).bind fun q3 =>
    some q3) else
    (if (z.1 15) = 0 then ((fX8_isIn x3 x4).bind fun q6 =>
    if q6 = 0 then (fX8_holdNow_b11 n x1 x2 x3 (x4 + 1) z) else
    ((fX8_meetAll z x1 x4 x2).bind fun q8 =>
    (fX8_partnersOf q8 (1 - x1) x4).bind fun q9 =>
    if q9 = 0 then ((fX8_alone q8 (1 - x1) x4).bind fun q11 =>
    fX8_holdNow_b11 n x1 x2 x3 (x4 + 1) q11) else
    (fX8_holdNow_b11 n x1 x2 x3 (x4 + 1) q8))) else
    ((fX8_aloneOnes z x1 x2).bind fun q5 =>
    some q5)))
set_option maxRecDepth 100000 in
set_option maxHeartbeats 4000000 in
theorem tX8_holdNow_b11 {a q : Nat → Nat} {wf : SX8 → va_W} (L : LnX8 a q cI cB wf) {d : Nat} (hd : 4 ≤ d) (B : Bd RX8 cX8_holdNow 5 none d A g D [(cI, .int), (cB, .byte)] p R S m args meth c) {q : SX8} : ∀ (n : Nat) (x1 : Int32) (x2 : Int32) (x3 : Int32) (x4 : Int32) (z : SX8) (H : Heap) (locs : List Loc) (ls : Array Slot), Hx A D S.heap (wf z) H locs → lv_has ls 5 [(0, .ref (a 0)), (1, .int x1), (2, .int x2), (3, .int x3), (4, .int x4)] → fX8_holdNow_b11 n x1 x2 x3 x4 z = some q → W p l e R S m args below meth c H locs 0 0 (MQ below (QV A D (wf q)) args S 0 0 A) (F0 m 11 ls []) := by
  have hx := B.1
  have hb := B.2.1
  have hd1 : 1 ≤ d := by omega
  intro n
  induction n with
  | zero =>
    intro x1 x2 x3 x4 z H locs ls X hl h
    cases h
  | succ n ih =>
    intro x1 x2 x3 x4 z H locs ls X hl h
    rw [fX8_holdNow_b11] at h
    refine lv_iload hx hb dX8_holdNow_11 (lv_at hl 4 rfl) ?_
    refine lv_aload_n hx hb dX8_holdNow_13 rfl (lv_at hl 0 rfl) ?_
    refine fG B X (LnX8_g L z) 4 rfl inTX8 (by decide) kw851 rfl dX8_holdNow_14 ?_
    refine lv_iconst (v := 1) hx hb dX8_holdNow_17 (by decide) ?_
    refine lv_iload_n hx hb dX8_holdNow_18 rfl (lv_at hl 1 rfl) ?_
    refine lv_isub hx hb dX8_holdNow_19 ?_
    by_cases hc1 : ((1 - x1) < 0 ∨ 2 ≤ (1 - x1).toNatClampNeg)
    · cases it h hc1
    have h := ie h hc1
    refine aG B X (LnX8_a4 L z) 0 rfl hc1 dX8_holdNow_20 ?_
    refine lv_icmp_ge (tgt := 75) hx hb dX8_holdNow_21 (by decide) (fun hc2 => ?_) (fun hc2 => ?_)
    · have h := it h hc2
      refine lv_aload_n hx hb dX8_holdNow_75 rfl (lv_at hl 0 rfl) ?_
      refine lv_iload_n hx hb dX8_holdNow_76 rfl (lv_at hl 1 rfl) ?_
      refine lv_iload_n hx hb dX8_holdNow_77 rfl (lv_at hl 2 rfl) ?_
      obtain ⟨q3, h3, h⟩ := bs h
      refine kV X (cV (As := [.int x1, .int x2]) (rest := []) B X (tX8_aloneOnes (d := d - 1) L (by omega) h3) mfX8_aloneOnes kw1187 (by omega) (LnX8_g L z) rfl rfl (Nat.le_of_ble_eq_true rfl) hl.1 ⟨Nat.zero_le _, Nat.zero_le _⟩ dX8_holdNow_78) (fun H locs X => ?_)
      have X : Hx A D S.heap (wf q3) H locs := X
      exact rV B X (congrArg wf (Option.some.inj h)) dX8_holdNow_81
    · have h := ie h hc2
      refine lv_aload_n hx hb dX8_holdNow_24 rfl (lv_at hl 0 rfl) ?_
      refine fG B X (LnX8_g L z) 15 rfl inTX8 (by decide) kw862 rfl dX8_holdNow_25 ?_
      refine lv_if_ne (tgt := 75) hx hb dX8_holdNow_28 (by decide) (fun hc4 => ?_) (fun hc4 => ?_)
      · have h := ie h hc4
        refine lv_aload_n hx hb dX8_holdNow_75 rfl (lv_at hl 0 rfl) ?_
        refine lv_iload_n hx hb dX8_holdNow_76 rfl (lv_at hl 1 rfl) ?_
        refine lv_iload_n hx hb dX8_holdNow_77 rfl (lv_at hl 2 rfl) ?_
        obtain ⟨q5, h5, h⟩ := bs h
        refine kV X (cV (As := [.int x1, .int x2]) (rest := []) B X (tX8_aloneOnes (d := d - 1) L (by omega) h5) mfX8_aloneOnes kw1187 (by omega) (LnX8_g L z) rfl rfl (Nat.le_of_ble_eq_true rfl) hl.1 ⟨Nat.zero_le _, Nat.zero_le _⟩ dX8_holdNow_78) (fun H locs X => ?_)
        have X : Hx A D S.heap (wf q5) H locs := X
        exact rV B X (congrArg wf (Option.some.inj h)) dX8_holdNow_81
      · have h := it h hc4
        refine lv_iload_n hx hb dX8_holdNow_31 rfl (lv_at hl 3 rfl) ?_
        refine lv_iload hx hb dX8_holdNow_32 (lv_at hl 4 rfl) ?_
        obtain ⟨q6, h6, h⟩ := bs h
        refine kI X (cS (As := [.int x3, .int x4]) (rest := []) B X (tX8_isIn (d := d - 1) (by omega) h6) msX8_isIn kw1164 (by omega) rfl (Nat.le_of_ble_eq_true rfl) hl.1 ⟨Nat.zero_le _, Nat.zero_le _⟩ dX8_holdNow_34) (fun H locs X => ?_)
        have X : Hx A D S.heap (wf z) H locs := X
        refine lv_if_eq (tgt := 69) hx hb dX8_holdNow_37 (by decide) (fun hc7 => ?_) (fun hc7 => ?_)
        · have h := it h hc7
          refine lv_iinc (v := x4 + 1) (lv' := [(4, .int (x4 + 1)), (0, .ref (a 0)), (1, .int x1), (2, .int x2), (3, .int x3)]) hx hb dX8_holdNow_69 hl (k := 4) rfl rfl (by decide) rfl (fun ls hl => ?_)
          refine lv_goto (tgt := 11) hx hb dX8_holdNow_72 (by decide) ?_
          exact ih x1 x2 x3 (x4 + 1) z _ _ _ X (lv_sub hl [1, 2, 3, 4, 0] rfl) h
        · have h := ie h hc7
          refine lv_aload_n hx hb dX8_holdNow_40 rfl (lv_at hl 0 rfl) ?_
          refine lv_iload_n hx hb dX8_holdNow_41 rfl (lv_at hl 1 rfl) ?_
          refine lv_iload hx hb dX8_holdNow_42 (lv_at hl 4 rfl) ?_
          refine lv_iload_n hx hb dX8_holdNow_44 rfl (lv_at hl 2 rfl) ?_
          obtain ⟨q8, h8, h⟩ := bs h
          refine kV X (cV (As := [.int x1, .int x4, .int x2]) (rest := []) B X (tX8_meetAll (d := d - 1) L (by omega) h8) mfX8_meetAll kw1167 (by omega) (LnX8_g L z) rfl rfl (Nat.le_of_ble_eq_true rfl) hl.1 ⟨Nat.zero_le _, Nat.zero_le _⟩ dX8_holdNow_45) (fun H locs X => ?_)
          have X : Hx A D S.heap (wf q8) H locs := X
          refine lv_aload_n hx hb dX8_holdNow_48 rfl (lv_at hl 0 rfl) ?_
          refine lv_iconst (v := 1) hx hb dX8_holdNow_49 (by decide) ?_
          refine lv_iload_n hx hb dX8_holdNow_50 rfl (lv_at hl 1 rfl) ?_
          refine lv_isub hx hb dX8_holdNow_51 ?_
          refine lv_iload hx hb dX8_holdNow_52 (lv_at hl 4 rfl) ?_
          obtain ⟨q9, h9, h⟩ := bs h
          refine kI X (cV (As := [.int (1 - x1), .int x4]) (rest := []) B X (tX8_partnersOf (d := d - 1) L (by omega) h9) mfX8_partnersOf kw1094 (by omega) (LnX8_g L q8) rfl rfl (Nat.le_of_ble_eq_true rfl) hl.1 ⟨Nat.zero_le _, Nat.zero_le _⟩ dX8_holdNow_54) (fun H locs X => ?_)
          have X : Hx A D S.heap (wf q8) H locs := X
          refine lv_if_ne (tgt := 69) hx hb dX8_holdNow_57 (by decide) (fun hc10 => ?_) (fun hc10 => ?_)
          · have h := ie h hc10
            refine lv_iinc (v := x4 + 1) (lv' := [(4, .int (x4 + 1)), (0, .ref (a 0)), (1, .int x1), (2, .int x2), (3, .int x3)]) hx hb dX8_holdNow_69 hl (k := 4) rfl rfl (by decide) rfl (fun ls hl => ?_)
            refine lv_goto (tgt := 11) hx hb dX8_holdNow_72 (by decide) ?_
            exact ih x1 x2 x3 (x4 + 1) q8 _ _ _ X (lv_sub hl [1, 2, 3, 4, 0] rfl) h
          · have h := it h hc10
            refine lv_aload_n hx hb dX8_holdNow_60 rfl (lv_at hl 0 rfl) ?_
            refine lv_iconst (v := 1) hx hb dX8_holdNow_61 (by decide) ?_
            refine lv_iload_n hx hb dX8_holdNow_62 rfl (lv_at hl 1 rfl) ?_
            refine lv_isub hx hb dX8_holdNow_63 ?_
            refine lv_iload hx hb dX8_holdNow_64 (lv_at hl 4 rfl) ?_
            obtain ⟨q11, h11, h⟩ := bs h
            refine kV X (cV (As := [.int (1 - x1), .int x4]) (rest := []) B X (tX8_alone (d := d - 1) L (by omega) h11) mfX8_alone kw1179 (by omega) (LnX8_g L q8) rfl rfl (Nat.le_of_ble_eq_true rfl) hl.1 ⟨Nat.zero_le _, Nat.zero_le _⟩ dX8_holdNow_66) (fun H locs X => ?_)
            have X : Hx A D S.heap (wf q11) H locs := X
            refine lv_iinc (v := x4 + 1) (lv' := [(4, .int (x4 + 1)), (0, .ref (a 0)), (1, .int x1), (2, .int x2), (3, .int x3)]) hx hb dX8_holdNow_69 hl (k := 4) rfl rfl (by decide) rfl (fun ls hl => ?_)
            refine lv_goto (tgt := 11) hx hb dX8_holdNow_72 (by decide) ?_
            exact ih x1 x2 x3 (x4 + 1) q11 _ _ _ X (lv_sub hl [1, 2, 3, 4, 0] rfl) h
def fX8_holdNow (z : SX8) (x1 : Int32) (x2 : Int32) (x3 : Int32) : Option SX8 :=
    (fX8_size x2).bind fun q1 =>
    (fX8_inMemory z q1).bind fun q2 =>
    fX8_holdNow_b11 1000 x1 x2 x3 0 q2
set_option maxRecDepth 100000 in
set_option maxHeartbeats 4000000 in
theorem tX8_holdNow {a q : Nat → Nat} {wf : SX8 → va_W} (L : LnX8 a q cI cB wf) {d : Nat} (hd : 4 ≤ d) {z : SX8} {x1 x2 x3 : Int32} {q : SX8} (h : fX8_holdNow z x1 x2 x3 = some q) : Ct l yX8_holdNow cX8_holdNow 5 none d A g D [(cI, .int), (cB, .byte)] [.ref (a 0), .int x1, .int x2, .int x3] (wf z) (QV A D (wf q)) := by
  refine mkM (by decide) (Nat.le_of_ble_eq_true rfl) ?_
  intro p e S m args below meth c B X ls hl
  have B : Bd RX8 cX8_holdNow 5 none d A g D [(cI, .int), (cB, .byte)] p (rmd d) S m args meth c := B
  have hx := B.1
  have hb := B.2.1
  have hd1 : 1 ≤ d := by omega
  have hl : lv_has ls 5 [(0, .ref (a 0)), (1, .int x1), (2, .int x2), (3, .int x3)] := hl
  unfold fX8_holdNow at h
  refine lv_aload_n hx hb dX8_holdNow_0 rfl (lv_at hl 0 rfl) ?_
  refine lv_iload_n hx hb dX8_holdNow_1 rfl (lv_at hl 2 rfl) ?_
  obtain ⟨q1, h1, h⟩ := bs h
  refine kI X (cS (As := [.int x2]) (rest := [.ref (a 0)]) B X (tX8_size (d := d - 1) (by omega) h1) msX8_size kw1145 (by omega) rfl (Nat.le_of_ble_eq_true rfl) hl.1 ⟨Nat.zero_le _, Nat.zero_le _⟩ dX8_holdNow_2) (fun H locs X => ?_)
  have X : Hx A D S.heap (wf z) H locs := X
  obtain ⟨q2, h2, h⟩ := bs h
  refine kV X (cV (As := [.int q1]) (rest := []) B X (tX8_inMemory (d := d - 1) L (by omega) h2) mfX8_inMemory kw1160 (by omega) (LnX8_g L z) rfl rfl (Nat.le_of_ble_eq_true rfl) hl.1 ⟨Nat.zero_le _, Nat.zero_le _⟩ dX8_holdNow_5) (fun H locs X => ?_)
  have X : Hx A D S.heap (wf q2) H locs := X
  refine lv_iconst (v := 0) hx hb dX8_holdNow_8 (by decide) ?_
  refine lv_istore (lv' := [(4, .int 0), (0, .ref (a 0)), (1, .int x1), (2, .int x2), (3, .int x3)]) hx hb dX8_holdNow_9 hl (by decide) rfl (fun ls hl => ?_)
  exact tX8_holdNow_b11 L hd B 1000 x1 x2 x3 0 q2 _ _ _ X (lv_sub hl [1, 2, 3, 4, 0] rfl) h
def fX8_firstOf_b8 (z : SX8) : Nat → Int32 → Int32 → Int32 → Int32 → Option Int32
  | 0, _, _, _, _ => none
  | n + 1, x1, x3, x4, x5 =>
    if 14 ≤ x5 then (some x3) else
    ((fX8_isIn x1 x5).bind fun q2 =>
    if q2 = 0 then (fX8_firstOf_b8 z n x1 x3 x4 (x5 + 1)) else
    (if x4 ≤ 0 then (fX8_firstOf_b8 z n x1 x3 x4 (x5 + 1)) else
    (fX8_firstOf_b8 z n x1 (x3 ||| (1 <<< (x5 &&& 31))) (x4 + (-1)) (x5 + 1))))
set_option maxRecDepth 100000 in
set_option maxHeartbeats 4000000 in
theorem tX8_firstOf_b8 {a q : Nat → Nat} {wf : SX8 → va_W} (L : LnX8 a q cI cB wf) {d : Nat} (hd : 2 ≤ d) {z : SX8} (B : Bd RX8 cX8_firstOf 6 (some .int) d A g D [(cI, .int), (cB, .byte)] p R S m args meth c) {q : Int32} : ∀ (n : Nat) (x1 : Int32) (x3 : Int32) (x4 : Int32) (x5 : Int32) (H : Heap) (locs : List Loc) (ls : Array Slot), Hx A D S.heap (wf z) H locs → lv_has ls 6 [(1, .int x1), (3, .int x3), (4, .int x4), (5, .int x5)] → fX8_firstOf_b8 z n x1 x3 x4 x5 = some q → W p l e R S m args below meth c H locs 0 0 (MQ below (QI A D (wf z) q) args S 0 0 A) (F0 m 8 ls []) := by
  have hx := B.1
  have hb := B.2.1
  have hd1 : 1 ≤ d := by omega
  intro n
  induction n with
  | zero =>
    intro x1 x3 x4 x5 H locs ls X hl h
    cases h
  | succ n ih =>
    intro x1 x3 x4 x5 H locs ls X hl h
    rw [fX8_firstOf_b8] at h
    refine lv_iload hx hb dX8_firstOf_8 (lv_at hl 3 rfl) ?_
    refine lv_bipush (v := 14) hx hb dX8_firstOf_10 (by decide) ?_
    refine lv_icmp_ge (tgt := 45) hx hb dX8_firstOf_12 (by decide) (fun hc1 => ?_) (fun hc1 => ?_)
    · have h := it h hc1
      refine lv_iload_n hx hb dX8_firstOf_45 rfl (lv_at hl 1 rfl) ?_
      exact rI B X rfl (Option.some.inj h) dX8_firstOf_46
    · have h := ie h hc1
      refine lv_iload_n hx hb dX8_firstOf_15 rfl (lv_at hl 0 rfl) ?_
      refine lv_iload hx hb dX8_firstOf_16 (lv_at hl 3 rfl) ?_
      obtain ⟨q2, h2, h⟩ := bs h
      refine kI X (cS (As := [.int x1, .int x5]) (rest := []) B X (tX8_isIn (d := d - 1) (by omega) h2) msX8_isIn kw1164 (by omega) rfl (Nat.le_of_ble_eq_true rfl) hl.1 ⟨Nat.zero_le _, Nat.zero_le _⟩ dX8_firstOf_18) (fun H locs X => ?_)
      have X : Hx A D S.heap (wf z) H locs := X
      refine lv_if_eq (tgt := 39) hx hb dX8_firstOf_21 (by decide) (fun hc3 => ?_) (fun hc3 => ?_)
      · have h := it h hc3
        refine lv_iinc (v := x5 + 1) (lv' := [(5, .int (x5 + 1)), (1, .int x1), (3, .int x3), (4, .int x4)]) hx hb dX8_firstOf_39 hl (k := 3) rfl rfl (by decide) rfl (fun ls hl => ?_)
        refine lv_goto (tgt := 8) hx hb dX8_firstOf_42 (by decide) ?_
        exact ih x1 x3 x4 (x5 + 1) _ _ _ X (lv_sub hl [1, 2, 3, 0] rfl) h
      · have h := ie h hc3
        refine lv_iload hx hb dX8_firstOf_24 (lv_at hl 2 rfl) ?_
        refine lv_if_le (tgt := 39) hx hb dX8_firstOf_26 (by decide) (fun hc4 => ?_) (fun hc4 => ?_)
        · have h := it h hc4
          refine lv_iinc (v := x5 + 1) (lv' := [(5, .int (x5 + 1)), (1, .int x1), (3, .int x3), (4, .int x4)]) hx hb dX8_firstOf_39 hl (k := 3) rfl rfl (by decide) rfl (fun ls hl => ?_)
          refine lv_goto (tgt := 8) hx hb dX8_firstOf_42 (by decide) ?_
          exact ih x1 x3 x4 (x5 + 1) _ _ _ X (lv_sub hl [1, 2, 3, 0] rfl) h
        · have h := ie h hc4
          refine lv_iload_n hx hb dX8_firstOf_29 rfl (lv_at hl 1 rfl) ?_
          refine lv_iconst (v := 1) hx hb dX8_firstOf_30 (by decide) ?_
          refine lv_iload hx hb dX8_firstOf_31 (lv_at hl 3 rfl) ?_
          refine lv_ishl hx hb dX8_firstOf_33 ?_
          refine lv_ior hx hb dX8_firstOf_34 ?_
          refine lv_istore_n (lv' := [(3, .int (x3 ||| (1 <<< (x5 &&& 31)))), (1, .int x1), (4, .int x4), (5, .int x5)]) hx hb dX8_firstOf_35 rfl hl (by decide) rfl (fun ls hl => ?_)
          refine lv_iinc (v := x4 + (-1)) (lv' := [(4, .int (x4 + (-1))), (3, .int (x3 ||| (1 <<< (x5 &&& 31)))), (1, .int x1), (5, .int x5)]) hx hb dX8_firstOf_36 hl (k := 2) rfl rfl (by decide) rfl (fun ls hl => ?_)
          refine lv_iinc (v := x5 + 1) (lv' := [(5, .int (x5 + 1)), (4, .int (x4 + (-1))), (3, .int (x3 ||| (1 <<< (x5 &&& 31)))), (1, .int x1)]) hx hb dX8_firstOf_39 hl (k := 3) rfl rfl (by decide) rfl (fun ls hl => ?_)
          refine lv_goto (tgt := 8) hx hb dX8_firstOf_42 (by decide) ?_
          exact ih x1 (x3 ||| (1 <<< (x5 &&& 31))) (x4 + (-1)) (x5 + 1) _ _ _ X (lv_sub hl [3, 2, 1, 0] rfl) h
def fX8_firstOf (z : SX8) (x1 : Int32) (x2 : Int32) : Option Int32 :=
    fX8_firstOf_b8 z 1000 x1 0 x2 0
set_option maxRecDepth 100000 in
set_option maxHeartbeats 4000000 in
theorem tX8_firstOf {a q : Nat → Nat} {wf : SX8 → va_W} (L : LnX8 a q cI cB wf) {d : Nat} (hd : 2 ≤ d) {z : SX8} {x1 x2 : Int32} {q : Int32} (h : fX8_firstOf z x1 x2 = some q) : Ct l yX8_firstOf cX8_firstOf 6 (some .int) d A g D [(cI, .int), (cB, .byte)] [.ref (a 0), .int x1, .int x2] (wf z) (QI A D (wf z) q) := by
  refine mkM (by decide) (Nat.le_of_ble_eq_true rfl) ?_
  intro p e S m args below meth c B X ls hl
  have B : Bd RX8 cX8_firstOf 6 (some .int) d A g D [(cI, .int), (cB, .byte)] p (rmd d) S m args meth c := B
  have hx := B.1
  have hb := B.2.1
  have hd1 : 1 ≤ d := by omega
  have hl : lv_has ls 6 [(0, .ref (a 0)), (1, .int x1), (2, .int x2)] := hl
  unfold fX8_firstOf at h
  refine lv_iconst (v := 0) hx hb dX8_firstOf_0 (by decide) ?_
  refine lv_istore_n (lv' := [(3, .int 0), (0, .ref (a 0)), (1, .int x1), (2, .int x2)]) hx hb dX8_firstOf_1 rfl hl (by decide) rfl (fun ls hl => ?_)
  refine lv_iload_n hx hb dX8_firstOf_2 rfl (lv_at hl 3 rfl) ?_
  refine lv_istore (lv' := [(4, .int x2), (3, .int 0), (0, .ref (a 0)), (1, .int x1), (2, .int x2)]) hx hb dX8_firstOf_3 hl (by decide) rfl (fun ls hl => ?_)
  refine lv_iconst (v := 0) hx hb dX8_firstOf_5 (by decide) ?_
  refine lv_istore (lv' := [(5, .int 0), (4, .int x2), (3, .int 0), (0, .ref (a 0)), (1, .int x1), (2, .int x2)]) hx hb dX8_firstOf_6 hl (by decide) rfl (fun ls hl => ?_)
  exact tX8_firstOf_b8 L hd B 1000 x1 0 x2 0 _ _ _ X (lv_sub hl [4, 2, 1, 0] rfl) h
def fX8_blocksNow_b108 (x1 : Int32) (x2 : Int32) (x3 : Int32) (z : SX8) : Option SX8 :=
    (fX8_aloneOnes z (1 - x1) x3).bind fun q1 =>
    (fX8_aloneOnes q1 x1 x2).bind fun q2 =>
    some q2
set_option maxRecDepth 100000 in
set_option maxHeartbeats 4000000 in
theorem tX8_blocksNow_b108 {a q : Nat → Nat} {wf : SX8 → va_W} (L : LnX8 a q cI cB wf) {d : Nat} (hd : 4 ≤ d) (B : Bd RX8 cX8_blocksNow 7 none d A g D [(cI, .int), (cB, .byte)] p R S m args meth c) {q : SX8} : ∀ (x1 : Int32) (x2 : Int32) (x3 : Int32) (z : SX8) (H : Heap) (locs : List Loc) (ls : Array Slot), Hx A D S.heap (wf z) H locs → lv_has ls 7 [(0, .ref (a 0)), (1, .int x1), (2, .int x2), (3, .int x3)] → fX8_blocksNow_b108 x1 x2 x3 z = some q → W p l e R S m args below meth c H locs 0 0 (MQ below (QV A D (wf q)) args S 0 0 A) (F0 m 108 ls []) := by
  have hx := B.1
  have hb := B.2.1
  have hd1 : 1 ≤ d := by omega
  intro x1 x2 x3 z H locs ls X hl h
  unfold fX8_blocksNow_b108 at h
  refine lv_aload_n hx hb dX8_blocksNow_108 rfl (lv_at hl 0 rfl) ?_
  refine lv_iconst (v := 1) hx hb dX8_blocksNow_109 (by decide) ?_
  refine lv_iload_n hx hb dX8_blocksNow_110 rfl (lv_at hl 1 rfl) ?_
  refine lv_isub hx hb dX8_blocksNow_111 ?_
  refine lv_iload_n hx hb dX8_blocksNow_112 rfl (lv_at hl 3 rfl) ?_
  obtain ⟨q1, h1, h⟩ := bs h
  refine kV X (cV (As := [.int (1 - x1), .int x3]) (rest := []) B X (tX8_aloneOnes (d := d - 1) L (by omega) h1) mfX8_aloneOnes kw1187 (by omega) (LnX8_g L z) rfl rfl (Nat.le_of_ble_eq_true rfl) hl.1 ⟨Nat.zero_le _, Nat.zero_le _⟩ dX8_blocksNow_113) (fun H locs X => ?_)
  have X : Hx A D S.heap (wf q1) H locs := X
  refine lv_aload_n hx hb dX8_blocksNow_116 rfl (lv_at hl 0 rfl) ?_
  refine lv_iload_n hx hb dX8_blocksNow_117 rfl (lv_at hl 1 rfl) ?_
  refine lv_iload_n hx hb dX8_blocksNow_118 rfl (lv_at hl 2 rfl) ?_
  obtain ⟨q2, h2, h⟩ := bs h
  refine kV X (cV (As := [.int x1, .int x2]) (rest := []) B X (tX8_aloneOnes (d := d - 1) L (by omega) h2) mfX8_aloneOnes kw1187 (by omega) (LnX8_g L q1) rfl rfl (Nat.le_of_ble_eq_true rfl) hl.1 ⟨Nat.zero_le _, Nat.zero_le _⟩ dX8_blocksNow_119) (fun H locs X => ?_)
  have X : Hx A D S.heap (wf q2) H locs := X
  exact rV B X (congrArg wf (Option.some.inj h)) dX8_blocksNow_122
def fX8_blocksNow_b61 (k3 : Int32 → Int32 → Int32 → Int32 → SX8 → Option SX8) : Nat → Int32 → Int32 → Int32 → Int32 → Int32 → Int32 → SX8 → Option SX8
  | 0, _, _, _, _, _, _, _ => none
  | n + 1, x1, x2, x3, x4, x5, x6, z =>
    if (1 - x1) < 0 ∨ 2 ≤ (1 - x1).toNatClampNeg then none else
    (if ((z.2.2 4) (1 - x1).toNatClampNeg) ≤ x6 then (k3 x1 x2 x3 x4 z) else
    (if (z.1 15) = 0 then ((fX8_isIn x3 x6).bind fun q4 =>
    if q4 = 0 then (fX8_blocksNow_b61 k3 n x1 x2 x3 x4 x5 (x6 + 1) z) else
    ((fX8_meetAll z x1 x6 x5).bind fun q6 =>
    fX8_blocksNow_b61 k3 n x1 x2 x3 x4 x5 (x6 + 1) q6)) else
    (k3 x1 x2 x3 x4 z)))
set_option maxRecDepth 100000 in
set_option maxHeartbeats 4000000 in
theorem tX8_blocksNow_b61 {a q : Nat → Nat} {wf : SX8 → va_W} (L : LnX8 a q cI cB wf) {d : Nat} (hd : 4 ≤ d) (B : Bd RX8 cX8_blocksNow 7 none d A g D [(cI, .int), (cB, .byte)] p R S m args meth c) {q : SX8} {k3 : Int32 → Int32 → Int32 → Int32 → SX8 → Option SX8} (hk3 : ∀ (x1 : Int32) (x2 : Int32) (x3 : Int32) (x4 : Int32) (z : SX8) (H : Heap) (locs : List Loc) (ls : Array Slot), Hx A D S.heap (wf z) H locs → lv_has ls 7 [(0, .ref (a 0)), (1, .int x1), (2, .int x2), (3, .int x3), (4, .int x4)] → k3 x1 x2 x3 x4 z = some q → W p l e R S m args below meth c H locs 0 0 (MQ below (QV A D (wf q)) args S 0 0 A) (F0 m 3 ls [])) : ∀ (n : Nat) (x1 : Int32) (x2 : Int32) (x3 : Int32) (x4 : Int32) (x5 : Int32) (x6 : Int32) (z : SX8) (H : Heap) (locs : List Loc) (ls : Array Slot), Hx A D S.heap (wf z) H locs → lv_has ls 7 [(0, .ref (a 0)), (1, .int x1), (2, .int x2), (3, .int x3), (4, .int x4), (5, .int x5), (6, .int x6)] → fX8_blocksNow_b61 k3 n x1 x2 x3 x4 x5 x6 z = some q → W p l e R S m args below meth c H locs 0 0 (MQ below (QV A D (wf q)) args S 0 0 A) (F0 m 61 ls []) := by
  have hx := B.1
  have hb := B.2.1
  have hd1 : 1 ≤ d := by omega
  intro n
  induction n with
  | zero =>
    intro x1 x2 x3 x4 x5 x6 z H locs ls X hl h
    cases h
  | succ n ih =>
    intro x1 x2 x3 x4 x5 x6 z H locs ls X hl h
    rw [fX8_blocksNow_b61] at h
    refine lv_iload hx hb dX8_blocksNow_61 (lv_at hl 6 rfl) ?_
    refine lv_aload_n hx hb dX8_blocksNow_63 rfl (lv_at hl 0 rfl) ?_
    refine fG B X (LnX8_g L z) 4 rfl inTX8 (by decide) kw851 rfl dX8_blocksNow_64 ?_
    refine lv_iconst (v := 1) hx hb dX8_blocksNow_67 (by decide) ?_
    refine lv_iload_n hx hb dX8_blocksNow_68 rfl (lv_at hl 1 rfl) ?_
    refine lv_isub hx hb dX8_blocksNow_69 ?_
    by_cases hc1 : ((1 - x1) < 0 ∨ 2 ≤ (1 - x1).toNatClampNeg)
    · cases it h hc1
    have h := ie h hc1
    refine aG B X (LnX8_a4 L z) 0 rfl hc1 dX8_blocksNow_70 ?_
    refine lv_icmp_ge (tgt := 105) hx hb dX8_blocksNow_71 (by decide) (fun hc2 => ?_) (fun hc2 => ?_)
    · have h := it h hc2
      refine lv_goto (tgt := 3) hx hb dX8_blocksNow_105 (by decide) ?_
      exact hk3 x1 x2 x3 x4 z _ _ _ X (lv_sub hl [0, 1, 2, 3, 4] rfl) h
    · have h := ie h hc2
      refine lv_aload_n hx hb dX8_blocksNow_74 rfl (lv_at hl 0 rfl) ?_
      refine fG B X (LnX8_g L z) 15 rfl inTX8 (by decide) kw862 rfl dX8_blocksNow_75 ?_
      refine lv_if_ne (tgt := 105) hx hb dX8_blocksNow_78 (by decide) (fun hc3 => ?_) (fun hc3 => ?_)
      · have h := ie h hc3
        refine lv_goto (tgt := 3) hx hb dX8_blocksNow_105 (by decide) ?_
        exact hk3 x1 x2 x3 x4 z _ _ _ X (lv_sub hl [0, 1, 2, 3, 4] rfl) h
      · have h := it h hc3
        refine lv_iload_n hx hb dX8_blocksNow_81 rfl (lv_at hl 3 rfl) ?_
        refine lv_iload hx hb dX8_blocksNow_82 (lv_at hl 6 rfl) ?_
        obtain ⟨q4, h4, h⟩ := bs h
        refine kI X (cS (As := [.int x3, .int x6]) (rest := []) B X (tX8_isIn (d := d - 1) (by omega) h4) msX8_isIn kw1164 (by omega) rfl (Nat.le_of_ble_eq_true rfl) hl.1 ⟨Nat.zero_le _, Nat.zero_le _⟩ dX8_blocksNow_84) (fun H locs X => ?_)
        have X : Hx A D S.heap (wf z) H locs := X
        refine lv_if_eq (tgt := 99) hx hb dX8_blocksNow_87 (by decide) (fun hc5 => ?_) (fun hc5 => ?_)
        · have h := it h hc5
          refine lv_iinc (v := x6 + 1) (lv' := [(6, .int (x6 + 1)), (0, .ref (a 0)), (1, .int x1), (2, .int x2), (3, .int x3), (4, .int x4), (5, .int x5)]) hx hb dX8_blocksNow_99 hl (k := 6) rfl rfl (by decide) rfl (fun ls hl => ?_)
          refine lv_goto (tgt := 61) hx hb dX8_blocksNow_102 (by decide) ?_
          exact ih x1 x2 x3 x4 x5 (x6 + 1) z _ _ _ X (lv_sub hl [1, 2, 3, 4, 5, 6, 0] rfl) h
        · have h := ie h hc5
          refine lv_aload_n hx hb dX8_blocksNow_90 rfl (lv_at hl 0 rfl) ?_
          refine lv_iload_n hx hb dX8_blocksNow_91 rfl (lv_at hl 1 rfl) ?_
          refine lv_iload hx hb dX8_blocksNow_92 (lv_at hl 6 rfl) ?_
          refine lv_iload hx hb dX8_blocksNow_94 (lv_at hl 5 rfl) ?_
          obtain ⟨q6, h6, h⟩ := bs h
          refine kV X (cV (As := [.int x1, .int x6, .int x5]) (rest := []) B X (tX8_meetAll (d := d - 1) L (by omega) h6) mfX8_meetAll kw1167 (by omega) (LnX8_g L z) rfl rfl (Nat.le_of_ble_eq_true rfl) hl.1 ⟨Nat.zero_le _, Nat.zero_le _⟩ dX8_blocksNow_96) (fun H locs X => ?_)
          have X : Hx A D S.heap (wf q6) H locs := X
          refine lv_iinc (v := x6 + 1) (lv' := [(6, .int (x6 + 1)), (0, .ref (a 0)), (1, .int x1), (2, .int x2), (3, .int x3), (4, .int x4), (5, .int x5)]) hx hb dX8_blocksNow_99 hl (k := 6) rfl rfl (by decide) rfl (fun ls hl => ?_)
          refine lv_goto (tgt := 61) hx hb dX8_blocksNow_102 (by decide) ?_
          exact ih x1 x2 x3 x4 x5 (x6 + 1) q6 _ _ _ X (lv_sub hl [1, 2, 3, 4, 5, 6, 0] rfl) h
def fX8_blocksNow_b3 : Nat → Int32 → Int32 → Int32 → Int32 → SX8 → Option SX8
  | 0, _, _, _, _, _ => none
  | n + 1, x1, x2, x3, x4, z =>
    if x4 = 0 then (fX8_blocksNow_b108 x1 x2 x3 z) else
    (if (z.1 15) = 0 then ((fX8_firstOf z x4 (z.1 1)).bind fun q3 =>
    (fX8_size q3).bind fun q4 =>
    (fX8_inMemory z q4).bind fun q5 =>
    (fX8_size x3).bind fun q6 =>
    fX8_blocksNow_b61 (fX8_blocksNow_b3 n) 1000 x1 x2 x3 (x4 &&& (q3 ^^^ (-1))) q3 0 ((upd q5.1 19 ((q5.1 19) + q6)), q5.2.1, q5.2.2)) else
    (fX8_blocksNow_b108 x1 x2 x3 z))
set_option maxRecDepth 100000 in
set_option maxHeartbeats 4000000 in
theorem tX8_blocksNow_b3 {a q : Nat → Nat} {wf : SX8 → va_W} (L : LnX8 a q cI cB wf) {d : Nat} (hd : 4 ≤ d) (B : Bd RX8 cX8_blocksNow 7 none d A g D [(cI, .int), (cB, .byte)] p R S m args meth c) {q : SX8} : ∀ (n : Nat) (x1 : Int32) (x2 : Int32) (x3 : Int32) (x4 : Int32) (z : SX8) (H : Heap) (locs : List Loc) (ls : Array Slot), Hx A D S.heap (wf z) H locs → lv_has ls 7 [(0, .ref (a 0)), (1, .int x1), (2, .int x2), (3, .int x3), (4, .int x4)] → fX8_blocksNow_b3 n x1 x2 x3 x4 z = some q → W p l e R S m args below meth c H locs 0 0 (MQ below (QV A D (wf q)) args S 0 0 A) (F0 m 3 ls []) := by
  have hx := B.1
  have hb := B.2.1
  have hd1 : 1 ≤ d := by omega
  intro n
  induction n with
  | zero =>
    intro x1 x2 x3 x4 z H locs ls X hl h
    cases h
  | succ n ih =>
    intro x1 x2 x3 x4 z H locs ls X hl h
    rw [fX8_blocksNow_b3] at h
    refine lv_iload hx hb dX8_blocksNow_3 (lv_at hl 4 rfl) ?_
    refine lv_if_eq (tgt := 108) hx hb dX8_blocksNow_5 (by decide) (fun hc1 => ?_) (fun hc1 => ?_)
    · have h := it h hc1
      exact tX8_blocksNow_b108 L hd B x1 x2 x3 z _ _ _ X (lv_sub hl [0, 1, 2, 3] rfl) h
    · have h := ie h hc1
      refine lv_aload_n hx hb dX8_blocksNow_8 rfl (lv_at hl 0 rfl) ?_
      refine fG B X (LnX8_g L z) 15 rfl inTX8 (by decide) kw862 rfl dX8_blocksNow_9 ?_
      refine lv_if_ne (tgt := 108) hx hb dX8_blocksNow_12 (by decide) (fun hc2 => ?_) (fun hc2 => ?_)
      · have h := ie h hc2
        exact tX8_blocksNow_b108 L hd B x1 x2 x3 z _ _ _ X (lv_sub hl [0, 1, 2, 3] rfl) h
      · have h := it h hc2
        refine lv_aload_n hx hb dX8_blocksNow_15 rfl (lv_at hl 0 rfl) ?_
        refine lv_iload hx hb dX8_blocksNow_16 (lv_at hl 4 rfl) ?_
        refine lv_aload_n hx hb dX8_blocksNow_18 rfl (lv_at hl 0 rfl) ?_
        refine fG B X (LnX8_g L z) 1 rfl inTX8 (by decide) kw848 rfl dX8_blocksNow_19 ?_
        obtain ⟨q3, h3, h⟩ := bs h
        refine kI X (cV (As := [.int x4, .int (z.1 1)]) (rest := []) B X (tX8_firstOf (d := d - 1) L (by omega) h3) mfX8_firstOf kw1199 (by omega) (LnX8_g L z) rfl rfl (Nat.le_of_ble_eq_true rfl) hl.1 ⟨Nat.zero_le _, Nat.zero_le _⟩ dX8_blocksNow_22) (fun H locs X => ?_)
        have X : Hx A D S.heap (wf z) H locs := X
        refine lv_istore (lv' := [(5, .int q3), (0, .ref (a 0)), (1, .int x1), (2, .int x2), (3, .int x3), (4, .int x4)]) hx hb dX8_blocksNow_25 hl (by decide) rfl (fun ls hl => ?_)
        refine lv_iload hx hb dX8_blocksNow_27 (lv_at hl 5 rfl) ?_
        refine lv_iload hx hb dX8_blocksNow_29 (lv_at hl 0 rfl) ?_
        refine lv_iconst (v := (-1)) hx hb dX8_blocksNow_31 (by decide) ?_
        refine lv_ixor hx hb dX8_blocksNow_32 ?_
        refine lv_iand hx hb dX8_blocksNow_33 ?_
        refine lv_istore (lv' := [(4, .int (x4 &&& (q3 ^^^ (-1)))), (5, .int q3), (0, .ref (a 0)), (1, .int x1), (2, .int x2), (3, .int x3)]) hx hb dX8_blocksNow_34 hl (by decide) rfl (fun ls hl => ?_)
        refine lv_aload_n hx hb dX8_blocksNow_36 rfl (lv_at hl 2 rfl) ?_
        refine lv_iload hx hb dX8_blocksNow_37 (lv_at hl 1 rfl) ?_
        obtain ⟨q4, h4, h⟩ := bs h
        refine kI X (cS (As := [.int q3]) (rest := [.ref (a 0)]) B X (tX8_size (d := d - 1) (by omega) h4) msX8_size kw1145 (by omega) rfl (Nat.le_of_ble_eq_true rfl) hl.1 ⟨Nat.zero_le _, Nat.zero_le _⟩ dX8_blocksNow_39) (fun H locs X => ?_)
        have X : Hx A D S.heap (wf z) H locs := X
        obtain ⟨q5, h5, h⟩ := bs h
        refine kV X (cV (As := [.int q4]) (rest := []) B X (tX8_inMemory (d := d - 1) L (by omega) h5) mfX8_inMemory kw1160 (by omega) (LnX8_g L z) rfl rfl (Nat.le_of_ble_eq_true rfl) hl.1 ⟨Nat.zero_le _, Nat.zero_le _⟩ dX8_blocksNow_42) (fun H locs X => ?_)
        have X : Hx A D S.heap (wf q5) H locs := X
        refine lv_aload_n hx hb dX8_blocksNow_45 rfl (lv_at hl 2 rfl) ?_
        refine lv_dup hx hb dX8_blocksNow_46 rfl ?_
        refine fG B X (LnX8_g L q5) 19 rfl inTX8 (by decide) kw866 rfl dX8_blocksNow_47 ?_
        refine lv_iload_n hx hb dX8_blocksNow_50 rfl (lv_at hl 5 rfl) ?_
        obtain ⟨q6, h6, h⟩ := bs h
        refine kI X (cS (As := [.int x3]) (rest := [.int (q5.1 19), .ref (a 0)]) B X (tX8_size (d := d - 1) (by omega) h6) msX8_size kw1145 (by omega) rfl (Nat.le_of_ble_eq_true rfl) hl.1 ⟨Nat.zero_le _, Nat.zero_le _⟩ dX8_blocksNow_51) (fun H locs X => ?_)
        have X : Hx A D S.heap (wf q5) H locs := X
        refine lv_iadd hx hb dX8_blocksNow_54 ?_
        refine fP tyX8 B X (LnX8_g L q5) 19 (LnX8_i19 L q5 _) rfl inTX8 tyX8_ok nmX8 (by decide) kw866 rfl rfl rfl rfl (Nat.le_of_ble_eq_true rfl) dX8_blocksNow_55 (fun H locs X => ?_)
        have X : Hx A D S.heap (wf ((upd q5.1 19 ((q5.1 19) + q6)), q5.2.1, q5.2.2)) H locs := X
        refine lv_iconst (v := 0) hx hb dX8_blocksNow_58 (by decide) ?_
        refine lv_istore (lv' := [(6, .int 0), (4, .int (x4 &&& (q3 ^^^ (-1)))), (5, .int q3), (0, .ref (a 0)), (1, .int x1), (2, .int x2), (3, .int x3)]) hx hb dX8_blocksNow_59 hl (by decide) rfl (fun ls hl => ?_)
        exact tX8_blocksNow_b61 L hd B ih 1000 x1 x2 x3 (x4 &&& (q3 ^^^ (-1))) q3 0 ((upd q5.1 19 ((q5.1 19) + q6)), q5.2.1, q5.2.2) _ _ _ X (lv_sub hl [3, 4, 5, 6, 1, 2, 0] rfl) h
def fX8_blocksNow (z : SX8) (x1 : Int32) (x2 : Int32) (x3 : Int32) : Option SX8 :=
    fX8_blocksNow_b3 1000 x1 x2 x3 x2 z
set_option maxRecDepth 100000 in
set_option maxHeartbeats 4000000 in
theorem tX8_blocksNow {a q : Nat → Nat} {wf : SX8 → va_W} (L : LnX8 a q cI cB wf) {d : Nat} (hd : 4 ≤ d) {z : SX8} {x1 x2 x3 : Int32} {q : SX8} (h : fX8_blocksNow z x1 x2 x3 = some q) : Ct l yX8_blocksNow cX8_blocksNow 7 none d A g D [(cI, .int), (cB, .byte)] [.ref (a 0), .int x1, .int x2, .int x3] (wf z) (QV A D (wf q)) := by
  refine mkM (by decide) (Nat.le_of_ble_eq_true rfl) ?_
  intro p e S m args below meth c B X ls hl
  have B : Bd RX8 cX8_blocksNow 7 none d A g D [(cI, .int), (cB, .byte)] p (rmd d) S m args meth c := B
  have hx := B.1
  have hb := B.2.1
  have hd1 : 1 ≤ d := by omega
  have hl : lv_has ls 7 [(0, .ref (a 0)), (1, .int x1), (2, .int x2), (3, .int x3)] := hl
  unfold fX8_blocksNow at h
  refine lv_iload_n hx hb dX8_blocksNow_0 rfl (lv_at hl 2 rfl) ?_
  refine lv_istore (lv' := [(4, .int x2), (0, .ref (a 0)), (1, .int x1), (2, .int x2), (3, .int x3)]) hx hb dX8_blocksNow_1 hl (by decide) rfl (fun ls hl => ?_)
  exact tX8_blocksNow_b3 L hd B 1000 x1 x2 x3 x2 z _ _ _ X (lv_sub hl [1, 2, 3, 4, 0] rfl) h
def fX8_isOneKey_b49 (k8 : Int32 → Int32 → Int32 → Int32 → Int32 → Option Int32) (z : SX8) (x1 : Int32) (x2 : Int32) (x5 : Int32) : Option Int32 :=
    (fX8_keyAt z x1 x5).bind fun q1 =>
    k8 x1 x2 q1 1 (x5 + 1)
set_option maxRecDepth 100000 in
set_option maxHeartbeats 4000000 in
theorem tX8_isOneKey_b49 {a q : Nat → Nat} {wf : SX8 → va_W} (L : LnX8 a q cI cB wf) {d : Nat} (hd : 2 ≤ d) {z : SX8} (B : Bd RX8 cX8_isOneKey 6 (some .boolean) d A g D [(cI, .int), (cB, .byte)] p R S m args meth c) {q : Int32} {k8 : Int32 → Int32 → Int32 → Int32 → Int32 → Option Int32} (hk8 : ∀ (x1 : Int32) (x2 : Int32) (x3 : Int32) (x4 : Int32) (x5 : Int32) (H : Heap) (locs : List Loc) (ls : Array Slot), Hx A D S.heap (wf z) H locs → lv_has ls 6 [(0, .ref (a 0)), (1, .int x1), (2, .int x2), (3, .int x3), (4, .int x4), (5, .int x5)] → k8 x1 x2 x3 x4 x5 = some q → W p l e R S m args below meth c H locs 0 0 (MQ below (QI A D (wf z) q) args S 0 0 A) (F0 m 8 ls [])) : ∀ (x1 : Int32) (x2 : Int32) (x5 : Int32) (H : Heap) (locs : List Loc) (ls : Array Slot), Hx A D S.heap (wf z) H locs → lv_has ls 6 [(0, .ref (a 0)), (1, .int x1), (2, .int x2), (5, .int x5)] → fX8_isOneKey_b49 k8 z x1 x2 x5 = some q → W p l e R S m args below meth c H locs 0 0 (MQ below (QI A D (wf z) q) args S 0 0 A) (F0 m 49 ls []) := by
  have hx := B.1
  have hb := B.2.1
  have hd1 : 1 ≤ d := by omega
  intro x1 x2 x5 H locs ls X hl h
  unfold fX8_isOneKey_b49 at h
  refine lv_iconst (v := 1) hx hb dX8_isOneKey_49 (by decide) ?_
  refine lv_goto (tgt := 54) hx hb dX8_isOneKey_50 (by decide) ?_
  refine lv_istore (lv' := [(4, .int 1), (0, .ref (a 0)), (1, .int x1), (2, .int x2), (5, .int x5)]) hx hb dX8_isOneKey_54 hl (by decide) rfl (fun ls hl => ?_)
  refine lv_aload_n hx hb dX8_isOneKey_56 rfl (lv_at hl 1 rfl) ?_
  refine lv_iload_n hx hb dX8_isOneKey_57 rfl (lv_at hl 2 rfl) ?_
  refine lv_iload hx hb dX8_isOneKey_58 (lv_at hl 4 rfl) ?_
  obtain ⟨q1, h1, h⟩ := bs h
  refine kI X (cV (As := [.int x1, .int x5]) (rest := []) B X (tX8_keyAt (d := d - 1) L (by omega) h1) mfX8_keyAt kw1090 (by omega) (LnX8_g L z) rfl rfl (Nat.le_of_ble_eq_true rfl) hl.1 ⟨Nat.zero_le _, Nat.zero_le _⟩ dX8_isOneKey_60) (fun H locs X => ?_)
  have X : Hx A D S.heap (wf z) H locs := X
  refine lv_istore_n (lv' := [(3, .int q1), (4, .int 1), (0, .ref (a 0)), (1, .int x1), (2, .int x2), (5, .int x5)]) hx hb dX8_isOneKey_63 rfl hl (by decide) rfl (fun ls hl => ?_)
  refine lv_iinc (v := x5 + 1) (lv' := [(5, .int (x5 + 1)), (3, .int q1), (4, .int 1), (0, .ref (a 0)), (1, .int x1), (2, .int x2)]) hx hb dX8_isOneKey_64 hl (k := 5) rfl rfl (by decide) rfl (fun ls hl => ?_)
  refine lv_goto (tgt := 8) hx hb dX8_isOneKey_67 (by decide) ?_
  exact hk8 x1 x2 q1 1 (x5 + 1) _ _ _ X (lv_sub hl [3, 4, 5, 1, 2, 0] rfl) h
def fX8_isOneKey_b8 (z : SX8) : Nat → Int32 → Int32 → Int32 → Int32 → Int32 → Option Int32
  | 0, _, _, _, _, _ => none
  | n + 1, x1, x2, x3, x4, x5 =>
    if x1 < 0 ∨ 2 ≤ x1.toNatClampNeg then none else
    (if ((z.2.2 4) x1.toNatClampNeg) ≤ x5 then (if x4 = 0 ∨ x4 = 1 then some x4 else none) else
    ((fX8_isIn x2 x5).bind fun q5 =>
    if q5 = 0 then (fX8_isOneKey_b8 z n x1 x2 x3 x4 (x5 + 1)) else
    (if x4 = 0 then ((fX8_keyAt z x1 x5).bind fun q8 =>
    fX8_isOneKey_b8 z n x1 x2 q8 0 (x5 + 1)) else
    (if x3 = (-1) then (fX8_isOneKey_b49 (fX8_isOneKey_b8 z n) z x1 x2 x5) else
    ((fX8_keyAt z x1 x5).bind fun q10 =>
    if q10 = x3 then (fX8_isOneKey_b49 (fX8_isOneKey_b8 z n) z x1 x2 x5) else
    ((fX8_keyAt z x1 x5).bind fun q12 =>
    fX8_isOneKey_b8 z n x1 x2 q12 0 (x5 + 1)))))))
set_option maxRecDepth 100000 in
set_option maxHeartbeats 4000000 in
theorem tX8_isOneKey_b8 {a q : Nat → Nat} {wf : SX8 → va_W} (L : LnX8 a q cI cB wf) {d : Nat} (hd : 2 ≤ d) {z : SX8} (B : Bd RX8 cX8_isOneKey 6 (some .boolean) d A g D [(cI, .int), (cB, .byte)] p R S m args meth c) {q : Int32} : ∀ (n : Nat) (x1 : Int32) (x2 : Int32) (x3 : Int32) (x4 : Int32) (x5 : Int32) (H : Heap) (locs : List Loc) (ls : Array Slot), Hx A D S.heap (wf z) H locs → lv_has ls 6 [(0, .ref (a 0)), (1, .int x1), (2, .int x2), (3, .int x3), (4, .int x4), (5, .int x5)] → fX8_isOneKey_b8 z n x1 x2 x3 x4 x5 = some q → W p l e R S m args below meth c H locs 0 0 (MQ below (QI A D (wf z) q) args S 0 0 A) (F0 m 8 ls []) := by
  have hx := B.1
  have hb := B.2.1
  have hd1 : 1 ≤ d := by omega
  intro n
  induction n with
  | zero =>
    intro x1 x2 x3 x4 x5 H locs ls X hl h
    cases h
  | succ n ih =>
    intro x1 x2 x3 x4 x5 H locs ls X hl h
    rw [fX8_isOneKey_b8] at h
    refine lv_iload hx hb dX8_isOneKey_8 (lv_at hl 5 rfl) ?_
    refine lv_aload_n hx hb dX8_isOneKey_10 rfl (lv_at hl 0 rfl) ?_
    refine fG B X (LnX8_g L z) 4 rfl inTX8 (by decide) kw851 rfl dX8_isOneKey_11 ?_
    refine lv_iload_n hx hb dX8_isOneKey_14 rfl (lv_at hl 1 rfl) ?_
    by_cases hc1 : (x1 < 0 ∨ 2 ≤ x1.toNatClampNeg)
    · cases it h hc1
    have h := ie h hc1
    refine aG B X (LnX8_a4 L z) 0 rfl hc1 dX8_isOneKey_15 ?_
    refine lv_icmp_ge (tgt := 70) hx hb dX8_isOneKey_16 (by decide) (fun hc2 => ?_) (fun hc2 => ?_)
    · have h := it h hc2
      refine lv_iload hx hb dX8_isOneKey_70 (lv_at hl 4 rfl) ?_
      by_cases hc3 : (x4 = 0 ∨ x4 = 1)
      · have h := it h hc3
        exact rZ B X rfl (Option.some.inj h) (by rcases hc3 with e1 | e1 <;> rw [e1] <;> rfl) dX8_isOneKey_72
      · cases ie h hc3
    · have h := ie h hc2
      refine lv_iload_n hx hb dX8_isOneKey_19 rfl (lv_at hl 2 rfl) ?_
      refine lv_iload hx hb dX8_isOneKey_20 (lv_at hl 5 rfl) ?_
      obtain ⟨q5, h5, h⟩ := bs h
      refine kI X (cS (As := [.int x2, .int x5]) (rest := []) B X (tX8_isIn (d := d - 1) (by omega) h5) msX8_isIn kw1164 (by omega) rfl (Nat.le_of_ble_eq_true rfl) hl.1 ⟨Nat.zero_le _, Nat.zero_le _⟩ dX8_isOneKey_22) (fun H locs X => ?_)
      have X : Hx A D S.heap (wf z) H locs := X
      refine lv_if_eq (tgt := 64) hx hb dX8_isOneKey_25 (by decide) (fun hc6 => ?_) (fun hc6 => ?_)
      · have h := it h hc6
        refine lv_iinc (v := x5 + 1) (lv' := [(5, .int (x5 + 1)), (0, .ref (a 0)), (1, .int x1), (2, .int x2), (3, .int x3), (4, .int x4)]) hx hb dX8_isOneKey_64 hl (k := 5) rfl rfl (by decide) rfl (fun ls hl => ?_)
        refine lv_goto (tgt := 8) hx hb dX8_isOneKey_67 (by decide) ?_
        exact ih x1 x2 x3 x4 (x5 + 1) _ _ _ X (lv_sub hl [1, 2, 3, 4, 5, 0] rfl) h
      · have h := ie h hc6
        refine lv_iload hx hb dX8_isOneKey_28 (lv_at hl 4 rfl) ?_
        refine lv_if_eq (tgt := 53) hx hb dX8_isOneKey_30 (by decide) (fun hc7 => ?_) (fun hc7 => ?_)
        · have h := it h hc7
          refine lv_iconst (v := 0) hx hb dX8_isOneKey_53 (by decide) ?_
          refine lv_istore (lv' := [(4, .int 0), (0, .ref (a 0)), (1, .int x1), (2, .int x2), (3, .int x3), (5, .int x5)]) hx hb dX8_isOneKey_54 hl (by decide) rfl (fun ls hl => ?_)
          refine lv_aload_n hx hb dX8_isOneKey_56 rfl (lv_at hl 1 rfl) ?_
          refine lv_iload_n hx hb dX8_isOneKey_57 rfl (lv_at hl 2 rfl) ?_
          refine lv_iload hx hb dX8_isOneKey_58 (lv_at hl 5 rfl) ?_
          obtain ⟨q8, h8, h⟩ := bs h
          refine kI X (cV (As := [.int x1, .int x5]) (rest := []) B X (tX8_keyAt (d := d - 1) L (by omega) h8) mfX8_keyAt kw1090 (by omega) (LnX8_g L z) rfl rfl (Nat.le_of_ble_eq_true rfl) hl.1 ⟨Nat.zero_le _, Nat.zero_le _⟩ dX8_isOneKey_60) (fun H locs X => ?_)
          have X : Hx A D S.heap (wf z) H locs := X
          refine lv_istore_n (lv' := [(3, .int q8), (4, .int 0), (0, .ref (a 0)), (1, .int x1), (2, .int x2), (5, .int x5)]) hx hb dX8_isOneKey_63 rfl hl (by decide) rfl (fun ls hl => ?_)
          refine lv_iinc (v := x5 + 1) (lv' := [(5, .int (x5 + 1)), (3, .int q8), (4, .int 0), (0, .ref (a 0)), (1, .int x1), (2, .int x2)]) hx hb dX8_isOneKey_64 hl (k := 5) rfl rfl (by decide) rfl (fun ls hl => ?_)
          refine lv_goto (tgt := 8) hx hb dX8_isOneKey_67 (by decide) ?_
          exact ih x1 x2 q8 0 (x5 + 1) _ _ _ X (lv_sub hl [3, 4, 5, 1, 2, 0] rfl) h
        · have h := ie h hc7
          refine lv_iload_n hx hb dX8_isOneKey_33 rfl (lv_at hl 3 rfl) ?_
          refine lv_iconst (v := (-1)) hx hb dX8_isOneKey_34 (by decide) ?_
          refine lv_icmp_eq (tgt := 49) hx hb dX8_isOneKey_35 (by decide) (fun hc9 => ?_) (fun hc9 => ?_)
          · have h := it h hc9
            exact tX8_isOneKey_b49 L hd B ih x1 x2 x5 _ _ _ X (lv_sub hl [0, 1, 2, 5] rfl) h
          · have h := ie h hc9
            refine lv_aload_n hx hb dX8_isOneKey_38 rfl (lv_at hl 0 rfl) ?_
            refine lv_iload_n hx hb dX8_isOneKey_39 rfl (lv_at hl 1 rfl) ?_
            refine lv_iload hx hb dX8_isOneKey_40 (lv_at hl 5 rfl) ?_
            obtain ⟨q10, h10, h⟩ := bs h
            refine kI X (cV (As := [.int x1, .int x5]) (rest := []) B X (tX8_keyAt (d := d - 1) L (by omega) h10) mfX8_keyAt kw1090 (by omega) (LnX8_g L z) rfl rfl (Nat.le_of_ble_eq_true rfl) hl.1 ⟨Nat.zero_le _, Nat.zero_le _⟩ dX8_isOneKey_42) (fun H locs X => ?_)
            have X : Hx A D S.heap (wf z) H locs := X
            refine lv_iload_n hx hb dX8_isOneKey_45 rfl (lv_at hl 3 rfl) ?_
            refine lv_icmp_ne (tgt := 53) hx hb dX8_isOneKey_46 (by decide) (fun hc11 => ?_) (fun hc11 => ?_)
            · have h := ie h hc11
              refine lv_iconst (v := 0) hx hb dX8_isOneKey_53 (by decide) ?_
              refine lv_istore (lv' := [(4, .int 0), (0, .ref (a 0)), (1, .int x1), (2, .int x2), (3, .int x3), (5, .int x5)]) hx hb dX8_isOneKey_54 hl (by decide) rfl (fun ls hl => ?_)
              refine lv_aload_n hx hb dX8_isOneKey_56 rfl (lv_at hl 1 rfl) ?_
              refine lv_iload_n hx hb dX8_isOneKey_57 rfl (lv_at hl 2 rfl) ?_
              refine lv_iload hx hb dX8_isOneKey_58 (lv_at hl 5 rfl) ?_
              obtain ⟨q12, h12, h⟩ := bs h
              refine kI X (cV (As := [.int x1, .int x5]) (rest := []) B X (tX8_keyAt (d := d - 1) L (by omega) h12) mfX8_keyAt kw1090 (by omega) (LnX8_g L z) rfl rfl (Nat.le_of_ble_eq_true rfl) hl.1 ⟨Nat.zero_le _, Nat.zero_le _⟩ dX8_isOneKey_60) (fun H locs X => ?_)
              have X : Hx A D S.heap (wf z) H locs := X
              refine lv_istore_n (lv' := [(3, .int q12), (4, .int 0), (0, .ref (a 0)), (1, .int x1), (2, .int x2), (5, .int x5)]) hx hb dX8_isOneKey_63 rfl hl (by decide) rfl (fun ls hl => ?_)
              refine lv_iinc (v := x5 + 1) (lv' := [(5, .int (x5 + 1)), (3, .int q12), (4, .int 0), (0, .ref (a 0)), (1, .int x1), (2, .int x2)]) hx hb dX8_isOneKey_64 hl (k := 5) rfl rfl (by decide) rfl (fun ls hl => ?_)
              refine lv_goto (tgt := 8) hx hb dX8_isOneKey_67 (by decide) ?_
              exact ih x1 x2 q12 0 (x5 + 1) _ _ _ X (lv_sub hl [3, 4, 5, 1, 2, 0] rfl) h
            · have h := it h hc11
              exact tX8_isOneKey_b49 L hd B ih x1 x2 x5 _ _ _ X (lv_sub hl [0, 1, 2, 5] rfl) h
def fX8_isOneKey (z : SX8) (x1 : Int32) (x2 : Int32) : Option Int32 :=
    fX8_isOneKey_b8 z 1000 x1 x2 (-1) 1 0
set_option maxRecDepth 100000 in
set_option maxHeartbeats 4000000 in
theorem tX8_isOneKey {a q : Nat → Nat} {wf : SX8 → va_W} (L : LnX8 a q cI cB wf) {d : Nat} (hd : 2 ≤ d) {z : SX8} {x1 x2 : Int32} {q : Int32} (h : fX8_isOneKey z x1 x2 = some q) : Ct l yX8_isOneKey cX8_isOneKey 6 (some .boolean) d A g D [(cI, .int), (cB, .byte)] [.ref (a 0), .int x1, .int x2] (wf z) (QI A D (wf z) q) := by
  refine mkM (by decide) (Nat.le_of_ble_eq_true rfl) ?_
  intro p e S m args below meth c B X ls hl
  have B : Bd RX8 cX8_isOneKey 6 (some .boolean) d A g D [(cI, .int), (cB, .byte)] p (rmd d) S m args meth c := B
  have hx := B.1
  have hb := B.2.1
  have hd1 : 1 ≤ d := by omega
  have hl : lv_has ls 6 [(0, .ref (a 0)), (1, .int x1), (2, .int x2)] := hl
  unfold fX8_isOneKey at h
  refine lv_iconst (v := (-1)) hx hb dX8_isOneKey_0 (by decide) ?_
  refine lv_istore_n (lv' := [(3, .int (-1)), (0, .ref (a 0)), (1, .int x1), (2, .int x2)]) hx hb dX8_isOneKey_1 rfl hl (by decide) rfl (fun ls hl => ?_)
  refine lv_iconst (v := 1) hx hb dX8_isOneKey_2 (by decide) ?_
  refine lv_istore (lv' := [(4, .int 1), (3, .int (-1)), (0, .ref (a 0)), (1, .int x1), (2, .int x2)]) hx hb dX8_isOneKey_3 hl (by decide) rfl (fun ls hl => ?_)
  refine lv_iconst (v := 0) hx hb dX8_isOneKey_5 (by decide) ?_
  refine lv_istore (lv' := [(5, .int 0), (4, .int 1), (3, .int (-1)), (0, .ref (a 0)), (1, .int x1), (2, .int x2)]) hx hb dX8_isOneKey_6 hl (by decide) rfl (fun ls hl => ?_)
  exact tX8_isOneKey_b8 L hd B 1000 x1 x2 (-1) 1 0 _ _ _ X (lv_sub hl [3, 4, 5, 2, 1, 0] rfl) h
def fX8_half_b6 (z : SX8) : Nat → Int32 → Int32 → Int32 → Int32 → Int32 → Int32 → Option Int32
  | 0, _, _, _, _, _, _ => none
  | n + 1, x1, x2, x3, x4, x5, x6 =>
    if x1 < 0 ∨ 2 ≤ x1.toNatClampNeg then none else
    (if ((z.2.2 4) x1.toNatClampNeg) ≤ x6 then (some x5) else
    ((fX8_isIn x2 x6).bind fun q3 =>
    if q3 = 0 then (fX8_half_b6 z n x1 x2 x3 x4 (x5 ||| 0) (x6 + 1)) else
    ((fX8_keyAt z x1 x6).bind fun q5 =>
    if ((q5 >>> (x3 &&& 31)) &&& 1) = x4 then (fX8_half_b6 z n x1 x2 x3 x4 (x5 ||| (1 <<< (x6 &&& 31))) (x6 + 1)) else
    (fX8_half_b6 z n x1 x2 x3 x4 (x5 ||| 0) (x6 + 1)))))
set_option maxRecDepth 100000 in
set_option maxHeartbeats 4000000 in
theorem tX8_half_b6 {a q : Nat → Nat} {wf : SX8 → va_W} (L : LnX8 a q cI cB wf) {d : Nat} (hd : 2 ≤ d) {z : SX8} (B : Bd RX8 cX8_half 7 (some .int) d A g D [(cI, .int), (cB, .byte)] p R S m args meth c) {q : Int32} : ∀ (n : Nat) (x1 : Int32) (x2 : Int32) (x3 : Int32) (x4 : Int32) (x5 : Int32) (x6 : Int32) (H : Heap) (locs : List Loc) (ls : Array Slot), Hx A D S.heap (wf z) H locs → lv_has ls 7 [(0, .ref (a 0)), (1, .int x1), (2, .int x2), (3, .int x3), (4, .int x4), (5, .int x5), (6, .int x6)] → fX8_half_b6 z n x1 x2 x3 x4 x5 x6 = some q → W p l e R S m args below meth c H locs 0 0 (MQ below (QI A D (wf z) q) args S 0 0 A) (F0 m 6 ls []) := by
  have hx := B.1
  have hb := B.2.1
  have hd1 : 1 ≤ d := by omega
  intro n
  induction n with
  | zero =>
    intro x1 x2 x3 x4 x5 x6 H locs ls X hl h
    cases h
  | succ n ih =>
    intro x1 x2 x3 x4 x5 x6 H locs ls X hl h
    rw [fX8_half_b6] at h
    refine lv_iload hx hb dX8_half_6 (lv_at hl 6 rfl) ?_
    refine lv_aload_n hx hb dX8_half_8 rfl (lv_at hl 0 rfl) ?_
    refine fG B X (LnX8_g L z) 4 rfl inTX8 (by decide) kw851 rfl dX8_half_9 ?_
    refine lv_iload_n hx hb dX8_half_12 rfl (lv_at hl 1 rfl) ?_
    by_cases hc1 : (x1 < 0 ∨ 2 ≤ x1.toNatClampNeg)
    · cases it h hc1
    have h := ie h hc1
    refine aG B X (LnX8_a4 L z) 0 rfl hc1 dX8_half_13 ?_
    refine lv_icmp_ge (tgt := 61) hx hb dX8_half_14 (by decide) (fun hc2 => ?_) (fun hc2 => ?_)
    · have h := it h hc2
      refine lv_iload hx hb dX8_half_61 (lv_at hl 5 rfl) ?_
      exact rI B X rfl (Option.some.inj h) dX8_half_63
    · have h := ie h hc2
      refine lv_iload hx hb dX8_half_17 (lv_at hl 5 rfl) ?_
      refine lv_iload_n hx hb dX8_half_19 rfl (lv_at hl 2 rfl) ?_
      refine lv_iload hx hb dX8_half_20 (lv_at hl 6 rfl) ?_
      obtain ⟨q3, h3, h⟩ := bs h
      refine kI X (cS (As := [.int x2, .int x6]) (rest := [.int x5]) B X (tX8_isIn (d := d - 1) (by omega) h3) msX8_isIn kw1164 (by omega) rfl (Nat.le_of_ble_eq_true rfl) hl.1 ⟨Nat.zero_le _, Nat.zero_le _⟩ dX8_half_22) (fun H locs X => ?_)
      have X : Hx A D S.heap (wf z) H locs := X
      refine lv_if_eq (tgt := 51) hx hb dX8_half_25 (by decide) (fun hc4 => ?_) (fun hc4 => ?_)
      · have h := it h hc4
        refine lv_iconst (v := 0) hx hb dX8_half_51 (by decide) ?_
        refine lv_ior hx hb dX8_half_52 ?_
        refine lv_istore (lv' := [(5, .int (x5 ||| 0)), (0, .ref (a 0)), (1, .int x1), (2, .int x2), (3, .int x3), (4, .int x4), (6, .int x6)]) hx hb dX8_half_53 hl (by decide) rfl (fun ls hl => ?_)
        refine lv_iinc (v := x6 + 1) (lv' := [(6, .int (x6 + 1)), (5, .int (x5 ||| 0)), (0, .ref (a 0)), (1, .int x1), (2, .int x2), (3, .int x3), (4, .int x4)]) hx hb dX8_half_55 hl (k := 6) rfl rfl (by decide) rfl (fun ls hl => ?_)
        refine lv_goto (tgt := 6) hx hb dX8_half_58 (by decide) ?_
        exact ih x1 x2 x3 x4 (x5 ||| 0) (x6 + 1) _ _ _ X (lv_sub hl [2, 3, 4, 5, 6, 1, 0] rfl) h
      · have h := ie h hc4
        refine lv_aload_n hx hb dX8_half_28 rfl (lv_at hl 0 rfl) ?_
        refine lv_iload_n hx hb dX8_half_29 rfl (lv_at hl 1 rfl) ?_
        refine lv_iload hx hb dX8_half_30 (lv_at hl 6 rfl) ?_
        obtain ⟨q5, h5, h⟩ := bs h
        refine kI X (cV (As := [.int x1, .int x6]) (rest := [.int x5]) B X (tX8_keyAt (d := d - 1) L (by omega) h5) mfX8_keyAt kw1090 (by omega) (LnX8_g L z) rfl rfl (Nat.le_of_ble_eq_true rfl) hl.1 ⟨Nat.zero_le _, Nat.zero_le _⟩ dX8_half_32) (fun H locs X => ?_)
        have X : Hx A D S.heap (wf z) H locs := X
        refine lv_iload_n hx hb dX8_half_35 rfl (lv_at hl 3 rfl) ?_
        refine lv_ishr hx hb dX8_half_36 ?_
        refine lv_iconst (v := 1) hx hb dX8_half_37 (by decide) ?_
        refine lv_iand hx hb dX8_half_38 ?_
        refine lv_iload hx hb dX8_half_39 (lv_at hl 4 rfl) ?_
        refine lv_icmp_ne (tgt := 51) hx hb dX8_half_41 (by decide) (fun hc6 => ?_) (fun hc6 => ?_)
        · have h := ie h hc6
          refine lv_iconst (v := 0) hx hb dX8_half_51 (by decide) ?_
          refine lv_ior hx hb dX8_half_52 ?_
          refine lv_istore (lv' := [(5, .int (x5 ||| 0)), (0, .ref (a 0)), (1, .int x1), (2, .int x2), (3, .int x3), (4, .int x4), (6, .int x6)]) hx hb dX8_half_53 hl (by decide) rfl (fun ls hl => ?_)
          refine lv_iinc (v := x6 + 1) (lv' := [(6, .int (x6 + 1)), (5, .int (x5 ||| 0)), (0, .ref (a 0)), (1, .int x1), (2, .int x2), (3, .int x3), (4, .int x4)]) hx hb dX8_half_55 hl (k := 6) rfl rfl (by decide) rfl (fun ls hl => ?_)
          refine lv_goto (tgt := 6) hx hb dX8_half_58 (by decide) ?_
          exact ih x1 x2 x3 x4 (x5 ||| 0) (x6 + 1) _ _ _ X (lv_sub hl [2, 3, 4, 5, 6, 1, 0] rfl) h
        · have h := it h hc6
          refine lv_iconst (v := 1) hx hb dX8_half_44 (by decide) ?_
          refine lv_iload hx hb dX8_half_45 (lv_at hl 6 rfl) ?_
          refine lv_ishl hx hb dX8_half_47 ?_
          refine lv_goto (tgt := 52) hx hb dX8_half_48 (by decide) ?_
          refine lv_ior hx hb dX8_half_52 ?_
          refine lv_istore (lv' := [(5, .int (x5 ||| (1 <<< (x6 &&& 31)))), (0, .ref (a 0)), (1, .int x1), (2, .int x2), (3, .int x3), (4, .int x4), (6, .int x6)]) hx hb dX8_half_53 hl (by decide) rfl (fun ls hl => ?_)
          refine lv_iinc (v := x6 + 1) (lv' := [(6, .int (x6 + 1)), (5, .int (x5 ||| (1 <<< (x6 &&& 31)))), (0, .ref (a 0)), (1, .int x1), (2, .int x2), (3, .int x3), (4, .int x4)]) hx hb dX8_half_55 hl (k := 6) rfl rfl (by decide) rfl (fun ls hl => ?_)
          refine lv_goto (tgt := 6) hx hb dX8_half_58 (by decide) ?_
          exact ih x1 x2 x3 x4 (x5 ||| (1 <<< (x6 &&& 31))) (x6 + 1) _ _ _ X (lv_sub hl [2, 3, 4, 5, 6, 1, 0] rfl) h
def fX8_half (z : SX8) (x1 : Int32) (x2 : Int32) (x3 : Int32) (x4 : Int32) : Option Int32 :=
    fX8_half_b6 z 1000 x1 x2 x3 x4 0 0
set_option maxRecDepth 100000 in
set_option maxHeartbeats 4000000 in
theorem tX8_half {a q : Nat → Nat} {wf : SX8 → va_W} (L : LnX8 a q cI cB wf) {d : Nat} (hd : 2 ≤ d) {z : SX8} {x1 x2 x3 x4 : Int32} {q : Int32} (h : fX8_half z x1 x2 x3 x4 = some q) : Ct l yX8_half cX8_half 7 (some .int) d A g D [(cI, .int), (cB, .byte)] [.ref (a 0), .int x1, .int x2, .int x3, .int x4] (wf z) (QI A D (wf z) q) := by
  refine mkM (by decide) (Nat.le_of_ble_eq_true rfl) ?_
  intro p e S m args below meth c B X ls hl
  have B : Bd RX8 cX8_half 7 (some .int) d A g D [(cI, .int), (cB, .byte)] p (rmd d) S m args meth c := B
  have hx := B.1
  have hb := B.2.1
  have hd1 : 1 ≤ d := by omega
  have hl : lv_has ls 7 [(0, .ref (a 0)), (1, .int x1), (2, .int x2), (3, .int x3), (4, .int x4)] := hl
  unfold fX8_half at h
  refine lv_iconst (v := 0) hx hb dX8_half_0 (by decide) ?_
  refine lv_istore (lv' := [(5, .int 0), (0, .ref (a 0)), (1, .int x1), (2, .int x2), (3, .int x3), (4, .int x4)]) hx hb dX8_half_1 hl (by decide) rfl (fun ls hl => ?_)
  refine lv_iconst (v := 0) hx hb dX8_half_3 (by decide) ?_
  refine lv_istore (lv' := [(6, .int 0), (5, .int 0), (0, .ref (a 0)), (1, .int x1), (2, .int x2), (3, .int x3), (4, .int x4)]) hx hb dX8_half_4 hl (by decide) rfl (fun ls hl => ?_)
  exact tX8_half_b6 L hd B 1000 x1 x2 x3 x4 0 0 _ _ _ X (lv_sub hl [2, 3, 4, 5, 6, 1, 0] rfl) h
def fX8_halfOf (z : SX8) (x1 : Int32) (x2 : Int32) (x3 : Int32) : Option Int32 :=
    if x2 = 0 then (if x1 < 0 ∨ 6 ≤ x1.toNatClampNeg then none else
    ((fX8_half z x2 ((z.2.2 36) x1.toNatClampNeg) x1 x3).bind fun q5 =>
    some q5)) else
    (if x1 < 0 ∨ 6 ≤ x1.toNatClampNeg then none else
    ((fX8_half z x2 ((z.2.2 37) x1.toNatClampNeg) x1 x3).bind fun q3 =>
    some q3))
set_option maxRecDepth 100000 in
set_option maxHeartbeats 4000000 in
theorem tX8_halfOf {a q : Nat → Nat} {wf : SX8 → va_W} (L : LnX8 a q cI cB wf) {d : Nat} (hd : 3 ≤ d) {z : SX8} {x1 x2 x3 : Int32} {q : Int32} (h : fX8_halfOf z x1 x2 x3 = some q) : Ct l yX8_halfOf cX8_halfOf 4 (some .int) d A g D [(cI, .int), (cB, .byte)] [.ref (a 0), .int x1, .int x2, .int x3] (wf z) (QI A D (wf z) q) := by
  refine mkM (by decide) (Nat.le_of_ble_eq_true rfl) ?_
  intro p e S m args below meth c B X ls hl
  have B : Bd RX8 cX8_halfOf 4 (some .int) d A g D [(cI, .int), (cB, .byte)] p (rmd d) S m args meth c := B
  have hx := B.1
  have hb := B.2.1
  have hd1 : 1 ≤ d := by omega
  have hl : lv_has ls 4 [(0, .ref (a 0)), (1, .int x1), (2, .int x2), (3, .int x3)] := hl
  unfold fX8_halfOf at h
  refine lv_aload_n hx hb dX8_halfOf_0 rfl (lv_at hl 0 rfl) ?_
  refine lv_iload_n hx hb dX8_halfOf_1 rfl (lv_at hl 2 rfl) ?_
  refine lv_iload_n hx hb dX8_halfOf_2 rfl (lv_at hl 2 rfl) ?_
  refine lv_if_ne (tgt := 15) hx hb dX8_halfOf_3 (by decide) (fun hc1 => ?_) (fun hc1 => ?_)
  · have h := ie h hc1
    refine lv_aload_n hx hb dX8_halfOf_15 rfl (lv_at hl 0 rfl) ?_
    refine fG B X (LnX8_g L z) 37 rfl inTX8 (by decide) kw884 rfl dX8_halfOf_16 ?_
    refine lv_iload_n hx hb dX8_halfOf_19 rfl (lv_at hl 1 rfl) ?_
    by_cases hc2 : (x1 < 0 ∨ 6 ≤ x1.toNatClampNeg)
    · cases it h hc2
    have h := ie h hc2
    refine aG B X (LnX8_a37 L z) 0 rfl hc2 dX8_halfOf_20 ?_
    refine lv_iload_n hx hb dX8_halfOf_21 rfl (lv_at hl 1 rfl) ?_
    refine lv_iload_n hx hb dX8_halfOf_22 rfl (lv_at hl 3 rfl) ?_
    obtain ⟨q3, h3, h⟩ := bs h
    refine kI X (cV (As := [.int x2, .int ((z.2.2 37) x1.toNatClampNeg), .int x1, .int x3]) (rest := []) B X (tX8_half (d := d - 1) L (by omega) h3) mfX8_half kw1215 (by omega) (LnX8_g L z) rfl rfl (Nat.le_of_ble_eq_true rfl) hl.1 ⟨Nat.zero_le _, Nat.zero_le _⟩ dX8_halfOf_23) (fun H locs X => ?_)
    have X : Hx A D S.heap (wf z) H locs := X
    exact rI B X rfl (Option.some.inj h) dX8_halfOf_26
  · have h := it h hc1
    refine lv_aload_n hx hb dX8_halfOf_6 rfl (lv_at hl 0 rfl) ?_
    refine fG B X (LnX8_g L z) 36 rfl inTX8 (by decide) kw883 rfl dX8_halfOf_7 ?_
    refine lv_iload_n hx hb dX8_halfOf_10 rfl (lv_at hl 1 rfl) ?_
    by_cases hc4 : (x1 < 0 ∨ 6 ≤ x1.toNatClampNeg)
    · cases it h hc4
    have h := ie h hc4
    refine aG B X (LnX8_a36 L z) 0 rfl hc4 dX8_halfOf_11 ?_
    refine lv_goto (tgt := 21) hx hb dX8_halfOf_12 (by decide) ?_
    refine lv_iload_n hx hb dX8_halfOf_21 rfl (lv_at hl 1 rfl) ?_
    refine lv_iload_n hx hb dX8_halfOf_22 rfl (lv_at hl 3 rfl) ?_
    obtain ⟨q5, h5, h⟩ := bs h
    refine kI X (cV (As := [.int x2, .int ((z.2.2 36) x1.toNatClampNeg), .int x1, .int x3]) (rest := []) B X (tX8_half (d := d - 1) L (by omega) h5) mfX8_half kw1215 (by omega) (LnX8_g L z) rfl rfl (Nat.le_of_ble_eq_true rfl) hl.1 ⟨Nat.zero_le _, Nat.zero_le _⟩ dX8_halfOf_23) (fun H locs X => ?_)
    have X : Hx A D S.heap (wf z) H locs := X
    exact rI B X rfl (Option.some.inj h) dX8_halfOf_26
def fX8_rowsOfHalf (z : SX8) (x1 : Int32) (x2 : Int32) : Option Int32 :=
    (fX8_halfOf z x1 0 x2).bind fun q1 =>
    (fX8_size q1).bind fun q2 =>
    (fX8_halfOf z x1 1 x2).bind fun q3 =>
    (fX8_size q3).bind fun q4 =>
    some (q2 + q4)
set_option maxRecDepth 100000 in
set_option maxHeartbeats 4000000 in
theorem tX8_rowsOfHalf {a q : Nat → Nat} {wf : SX8 → va_W} (L : LnX8 a q cI cB wf) {d : Nat} (hd : 4 ≤ d) {z : SX8} {x1 x2 : Int32} {q : Int32} (h : fX8_rowsOfHalf z x1 x2 = some q) : Ct l yX8_rowsOfHalf cX8_rowsOfHalf 3 (some .int) d A g D [(cI, .int), (cB, .byte)] [.ref (a 0), .int x1, .int x2] (wf z) (QI A D (wf z) q) := by
  refine mkM (by decide) (Nat.le_of_ble_eq_true rfl) ?_
  intro p e S m args below meth c B X ls hl
  have B : Bd RX8 cX8_rowsOfHalf 3 (some .int) d A g D [(cI, .int), (cB, .byte)] p (rmd d) S m args meth c := B
  have hx := B.1
  have hb := B.2.1
  have hd1 : 1 ≤ d := by omega
  have hl : lv_has ls 3 [(0, .ref (a 0)), (1, .int x1), (2, .int x2)] := hl
  unfold fX8_rowsOfHalf at h
  refine lv_aload_n hx hb dX8_rowsOfHalf_0 rfl (lv_at hl 0 rfl) ?_
  refine lv_iload_n hx hb dX8_rowsOfHalf_1 rfl (lv_at hl 1 rfl) ?_
  refine lv_iconst (v := 0) hx hb dX8_rowsOfHalf_2 (by decide) ?_
  refine lv_iload_n hx hb dX8_rowsOfHalf_3 rfl (lv_at hl 2 rfl) ?_
  obtain ⟨q1, h1, h⟩ := bs h
  refine kI X (cV (As := [.int x1, .int 0, .int x2]) (rest := []) B X (tX8_halfOf (d := d - 1) L (by omega) h1) mfX8_halfOf kw1211 (by omega) (LnX8_g L z) rfl rfl (Nat.le_of_ble_eq_true rfl) hl.1 ⟨Nat.zero_le _, Nat.zero_le _⟩ dX8_rowsOfHalf_4) (fun H locs X => ?_)
  have X : Hx A D S.heap (wf z) H locs := X
  obtain ⟨q2, h2, h⟩ := bs h
  refine kI X (cS (As := [.int q1]) (rest := []) B X (tX8_size (d := d - 1) (by omega) h2) msX8_size kw1145 (by omega) rfl (Nat.le_of_ble_eq_true rfl) hl.1 ⟨Nat.zero_le _, Nat.zero_le _⟩ dX8_rowsOfHalf_7) (fun H locs X => ?_)
  have X : Hx A D S.heap (wf z) H locs := X
  refine lv_aload_n hx hb dX8_rowsOfHalf_10 rfl (lv_at hl 0 rfl) ?_
  refine lv_iload_n hx hb dX8_rowsOfHalf_11 rfl (lv_at hl 1 rfl) ?_
  refine lv_iconst (v := 1) hx hb dX8_rowsOfHalf_12 (by decide) ?_
  refine lv_iload_n hx hb dX8_rowsOfHalf_13 rfl (lv_at hl 2 rfl) ?_
  obtain ⟨q3, h3, h⟩ := bs h
  refine kI X (cV (As := [.int x1, .int 1, .int x2]) (rest := [.int q2]) B X (tX8_halfOf (d := d - 1) L (by omega) h3) mfX8_halfOf kw1211 (by omega) (LnX8_g L z) rfl rfl (Nat.le_of_ble_eq_true rfl) hl.1 ⟨Nat.zero_le _, Nat.zero_le _⟩ dX8_rowsOfHalf_14) (fun H locs X => ?_)
  have X : Hx A D S.heap (wf z) H locs := X
  obtain ⟨q4, h4, h⟩ := bs h
  refine kI X (cS (As := [.int q3]) (rest := [.int q2]) B X (tX8_size (d := d - 1) (by omega) h4) msX8_size kw1145 (by omega) rfl (Nat.le_of_ble_eq_true rfl) hl.1 ⟨Nat.zero_le _, Nat.zero_le _⟩ dX8_rowsOfHalf_17) (fun H locs X => ?_)
  have X : Hx A D S.heap (wf z) H locs := X
  refine lv_iadd hx hb dX8_rowsOfHalf_20 ?_
  exact rI B X rfl (Option.some.inj h) dX8_rowsOfHalf_21
def fX8_resident_b64 (z : SX8) (x1 : Int32) (y0 : Int32) : Option Int32 :=
    if y0 = (-1) then (some y0) else
    ((fX8_rowsOfHalf z x1 y0).bind fun q2 =>
    if q2 = 0 then (some (-1)) else
    (some y0))
set_option maxRecDepth 100000 in
set_option maxHeartbeats 4000000 in
theorem tX8_resident_b64 {a q : Nat → Nat} {wf : SX8 → va_W} (L : LnX8 a q cI cB wf) {d : Nat} (hd : 5 ≤ d) {z : SX8} (B : Bd RX8 cX8_resident 6 (some .int) d A g D [(cI, .int), (cB, .byte)] p R S m args meth c) {q : Int32} : ∀ (x1 : Int32) (y0 : Int32) (H : Heap) (locs : List Loc) (ls : Array Slot), Hx A D S.heap (wf z) H locs → lv_has ls 6 [(0, .ref (a 0)), (1, .int x1)] → fX8_resident_b64 z x1 y0 = some q → W p l e R S m args below meth c H locs 0 0 (MQ below (QI A D (wf z) q) args S 0 0 A) (F0 m 64 ls [.int y0]) := by
  have hx := B.1
  have hb := B.2.1
  have hd1 : 1 ≤ d := by omega
  intro x1 y0 H locs ls X hl h
  unfold fX8_resident_b64 at h
  refine lv_istore (lv' := [(5, .int y0), (0, .ref (a 0)), (1, .int x1)]) hx hb dX8_resident_64 hl (by decide) rfl (fun ls hl => ?_)
  refine lv_iload hx hb dX8_resident_66 (lv_at hl 0 rfl) ?_
  refine lv_iconst (v := (-1)) hx hb dX8_resident_68 (by decide) ?_
  refine lv_icmp_eq (tgt := 86) hx hb dX8_resident_69 (by decide) (fun hc1 => ?_) (fun hc1 => ?_)
  · have h := it h hc1
    refine lv_iload hx hb dX8_resident_86 (lv_at hl 0 rfl) ?_
    exact rI B X rfl (Option.some.inj h) dX8_resident_88
  · have h := ie h hc1
    refine lv_aload_n hx hb dX8_resident_72 rfl (lv_at hl 1 rfl) ?_
    refine lv_iload_n hx hb dX8_resident_73 rfl (lv_at hl 2 rfl) ?_
    refine lv_iload hx hb dX8_resident_74 (lv_at hl 0 rfl) ?_
    obtain ⟨q2, h2, h⟩ := bs h
    refine kI X (cV (As := [.int x1, .int y0]) (rest := []) B X (tX8_rowsOfHalf (d := d - 1) L (by omega) h2) mfX8_rowsOfHalf kw1219 (by omega) (LnX8_g L z) rfl rfl (Nat.le_of_ble_eq_true rfl) hl.1 ⟨Nat.zero_le _, Nat.zero_le _⟩ dX8_resident_76) (fun H locs X => ?_)
    have X : Hx A D S.heap (wf z) H locs := X
    refine lv_if_ne (tgt := 86) hx hb dX8_resident_79 (by decide) (fun hc3 => ?_) (fun hc3 => ?_)
    · have h := ie h hc3
      refine lv_iload hx hb dX8_resident_86 (lv_at hl 0 rfl) ?_
      exact rI B X rfl (Option.some.inj h) dX8_resident_88
    · have h := it h hc3
      refine lv_iconst (v := (-1)) hx hb dX8_resident_82 (by decide) ?_
      refine lv_goto (tgt := 88) hx hb dX8_resident_83 (by decide) ?_
      exact rI B X rfl (Option.some.inj h) dX8_resident_88
def fX8_resident_b50 (z : SX8) (x1 : Int32) (x4 : Int32) : Option Int32 :=
    if (z.1 1) < x4 then (fX8_resident_b64 z x1 (-1)) else
    (fX8_resident_b64 z x1 1)
set_option maxRecDepth 100000 in
set_option maxHeartbeats 4000000 in
theorem tX8_resident_b50 {a q : Nat → Nat} {wf : SX8 → va_W} (L : LnX8 a q cI cB wf) {d : Nat} (hd : 5 ≤ d) {z : SX8} (B : Bd RX8 cX8_resident 6 (some .int) d A g D [(cI, .int), (cB, .byte)] p R S m args meth c) {q : Int32} : ∀ (x1 : Int32) (x4 : Int32) (H : Heap) (locs : List Loc) (ls : Array Slot), Hx A D S.heap (wf z) H locs → lv_has ls 6 [(0, .ref (a 0)), (1, .int x1), (4, .int x4)] → fX8_resident_b50 z x1 x4 = some q → W p l e R S m args below meth c H locs 0 0 (MQ below (QI A D (wf z) q) args S 0 0 A) (F0 m 50 ls []) := by
  have hx := B.1
  have hb := B.2.1
  have hd1 : 1 ≤ d := by omega
  intro x1 x4 H locs ls X hl h
  unfold fX8_resident_b50 at h
  refine lv_iload hx hb dX8_resident_50 (lv_at hl 2 rfl) ?_
  refine lv_aload_n hx hb dX8_resident_52 rfl (lv_at hl 0 rfl) ?_
  refine fG B X (LnX8_g L z) 1 rfl inTX8 (by decide) kw848 rfl dX8_resident_53 ?_
  refine lv_icmp_gt (tgt := 63) hx hb dX8_resident_56 (by decide) (fun hc1 => ?_) (fun hc1 => ?_)
  · have h := it h hc1
    refine lv_iconst (v := (-1)) hx hb dX8_resident_63 (by decide) ?_
    exact tX8_resident_b64 L hd B x1 (-1) _ _ _ X (lv_sub hl [0, 1] rfl) h
  · have h := ie h hc1
    refine lv_iconst (v := 1) hx hb dX8_resident_59 (by decide) ?_
    refine lv_goto (tgt := 64) hx hb dX8_resident_60 (by decide) ?_
    exact tX8_resident_b64 L hd B x1 1 _ _ _ X (lv_sub hl [0, 1] rfl) h
def fX8_resident_b46 (z : SX8) (x1 : Int32) : Option Int32 :=
    fX8_resident_b64 z x1 0
set_option maxRecDepth 100000 in
set_option maxHeartbeats 4000000 in
theorem tX8_resident_b46 {a q : Nat → Nat} {wf : SX8 → va_W} (L : LnX8 a q cI cB wf) {d : Nat} (hd : 5 ≤ d) {z : SX8} (B : Bd RX8 cX8_resident 6 (some .int) d A g D [(cI, .int), (cB, .byte)] p R S m args meth c) {q : Int32} : ∀ (x1 : Int32) (H : Heap) (locs : List Loc) (ls : Array Slot), Hx A D S.heap (wf z) H locs → lv_has ls 6 [(0, .ref (a 0)), (1, .int x1)] → fX8_resident_b46 z x1 = some q → W p l e R S m args below meth c H locs 0 0 (MQ below (QI A D (wf z) q) args S 0 0 A) (F0 m 46 ls []) := by
  have hx := B.1
  have hb := B.2.1
  have hd1 : 1 ≤ d := by omega
  intro x1 H locs ls X hl h
  unfold fX8_resident_b46 at h
  refine lv_iconst (v := 0) hx hb dX8_resident_46 (by decide) ?_
  refine lv_goto (tgt := 64) hx hb dX8_resident_47 (by decide) ?_
  exact tX8_resident_b64 L hd B x1 0 _ _ _ X (lv_sub hl [0, 1] rfl) h
def fX8_resident (z : SX8) (x1 : Int32) (x2 : Int32) : Option Int32 :=
    (fX8_halfOf z x1 x2 0).bind fun q1 =>
    (fX8_size q1).bind fun q2 =>
    (fX8_halfOf z x1 x2 1).bind fun q3 =>
    (fX8_size q3).bind fun q4 =>
    if (z.1 1) < q2 then (fX8_resident_b50 z x1 q4) else
    (if (z.1 1) < q4 then (fX8_resident_b46 z x1) else
    (if q2 < q4 then (fX8_resident_b50 z x1 q4) else
    (fX8_resident_b46 z x1)))
set_option maxRecDepth 100000 in
set_option maxHeartbeats 4000000 in
theorem tX8_resident {a q : Nat → Nat} {wf : SX8 → va_W} (L : LnX8 a q cI cB wf) {d : Nat} (hd : 5 ≤ d) {z : SX8} {x1 x2 : Int32} {q : Int32} (h : fX8_resident z x1 x2 = some q) : Ct l yX8_resident cX8_resident 6 (some .int) d A g D [(cI, .int), (cB, .byte)] [.ref (a 0), .int x1, .int x2] (wf z) (QI A D (wf z) q) := by
  refine mkM (by decide) (Nat.le_of_ble_eq_true rfl) ?_
  intro p e S m args below meth c B X ls hl
  have B : Bd RX8 cX8_resident 6 (some .int) d A g D [(cI, .int), (cB, .byte)] p (rmd d) S m args meth c := B
  have hx := B.1
  have hb := B.2.1
  have hd1 : 1 ≤ d := by omega
  have hl : lv_has ls 6 [(0, .ref (a 0)), (1, .int x1), (2, .int x2)] := hl
  unfold fX8_resident at h
  refine lv_aload_n hx hb dX8_resident_0 rfl (lv_at hl 0 rfl) ?_
  refine lv_iload_n hx hb dX8_resident_1 rfl (lv_at hl 1 rfl) ?_
  refine lv_iload_n hx hb dX8_resident_2 rfl (lv_at hl 2 rfl) ?_
  refine lv_iconst (v := 0) hx hb dX8_resident_3 (by decide) ?_
  obtain ⟨q1, h1, h⟩ := bs h
  refine kI X (cV (As := [.int x1, .int x2, .int 0]) (rest := []) B X (tX8_halfOf (d := d - 1) L (by omega) h1) mfX8_halfOf kw1211 (by omega) (LnX8_g L z) rfl rfl (Nat.le_of_ble_eq_true rfl) hl.1 ⟨Nat.zero_le _, Nat.zero_le _⟩ dX8_resident_4) (fun H locs X => ?_)
  have X : Hx A D S.heap (wf z) H locs := X
  obtain ⟨q2, h2, h⟩ := bs h
  refine kI X (cS (As := [.int q1]) (rest := []) B X (tX8_size (d := d - 1) (by omega) h2) msX8_size kw1145 (by omega) rfl (Nat.le_of_ble_eq_true rfl) hl.1 ⟨Nat.zero_le _, Nat.zero_le _⟩ dX8_resident_7) (fun H locs X => ?_)
  have X : Hx A D S.heap (wf z) H locs := X
  refine lv_istore_n (lv' := [(3, .int q2), (0, .ref (a 0)), (1, .int x1), (2, .int x2)]) hx hb dX8_resident_10 rfl hl (by decide) rfl (fun ls hl => ?_)
  refine lv_aload_n hx hb dX8_resident_11 rfl (lv_at hl 1 rfl) ?_
  refine lv_iload_n hx hb dX8_resident_12 rfl (lv_at hl 2 rfl) ?_
  refine lv_iload_n hx hb dX8_resident_13 rfl (lv_at hl 3 rfl) ?_
  refine lv_iconst (v := 1) hx hb dX8_resident_14 (by decide) ?_
  obtain ⟨q3, h3, h⟩ := bs h
  refine kI X (cV (As := [.int x1, .int x2, .int 1]) (rest := []) B X (tX8_halfOf (d := d - 1) L (by omega) h3) mfX8_halfOf kw1211 (by omega) (LnX8_g L z) rfl rfl (Nat.le_of_ble_eq_true rfl) hl.1 ⟨Nat.zero_le _, Nat.zero_le _⟩ dX8_resident_15) (fun H locs X => ?_)
  have X : Hx A D S.heap (wf z) H locs := X
  obtain ⟨q4, h4, h⟩ := bs h
  refine kI X (cS (As := [.int q3]) (rest := []) B X (tX8_size (d := d - 1) (by omega) h4) msX8_size kw1145 (by omega) rfl (Nat.le_of_ble_eq_true rfl) hl.1 ⟨Nat.zero_le _, Nat.zero_le _⟩ dX8_resident_18) (fun H locs X => ?_)
  have X : Hx A D S.heap (wf z) H locs := X
  refine lv_istore (lv' := [(4, .int q4), (3, .int q2), (0, .ref (a 0)), (1, .int x1), (2, .int x2)]) hx hb dX8_resident_21 hl (by decide) rfl (fun ls hl => ?_)
  refine lv_iload_n hx hb dX8_resident_23 rfl (lv_at hl 1 rfl) ?_
  refine lv_aload_n hx hb dX8_resident_24 rfl (lv_at hl 2 rfl) ?_
  refine fG B X (LnX8_g L z) 1 rfl inTX8 (by decide) kw848 rfl dX8_resident_25 ?_
  refine lv_icmp_gt (tgt := 50) hx hb dX8_resident_28 (by decide) (fun hc5 => ?_) (fun hc5 => ?_)
  · have h := it h hc5
    exact tX8_resident_b50 L hd B x1 q4 _ _ _ X (lv_sub hl [2, 3, 0] rfl) h
  · have h := ie h hc5
    refine lv_iload hx hb dX8_resident_31 (lv_at hl 0 rfl) ?_
    refine lv_aload_n hx hb dX8_resident_33 rfl (lv_at hl 2 rfl) ?_
    refine fG B X (LnX8_g L z) 1 rfl inTX8 (by decide) kw848 rfl dX8_resident_34 ?_
    refine lv_icmp_gt (tgt := 46) hx hb dX8_resident_37 (by decide) (fun hc6 => ?_) (fun hc6 => ?_)
    · have h := it h hc6
      exact tX8_resident_b46 L hd B x1 _ _ _ X (lv_sub hl [2, 3] rfl) h
    · have h := ie h hc6
      refine lv_iload_n hx hb dX8_resident_40 rfl (lv_at hl 1 rfl) ?_
      refine lv_iload hx hb dX8_resident_41 (lv_at hl 0 rfl) ?_
      refine lv_icmp_lt (tgt := 50) hx hb dX8_resident_43 (by decide) (fun hc7 => ?_) (fun hc7 => ?_)
      · have h := it h hc7
        exact tX8_resident_b50 L hd B x1 q4 _ _ _ X (lv_sub hl [2, 3, 0] rfl) h
      · have h := ie h hc7
        exact tX8_resident_b46 L hd B x1 _ _ _ X (lv_sub hl [2, 3] rfl) h
def fX8_splitNow_b43 : Nat → Int32 → Int32 → Int32 → SX8 → Option SX8
  | 0, _, _, _, _ => none
  | n + 1, x1, x2, x3, z =>
    if 2 ≤ x3 then (if x1 < 0 ∨ 6 ≤ x1.toNatClampNeg then none else
    (if ((z.2.2 39) x1.toNatClampNeg) = (-1) then (some z) else
    ((fX8_halfOf z x1 x2 ((z.2.2 39) x1.toNatClampNeg)).bind fun q4 =>
    (fX8_halfOf z x1 (1 - x2) ((z.2.2 39) x1.toNatClampNeg)).bind fun q5 =>
    (fX8_holdNow z x2 q4 q5).bind fun q6 =>
    some q6))) else
    (if x1 < 0 ∨ 6 ≤ x1.toNatClampNeg then none else
    (if x3 = ((z.2.2 39) x1.toNatClampNeg) then (fX8_splitNow_b43 n x1 x2 (x3 + 1) z) else
    ((fX8_rowsOfHalf z x1 x3).bind fun q9 =>
    if q9 ≤ 0 then (fX8_splitNow_b43 n x1 x2 (x3 + 1) z) else
    ((fX8_openOne z 3).bind fun q11 =>
    (fX8_openOne q11 3).bind fun q12 =>
    if x1 < 0 ∨ 6 ≤ x1.toNatClampNeg then none else
    (if x1 < 0 ∨ 6 ≤ x1.toNatClampNeg then none else
    ((fX8_rowsOfHalf (q12.1, q12.2.1, (va_up q12.2.2 40 (upd (q12.2.2 40) x1.toNatClampNeg (((q12.2.2 40) x1.toNatClampNeg) + 2)))) x1 x3).bind fun q15 =>
    fX8_splitNow_b43 n x1 x2 (x3 + 1) ((upd q12.1 18 ((q12.1 18) + q15)), q12.2.1, (va_up q12.2.2 40 (upd (q12.2.2 40) x1.toNatClampNeg (((q12.2.2 40) x1.toNatClampNeg) + 2))))))))))
set_option maxRecDepth 100000 in
set_option maxHeartbeats 4000000 in
theorem tX8_splitNow_b43 {a q : Nat → Nat} {wf : SX8 → va_W} (L : LnX8 a q cI cB wf) {d : Nat} (hd : 6 ≤ d) (B : Bd RX8 cX8_splitNow 4 none d A g D [(cI, .int), (cB, .byte)] p R S m args meth c) {q : SX8} : ∀ (n : Nat) (x1 : Int32) (x2 : Int32) (x3 : Int32) (z : SX8) (H : Heap) (locs : List Loc) (ls : Array Slot), Hx A D S.heap (wf z) H locs → lv_has ls 4 [(0, .ref (a 0)), (1, .int x1), (2, .int x2), (3, .int x3)] → fX8_splitNow_b43 n x1 x2 x3 z = some q → W p l e R S m args below meth c H locs 0 0 (MQ below (QV A D (wf q)) args S 0 0 A) (F0 m 43 ls []) := by
  have hx := B.1
  have hb := B.2.1
  have hd1 : 1 ≤ d := by omega
  intro n
  induction n with
  | zero =>
    intro x1 x2 x3 z H locs ls X hl h
    cases h
  | succ n ih =>
    intro x1 x2 x3 z H locs ls X hl h
    rw [fX8_splitNow_b43] at h
    refine lv_iload_n hx hb dX8_splitNow_43 rfl (lv_at hl 3 rfl) ?_
    refine lv_iconst (v := 2) hx hb dX8_splitNow_44 (by decide) ?_
    refine lv_icmp_ge (tgt := 108) hx hb dX8_splitNow_45 (by decide) (fun hc1 => ?_) (fun hc1 => ?_)
    · have h := it h hc1
      refine lv_aload_n hx hb dX8_splitNow_108 rfl (lv_at hl 0 rfl) ?_
      refine fG B X (LnX8_g L z) 39 rfl inTX8 (by decide) kw886 rfl dX8_splitNow_109 ?_
      refine lv_iload_n hx hb dX8_splitNow_112 rfl (lv_at hl 1 rfl) ?_
      by_cases hc2 : (x1 < 0 ∨ 6 ≤ x1.toNatClampNeg)
      · cases it h hc2
      have h := ie h hc2
      refine aG B X (LnX8_a39 L z) 0 rfl hc2 dX8_splitNow_113 ?_
      refine lv_istore_n (lv' := [(3, .int ((z.2.2 39) x1.toNatClampNeg)), (0, .ref (a 0)), (1, .int x1), (2, .int x2)]) hx hb dX8_splitNow_114 rfl hl (by decide) rfl (fun ls hl => ?_)
      refine lv_iload_n hx hb dX8_splitNow_115 rfl (lv_at hl 0 rfl) ?_
      refine lv_iconst (v := (-1)) hx hb dX8_splitNow_116 (by decide) ?_
      refine lv_icmp_eq (tgt := 141) hx hb dX8_splitNow_117 (by decide) (fun hc3 => ?_) (fun hc3 => ?_)
      · have h := it h hc3
        exact rV B X (congrArg wf (Option.some.inj h)) dX8_splitNow_141
      · have h := ie h hc3
        refine lv_aload_n hx hb dX8_splitNow_120 rfl (lv_at hl 1 rfl) ?_
        refine lv_iload_n hx hb dX8_splitNow_121 rfl (lv_at hl 3 rfl) ?_
        refine lv_aload_n hx hb dX8_splitNow_122 rfl (lv_at hl 1 rfl) ?_
        refine lv_iload_n hx hb dX8_splitNow_123 rfl (lv_at hl 2 rfl) ?_
        refine lv_iload_n hx hb dX8_splitNow_124 rfl (lv_at hl 3 rfl) ?_
        refine lv_iload_n hx hb dX8_splitNow_125 rfl (lv_at hl 0 rfl) ?_
        obtain ⟨q4, h4, h⟩ := bs h
        refine kI X (cV (As := [.int x1, .int x2, .int ((z.2.2 39) x1.toNatClampNeg)]) (rest := [.int x2, .ref (a 0)]) B X (tX8_halfOf (d := d - 1) L (by omega) h4) mfX8_halfOf kw1211 (by omega) (LnX8_g L z) rfl rfl (Nat.le_of_ble_eq_true rfl) hl.1 ⟨Nat.zero_le _, Nat.zero_le _⟩ dX8_splitNow_126) (fun H locs X => ?_)
        have X : Hx A D S.heap (wf z) H locs := X
        refine lv_aload_n hx hb dX8_splitNow_129 rfl (lv_at hl 1 rfl) ?_
        refine lv_iload_n hx hb dX8_splitNow_130 rfl (lv_at hl 2 rfl) ?_
        refine lv_iconst (v := 1) hx hb dX8_splitNow_131 (by decide) ?_
        refine lv_iload_n hx hb dX8_splitNow_132 rfl (lv_at hl 3 rfl) ?_
        refine lv_isub hx hb dX8_splitNow_133 ?_
        refine lv_iload_n hx hb dX8_splitNow_134 rfl (lv_at hl 0 rfl) ?_
        obtain ⟨q5, h5, h⟩ := bs h
        refine kI X (cV (As := [.int x1, .int (1 - x2), .int ((z.2.2 39) x1.toNatClampNeg)]) (rest := [.int q4, .int x2, .ref (a 0)]) B X (tX8_halfOf (d := d - 1) L (by omega) h5) mfX8_halfOf kw1211 (by omega) (LnX8_g L z) rfl rfl (Nat.le_of_ble_eq_true rfl) hl.1 ⟨Nat.zero_le _, Nat.zero_le _⟩ dX8_splitNow_135) (fun H locs X => ?_)
        have X : Hx A D S.heap (wf z) H locs := X
        obtain ⟨q6, h6, h⟩ := bs h
        refine kV X (cV (As := [.int x2, .int q4, .int q5]) (rest := []) B X (tX8_holdNow (d := d - 1) L (by omega) h6) mfX8_holdNow kw1156 (by omega) (LnX8_g L z) rfl rfl (Nat.le_of_ble_eq_true rfl) hl.1 ⟨Nat.zero_le _, Nat.zero_le _⟩ dX8_splitNow_138) (fun H locs X => ?_)
        have X : Hx A D S.heap (wf q6) H locs := X
        exact rV B X (congrArg wf (Option.some.inj h)) dX8_splitNow_141
    · have h := ie h hc1
      refine lv_iload_n hx hb dX8_splitNow_48 rfl (lv_at hl 3 rfl) ?_
      refine lv_aload_n hx hb dX8_splitNow_49 rfl (lv_at hl 0 rfl) ?_
      refine fG B X (LnX8_g L z) 39 rfl inTX8 (by decide) kw886 rfl dX8_splitNow_50 ?_
      refine lv_iload_n hx hb dX8_splitNow_53 rfl (lv_at hl 1 rfl) ?_
      by_cases hc7 : (x1 < 0 ∨ 6 ≤ x1.toNatClampNeg)
      · cases it h hc7
      have h := ie h hc7
      refine aG B X (LnX8_a39 L z) 0 rfl hc7 dX8_splitNow_54 ?_
      refine lv_icmp_eq (tgt := 102) hx hb dX8_splitNow_55 (by decide) (fun hc8 => ?_) (fun hc8 => ?_)
      · have h := it h hc8
        refine lv_iinc (v := x3 + 1) (lv' := [(3, .int (x3 + 1)), (0, .ref (a 0)), (1, .int x1), (2, .int x2)]) hx hb dX8_splitNow_102 hl (k := 3) rfl rfl (by decide) rfl (fun ls hl => ?_)
        refine lv_goto (tgt := 43) hx hb dX8_splitNow_105 (by decide) ?_
        exact ih x1 x2 (x3 + 1) z _ _ _ X (lv_sub hl [1, 2, 3, 0] rfl) h
      · have h := ie h hc8
        refine lv_aload_n hx hb dX8_splitNow_58 rfl (lv_at hl 0 rfl) ?_
        refine lv_iload_n hx hb dX8_splitNow_59 rfl (lv_at hl 1 rfl) ?_
        refine lv_iload_n hx hb dX8_splitNow_60 rfl (lv_at hl 3 rfl) ?_
        obtain ⟨q9, h9, h⟩ := bs h
        refine kI X (cV (As := [.int x1, .int x3]) (rest := []) B X (tX8_rowsOfHalf (d := d - 1) L (by omega) h9) mfX8_rowsOfHalf kw1219 (by omega) (LnX8_g L z) rfl rfl (Nat.le_of_ble_eq_true rfl) hl.1 ⟨Nat.zero_le _, Nat.zero_le _⟩ dX8_splitNow_61) (fun H locs X => ?_)
        have X : Hx A D S.heap (wf z) H locs := X
        refine lv_if_le (tgt := 102) hx hb dX8_splitNow_64 (by decide) (fun hc10 => ?_) (fun hc10 => ?_)
        · have h := it h hc10
          refine lv_iinc (v := x3 + 1) (lv' := [(3, .int (x3 + 1)), (0, .ref (a 0)), (1, .int x1), (2, .int x2)]) hx hb dX8_splitNow_102 hl (k := 3) rfl rfl (by decide) rfl (fun ls hl => ?_)
          refine lv_goto (tgt := 43) hx hb dX8_splitNow_105 (by decide) ?_
          exact ih x1 x2 (x3 + 1) z _ _ _ X (lv_sub hl [1, 2, 3, 0] rfl) h
        · have h := ie h hc10
          refine lv_aload_n hx hb dX8_splitNow_67 rfl (lv_at hl 0 rfl) ?_
          refine lv_iconst (v := 3) hx hb dX8_splitNow_68 (by decide) ?_
          obtain ⟨q11, h11, h⟩ := bs h
          refine kV X (cV (As := [.int 3]) (rest := []) B X (tX8_openOne (d := d - 1) L (by omega) h11) mfX8_openOne kw1148 (by omega) (LnX8_g L z) rfl rfl (Nat.le_of_ble_eq_true rfl) hl.1 ⟨Nat.zero_le _, Nat.zero_le _⟩ dX8_splitNow_69) (fun H locs X => ?_)
          have X : Hx A D S.heap (wf q11) H locs := X
          refine lv_aload_n hx hb dX8_splitNow_72 rfl (lv_at hl 0 rfl) ?_
          refine lv_iconst (v := 3) hx hb dX8_splitNow_73 (by decide) ?_
          obtain ⟨q12, h12, h⟩ := bs h
          refine kV X (cV (As := [.int 3]) (rest := []) B X (tX8_openOne (d := d - 1) L (by omega) h12) mfX8_openOne kw1148 (by omega) (LnX8_g L q11) rfl rfl (Nat.le_of_ble_eq_true rfl) hl.1 ⟨Nat.zero_le _, Nat.zero_le _⟩ dX8_splitNow_74) (fun H locs X => ?_)
          have X : Hx A D S.heap (wf q12) H locs := X
          refine lv_aload_n hx hb dX8_splitNow_77 rfl (lv_at hl 0 rfl) ?_
          refine fG B X (LnX8_g L q12) 40 rfl inTX8 (by decide) kw887 rfl dX8_splitNow_78 ?_
          refine lv_iload_n hx hb dX8_splitNow_81 rfl (lv_at hl 1 rfl) ?_
          refine lv_dup2_11 hx hb dX8_splitNow_82 rfl rfl ?_
          by_cases hc13 : (x1 < 0 ∨ 6 ≤ x1.toNatClampNeg)
          · cases it h hc13
          have h := ie h hc13
          refine aG B X (LnX8_a40 L q12) 0 rfl hc13 dX8_splitNow_83 ?_
          refine lv_iconst (v := 2) hx hb dX8_splitNow_84 (by decide) ?_
          refine lv_iadd hx hb dX8_splitNow_85 ?_
          by_cases hc14 : (x1 < 0 ∨ 6 ≤ x1.toNatClampNeg)
          · cases it h hc14
          have h := ie h hc14
          refine aP B X (LnX8_a40 L q12) (LnX8_b40 L q12 _) 0 rfl hc14 dX8_splitNow_86 (fun H locs X => ?_)
          have X : Hx A D S.heap (wf (q12.1, q12.2.1, (va_up q12.2.2 40 (upd (q12.2.2 40) x1.toNatClampNeg (((q12.2.2 40) x1.toNatClampNeg) + 2))))) H locs := X
          refine lv_aload_n hx hb dX8_splitNow_87 rfl (lv_at hl 0 rfl) ?_
          refine lv_dup hx hb dX8_splitNow_88 rfl ?_
          refine fG B X (LnX8_g L (q12.1, q12.2.1, (va_up q12.2.2 40 (upd (q12.2.2 40) x1.toNatClampNeg (((q12.2.2 40) x1.toNatClampNeg) + 2))))) 18 rfl inTX8 (by decide) kw865 rfl dX8_splitNow_89 ?_
          refine lv_aload_n hx hb dX8_splitNow_92 rfl (lv_at hl 0 rfl) ?_
          refine lv_iload_n hx hb dX8_splitNow_93 rfl (lv_at hl 1 rfl) ?_
          refine lv_iload_n hx hb dX8_splitNow_94 rfl (lv_at hl 3 rfl) ?_
          obtain ⟨q15, h15, h⟩ := bs h
          refine kI X (cV (As := [.int x1, .int x3]) (rest := [.int (q12.1 18), .ref (a 0)]) B X (tX8_rowsOfHalf (d := d - 1) L (by omega) h15) mfX8_rowsOfHalf kw1219 (by omega) (LnX8_g L (q12.1, q12.2.1, (va_up q12.2.2 40 (upd (q12.2.2 40) x1.toNatClampNeg (((q12.2.2 40) x1.toNatClampNeg) + 2))))) rfl rfl (Nat.le_of_ble_eq_true rfl) hl.1 ⟨Nat.zero_le _, Nat.zero_le _⟩ dX8_splitNow_95) (fun H locs X => ?_)
          have X : Hx A D S.heap (wf (q12.1, q12.2.1, (va_up q12.2.2 40 (upd (q12.2.2 40) x1.toNatClampNeg (((q12.2.2 40) x1.toNatClampNeg) + 2))))) H locs := X
          refine lv_iadd hx hb dX8_splitNow_98 ?_
          refine fP tyX8 B X (LnX8_g L (q12.1, q12.2.1, (va_up q12.2.2 40 (upd (q12.2.2 40) x1.toNatClampNeg (((q12.2.2 40) x1.toNatClampNeg) + 2))))) 18 (LnX8_i18 L (q12.1, q12.2.1, (va_up q12.2.2 40 (upd (q12.2.2 40) x1.toNatClampNeg (((q12.2.2 40) x1.toNatClampNeg) + 2)))) _) rfl inTX8 tyX8_ok nmX8 (by decide) kw865 rfl rfl rfl rfl (Nat.le_of_ble_eq_true rfl) dX8_splitNow_99 (fun H locs X => ?_)
          have X : Hx A D S.heap (wf ((upd q12.1 18 ((q12.1 18) + q15)), q12.2.1, (va_up q12.2.2 40 (upd (q12.2.2 40) x1.toNatClampNeg (((q12.2.2 40) x1.toNatClampNeg) + 2))))) H locs := X
          refine lv_iinc (v := x3 + 1) (lv' := [(3, .int (x3 + 1)), (0, .ref (a 0)), (1, .int x1), (2, .int x2)]) hx hb dX8_splitNow_102 hl (k := 3) rfl rfl (by decide) rfl (fun ls hl => ?_)
          refine lv_goto (tgt := 43) hx hb dX8_splitNow_105 (by decide) ?_
          exact ih x1 x2 (x3 + 1) ((upd q12.1 18 ((q12.1 18) + q15)), q12.2.1, (va_up q12.2.2 40 (upd (q12.2.2 40) x1.toNatClampNeg (((q12.2.2 40) x1.toNatClampNeg) + 2)))) _ _ _ X (lv_sub hl [1, 2, 3, 0] rfl) h
def fX8_splitNow (z : SX8) (x1 : Int32) (x2 : Int32) : Option SX8 :=
    (fX8_openOne ((upd z.1 24 ((z.1 24) + 1)), z.2.1, z.2.2) 2).bind fun q1 =>
    if x1 < 0 ∨ 6 ≤ x1.toNatClampNeg then none else
    (if x1 < 0 ∨ 6 ≤ x1.toNatClampNeg then none else
    ((fX8_resident (q1.1, q1.2.1, (va_up (va_up q1.2.2 38 (upd (q1.2.2 38) x1.toNatClampNeg 0)) 40 (upd (q1.2.2 40) x1.toNatClampNeg 0))) x1 x2).bind fun q4 =>
    if x1 < 0 ∨ 6 ≤ x1.toNatClampNeg then none else
    (fX8_splitNow_b43 1000 x1 x2 0 (q1.1, q1.2.1, (va_up (va_up (va_up q1.2.2 38 (upd (q1.2.2 38) x1.toNatClampNeg 0)) 40 (upd (q1.2.2 40) x1.toNatClampNeg 0)) 39 (upd (q1.2.2 39) x1.toNatClampNeg q4))))))
set_option maxRecDepth 100000 in
set_option maxHeartbeats 4000000 in
theorem tX8_splitNow {a q : Nat → Nat} {wf : SX8 → va_W} (L : LnX8 a q cI cB wf) {d : Nat} (hd : 6 ≤ d) {z : SX8} {x1 x2 : Int32} {q : SX8} (h : fX8_splitNow z x1 x2 = some q) : Ct l yX8_splitNow cX8_splitNow 4 none d A g D [(cI, .int), (cB, .byte)] [.ref (a 0), .int x1, .int x2] (wf z) (QV A D (wf q)) := by
  refine mkM (by decide) (Nat.le_of_ble_eq_true rfl) ?_
  intro p e S m args below meth c B X ls hl
  have B : Bd RX8 cX8_splitNow 4 none d A g D [(cI, .int), (cB, .byte)] p (rmd d) S m args meth c := B
  have hx := B.1
  have hb := B.2.1
  have hd1 : 1 ≤ d := by omega
  have hl : lv_has ls 4 [(0, .ref (a 0)), (1, .int x1), (2, .int x2)] := hl
  unfold fX8_splitNow at h
  refine lv_aload_n hx hb dX8_splitNow_0 rfl (lv_at hl 0 rfl) ?_
  refine lv_dup hx hb dX8_splitNow_1 rfl ?_
  refine fG B X (LnX8_g L z) 24 rfl inTX8 (by decide) kw871 rfl dX8_splitNow_2 ?_
  refine lv_iconst (v := 1) hx hb dX8_splitNow_5 (by decide) ?_
  refine lv_iadd hx hb dX8_splitNow_6 ?_
  refine fP tyX8 B X (LnX8_g L z) 24 (LnX8_i24 L z _) rfl inTX8 tyX8_ok nmX8 (by decide) kw871 rfl rfl rfl rfl (Nat.le_of_ble_eq_true rfl) dX8_splitNow_7 (fun H locs X => ?_)
  have X : Hx A D S.heap (wf ((upd z.1 24 ((z.1 24) + 1)), z.2.1, z.2.2)) H locs := X
  refine lv_aload_n hx hb dX8_splitNow_10 rfl (lv_at hl 0 rfl) ?_
  refine lv_iconst (v := 2) hx hb dX8_splitNow_11 (by decide) ?_
  obtain ⟨q1, h1, h⟩ := bs h
  refine kV X (cV (As := [.int 2]) (rest := []) B X (tX8_openOne (d := d - 1) L (by omega) h1) mfX8_openOne kw1148 (by omega) (LnX8_g L ((upd z.1 24 ((z.1 24) + 1)), z.2.1, z.2.2)) rfl rfl (Nat.le_of_ble_eq_true rfl) hl.1 ⟨Nat.zero_le _, Nat.zero_le _⟩ dX8_splitNow_12) (fun H locs X => ?_)
  have X : Hx A D S.heap (wf q1) H locs := X
  refine lv_aload_n hx hb dX8_splitNow_15 rfl (lv_at hl 0 rfl) ?_
  refine fG B X (LnX8_g L q1) 38 rfl inTX8 (by decide) kw885 rfl dX8_splitNow_16 ?_
  refine lv_iload_n hx hb dX8_splitNow_19 rfl (lv_at hl 1 rfl) ?_
  refine lv_iconst (v := 0) hx hb dX8_splitNow_20 (by decide) ?_
  by_cases hc2 : (x1 < 0 ∨ 6 ≤ x1.toNatClampNeg)
  · cases it h hc2
  have h := ie h hc2
  refine aP B X (LnX8_a38 L q1) (LnX8_b38 L q1 _) 0 rfl hc2 dX8_splitNow_21 (fun H locs X => ?_)
  have X : Hx A D S.heap (wf (q1.1, q1.2.1, (va_up q1.2.2 38 (upd (q1.2.2 38) x1.toNatClampNeg 0)))) H locs := X
  refine lv_aload_n hx hb dX8_splitNow_22 rfl (lv_at hl 0 rfl) ?_
  refine fG B X (LnX8_g L (q1.1, q1.2.1, (va_up q1.2.2 38 (upd (q1.2.2 38) x1.toNatClampNeg 0)))) 40 rfl inTX8 (by decide) kw887 rfl dX8_splitNow_23 ?_
  refine lv_iload_n hx hb dX8_splitNow_26 rfl (lv_at hl 1 rfl) ?_
  refine lv_iconst (v := 0) hx hb dX8_splitNow_27 (by decide) ?_
  by_cases hc3 : (x1 < 0 ∨ 6 ≤ x1.toNatClampNeg)
  · cases it h hc3
  have h := ie h hc3
  refine aP B X (LnX8_a40 L (q1.1, q1.2.1, (va_up q1.2.2 38 (upd (q1.2.2 38) x1.toNatClampNeg 0)))) (LnX8_b40 L (q1.1, q1.2.1, (va_up q1.2.2 38 (upd (q1.2.2 38) x1.toNatClampNeg 0))) _) 0 rfl hc3 dX8_splitNow_28 (fun H locs X => ?_)
  have X : Hx A D S.heap (wf (q1.1, q1.2.1, (va_up (va_up q1.2.2 38 (upd (q1.2.2 38) x1.toNatClampNeg 0)) 40 (upd (q1.2.2 40) x1.toNatClampNeg 0)))) H locs := X
  refine lv_aload_n hx hb dX8_splitNow_29 rfl (lv_at hl 0 rfl) ?_
  refine fG B X (LnX8_g L (q1.1, q1.2.1, (va_up (va_up q1.2.2 38 (upd (q1.2.2 38) x1.toNatClampNeg 0)) 40 (upd (q1.2.2 40) x1.toNatClampNeg 0)))) 39 rfl inTX8 (by decide) kw886 rfl dX8_splitNow_30 ?_
  refine lv_iload_n hx hb dX8_splitNow_33 rfl (lv_at hl 1 rfl) ?_
  refine lv_aload_n hx hb dX8_splitNow_34 rfl (lv_at hl 0 rfl) ?_
  refine lv_iload_n hx hb dX8_splitNow_35 rfl (lv_at hl 1 rfl) ?_
  refine lv_iload_n hx hb dX8_splitNow_36 rfl (lv_at hl 2 rfl) ?_
  obtain ⟨q4, h4, h⟩ := bs h
  refine kI X (cV (As := [.int x1, .int x2]) (rest := [.int x1, .ref (a 39)]) B X (tX8_resident (d := d - 1) L (by omega) h4) mfX8_resident kw1207 (by omega) (LnX8_g L (q1.1, q1.2.1, (va_up (va_up q1.2.2 38 (upd (q1.2.2 38) x1.toNatClampNeg 0)) 40 (upd (q1.2.2 40) x1.toNatClampNeg 0)))) rfl rfl (Nat.le_of_ble_eq_true rfl) hl.1 ⟨Nat.zero_le _, Nat.zero_le _⟩ dX8_splitNow_37) (fun H locs X => ?_)
  have X : Hx A D S.heap (wf (q1.1, q1.2.1, (va_up (va_up q1.2.2 38 (upd (q1.2.2 38) x1.toNatClampNeg 0)) 40 (upd (q1.2.2 40) x1.toNatClampNeg 0)))) H locs := X
  by_cases hc5 : (x1 < 0 ∨ 6 ≤ x1.toNatClampNeg)
  · cases it h hc5
  have h := ie h hc5
  refine aP B X (LnX8_a39 L (q1.1, q1.2.1, (va_up (va_up q1.2.2 38 (upd (q1.2.2 38) x1.toNatClampNeg 0)) 40 (upd (q1.2.2 40) x1.toNatClampNeg 0)))) (LnX8_b39 L (q1.1, q1.2.1, (va_up (va_up q1.2.2 38 (upd (q1.2.2 38) x1.toNatClampNeg 0)) 40 (upd (q1.2.2 40) x1.toNatClampNeg 0))) _) 0 rfl hc5 dX8_splitNow_40 (fun H locs X => ?_)
  have X : Hx A D S.heap (wf (q1.1, q1.2.1, (va_up (va_up (va_up q1.2.2 38 (upd (q1.2.2 38) x1.toNatClampNeg 0)) 40 (upd (q1.2.2 40) x1.toNatClampNeg 0)) 39 (upd (q1.2.2 39) x1.toNatClampNeg q4)))) H locs := X
  refine lv_iconst (v := 0) hx hb dX8_splitNow_41 (by decide) ?_
  refine lv_istore_n (lv' := [(3, .int 0), (0, .ref (a 0)), (1, .int x1), (2, .int x2)]) hx hb dX8_splitNow_42 rfl hl (by decide) rfl (fun ls hl => ?_)
  exact tX8_splitNow_b43 L hd B 1000 x1 x2 0 (q1.1, q1.2.1, (va_up (va_up (va_up q1.2.2 38 (upd (q1.2.2 38) x1.toNatClampNeg 0)) 40 (upd (q1.2.2 40) x1.toNatClampNeg 0)) 39 (upd (q1.2.2 39) x1.toNatClampNeg q4))) _ _ _ X (lv_sub hl [1, 2, 3, 0] rfl) h
def fX8_turn_b137 (x4 : Int32) (x5 : Int32) (x6 : Int32) (z : SX8) : Option (Int32 × SX8) :=
    (fX8_openOne ((upd z.1 23 ((z.1 23) + 1)), z.2.1, z.2.2) 1).bind fun q1 =>
    (fX8_blocksNow q1 x4 x5 x6).bind fun q2 =>
    if (q2.1 15) = 0 then ((fX8_shutOne q2).bind fun q4 =>
    some (0, q4)) else
    (some (0, q2))
set_option maxRecDepth 100000 in
set_option maxHeartbeats 4000000 in
theorem tX8_turn_b137 {a q : Nat → Nat} {wf : SX8 → va_W} (L : LnX8 a q cI cB wf) {d : Nat} (hd : 7 ≤ d) (B : Bd RX8 cX8_turn 7 (some .boolean) d A g D [(cI, .int), (cB, .byte)] p R S m args meth c) {q : Int32 × SX8} : ∀ (x4 : Int32) (x5 : Int32) (x6 : Int32) (z : SX8) (H : Heap) (locs : List Loc) (ls : Array Slot), Hx A D S.heap (wf z) H locs → lv_has ls 7 [(0, .ref (a 0)), (4, .int x4), (5, .int x5), (6, .int x6)] → fX8_turn_b137 x4 x5 x6 z = some q → W p l e R S m args below meth c H locs 0 0 (MQ below (QI A D (wf q.2) q.1) args S 0 0 A) (F0 m 137 ls []) := by
  have hx := B.1
  have hb := B.2.1
  have hd1 : 1 ≤ d := by omega
  intro x4 x5 x6 z H locs ls X hl h
  unfold fX8_turn_b137 at h
  refine lv_aload_n hx hb dX8_turn_137 rfl (lv_at hl 0 rfl) ?_
  refine lv_dup hx hb dX8_turn_138 rfl ?_
  refine fG B X (LnX8_g L z) 23 rfl inTX8 (by decide) kw870 rfl dX8_turn_139 ?_
  refine lv_iconst (v := 1) hx hb dX8_turn_142 (by decide) ?_
  refine lv_iadd hx hb dX8_turn_143 ?_
  refine fP tyX8 B X (LnX8_g L z) 23 (LnX8_i23 L z _) rfl inTX8 tyX8_ok nmX8 (by decide) kw870 rfl rfl rfl rfl (Nat.le_of_ble_eq_true rfl) dX8_turn_144 (fun H locs X => ?_)
  have X : Hx A D S.heap (wf ((upd z.1 23 ((z.1 23) + 1)), z.2.1, z.2.2)) H locs := X
  refine lv_aload_n hx hb dX8_turn_147 rfl (lv_at hl 0 rfl) ?_
  refine lv_iconst (v := 1) hx hb dX8_turn_148 (by decide) ?_
  obtain ⟨q1, h1, h⟩ := bs h
  refine kV X (cV (As := [.int 1]) (rest := []) B X (tX8_openOne (d := d - 1) L (by omega) h1) mfX8_openOne kw1148 (by omega) (LnX8_g L ((upd z.1 23 ((z.1 23) + 1)), z.2.1, z.2.2)) rfl rfl (Nat.le_of_ble_eq_true rfl) hl.1 ⟨Nat.zero_le _, Nat.zero_le _⟩ dX8_turn_149) (fun H locs X => ?_)
  have X : Hx A D S.heap (wf q1) H locs := X
  refine lv_aload_n hx hb dX8_turn_152 rfl (lv_at hl 0 rfl) ?_
  refine lv_iload hx hb dX8_turn_153 (lv_at hl 1 rfl) ?_
  refine lv_iload hx hb dX8_turn_155 (lv_at hl 2 rfl) ?_
  refine lv_iload hx hb dX8_turn_157 (lv_at hl 3 rfl) ?_
  obtain ⟨q2, h2, h⟩ := bs h
  refine kV X (cV (As := [.int x4, .int x5, .int x6]) (rest := []) B X (tX8_blocksNow (d := d - 1) L (by omega) h2) mfX8_blocksNow kw1195 (by omega) (LnX8_g L q1) rfl rfl (Nat.le_of_ble_eq_true rfl) hl.1 ⟨Nat.zero_le _, Nat.zero_le _⟩ dX8_turn_159) (fun H locs X => ?_)
  have X : Hx A D S.heap (wf q2) H locs := X
  refine lv_goto (tgt := 188) hx hb dX8_turn_162 (by decide) ?_
  refine lv_aload_n hx hb dX8_turn_188 rfl (lv_at hl 0 rfl) ?_
  refine fG B X (LnX8_g L q2) 15 rfl inTX8 (by decide) kw862 rfl dX8_turn_189 ?_
  refine lv_if_ne (tgt := 199) hx hb dX8_turn_192 (by decide) (fun hc3 => ?_) (fun hc3 => ?_)
  · have h := ie h hc3
    refine lv_iconst (v := 0) hx hb dX8_turn_199 (by decide) ?_
    exact rZ B X (congrArg (fun q => wf q.2) (Option.some.inj h)) (congrArg (fun q => q.1) (Option.some.inj h)) rfl dX8_turn_200
  · have h := it h hc3
    refine lv_aload_n hx hb dX8_turn_195 rfl (lv_at hl 0 rfl) ?_
    obtain ⟨q4, h4, h⟩ := bs h
    refine kV X (cV (As := []) (rest := []) B X (tX8_shutOne (d := d - 1) L (by omega) h4) mfX8_shutOne kw1223 (by omega) (LnX8_g L q2) rfl rfl (Nat.le_of_ble_eq_true rfl) hl.1 ⟨Nat.zero_le _, Nat.zero_le _⟩ dX8_turn_196) (fun H locs X => ?_)
    have X : Hx A D S.heap (wf q4) H locs := X
    refine lv_iconst (v := 0) hx hb dX8_turn_199 (by decide) ?_
    exact rZ B X (congrArg (fun q => wf q.2) (Option.some.inj h)) (congrArg (fun q => q.1) (Option.some.inj h)) rfl dX8_turn_200
def fX8_turn_b77 (x1 : Int32) (x2 : Int32) (x3 : Int32) (x4 : Int32) (x5 : Int32) (x6 : Int32) (y0 : Int32) (y1 : Int32) (z : SX8) : Option (Int32 × SX8) :=
    (fX8_size x5).bind fun q1 =>
    if (z.1 1) < q1 then (if x1 = 4 then (fX8_turn_b137 x4 x5 x6 ((upd z.1 25 (y1 + y0)), z.2.1, z.2.2)) else
    ((fX8_isOneKey ((upd z.1 25 (y1 + y0)), z.2.1, z.2.2) x4 x5).bind fun q4 =>
    if q4 = 0 then (if x1 < 0 ∨ 6 ≤ x1.toNatClampNeg then none else
    (if x1 < 0 ∨ 6 ≤ x1.toNatClampNeg then none else
    ((fX8_splitNow ((upd z.1 25 (y1 + y0)), z.2.1, (va_up (va_up z.2.2 36 (upd (z.2.2 36) x1.toNatClampNeg x2)) 37 (upd (z.2.2 37) x1.toNatClampNeg x3))) x1 x4).bind fun q8 =>
    some (1, q8)))) else
    (fX8_turn_b137 x4 x5 x6 ((upd z.1 25 (y1 + y0)), z.2.1, z.2.2)))) else
    ((fX8_openOne ((upd (upd z.1 25 (y1 + y0)) 22 ((z.1 22) + 1)), z.2.1, z.2.2) 0).bind fun q9 =>
    (fX8_holdNow q9 x4 x5 x6).bind fun q10 =>
    if (q10.1 15) = 0 then ((fX8_shutOne q10).bind fun q12 =>
    some (0, q12)) else
    (some (0, q10)))
set_option maxRecDepth 100000 in
set_option maxHeartbeats 4000000 in
theorem tX8_turn_b77 {a q : Nat → Nat} {wf : SX8 → va_W} (L : LnX8 a q cI cB wf) {d : Nat} (hd : 7 ≤ d) (B : Bd RX8 cX8_turn 7 (some .boolean) d A g D [(cI, .int), (cB, .byte)] p R S m args meth c) {q : Int32 × SX8} : ∀ (x1 : Int32) (x2 : Int32) (x3 : Int32) (x4 : Int32) (x5 : Int32) (x6 : Int32) (y0 : Int32) (y1 : Int32) (z : SX8) (H : Heap) (locs : List Loc) (ls : Array Slot), Hx A D S.heap (wf z) H locs → lv_has ls 7 [(0, .ref (a 0)), (1, .int x1), (2, .int x2), (3, .int x3), (4, .int x4), (5, .int x5), (6, .int x6)] → fX8_turn_b77 x1 x2 x3 x4 x5 x6 y0 y1 z = some q → W p l e R S m args below meth c H locs 0 0 (MQ below (QI A D (wf q.2) q.1) args S 0 0 A) (F0 m 77 ls [.int y0, .int y1, .ref (a 0)]) := by
  have hx := B.1
  have hb := B.2.1
  have hd1 : 1 ≤ d := by omega
  intro x1 x2 x3 x4 x5 x6 y0 y1 z H locs ls X hl h
  unfold fX8_turn_b77 at h
  refine lv_iadd hx hb dX8_turn_77 ?_
  refine fP tyX8 B X (LnX8_g L z) 25 (LnX8_i25 L z _) rfl inTX8 tyX8_ok nmX8 (by decide) kw872 rfl rfl rfl rfl (Nat.le_of_ble_eq_true rfl) dX8_turn_78 (fun H locs X => ?_)
  have X : Hx A D S.heap (wf ((upd z.1 25 (y1 + y0)), z.2.1, z.2.2)) H locs := X
  refine lv_iload hx hb dX8_turn_81 (lv_at hl 5 rfl) ?_
  obtain ⟨q1, h1, h⟩ := bs h
  refine kI X (cS (As := [.int x5]) (rest := []) B X (tX8_size (d := d - 1) (by omega) h1) msX8_size kw1145 (by omega) rfl (Nat.le_of_ble_eq_true rfl) hl.1 ⟨Nat.zero_le _, Nat.zero_le _⟩ dX8_turn_83) (fun H locs X => ?_)
  have X : Hx A D S.heap (wf ((upd z.1 25 (y1 + y0)), z.2.1, z.2.2)) H locs := X
  refine lv_aload_n hx hb dX8_turn_86 rfl (lv_at hl 0 rfl) ?_
  refine fG B X (LnX8_g L ((upd z.1 25 (y1 + y0)), z.2.1, z.2.2)) 1 rfl inTX8 (by decide) kw848 rfl dX8_turn_87 ?_
  refine lv_icmp_gt (tgt := 121) hx hb dX8_turn_90 (by decide) (fun hc2 => ?_) (fun hc2 => ?_)
  · have h := it h hc2
    refine lv_iload_n hx hb dX8_turn_121 rfl (lv_at hl 1 rfl) ?_
    refine lv_iconst (v := 4) hx hb dX8_turn_122 (by decide) ?_
    refine lv_icmp_eq (tgt := 137) hx hb dX8_turn_123 (by decide) (fun hc3 => ?_) (fun hc3 => ?_)
    · have h := it h hc3
      exact tX8_turn_b137 L hd B x4 x5 x6 ((upd z.1 25 (y1 + y0)), z.2.1, z.2.2) _ _ _ X (lv_sub hl [0, 4, 5, 6] rfl) h
    · have h := ie h hc3
      refine lv_aload_n hx hb dX8_turn_126 rfl (lv_at hl 0 rfl) ?_
      refine lv_iload hx hb dX8_turn_127 (lv_at hl 4 rfl) ?_
      refine lv_iload hx hb dX8_turn_129 (lv_at hl 5 rfl) ?_
      obtain ⟨q4, h4, h⟩ := bs h
      refine kI X (cV (As := [.int x4, .int x5]) (rest := []) B X (tX8_isOneKey (d := d - 1) L (by omega) h4) mfX8_isOneKey kw1191 (by omega) (LnX8_g L ((upd z.1 25 (y1 + y0)), z.2.1, z.2.2)) rfl rfl (Nat.le_of_ble_eq_true rfl) hl.1 ⟨Nat.zero_le _, Nat.zero_le _⟩ dX8_turn_131) (fun H locs X => ?_)
      have X : Hx A D S.heap (wf ((upd z.1 25 (y1 + y0)), z.2.1, z.2.2)) H locs := X
      refine lv_if_eq (tgt := 165) hx hb dX8_turn_134 (by decide) (fun hc5 => ?_) (fun hc5 => ?_)
      · have h := it h hc5
        refine lv_aload_n hx hb dX8_turn_165 rfl (lv_at hl 0 rfl) ?_
        refine fG B X (LnX8_g L ((upd z.1 25 (y1 + y0)), z.2.1, z.2.2)) 36 rfl inTX8 (by decide) kw883 rfl dX8_turn_166 ?_
        refine lv_iload_n hx hb dX8_turn_169 rfl (lv_at hl 1 rfl) ?_
        refine lv_iload_n hx hb dX8_turn_170 rfl (lv_at hl 2 rfl) ?_
        by_cases hc6 : (x1 < 0 ∨ 6 ≤ x1.toNatClampNeg)
        · cases it h hc6
        have h := ie h hc6
        refine aP B X (LnX8_a36 L ((upd z.1 25 (y1 + y0)), z.2.1, z.2.2)) (LnX8_b36 L ((upd z.1 25 (y1 + y0)), z.2.1, z.2.2) _) 0 rfl hc6 dX8_turn_171 (fun H locs X => ?_)
        have X : Hx A D S.heap (wf ((upd z.1 25 (y1 + y0)), z.2.1, (va_up z.2.2 36 (upd (z.2.2 36) x1.toNatClampNeg x2)))) H locs := X
        refine lv_aload_n hx hb dX8_turn_172 rfl (lv_at hl 0 rfl) ?_
        refine fG B X (LnX8_g L ((upd z.1 25 (y1 + y0)), z.2.1, (va_up z.2.2 36 (upd (z.2.2 36) x1.toNatClampNeg x2)))) 37 rfl inTX8 (by decide) kw884 rfl dX8_turn_173 ?_
        refine lv_iload_n hx hb dX8_turn_176 rfl (lv_at hl 1 rfl) ?_
        refine lv_iload_n hx hb dX8_turn_177 rfl (lv_at hl 3 rfl) ?_
        by_cases hc7 : (x1 < 0 ∨ 6 ≤ x1.toNatClampNeg)
        · cases it h hc7
        have h := ie h hc7
        refine aP B X (LnX8_a37 L ((upd z.1 25 (y1 + y0)), z.2.1, (va_up z.2.2 36 (upd (z.2.2 36) x1.toNatClampNeg x2)))) (LnX8_b37 L ((upd z.1 25 (y1 + y0)), z.2.1, (va_up z.2.2 36 (upd (z.2.2 36) x1.toNatClampNeg x2))) _) 0 rfl hc7 dX8_turn_178 (fun H locs X => ?_)
        have X : Hx A D S.heap (wf ((upd z.1 25 (y1 + y0)), z.2.1, (va_up (va_up z.2.2 36 (upd (z.2.2 36) x1.toNatClampNeg x2)) 37 (upd (z.2.2 37) x1.toNatClampNeg x3)))) H locs := X
        refine lv_aload_n hx hb dX8_turn_179 rfl (lv_at hl 0 rfl) ?_
        refine lv_iload_n hx hb dX8_turn_180 rfl (lv_at hl 1 rfl) ?_
        refine lv_iload hx hb dX8_turn_181 (lv_at hl 4 rfl) ?_
        obtain ⟨q8, h8, h⟩ := bs h
        refine kV X (cV (As := [.int x1, .int x4]) (rest := []) B X (tX8_splitNow (d := d - 1) L (by omega) h8) mfX8_splitNow kw1203 (by omega) (LnX8_g L ((upd z.1 25 (y1 + y0)), z.2.1, (va_up (va_up z.2.2 36 (upd (z.2.2 36) x1.toNatClampNeg x2)) 37 (upd (z.2.2 37) x1.toNatClampNeg x3)))) rfl rfl (Nat.le_of_ble_eq_true rfl) hl.1 ⟨Nat.zero_le _, Nat.zero_le _⟩ dX8_turn_183) (fun H locs X => ?_)
        have X : Hx A D S.heap (wf q8) H locs := X
        refine lv_iconst (v := 1) hx hb dX8_turn_186 (by decide) ?_
        exact rZ B X (congrArg (fun q => wf q.2) (Option.some.inj h)) (congrArg (fun q => q.1) (Option.some.inj h)) rfl dX8_turn_187
      · have h := ie h hc5
        exact tX8_turn_b137 L hd B x4 x5 x6 ((upd z.1 25 (y1 + y0)), z.2.1, z.2.2) _ _ _ X (lv_sub hl [0, 4, 5, 6] rfl) h
  · have h := ie h hc2
    refine lv_aload_n hx hb dX8_turn_93 rfl (lv_at hl 0 rfl) ?_
    refine lv_dup hx hb dX8_turn_94 rfl ?_
    refine fG B X (LnX8_g L ((upd z.1 25 (y1 + y0)), z.2.1, z.2.2)) 22 rfl inTX8 (by decide) kw869 rfl dX8_turn_95 ?_
    refine lv_iconst (v := 1) hx hb dX8_turn_98 (by decide) ?_
    refine lv_iadd hx hb dX8_turn_99 ?_
    refine fP tyX8 B X (LnX8_g L ((upd z.1 25 (y1 + y0)), z.2.1, z.2.2)) 22 (LnX8_i22 L ((upd z.1 25 (y1 + y0)), z.2.1, z.2.2) _) rfl inTX8 tyX8_ok nmX8 (by decide) kw869 rfl rfl rfl rfl (Nat.le_of_ble_eq_true rfl) dX8_turn_100 (fun H locs X => ?_)
    have X : Hx A D S.heap (wf ((upd (upd z.1 25 (y1 + y0)) 22 ((z.1 22) + 1)), z.2.1, z.2.2)) H locs := X
    refine lv_aload_n hx hb dX8_turn_103 rfl (lv_at hl 0 rfl) ?_
    refine lv_iconst (v := 0) hx hb dX8_turn_104 (by decide) ?_
    obtain ⟨q9, h9, h⟩ := bs h
    refine kV X (cV (As := [.int 0]) (rest := []) B X (tX8_openOne (d := d - 1) L (by omega) h9) mfX8_openOne kw1148 (by omega) (LnX8_g L ((upd (upd z.1 25 (y1 + y0)) 22 ((z.1 22) + 1)), z.2.1, z.2.2)) rfl rfl (Nat.le_of_ble_eq_true rfl) hl.1 ⟨Nat.zero_le _, Nat.zero_le _⟩ dX8_turn_105) (fun H locs X => ?_)
    have X : Hx A D S.heap (wf q9) H locs := X
    refine lv_aload_n hx hb dX8_turn_108 rfl (lv_at hl 0 rfl) ?_
    refine lv_iload hx hb dX8_turn_109 (lv_at hl 4 rfl) ?_
    refine lv_iload hx hb dX8_turn_111 (lv_at hl 5 rfl) ?_
    refine lv_iload hx hb dX8_turn_113 (lv_at hl 6 rfl) ?_
    obtain ⟨q10, h10, h⟩ := bs h
    refine kV X (cV (As := [.int x4, .int x5, .int x6]) (rest := []) B X (tX8_holdNow (d := d - 1) L (by omega) h10) mfX8_holdNow kw1156 (by omega) (LnX8_g L q9) rfl rfl (Nat.le_of_ble_eq_true rfl) hl.1 ⟨Nat.zero_le _, Nat.zero_le _⟩ dX8_turn_115) (fun H locs X => ?_)
    have X : Hx A D S.heap (wf q10) H locs := X
    refine lv_goto (tgt := 188) hx hb dX8_turn_118 (by decide) ?_
    refine lv_aload_n hx hb dX8_turn_188 rfl (lv_at hl 0 rfl) ?_
    refine fG B X (LnX8_g L q10) 15 rfl inTX8 (by decide) kw862 rfl dX8_turn_189 ?_
    refine lv_if_ne (tgt := 199) hx hb dX8_turn_192 (by decide) (fun hc11 => ?_) (fun hc11 => ?_)
    · have h := ie h hc11
      refine lv_iconst (v := 0) hx hb dX8_turn_199 (by decide) ?_
      exact rZ B X (congrArg (fun q => wf q.2) (Option.some.inj h)) (congrArg (fun q => q.1) (Option.some.inj h)) rfl dX8_turn_200
    · have h := it h hc11
      refine lv_aload_n hx hb dX8_turn_195 rfl (lv_at hl 0 rfl) ?_
      obtain ⟨q12, h12, h⟩ := bs h
      refine kV X (cV (As := []) (rest := []) B X (tX8_shutOne (d := d - 1) L (by omega) h12) mfX8_shutOne kw1223 (by omega) (LnX8_g L q10) rfl rfl (Nat.le_of_ble_eq_true rfl) hl.1 ⟨Nat.zero_le _, Nat.zero_le _⟩ dX8_turn_196) (fun H locs X => ?_)
      have X : Hx A D S.heap (wf q12) H locs := X
      refine lv_iconst (v := 0) hx hb dX8_turn_199 (by decide) ?_
      exact rZ B X (congrArg (fun q => wf q.2) (Option.some.inj h)) (congrArg (fun q => q.1) (Option.some.inj h)) rfl dX8_turn_200
def fX8_turn_b59 (x1 : Int32) (x2 : Int32) (x3 : Int32) (x4 : Int32) (x5 : Int32) (x6 : Int32) (y0 : Int32) (z : SX8) : Option (Int32 × SX8) :=
    if x4 = 0 then (fX8_turn_b77 x1 x2 x3 x4 x5 x6 1 (z.1 25) ((upd z.1 21 y0), z.2.1, z.2.2)) else
    (fX8_turn_b77 x1 x2 x3 x4 x5 x6 0 (z.1 25) ((upd z.1 21 y0), z.2.1, z.2.2))
set_option maxRecDepth 100000 in
set_option maxHeartbeats 4000000 in
theorem tX8_turn_b59 {a q : Nat → Nat} {wf : SX8 → va_W} (L : LnX8 a q cI cB wf) {d : Nat} (hd : 7 ≤ d) (B : Bd RX8 cX8_turn 7 (some .boolean) d A g D [(cI, .int), (cB, .byte)] p R S m args meth c) {q : Int32 × SX8} : ∀ (x1 : Int32) (x2 : Int32) (x3 : Int32) (x4 : Int32) (x5 : Int32) (x6 : Int32) (y0 : Int32) (z : SX8) (H : Heap) (locs : List Loc) (ls : Array Slot), Hx A D S.heap (wf z) H locs → lv_has ls 7 [(0, .ref (a 0)), (1, .int x1), (2, .int x2), (3, .int x3), (4, .int x4), (5, .int x5), (6, .int x6)] → fX8_turn_b59 x1 x2 x3 x4 x5 x6 y0 z = some q → W p l e R S m args below meth c H locs 0 0 (MQ below (QI A D (wf q.2) q.1) args S 0 0 A) (F0 m 59 ls [.int y0, .ref (a 0)]) := by
  have hx := B.1
  have hb := B.2.1
  have hd1 : 1 ≤ d := by omega
  intro x1 x2 x3 x4 x5 x6 y0 z H locs ls X hl h
  unfold fX8_turn_b59 at h
  refine fP tyX8 B X (LnX8_g L z) 21 (LnX8_i21 L z _) rfl inTX8 tyX8_ok nmX8 (by decide) kw868 rfl rfl rfl rfl (Nat.le_of_ble_eq_true rfl) dX8_turn_59 (fun H locs X => ?_)
  have X : Hx A D S.heap (wf ((upd z.1 21 y0), z.2.1, z.2.2)) H locs := X
  refine lv_aload_n hx hb dX8_turn_62 rfl (lv_at hl 0 rfl) ?_
  refine lv_dup hx hb dX8_turn_63 rfl ?_
  refine fG B X (LnX8_g L ((upd z.1 21 y0), z.2.1, z.2.2)) 25 rfl inTX8 (by decide) kw872 rfl dX8_turn_64 ?_
  refine lv_iload hx hb dX8_turn_67 (lv_at hl 4 rfl) ?_
  refine lv_if_ne (tgt := 76) hx hb dX8_turn_69 (by decide) (fun hc1 => ?_) (fun hc1 => ?_)
  · have h := ie h hc1
    refine lv_iconst (v := 0) hx hb dX8_turn_76 (by decide) ?_
    exact tX8_turn_b77 L hd B x1 x2 x3 x4 x5 x6 0 (z.1 25) ((upd z.1 21 y0), z.2.1, z.2.2) _ _ _ X (lv_sub hl [0, 1, 2, 3, 4, 5, 6] rfl) h
  · have h := it h hc1
    refine lv_iconst (v := 1) hx hb dX8_turn_72 (by decide) ?_
    refine lv_goto (tgt := 77) hx hb dX8_turn_73 (by decide) ?_
    exact tX8_turn_b77 L hd B x1 x2 x3 x4 x5 x6 1 (z.1 25) ((upd z.1 21 y0), z.2.1, z.2.2) _ _ _ X (lv_sub hl [0, 1, 2, 3, 4, 5, 6] rfl) h
def fX8_turn_b40 (x1 : Int32) (x2 : Int32) (x3 : Int32) (x4 : Int32) (x5 : Int32) (y0 : Int32) (z : SX8) : Option (Int32 × SX8) :=
    if x1 ≤ (z.1 21) then (fX8_turn_b59 x1 x2 x3 x4 x5 y0 (z.1 21) z) else
    (fX8_turn_b59 x1 x2 x3 x4 x5 y0 x1 z)
set_option maxRecDepth 100000 in
set_option maxHeartbeats 4000000 in
theorem tX8_turn_b40 {a q : Nat → Nat} {wf : SX8 → va_W} (L : LnX8 a q cI cB wf) {d : Nat} (hd : 7 ≤ d) (B : Bd RX8 cX8_turn 7 (some .boolean) d A g D [(cI, .int), (cB, .byte)] p R S m args meth c) {q : Int32 × SX8} : ∀ (x1 : Int32) (x2 : Int32) (x3 : Int32) (x4 : Int32) (x5 : Int32) (y0 : Int32) (z : SX8) (H : Heap) (locs : List Loc) (ls : Array Slot), Hx A D S.heap (wf z) H locs → lv_has ls 7 [(0, .ref (a 0)), (1, .int x1), (2, .int x2), (3, .int x3), (4, .int x4), (5, .int x5)] → fX8_turn_b40 x1 x2 x3 x4 x5 y0 z = some q → W p l e R S m args below meth c H locs 0 0 (MQ below (QI A D (wf q.2) q.1) args S 0 0 A) (F0 m 40 ls [.int y0]) := by
  have hx := B.1
  have hb := B.2.1
  have hd1 : 1 ≤ d := by omega
  intro x1 x2 x3 x4 x5 y0 z H locs ls X hl h
  unfold fX8_turn_b40 at h
  refine lv_istore (lv' := [(6, .int y0), (0, .ref (a 0)), (1, .int x1), (2, .int x2), (3, .int x3), (4, .int x4), (5, .int x5)]) hx hb dX8_turn_40 hl (by decide) rfl (fun ls hl => ?_)
  refine lv_aload_n hx hb dX8_turn_42 rfl (lv_at hl 1 rfl) ?_
  refine lv_iload_n hx hb dX8_turn_43 rfl (lv_at hl 2 rfl) ?_
  refine lv_aload_n hx hb dX8_turn_44 rfl (lv_at hl 1 rfl) ?_
  refine fG B X (LnX8_g L z) 21 rfl inTX8 (by decide) kw868 rfl dX8_turn_45 ?_
  refine lv_icmp_le (tgt := 55) hx hb dX8_turn_48 (by decide) (fun hc1 => ?_) (fun hc1 => ?_)
  · have h := it h hc1
    refine lv_aload_n hx hb dX8_turn_55 rfl (lv_at hl 1 rfl) ?_
    refine fG B X (LnX8_g L z) 21 rfl inTX8 (by decide) kw868 rfl dX8_turn_56 ?_
    exact tX8_turn_b59 L hd B x1 x2 x3 x4 x5 y0 (z.1 21) z _ _ _ X (lv_sub hl [1, 2, 3, 4, 5, 6, 0] rfl) h
  · have h := ie h hc1
    refine lv_iload_n hx hb dX8_turn_51 rfl (lv_at hl 2 rfl) ?_
    refine lv_goto (tgt := 59) hx hb dX8_turn_52 (by decide) ?_
    exact tX8_turn_b59 L hd B x1 x2 x3 x4 x5 y0 x1 z _ _ _ X (lv_sub hl [1, 2, 3, 4, 5, 6, 0] rfl) h
def fX8_turn_b28 (x1 : Int32) (x2 : Int32) (x3 : Int32) (x4 : Int32) (y0 : Int32) (z : SX8) : Option (Int32 × SX8) :=
    if x4 = 0 then (fX8_turn_b40 x1 x2 x3 x4 y0 x3 z) else
    (fX8_turn_b40 x1 x2 x3 x4 y0 x2 z)
set_option maxRecDepth 100000 in
set_option maxHeartbeats 4000000 in
theorem tX8_turn_b28 {a q : Nat → Nat} {wf : SX8 → va_W} (L : LnX8 a q cI cB wf) {d : Nat} (hd : 7 ≤ d) (B : Bd RX8 cX8_turn 7 (some .boolean) d A g D [(cI, .int), (cB, .byte)] p R S m args meth c) {q : Int32 × SX8} : ∀ (x1 : Int32) (x2 : Int32) (x3 : Int32) (x4 : Int32) (y0 : Int32) (z : SX8) (H : Heap) (locs : List Loc) (ls : Array Slot), Hx A D S.heap (wf z) H locs → lv_has ls 7 [(0, .ref (a 0)), (1, .int x1), (2, .int x2), (3, .int x3), (4, .int x4)] → fX8_turn_b28 x1 x2 x3 x4 y0 z = some q → W p l e R S m args below meth c H locs 0 0 (MQ below (QI A D (wf q.2) q.1) args S 0 0 A) (F0 m 28 ls [.int y0]) := by
  have hx := B.1
  have hb := B.2.1
  have hd1 : 1 ≤ d := by omega
  intro x1 x2 x3 x4 y0 z H locs ls X hl h
  unfold fX8_turn_b28 at h
  refine lv_istore (lv' := [(5, .int y0), (0, .ref (a 0)), (1, .int x1), (2, .int x2), (3, .int x3), (4, .int x4)]) hx hb dX8_turn_28 hl (by decide) rfl (fun ls hl => ?_)
  refine lv_iload hx hb dX8_turn_30 (lv_at hl 5 rfl) ?_
  refine lv_if_ne (tgt := 39) hx hb dX8_turn_32 (by decide) (fun hc1 => ?_) (fun hc1 => ?_)
  · have h := ie h hc1
    refine lv_iload_n hx hb dX8_turn_39 rfl (lv_at hl 3 rfl) ?_
    exact tX8_turn_b40 L hd B x1 x2 x3 x4 y0 x2 z _ _ _ X (lv_sub hl [1, 2, 3, 4, 5, 0] rfl) h
  · have h := it h hc1
    refine lv_iload_n hx hb dX8_turn_35 rfl (lv_at hl 4 rfl) ?_
    refine lv_goto (tgt := 40) hx hb dX8_turn_36 (by decide) ?_
    exact tX8_turn_b40 L hd B x1 x2 x3 x4 y0 x3 z _ _ _ X (lv_sub hl [1, 2, 3, 4, 5, 0] rfl) h
def fX8_turn_b16 (x1 : Int32) (x2 : Int32) (x3 : Int32) (y0 : Int32) (z : SX8) : Option (Int32 × SX8) :=
    if y0 = 0 then (fX8_turn_b28 x1 x2 x3 y0 x2 z) else
    (fX8_turn_b28 x1 x2 x3 y0 x3 z)
set_option maxRecDepth 100000 in
set_option maxHeartbeats 4000000 in
theorem tX8_turn_b16 {a q : Nat → Nat} {wf : SX8 → va_W} (L : LnX8 a q cI cB wf) {d : Nat} (hd : 7 ≤ d) (B : Bd RX8 cX8_turn 7 (some .boolean) d A g D [(cI, .int), (cB, .byte)] p R S m args meth c) {q : Int32 × SX8} : ∀ (x1 : Int32) (x2 : Int32) (x3 : Int32) (y0 : Int32) (z : SX8) (H : Heap) (locs : List Loc) (ls : Array Slot), Hx A D S.heap (wf z) H locs → lv_has ls 7 [(0, .ref (a 0)), (1, .int x1), (2, .int x2), (3, .int x3)] → fX8_turn_b16 x1 x2 x3 y0 z = some q → W p l e R S m args below meth c H locs 0 0 (MQ below (QI A D (wf q.2) q.1) args S 0 0 A) (F0 m 16 ls [.int y0]) := by
  have hx := B.1
  have hb := B.2.1
  have hd1 : 1 ≤ d := by omega
  intro x1 x2 x3 y0 z H locs ls X hl h
  unfold fX8_turn_b16 at h
  refine lv_istore (lv' := [(4, .int y0), (0, .ref (a 0)), (1, .int x1), (2, .int x2), (3, .int x3)]) hx hb dX8_turn_16 hl (by decide) rfl (fun ls hl => ?_)
  refine lv_iload hx hb dX8_turn_18 (lv_at hl 0 rfl) ?_
  refine lv_if_ne (tgt := 27) hx hb dX8_turn_20 (by decide) (fun hc1 => ?_) (fun hc1 => ?_)
  · have h := ie h hc1
    refine lv_iload_n hx hb dX8_turn_27 rfl (lv_at hl 4 rfl) ?_
    exact tX8_turn_b28 L hd B x1 x2 x3 y0 x3 z _ _ _ X (lv_sub hl [1, 2, 3, 4, 0] rfl) h
  · have h := it h hc1
    refine lv_iload_n hx hb dX8_turn_23 rfl (lv_at hl 3 rfl) ?_
    refine lv_goto (tgt := 28) hx hb dX8_turn_24 (by decide) ?_
    exact tX8_turn_b28 L hd B x1 x2 x3 y0 x2 z _ _ _ X (lv_sub hl [1, 2, 3, 4, 0] rfl) h
def fX8_turn (z : SX8) (x1 : Int32) (x2 : Int32) (x3 : Int32) : Option (Int32 × SX8) :=
    (fX8_size x2).bind fun q1 =>
    (fX8_size x3).bind fun q2 =>
    if q2 ≤ q1 then (fX8_turn_b16 x1 x2 x3 1 z) else
    (fX8_turn_b16 x1 x2 x3 0 z)
set_option maxRecDepth 100000 in
set_option maxHeartbeats 4000000 in
theorem tX8_turn {a q : Nat → Nat} {wf : SX8 → va_W} (L : LnX8 a q cI cB wf) {d : Nat} (hd : 7 ≤ d) {z : SX8} {x1 x2 x3 : Int32} {q : Int32 × SX8} (h : fX8_turn z x1 x2 x3 = some q) : Ct l yX8_turn cX8_turn 7 (some .boolean) d A g D [(cI, .int), (cB, .byte)] [.ref (a 0), .int x1, .int x2, .int x3] (wf z) (QI A D (wf q.2) q.1) := by
  refine mkM (by decide) (Nat.le_of_ble_eq_true rfl) ?_
  intro p e S m args below meth c B X ls hl
  have B : Bd RX8 cX8_turn 7 (some .boolean) d A g D [(cI, .int), (cB, .byte)] p (rmd d) S m args meth c := B
  have hx := B.1
  have hb := B.2.1
  have hd1 : 1 ≤ d := by omega
  have hl : lv_has ls 7 [(0, .ref (a 0)), (1, .int x1), (2, .int x2), (3, .int x3)] := hl
  unfold fX8_turn at h
  refine lv_iload_n hx hb dX8_turn_0 rfl (lv_at hl 2 rfl) ?_
  obtain ⟨q1, h1, h⟩ := bs h
  refine kI X (cS (As := [.int x2]) (rest := []) B X (tX8_size (d := d - 1) (by omega) h1) msX8_size kw1145 (by omega) rfl (Nat.le_of_ble_eq_true rfl) hl.1 ⟨Nat.zero_le _, Nat.zero_le _⟩ dX8_turn_1) (fun H locs X => ?_)
  have X : Hx A D S.heap (wf z) H locs := X
  refine lv_iload_n hx hb dX8_turn_4 rfl (lv_at hl 3 rfl) ?_
  obtain ⟨q2, h2, h⟩ := bs h
  refine kI X (cS (As := [.int x3]) (rest := [.int q1]) B X (tX8_size (d := d - 1) (by omega) h2) msX8_size kw1145 (by omega) rfl (Nat.le_of_ble_eq_true rfl) hl.1 ⟨Nat.zero_le _, Nat.zero_le _⟩ dX8_turn_5) (fun H locs X => ?_)
  have X : Hx A D S.heap (wf z) H locs := X
  refine lv_icmp_ge (tgt := 15) hx hb dX8_turn_8 (by decide) (fun hc3 => ?_) (fun hc3 => ?_)
  · have h := it h hc3
    refine lv_iconst (v := 1) hx hb dX8_turn_15 (by decide) ?_
    exact tX8_turn_b16 L hd B x1 x2 x3 1 z _ _ _ X (lv_sub hl [0, 1, 2, 3] rfl) h
  · have h := ie h hc3
    refine lv_iconst (v := 0) hx hb dX8_turn_11 (by decide) ?_
    refine lv_goto (tgt := 16) hx hb dX8_turn_12 (by decide) ?_
    exact tX8_turn_b16 L hd B x1 x2 x3 0 z _ _ _ X (lv_sub hl [0, 1, 2, 3] rfl) h
def fX8_shutPart_b2 : Nat → Int32 → Int32 → SX8 → Option SX8
  | 0, _, _, _ => none
  | n + 1, x1, x2, z =>
    if x1 < 0 ∨ 6 ≤ x1.toNatClampNeg then none else
    (if ((z.2.2 40) x1.toNatClampNeg) ≤ x2 then ((fX8_shutOne z).bind fun q3 =>
    some q3) else
    ((fX8_shutOne z).bind fun q4 =>
    fX8_shutPart_b2 n x1 (x2 + 1) q4))
set_option maxRecDepth 100000 in
set_option maxHeartbeats 4000000 in
theorem tX8_shutPart_b2 {a q : Nat → Nat} {wf : SX8 → va_W} (L : LnX8 a q cI cB wf) {d : Nat} (hd : 3 ≤ d) (B : Bd RX8 cX8_shutPart 3 none d A g D [(cI, .int), (cB, .byte)] p R S m args meth c) {q : SX8} : ∀ (n : Nat) (x1 : Int32) (x2 : Int32) (z : SX8) (H : Heap) (locs : List Loc) (ls : Array Slot), Hx A D S.heap (wf z) H locs → lv_has ls 3 [(0, .ref (a 0)), (1, .int x1), (2, .int x2)] → fX8_shutPart_b2 n x1 x2 z = some q → W p l e R S m args below meth c H locs 0 0 (MQ below (QV A D (wf q)) args S 0 0 A) (F0 m 2 ls []) := by
  have hx := B.1
  have hb := B.2.1
  have hd1 : 1 ≤ d := by omega
  intro n
  induction n with
  | zero =>
    intro x1 x2 z H locs ls X hl h
    cases h
  | succ n ih =>
    intro x1 x2 z H locs ls X hl h
    rw [fX8_shutPart_b2] at h
    refine lv_iload_n hx hb dX8_shutPart_2 rfl (lv_at hl 2 rfl) ?_
    refine lv_aload_n hx hb dX8_shutPart_3 rfl (lv_at hl 0 rfl) ?_
    refine fG B X (LnX8_g L z) 40 rfl inTX8 (by decide) kw887 rfl dX8_shutPart_4 ?_
    refine lv_iload_n hx hb dX8_shutPart_7 rfl (lv_at hl 1 rfl) ?_
    by_cases hc1 : (x1 < 0 ∨ 6 ≤ x1.toNatClampNeg)
    · cases it h hc1
    have h := ie h hc1
    refine aG B X (LnX8_a40 L z) 0 rfl hc1 dX8_shutPart_8 ?_
    refine lv_icmp_ge (tgt := 22) hx hb dX8_shutPart_9 (by decide) (fun hc2 => ?_) (fun hc2 => ?_)
    · have h := it h hc2
      refine lv_aload_n hx hb dX8_shutPart_22 rfl (lv_at hl 0 rfl) ?_
      obtain ⟨q3, h3, h⟩ := bs h
      refine kV X (cV (As := []) (rest := []) B X (tX8_shutOne (d := d - 1) L (by omega) h3) mfX8_shutOne kw1223 (by omega) (LnX8_g L z) rfl rfl (Nat.le_of_ble_eq_true rfl) hl.1 ⟨Nat.zero_le _, Nat.zero_le _⟩ dX8_shutPart_23) (fun H locs X => ?_)
      have X : Hx A D S.heap (wf q3) H locs := X
      exact rV B X (congrArg wf (Option.some.inj h)) dX8_shutPart_26
    · have h := ie h hc2
      refine lv_aload_n hx hb dX8_shutPart_12 rfl (lv_at hl 0 rfl) ?_
      obtain ⟨q4, h4, h⟩ := bs h
      refine kV X (cV (As := []) (rest := []) B X (tX8_shutOne (d := d - 1) L (by omega) h4) mfX8_shutOne kw1223 (by omega) (LnX8_g L z) rfl rfl (Nat.le_of_ble_eq_true rfl) hl.1 ⟨Nat.zero_le _, Nat.zero_le _⟩ dX8_shutPart_13) (fun H locs X => ?_)
      have X : Hx A D S.heap (wf q4) H locs := X
      refine lv_iinc (v := x2 + 1) (lv' := [(2, .int (x2 + 1)), (0, .ref (a 0)), (1, .int x1)]) hx hb dX8_shutPart_16 hl (k := 2) rfl rfl (by decide) rfl (fun ls hl => ?_)
      refine lv_goto (tgt := 2) hx hb dX8_shutPart_19 (by decide) ?_
      exact ih x1 (x2 + 1) q4 _ _ _ X (lv_sub hl [1, 2, 0] rfl) h
def fX8_shutPart (z : SX8) (x1 : Int32) : Option SX8 :=
    fX8_shutPart_b2 1000 x1 0 z
set_option maxRecDepth 100000 in
set_option maxHeartbeats 4000000 in
theorem tX8_shutPart {a q : Nat → Nat} {wf : SX8 → va_W} (L : LnX8 a q cI cB wf) {d : Nat} (hd : 3 ≤ d) {z : SX8} {x1 : Int32} {q : SX8} (h : fX8_shutPart z x1 = some q) : Ct l yX8_shutPart cX8_shutPart 3 none d A g D [(cI, .int), (cB, .byte)] [.ref (a 0), .int x1] (wf z) (QV A D (wf q)) := by
  refine mkM (by decide) (Nat.le_of_ble_eq_true rfl) ?_
  intro p e S m args below meth c B X ls hl
  have B : Bd RX8 cX8_shutPart 3 none d A g D [(cI, .int), (cB, .byte)] p (rmd d) S m args meth c := B
  have hx := B.1
  have hb := B.2.1
  have hd1 : 1 ≤ d := by omega
  have hl : lv_has ls 3 [(0, .ref (a 0)), (1, .int x1)] := hl
  unfold fX8_shutPart at h
  refine lv_iconst (v := 0) hx hb dX8_shutPart_0 (by decide) ?_
  refine lv_istore_n (lv' := [(2, .int 0), (0, .ref (a 0)), (1, .int x1)]) hx hb dX8_shutPart_1 rfl hl (by decide) rfl (fun ls hl => ?_)
  exact tX8_shutPart_b2 L hd B 1000 x1 0 z _ _ _ X (lv_sub hl [1, 2, 0] rfl) h
def fX8_nextHalf_b37 (x1 : Int32) (x2 : Int32) (z : SX8) : Option (Int32 × SX8) :=
    if x1 < 0 ∨ 6 ≤ x1.toNatClampNeg then none else
    (if 2 ≤ x2 then (some ((-1), (z.1, z.2.1, (va_up z.2.2 38 (upd (z.2.2 38) x1.toNatClampNeg (x2 + 1)))))) else
    (some (x2, (z.1, z.2.1, (va_up z.2.2 38 (upd (z.2.2 38) x1.toNatClampNeg (x2 + 1)))))))
set_option maxRecDepth 100000 in
set_option maxHeartbeats 4000000 in
theorem tX8_nextHalf_b37 {a q : Nat → Nat} {wf : SX8 → va_W} (L : LnX8 a q cI cB wf) {d : Nat} (hd : 5 ≤ d) (B : Bd RX8 cX8_nextHalf 3 (some .int) d A g D [(cI, .int), (cB, .byte)] p R S m args meth c) {q : Int32 × SX8} : ∀ (x1 : Int32) (x2 : Int32) (z : SX8) (H : Heap) (locs : List Loc) (ls : Array Slot), Hx A D S.heap (wf z) H locs → lv_has ls 3 [(0, .ref (a 0)), (1, .int x1), (2, .int x2)] → fX8_nextHalf_b37 x1 x2 z = some q → W p l e R S m args below meth c H locs 0 0 (MQ below (QI A D (wf q.2) q.1) args S 0 0 A) (F0 m 37 ls []) := by
  have hx := B.1
  have hb := B.2.1
  have hd1 : 1 ≤ d := by omega
  intro x1 x2 z H locs ls X hl h
  unfold fX8_nextHalf_b37 at h
  refine lv_aload_n hx hb dX8_nextHalf_37 rfl (lv_at hl 0 rfl) ?_
  refine fG B X (LnX8_g L z) 38 rfl inTX8 (by decide) kw885 rfl dX8_nextHalf_38 ?_
  refine lv_iload_n hx hb dX8_nextHalf_41 rfl (lv_at hl 1 rfl) ?_
  refine lv_iload_n hx hb dX8_nextHalf_42 rfl (lv_at hl 2 rfl) ?_
  refine lv_iconst (v := 1) hx hb dX8_nextHalf_43 (by decide) ?_
  refine lv_iadd hx hb dX8_nextHalf_44 ?_
  by_cases hc1 : (x1 < 0 ∨ 6 ≤ x1.toNatClampNeg)
  · cases it h hc1
  have h := ie h hc1
  refine aP B X (LnX8_a38 L z) (LnX8_b38 L z _) 0 rfl hc1 dX8_nextHalf_45 (fun H locs X => ?_)
  have X : Hx A D S.heap (wf (z.1, z.2.1, (va_up z.2.2 38 (upd (z.2.2 38) x1.toNatClampNeg (x2 + 1))))) H locs := X
  refine lv_iload_n hx hb dX8_nextHalf_46 rfl (lv_at hl 2 rfl) ?_
  refine lv_iconst (v := 2) hx hb dX8_nextHalf_47 (by decide) ?_
  refine lv_icmp_ge (tgt := 55) hx hb dX8_nextHalf_48 (by decide) (fun hc2 => ?_) (fun hc2 => ?_)
  · have h := it h hc2
    refine lv_iconst (v := (-1)) hx hb dX8_nextHalf_55 (by decide) ?_
    exact rI B X (congrArg (fun q => wf q.2) (Option.some.inj h)) (congrArg (fun q => q.1) (Option.some.inj h)) dX8_nextHalf_56
  · have h := ie h hc2
    refine lv_iload_n hx hb dX8_nextHalf_51 rfl (lv_at hl 2 rfl) ?_
    refine lv_goto (tgt := 56) hx hb dX8_nextHalf_52 (by decide) ?_
    exact rI B X (congrArg (fun q => wf q.2) (Option.some.inj h)) (congrArg (fun q => q.1) (Option.some.inj h)) dX8_nextHalf_56
def fX8_nextHalf_b7 : Nat → Int32 → Int32 → SX8 → Option (Int32 × SX8)
  | 0, _, _, _ => none
  | n + 1, x1, x2, z =>
    if 2 ≤ x2 then (fX8_nextHalf_b37 x1 x2 z) else
    (if x1 < 0 ∨ 6 ≤ x1.toNatClampNeg then none else
    (if x2 = ((z.2.2 39) x1.toNatClampNeg) then (fX8_nextHalf_b7 n x1 (x2 + 1) z) else
    ((fX8_rowsOfHalf z x1 x2).bind fun q4 =>
    if q4 = 0 then (fX8_nextHalf_b7 n x1 (x2 + 1) z) else
    (fX8_nextHalf_b37 x1 x2 z))))
set_option maxRecDepth 100000 in
set_option maxHeartbeats 4000000 in
theorem tX8_nextHalf_b7 {a q : Nat → Nat} {wf : SX8 → va_W} (L : LnX8 a q cI cB wf) {d : Nat} (hd : 5 ≤ d) (B : Bd RX8 cX8_nextHalf 3 (some .int) d A g D [(cI, .int), (cB, .byte)] p R S m args meth c) {q : Int32 × SX8} : ∀ (n : Nat) (x1 : Int32) (x2 : Int32) (z : SX8) (H : Heap) (locs : List Loc) (ls : Array Slot), Hx A D S.heap (wf z) H locs → lv_has ls 3 [(0, .ref (a 0)), (1, .int x1), (2, .int x2)] → fX8_nextHalf_b7 n x1 x2 z = some q → W p l e R S m args below meth c H locs 0 0 (MQ below (QI A D (wf q.2) q.1) args S 0 0 A) (F0 m 7 ls []) := by
  have hx := B.1
  have hb := B.2.1
  have hd1 : 1 ≤ d := by omega
  intro n
  induction n with
  | zero =>
    intro x1 x2 z H locs ls X hl h
    cases h
  | succ n ih =>
    intro x1 x2 z H locs ls X hl h
    rw [fX8_nextHalf_b7] at h
    refine lv_iload_n hx hb dX8_nextHalf_7 rfl (lv_at hl 2 rfl) ?_
    refine lv_iconst (v := 2) hx hb dX8_nextHalf_8 (by decide) ?_
    refine lv_icmp_ge (tgt := 37) hx hb dX8_nextHalf_9 (by decide) (fun hc1 => ?_) (fun hc1 => ?_)
    · have h := it h hc1
      exact tX8_nextHalf_b37 L hd B x1 x2 z _ _ _ X (lv_sub hl [0, 1, 2] rfl) h
    · have h := ie h hc1
      refine lv_iload_n hx hb dX8_nextHalf_12 rfl (lv_at hl 2 rfl) ?_
      refine lv_aload_n hx hb dX8_nextHalf_13 rfl (lv_at hl 0 rfl) ?_
      refine fG B X (LnX8_g L z) 39 rfl inTX8 (by decide) kw886 rfl dX8_nextHalf_14 ?_
      refine lv_iload_n hx hb dX8_nextHalf_17 rfl (lv_at hl 1 rfl) ?_
      by_cases hc2 : (x1 < 0 ∨ 6 ≤ x1.toNatClampNeg)
      · cases it h hc2
      have h := ie h hc2
      refine aG B X (LnX8_a39 L z) 0 rfl hc2 dX8_nextHalf_18 ?_
      refine lv_icmp_eq (tgt := 31) hx hb dX8_nextHalf_19 (by decide) (fun hc3 => ?_) (fun hc3 => ?_)
      · have h := it h hc3
        refine lv_iinc (v := x2 + 1) (lv' := [(2, .int (x2 + 1)), (0, .ref (a 0)), (1, .int x1)]) hx hb dX8_nextHalf_31 hl (k := 2) rfl rfl (by decide) rfl (fun ls hl => ?_)
        refine lv_goto (tgt := 7) hx hb dX8_nextHalf_34 (by decide) ?_
        exact ih x1 (x2 + 1) z _ _ _ X (lv_sub hl [1, 2, 0] rfl) h
      · have h := ie h hc3
        refine lv_aload_n hx hb dX8_nextHalf_22 rfl (lv_at hl 0 rfl) ?_
        refine lv_iload_n hx hb dX8_nextHalf_23 rfl (lv_at hl 1 rfl) ?_
        refine lv_iload_n hx hb dX8_nextHalf_24 rfl (lv_at hl 2 rfl) ?_
        obtain ⟨q4, h4, h⟩ := bs h
        refine kI X (cV (As := [.int x1, .int x2]) (rest := []) B X (tX8_rowsOfHalf (d := d - 1) L (by omega) h4) mfX8_rowsOfHalf kw1219 (by omega) (LnX8_g L z) rfl rfl (Nat.le_of_ble_eq_true rfl) hl.1 ⟨Nat.zero_le _, Nat.zero_le _⟩ dX8_nextHalf_25) (fun H locs X => ?_)
        have X : Hx A D S.heap (wf z) H locs := X
        refine lv_if_ne (tgt := 37) hx hb dX8_nextHalf_28 (by decide) (fun hc5 => ?_) (fun hc5 => ?_)
        · have h := ie h hc5
          exact tX8_nextHalf_b37 L hd B x1 x2 z _ _ _ X (lv_sub hl [0, 1, 2] rfl) h
        · have h := it h hc5
          refine lv_iinc (v := x2 + 1) (lv' := [(2, .int (x2 + 1)), (0, .ref (a 0)), (1, .int x1)]) hx hb dX8_nextHalf_31 hl (k := 2) rfl rfl (by decide) rfl (fun ls hl => ?_)
          refine lv_goto (tgt := 7) hx hb dX8_nextHalf_34 (by decide) ?_
          exact ih x1 (x2 + 1) z _ _ _ X (lv_sub hl [1, 2, 0] rfl) h
def fX8_nextHalf (z : SX8) (x1 : Int32) : Option (Int32 × SX8) :=
    if x1 < 0 ∨ 6 ≤ x1.toNatClampNeg then none else
    (fX8_nextHalf_b7 1000 x1 ((z.2.2 38) x1.toNatClampNeg) z)
set_option maxRecDepth 100000 in
set_option maxHeartbeats 4000000 in
theorem tX8_nextHalf {a q : Nat → Nat} {wf : SX8 → va_W} (L : LnX8 a q cI cB wf) {d : Nat} (hd : 5 ≤ d) {z : SX8} {x1 : Int32} {q : Int32 × SX8} (h : fX8_nextHalf z x1 = some q) : Ct l yX8_nextHalf cX8_nextHalf 3 (some .int) d A g D [(cI, .int), (cB, .byte)] [.ref (a 0), .int x1] (wf z) (QI A D (wf q.2) q.1) := by
  refine mkM (by decide) (Nat.le_of_ble_eq_true rfl) ?_
  intro p e S m args below meth c B X ls hl
  have B : Bd RX8 cX8_nextHalf 3 (some .int) d A g D [(cI, .int), (cB, .byte)] p (rmd d) S m args meth c := B
  have hx := B.1
  have hb := B.2.1
  have hd1 : 1 ≤ d := by omega
  have hl : lv_has ls 3 [(0, .ref (a 0)), (1, .int x1)] := hl
  unfold fX8_nextHalf at h
  refine lv_aload_n hx hb dX8_nextHalf_0 rfl (lv_at hl 0 rfl) ?_
  refine fG B X (LnX8_g L z) 38 rfl inTX8 (by decide) kw885 rfl dX8_nextHalf_1 ?_
  refine lv_iload_n hx hb dX8_nextHalf_4 rfl (lv_at hl 1 rfl) ?_
  by_cases hc1 : (x1 < 0 ∨ 6 ≤ x1.toNatClampNeg)
  · cases it h hc1
  have h := ie h hc1
  refine aG B X (LnX8_a38 L z) 0 rfl hc1 dX8_nextHalf_5 ?_
  refine lv_istore_n (lv' := [(2, .int ((z.2.2 38) x1.toNatClampNeg)), (0, .ref (a 0)), (1, .int x1)]) hx hb dX8_nextHalf_6 rfl hl (by decide) rfl (fun ls hl => ?_)
  exact tX8_nextHalf_b7 L hd B 1000 x1 ((z.2.2 38) x1.toNatClampNeg) z _ _ _ X (lv_sub hl [1, 2, 0] rfl) h
def fX8_withKeys_b33 (k5 : Int32 → Int32 → Int32 → Int32 → Option Int32) (z : SX8) (x1 : Int32) (x2 : Int32) (x4 : Int32) (y0 : Int32) (y1 : Int32) : Option Int32 :=
    if y0 = x2 then (k5 x1 x2 (y1 ||| (1 <<< (x4 &&& 31))) (x4 + 1)) else
    (k5 x1 x2 (y1 ||| 0) (x4 + 1))
set_option maxRecDepth 100000 in
set_option maxHeartbeats 4000000 in
theorem tX8_withKeys_b33 {a q : Nat → Nat} {wf : SX8 → va_W} (L : LnX8 a q cI cB wf) {d : Nat} (hd : 2 ≤ d) {z : SX8} (B : Bd RX8 cX8_withKeys 5 (some .int) d A g D [(cI, .int), (cB, .byte)] p R S m args meth c) {q : Int32} {k5 : Int32 → Int32 → Int32 → Int32 → Option Int32} (hk5 : ∀ (x1 : Int32) (x2 : Int32) (x3 : Int32) (x4 : Int32) (H : Heap) (locs : List Loc) (ls : Array Slot), Hx A D S.heap (wf z) H locs → lv_has ls 5 [(0, .ref (a 0)), (1, .int x1), (2, .int x2), (3, .int x3), (4, .int x4)] → k5 x1 x2 x3 x4 = some q → W p l e R S m args below meth c H locs 0 0 (MQ below (QI A D (wf z) q) args S 0 0 A) (F0 m 5 ls [])) : ∀ (x1 : Int32) (x2 : Int32) (x4 : Int32) (y0 : Int32) (y1 : Int32) (H : Heap) (locs : List Loc) (ls : Array Slot), Hx A D S.heap (wf z) H locs → lv_has ls 5 [(0, .ref (a 0)), (1, .int x1), (2, .int x2), (4, .int x4)] → fX8_withKeys_b33 k5 z x1 x2 x4 y0 y1 = some q → W p l e R S m args below meth c H locs 0 0 (MQ below (QI A D (wf z) q) args S 0 0 A) (F0 m 33 ls [.int y0, .int y1]) := by
  have hx := B.1
  have hb := B.2.1
  have hd1 : 1 ≤ d := by omega
  intro x1 x2 x4 y0 y1 H locs ls X hl h
  unfold fX8_withKeys_b33 at h
  refine lv_iload_n hx hb dX8_withKeys_33 rfl (lv_at hl 2 rfl) ?_
  refine lv_icmp_ne (tgt := 44) hx hb dX8_withKeys_34 (by decide) (fun hc1 => ?_) (fun hc1 => ?_)
  · have h := ie h hc1
    refine lv_iconst (v := 0) hx hb dX8_withKeys_44 (by decide) ?_
    refine lv_ior hx hb dX8_withKeys_45 ?_
    refine lv_istore_n (lv' := [(3, .int (y1 ||| 0)), (0, .ref (a 0)), (1, .int x1), (2, .int x2), (4, .int x4)]) hx hb dX8_withKeys_46 rfl hl (by decide) rfl (fun ls hl => ?_)
    refine lv_iinc (v := x4 + 1) (lv' := [(4, .int (x4 + 1)), (3, .int (y1 ||| 0)), (0, .ref (a 0)), (1, .int x1), (2, .int x2)]) hx hb dX8_withKeys_47 hl (k := 4) rfl rfl (by decide) rfl (fun ls hl => ?_)
    refine lv_goto (tgt := 5) hx hb dX8_withKeys_50 (by decide) ?_
    exact hk5 x1 x2 (y1 ||| 0) (x4 + 1) _ _ _ X (lv_sub hl [2, 3, 4, 1, 0] rfl) h
  · have h := it h hc1
    refine lv_iconst (v := 1) hx hb dX8_withKeys_37 (by decide) ?_
    refine lv_iload hx hb dX8_withKeys_38 (lv_at hl 3 rfl) ?_
    refine lv_ishl hx hb dX8_withKeys_40 ?_
    refine lv_goto (tgt := 45) hx hb dX8_withKeys_41 (by decide) ?_
    refine lv_ior hx hb dX8_withKeys_45 ?_
    refine lv_istore_n (lv' := [(3, .int (y1 ||| (1 <<< (x4 &&& 31)))), (0, .ref (a 0)), (1, .int x1), (2, .int x2), (4, .int x4)]) hx hb dX8_withKeys_46 rfl hl (by decide) rfl (fun ls hl => ?_)
    refine lv_iinc (v := x4 + 1) (lv' := [(4, .int (x4 + 1)), (3, .int (y1 ||| (1 <<< (x4 &&& 31)))), (0, .ref (a 0)), (1, .int x1), (2, .int x2)]) hx hb dX8_withKeys_47 hl (k := 4) rfl rfl (by decide) rfl (fun ls hl => ?_)
    refine lv_goto (tgt := 5) hx hb dX8_withKeys_50 (by decide) ?_
    exact hk5 x1 x2 (y1 ||| (1 <<< (x4 &&& 31))) (x4 + 1) _ _ _ X (lv_sub hl [2, 3, 4, 1, 0] rfl) h
def fX8_withKeys_b5 (z : SX8) : Nat → Int32 → Int32 → Int32 → Int32 → Option Int32
  | 0, _, _, _, _ => none
  | n + 1, x1, x2, x3, x4 =>
    if x1 < 0 ∨ 2 ≤ x1.toNatClampNeg then none else
    (if ((z.2.2 4) x1.toNatClampNeg) ≤ x4 then (some x3) else
    ((fX8_keyAt z x1 x4).bind fun q3 =>
    if q3 = (-1) then (fX8_withKeys_b33 (fX8_withKeys_b5 z n) z x1 x2 x4 0 x3) else
    (fX8_withKeys_b33 (fX8_withKeys_b5 z n) z x1 x2 x4 1 x3)))
set_option maxRecDepth 100000 in
set_option maxHeartbeats 4000000 in
theorem tX8_withKeys_b5 {a q : Nat → Nat} {wf : SX8 → va_W} (L : LnX8 a q cI cB wf) {d : Nat} (hd : 2 ≤ d) {z : SX8} (B : Bd RX8 cX8_withKeys 5 (some .int) d A g D [(cI, .int), (cB, .byte)] p R S m args meth c) {q : Int32} : ∀ (n : Nat) (x1 : Int32) (x2 : Int32) (x3 : Int32) (x4 : Int32) (H : Heap) (locs : List Loc) (ls : Array Slot), Hx A D S.heap (wf z) H locs → lv_has ls 5 [(0, .ref (a 0)), (1, .int x1), (2, .int x2), (3, .int x3), (4, .int x4)] → fX8_withKeys_b5 z n x1 x2 x3 x4 = some q → W p l e R S m args below meth c H locs 0 0 (MQ below (QI A D (wf z) q) args S 0 0 A) (F0 m 5 ls []) := by
  have hx := B.1
  have hb := B.2.1
  have hd1 : 1 ≤ d := by omega
  intro n
  induction n with
  | zero =>
    intro x1 x2 x3 x4 H locs ls X hl h
    cases h
  | succ n ih =>
    intro x1 x2 x3 x4 H locs ls X hl h
    rw [fX8_withKeys_b5] at h
    refine lv_iload hx hb dX8_withKeys_5 (lv_at hl 4 rfl) ?_
    refine lv_aload_n hx hb dX8_withKeys_7 rfl (lv_at hl 0 rfl) ?_
    refine fG B X (LnX8_g L z) 4 rfl inTX8 (by decide) kw851 rfl dX8_withKeys_8 ?_
    refine lv_iload_n hx hb dX8_withKeys_11 rfl (lv_at hl 1 rfl) ?_
    by_cases hc1 : (x1 < 0 ∨ 2 ≤ x1.toNatClampNeg)
    · cases it h hc1
    have h := ie h hc1
    refine aG B X (LnX8_a4 L z) 0 rfl hc1 dX8_withKeys_12 ?_
    refine lv_icmp_ge (tgt := 53) hx hb dX8_withKeys_13 (by decide) (fun hc2 => ?_) (fun hc2 => ?_)
    · have h := it h hc2
      refine lv_iload_n hx hb dX8_withKeys_53 rfl (lv_at hl 3 rfl) ?_
      exact rI B X rfl (Option.some.inj h) dX8_withKeys_54
    · have h := ie h hc2
      refine lv_iload_n hx hb dX8_withKeys_16 rfl (lv_at hl 3 rfl) ?_
      refine lv_aload_n hx hb dX8_withKeys_17 rfl (lv_at hl 0 rfl) ?_
      refine lv_iload_n hx hb dX8_withKeys_18 rfl (lv_at hl 1 rfl) ?_
      refine lv_iload hx hb dX8_withKeys_19 (lv_at hl 4 rfl) ?_
      obtain ⟨q3, h3, h⟩ := bs h
      refine kI X (cV (As := [.int x1, .int x4]) (rest := [.int x3]) B X (tX8_keyAt (d := d - 1) L (by omega) h3) mfX8_keyAt kw1090 (by omega) (LnX8_g L z) rfl rfl (Nat.le_of_ble_eq_true rfl) hl.1 ⟨Nat.zero_le _, Nat.zero_le _⟩ dX8_withKeys_21) (fun H locs X => ?_)
      have X : Hx A D S.heap (wf z) H locs := X
      refine lv_iconst (v := (-1)) hx hb dX8_withKeys_24 (by decide) ?_
      refine lv_icmp_eq (tgt := 32) hx hb dX8_withKeys_25 (by decide) (fun hc4 => ?_) (fun hc4 => ?_)
      · have h := it h hc4
        refine lv_iconst (v := 0) hx hb dX8_withKeys_32 (by decide) ?_
        exact tX8_withKeys_b33 L hd B ih x1 x2 x4 0 x3 _ _ _ X (lv_sub hl [0, 1, 2, 4] rfl) h
      · have h := ie h hc4
        refine lv_iconst (v := 1) hx hb dX8_withKeys_28 (by decide) ?_
        refine lv_goto (tgt := 33) hx hb dX8_withKeys_29 (by decide) ?_
        exact tX8_withKeys_b33 L hd B ih x1 x2 x4 1 x3 _ _ _ X (lv_sub hl [0, 1, 2, 4] rfl) h
def fX8_withKeys (z : SX8) (x1 : Int32) (x2 : Int32) : Option Int32 :=
    fX8_withKeys_b5 z 1000 x1 x2 0 0
set_option maxRecDepth 100000 in
set_option maxHeartbeats 4000000 in
theorem tX8_withKeys {a q : Nat → Nat} {wf : SX8 → va_W} (L : LnX8 a q cI cB wf) {d : Nat} (hd : 2 ≤ d) {z : SX8} {x1 x2 : Int32} {q : Int32} (h : fX8_withKeys z x1 x2 = some q) : Ct l yX8_withKeys cX8_withKeys 5 (some .int) d A g D [(cI, .int), (cB, .byte)] [.ref (a 0), .int x1, .int x2] (wf z) (QI A D (wf z) q) := by
  refine mkM (by decide) (Nat.le_of_ble_eq_true rfl) ?_
  intro p e S m args below meth c B X ls hl
  have B : Bd RX8 cX8_withKeys 5 (some .int) d A g D [(cI, .int), (cB, .byte)] p (rmd d) S m args meth c := B
  have hx := B.1
  have hb := B.2.1
  have hd1 : 1 ≤ d := by omega
  have hl : lv_has ls 5 [(0, .ref (a 0)), (1, .int x1), (2, .int x2)] := hl
  unfold fX8_withKeys at h
  refine lv_iconst (v := 0) hx hb dX8_withKeys_0 (by decide) ?_
  refine lv_istore_n (lv' := [(3, .int 0), (0, .ref (a 0)), (1, .int x1), (2, .int x2)]) hx hb dX8_withKeys_1 rfl hl (by decide) rfl (fun ls hl => ?_)
  refine lv_iconst (v := 0) hx hb dX8_withKeys_2 (by decide) ?_
  refine lv_istore (lv' := [(4, .int 0), (3, .int 0), (0, .ref (a 0)), (1, .int x1), (2, .int x2)]) hx hb dX8_withKeys_3 hl (by decide) rfl (fun ls hl => ?_)
  exact tX8_withKeys_b5 L hd B 1000 x1 x2 0 0 _ _ _ X (lv_sub hl [2, 3, 4, 1, 0] rfl) h
def fX8_clearRun (z : SX8) : Option SX8 :=
    some ((upd (upd (upd (upd (upd (upd (upd (upd (upd (upd (upd (upd (upd (upd z.1 15 0) 16 0) 17 0) 18 0) 19 0) 20 0) 21 (-1)) 22 0) 23 0) 24 0) 25 0) 26 0) 27 0) 28 0), z.2.1, z.2.2)
set_option maxRecDepth 100000 in
set_option maxHeartbeats 4000000 in
theorem tX8_clearRun {a q : Nat → Nat} {wf : SX8 → va_W} (L : LnX8 a q cI cB wf) {d : Nat} (hd : 1 ≤ d) {z : SX8} {q : SX8} (h : fX8_clearRun z = some q) : Ct l yX8_clearRun cX8_clearRun 1 none d A g D [(cI, .int), (cB, .byte)] [.ref (a 0)] (wf z) (QV A D (wf q)) := by
  refine mkM (by decide) (Nat.le_of_ble_eq_true rfl) ?_
  intro p e S m args below meth c B X ls hl
  have B : Bd RX8 cX8_clearRun 1 none d A g D [(cI, .int), (cB, .byte)] p (rmd d) S m args meth c := B
  have hx := B.1
  have hb := B.2.1
  have hd1 : 1 ≤ d := by omega
  have hl : lv_has ls 1 [(0, .ref (a 0))] := hl
  unfold fX8_clearRun at h
  refine lv_aload_n hx hb dX8_clearRun_0 rfl (lv_at hl 0 rfl) ?_
  refine lv_iconst (v := 0) hx hb dX8_clearRun_1 (by decide) ?_
  refine fP tyX8 B X (LnX8_g L z) 15 (LnX8_i15 L z _) rfl inTX8 tyX8_ok nmX8 (by decide) kw862 rfl rfl rfl rfl (Nat.le_of_ble_eq_true rfl) dX8_clearRun_2 (fun H locs X => ?_)
  have X : Hx A D S.heap (wf ((upd z.1 15 0), z.2.1, z.2.2)) H locs := X
  refine lv_aload_n hx hb dX8_clearRun_5 rfl (lv_at hl 0 rfl) ?_
  refine lv_iconst (v := 0) hx hb dX8_clearRun_6 (by decide) ?_
  refine fP tyX8 B X (LnX8_g L ((upd z.1 15 0), z.2.1, z.2.2)) 16 (LnX8_i16 L ((upd z.1 15 0), z.2.1, z.2.2) _) rfl inTX8 tyX8_ok nmX8 (by decide) kw863 rfl rfl rfl rfl (Nat.le_of_ble_eq_true rfl) dX8_clearRun_7 (fun H locs X => ?_)
  have X : Hx A D S.heap (wf ((upd (upd z.1 15 0) 16 0), z.2.1, z.2.2)) H locs := X
  refine lv_aload_n hx hb dX8_clearRun_10 rfl (lv_at hl 0 rfl) ?_
  refine lv_iconst (v := 0) hx hb dX8_clearRun_11 (by decide) ?_
  refine fP tyX8 B X (LnX8_g L ((upd (upd z.1 15 0) 16 0), z.2.1, z.2.2)) 17 (LnX8_i17 L ((upd (upd z.1 15 0) 16 0), z.2.1, z.2.2) _) rfl inTX8 tyX8_ok nmX8 (by decide) kw864 rfl rfl rfl rfl (Nat.le_of_ble_eq_true rfl) dX8_clearRun_12 (fun H locs X => ?_)
  have X : Hx A D S.heap (wf ((upd (upd (upd z.1 15 0) 16 0) 17 0), z.2.1, z.2.2)) H locs := X
  refine lv_aload_n hx hb dX8_clearRun_15 rfl (lv_at hl 0 rfl) ?_
  refine lv_iconst (v := 0) hx hb dX8_clearRun_16 (by decide) ?_
  refine fP tyX8 B X (LnX8_g L ((upd (upd (upd z.1 15 0) 16 0) 17 0), z.2.1, z.2.2)) 18 (LnX8_i18 L ((upd (upd (upd z.1 15 0) 16 0) 17 0), z.2.1, z.2.2) _) rfl inTX8 tyX8_ok nmX8 (by decide) kw865 rfl rfl rfl rfl (Nat.le_of_ble_eq_true rfl) dX8_clearRun_17 (fun H locs X => ?_)
  have X : Hx A D S.heap (wf ((upd (upd (upd (upd z.1 15 0) 16 0) 17 0) 18 0), z.2.1, z.2.2)) H locs := X
  refine lv_aload_n hx hb dX8_clearRun_20 rfl (lv_at hl 0 rfl) ?_
  refine lv_iconst (v := 0) hx hb dX8_clearRun_21 (by decide) ?_
  refine fP tyX8 B X (LnX8_g L ((upd (upd (upd (upd z.1 15 0) 16 0) 17 0) 18 0), z.2.1, z.2.2)) 19 (LnX8_i19 L ((upd (upd (upd (upd z.1 15 0) 16 0) 17 0) 18 0), z.2.1, z.2.2) _) rfl inTX8 tyX8_ok nmX8 (by decide) kw866 rfl rfl rfl rfl (Nat.le_of_ble_eq_true rfl) dX8_clearRun_22 (fun H locs X => ?_)
  have X : Hx A D S.heap (wf ((upd (upd (upd (upd (upd z.1 15 0) 16 0) 17 0) 18 0) 19 0), z.2.1, z.2.2)) H locs := X
  refine lv_aload_n hx hb dX8_clearRun_25 rfl (lv_at hl 0 rfl) ?_
  refine lv_iconst (v := 0) hx hb dX8_clearRun_26 (by decide) ?_
  refine fP tyX8 B X (LnX8_g L ((upd (upd (upd (upd (upd z.1 15 0) 16 0) 17 0) 18 0) 19 0), z.2.1, z.2.2)) 20 (LnX8_i20 L ((upd (upd (upd (upd (upd z.1 15 0) 16 0) 17 0) 18 0) 19 0), z.2.1, z.2.2) _) rfl inTX8 tyX8_ok nmX8 (by decide) kw867 rfl rfl rfl rfl (Nat.le_of_ble_eq_true rfl) dX8_clearRun_27 (fun H locs X => ?_)
  have X : Hx A D S.heap (wf ((upd (upd (upd (upd (upd (upd z.1 15 0) 16 0) 17 0) 18 0) 19 0) 20 0), z.2.1, z.2.2)) H locs := X
  refine lv_aload_n hx hb dX8_clearRun_30 rfl (lv_at hl 0 rfl) ?_
  refine lv_iconst (v := (-1)) hx hb dX8_clearRun_31 (by decide) ?_
  refine fP tyX8 B X (LnX8_g L ((upd (upd (upd (upd (upd (upd z.1 15 0) 16 0) 17 0) 18 0) 19 0) 20 0), z.2.1, z.2.2)) 21 (LnX8_i21 L ((upd (upd (upd (upd (upd (upd z.1 15 0) 16 0) 17 0) 18 0) 19 0) 20 0), z.2.1, z.2.2) _) rfl inTX8 tyX8_ok nmX8 (by decide) kw868 rfl rfl rfl rfl (Nat.le_of_ble_eq_true rfl) dX8_clearRun_32 (fun H locs X => ?_)
  have X : Hx A D S.heap (wf ((upd (upd (upd (upd (upd (upd (upd z.1 15 0) 16 0) 17 0) 18 0) 19 0) 20 0) 21 (-1)), z.2.1, z.2.2)) H locs := X
  refine lv_aload_n hx hb dX8_clearRun_35 rfl (lv_at hl 0 rfl) ?_
  refine lv_iconst (v := 0) hx hb dX8_clearRun_36 (by decide) ?_
  refine fP tyX8 B X (LnX8_g L ((upd (upd (upd (upd (upd (upd (upd z.1 15 0) 16 0) 17 0) 18 0) 19 0) 20 0) 21 (-1)), z.2.1, z.2.2)) 22 (LnX8_i22 L ((upd (upd (upd (upd (upd (upd (upd z.1 15 0) 16 0) 17 0) 18 0) 19 0) 20 0) 21 (-1)), z.2.1, z.2.2) _) rfl inTX8 tyX8_ok nmX8 (by decide) kw869 rfl rfl rfl rfl (Nat.le_of_ble_eq_true rfl) dX8_clearRun_37 (fun H locs X => ?_)
  have X : Hx A D S.heap (wf ((upd (upd (upd (upd (upd (upd (upd (upd z.1 15 0) 16 0) 17 0) 18 0) 19 0) 20 0) 21 (-1)) 22 0), z.2.1, z.2.2)) H locs := X
  refine lv_aload_n hx hb dX8_clearRun_40 rfl (lv_at hl 0 rfl) ?_
  refine lv_iconst (v := 0) hx hb dX8_clearRun_41 (by decide) ?_
  refine fP tyX8 B X (LnX8_g L ((upd (upd (upd (upd (upd (upd (upd (upd z.1 15 0) 16 0) 17 0) 18 0) 19 0) 20 0) 21 (-1)) 22 0), z.2.1, z.2.2)) 23 (LnX8_i23 L ((upd (upd (upd (upd (upd (upd (upd (upd z.1 15 0) 16 0) 17 0) 18 0) 19 0) 20 0) 21 (-1)) 22 0), z.2.1, z.2.2) _) rfl inTX8 tyX8_ok nmX8 (by decide) kw870 rfl rfl rfl rfl (Nat.le_of_ble_eq_true rfl) dX8_clearRun_42 (fun H locs X => ?_)
  have X : Hx A D S.heap (wf ((upd (upd (upd (upd (upd (upd (upd (upd (upd z.1 15 0) 16 0) 17 0) 18 0) 19 0) 20 0) 21 (-1)) 22 0) 23 0), z.2.1, z.2.2)) H locs := X
  refine lv_aload_n hx hb dX8_clearRun_45 rfl (lv_at hl 0 rfl) ?_
  refine lv_iconst (v := 0) hx hb dX8_clearRun_46 (by decide) ?_
  refine fP tyX8 B X (LnX8_g L ((upd (upd (upd (upd (upd (upd (upd (upd (upd z.1 15 0) 16 0) 17 0) 18 0) 19 0) 20 0) 21 (-1)) 22 0) 23 0), z.2.1, z.2.2)) 24 (LnX8_i24 L ((upd (upd (upd (upd (upd (upd (upd (upd (upd z.1 15 0) 16 0) 17 0) 18 0) 19 0) 20 0) 21 (-1)) 22 0) 23 0), z.2.1, z.2.2) _) rfl inTX8 tyX8_ok nmX8 (by decide) kw871 rfl rfl rfl rfl (Nat.le_of_ble_eq_true rfl) dX8_clearRun_47 (fun H locs X => ?_)
  have X : Hx A D S.heap (wf ((upd (upd (upd (upd (upd (upd (upd (upd (upd (upd z.1 15 0) 16 0) 17 0) 18 0) 19 0) 20 0) 21 (-1)) 22 0) 23 0) 24 0), z.2.1, z.2.2)) H locs := X
  refine lv_aload_n hx hb dX8_clearRun_50 rfl (lv_at hl 0 rfl) ?_
  refine lv_iconst (v := 0) hx hb dX8_clearRun_51 (by decide) ?_
  refine fP tyX8 B X (LnX8_g L ((upd (upd (upd (upd (upd (upd (upd (upd (upd (upd z.1 15 0) 16 0) 17 0) 18 0) 19 0) 20 0) 21 (-1)) 22 0) 23 0) 24 0), z.2.1, z.2.2)) 25 (LnX8_i25 L ((upd (upd (upd (upd (upd (upd (upd (upd (upd (upd z.1 15 0) 16 0) 17 0) 18 0) 19 0) 20 0) 21 (-1)) 22 0) 23 0) 24 0), z.2.1, z.2.2) _) rfl inTX8 tyX8_ok nmX8 (by decide) kw872 rfl rfl rfl rfl (Nat.le_of_ble_eq_true rfl) dX8_clearRun_52 (fun H locs X => ?_)
  have X : Hx A D S.heap (wf ((upd (upd (upd (upd (upd (upd (upd (upd (upd (upd (upd z.1 15 0) 16 0) 17 0) 18 0) 19 0) 20 0) 21 (-1)) 22 0) 23 0) 24 0) 25 0), z.2.1, z.2.2)) H locs := X
  refine lv_aload_n hx hb dX8_clearRun_55 rfl (lv_at hl 0 rfl) ?_
  refine lv_iconst (v := 0) hx hb dX8_clearRun_56 (by decide) ?_
  refine fP tyX8 B X (LnX8_g L ((upd (upd (upd (upd (upd (upd (upd (upd (upd (upd (upd z.1 15 0) 16 0) 17 0) 18 0) 19 0) 20 0) 21 (-1)) 22 0) 23 0) 24 0) 25 0), z.2.1, z.2.2)) 26 (LnX8_i26 L ((upd (upd (upd (upd (upd (upd (upd (upd (upd (upd (upd z.1 15 0) 16 0) 17 0) 18 0) 19 0) 20 0) 21 (-1)) 22 0) 23 0) 24 0) 25 0), z.2.1, z.2.2) _) rfl inTX8 tyX8_ok nmX8 (by decide) kw873 rfl rfl rfl rfl (Nat.le_of_ble_eq_true rfl) dX8_clearRun_57 (fun H locs X => ?_)
  have X : Hx A D S.heap (wf ((upd (upd (upd (upd (upd (upd (upd (upd (upd (upd (upd (upd z.1 15 0) 16 0) 17 0) 18 0) 19 0) 20 0) 21 (-1)) 22 0) 23 0) 24 0) 25 0) 26 0), z.2.1, z.2.2)) H locs := X
  refine lv_aload_n hx hb dX8_clearRun_60 rfl (lv_at hl 0 rfl) ?_
  refine lv_iconst (v := 0) hx hb dX8_clearRun_61 (by decide) ?_
  refine fP tyX8 B X (LnX8_g L ((upd (upd (upd (upd (upd (upd (upd (upd (upd (upd (upd (upd z.1 15 0) 16 0) 17 0) 18 0) 19 0) 20 0) 21 (-1)) 22 0) 23 0) 24 0) 25 0) 26 0), z.2.1, z.2.2)) 27 (LnX8_i27 L ((upd (upd (upd (upd (upd (upd (upd (upd (upd (upd (upd (upd z.1 15 0) 16 0) 17 0) 18 0) 19 0) 20 0) 21 (-1)) 22 0) 23 0) 24 0) 25 0) 26 0), z.2.1, z.2.2) _) rfl inTX8 tyX8_ok nmX8 (by decide) kw874 rfl rfl rfl rfl (Nat.le_of_ble_eq_true rfl) dX8_clearRun_62 (fun H locs X => ?_)
  have X : Hx A D S.heap (wf ((upd (upd (upd (upd (upd (upd (upd (upd (upd (upd (upd (upd (upd z.1 15 0) 16 0) 17 0) 18 0) 19 0) 20 0) 21 (-1)) 22 0) 23 0) 24 0) 25 0) 26 0) 27 0), z.2.1, z.2.2)) H locs := X
  refine lv_aload_n hx hb dX8_clearRun_65 rfl (lv_at hl 0 rfl) ?_
  refine lv_iconst (v := 0) hx hb dX8_clearRun_66 (by decide) ?_
  refine fP tyX8 B X (LnX8_g L ((upd (upd (upd (upd (upd (upd (upd (upd (upd (upd (upd (upd (upd z.1 15 0) 16 0) 17 0) 18 0) 19 0) 20 0) 21 (-1)) 22 0) 23 0) 24 0) 25 0) 26 0) 27 0), z.2.1, z.2.2)) 28 (LnX8_i28 L ((upd (upd (upd (upd (upd (upd (upd (upd (upd (upd (upd (upd (upd z.1 15 0) 16 0) 17 0) 18 0) 19 0) 20 0) 21 (-1)) 22 0) 23 0) 24 0) 25 0) 26 0) 27 0), z.2.1, z.2.2) _) rfl inTX8 tyX8_ok nmX8 (by decide) kw875 rfl rfl rfl rfl (Nat.le_of_ble_eq_true rfl) dX8_clearRun_67 (fun H locs X => ?_)
  have X : Hx A D S.heap (wf ((upd (upd (upd (upd (upd (upd (upd (upd (upd (upd (upd (upd (upd (upd z.1 15 0) 16 0) 17 0) 18 0) 19 0) 20 0) 21 (-1)) 22 0) 23 0) 24 0) 25 0) 26 0) 27 0) 28 0), z.2.1, z.2.2)) H locs := X
  exact rV B X (congrArg wf (Option.some.inj h)) dX8_clearRun_70
def fX8_runNow_b165 : Nat → SX8 → Option SX8
  | 0, _ => none
  | n + 1, z =>
    if (z.1 28) ≤ 0 then (some z) else
    ((fX8_shutOne z).bind fun q2 =>
    fX8_runNow_b165 n q2)
set_option maxRecDepth 100000 in
set_option maxHeartbeats 4000000 in
theorem tX8_runNow_b165 {a q : Nat → Nat} {wf : SX8 → va_W} (L : LnX8 a q cI cB wf) {d : Nat} (hd : 8 ≤ d) (B : Bd RX8 cX8_runNow 6 none d A g D [(cI, .int), (cB, .byte)] p R S m args meth c) {q : SX8} : ∀ (n : Nat)  (z : SX8) (H : Heap) (locs : List Loc) (ls : Array Slot), Hx A D S.heap (wf z) H locs → lv_has ls 6 [(0, .ref (a 0))] → fX8_runNow_b165 n z = some q → W p l e R S m args below meth c H locs 0 0 (MQ below (QV A D (wf q)) args S 0 0 A) (F0 m 165 ls []) := by
  have hx := B.1
  have hb := B.2.1
  have hd1 : 1 ≤ d := by omega
  intro n
  induction n with
  | zero =>
    intro z H locs ls X hl h
    cases h
  | succ n ih =>
    intro z H locs ls X hl h
    rw [fX8_runNow_b165] at h
    refine lv_aload_n hx hb dX8_runNow_165 rfl (lv_at hl 0 rfl) ?_
    refine fG B X (LnX8_g L z) 28 rfl inTX8 (by decide) kw875 rfl dX8_runNow_166 ?_
    refine lv_if_le (tgt := 179) hx hb dX8_runNow_169 (by decide) (fun hc1 => ?_) (fun hc1 => ?_)
    · have h := it h hc1
      exact rV B X (congrArg wf (Option.some.inj h)) dX8_runNow_179
    · have h := ie h hc1
      refine lv_aload_n hx hb dX8_runNow_172 rfl (lv_at hl 0 rfl) ?_
      obtain ⟨q2, h2, h⟩ := bs h
      refine kV X (cV (As := []) (rest := []) B X (tX8_shutOne (d := d - 1) L (by omega) h2) mfX8_shutOne kw1223 (by omega) (LnX8_g L z) rfl rfl (Nat.le_of_ble_eq_true rfl) hl.1 ⟨Nat.zero_le _, Nat.zero_le _⟩ dX8_runNow_173) (fun H locs X => ?_)
      have X : Hx A D S.heap (wf q2) H locs := X
      refine lv_goto (tgt := 165) hx hb dX8_runNow_176 (by decide) ?_
      exact ih q2 _ _ _ X (lv_sub hl [0] rfl) h
def fX8_runNow_b143 (z : SX8) : Option SX8 :=
    (fX8_withKeys z 0 0).bind fun q1 =>
    (fX8_aloneOnes z 0 q1).bind fun q2 =>
    (fX8_withKeys q2 1 0).bind fun q3 =>
    (fX8_aloneOnes q2 1 q3).bind fun q4 =>
    fX8_runNow_b165 1000 q4
set_option maxRecDepth 100000 in
set_option maxHeartbeats 4000000 in
theorem tX8_runNow_b143 {a q : Nat → Nat} {wf : SX8 → va_W} (L : LnX8 a q cI cB wf) {d : Nat} (hd : 8 ≤ d) (B : Bd RX8 cX8_runNow 6 none d A g D [(cI, .int), (cB, .byte)] p R S m args meth c) {q : SX8} : ∀  (z : SX8) (H : Heap) (locs : List Loc) (ls : Array Slot), Hx A D S.heap (wf z) H locs → lv_has ls 6 [(0, .ref (a 0))] → fX8_runNow_b143 z = some q → W p l e R S m args below meth c H locs 0 0 (MQ below (QV A D (wf q)) args S 0 0 A) (F0 m 143 ls []) := by
  have hx := B.1
  have hb := B.2.1
  have hd1 : 1 ≤ d := by omega
  intro z H locs ls X hl h
  unfold fX8_runNow_b143 at h
  refine lv_aload_n hx hb dX8_runNow_143 rfl (lv_at hl 0 rfl) ?_
  refine lv_iconst (v := 0) hx hb dX8_runNow_144 (by decide) ?_
  refine lv_aload_n hx hb dX8_runNow_145 rfl (lv_at hl 0 rfl) ?_
  refine lv_iconst (v := 0) hx hb dX8_runNow_146 (by decide) ?_
  refine lv_iconst (v := 0) hx hb dX8_runNow_147 (by decide) ?_
  obtain ⟨q1, h1, h⟩ := bs h
  refine kI X (cV (As := [.int 0, .int 0]) (rest := [.int 0, .ref (a 0)]) B X (tX8_withKeys (d := d - 1) L (by omega) h1) mfX8_withKeys kw1137 (by omega) (LnX8_g L z) rfl rfl (Nat.le_of_ble_eq_true rfl) hl.1 ⟨Nat.zero_le _, Nat.zero_le _⟩ dX8_runNow_148) (fun H locs X => ?_)
  have X : Hx A D S.heap (wf z) H locs := X
  obtain ⟨q2, h2, h⟩ := bs h
  refine kV X (cV (As := [.int 0, .int q1]) (rest := []) B X (tX8_aloneOnes (d := d - 1) L (by omega) h2) mfX8_aloneOnes kw1187 (by omega) (LnX8_g L z) rfl rfl (Nat.le_of_ble_eq_true rfl) hl.1 ⟨Nat.zero_le _, Nat.zero_le _⟩ dX8_runNow_151) (fun H locs X => ?_)
  have X : Hx A D S.heap (wf q2) H locs := X
  refine lv_aload_n hx hb dX8_runNow_154 rfl (lv_at hl 0 rfl) ?_
  refine lv_iconst (v := 1) hx hb dX8_runNow_155 (by decide) ?_
  refine lv_aload_n hx hb dX8_runNow_156 rfl (lv_at hl 0 rfl) ?_
  refine lv_iconst (v := 1) hx hb dX8_runNow_157 (by decide) ?_
  refine lv_iconst (v := 0) hx hb dX8_runNow_158 (by decide) ?_
  obtain ⟨q3, h3, h⟩ := bs h
  refine kI X (cV (As := [.int 1, .int 0]) (rest := [.int 1, .ref (a 0)]) B X (tX8_withKeys (d := d - 1) L (by omega) h3) mfX8_withKeys kw1137 (by omega) (LnX8_g L q2) rfl rfl (Nat.le_of_ble_eq_true rfl) hl.1 ⟨Nat.zero_le _, Nat.zero_le _⟩ dX8_runNow_159) (fun H locs X => ?_)
  have X : Hx A D S.heap (wf q2) H locs := X
  obtain ⟨q4, h4, h⟩ := bs h
  refine kV X (cV (As := [.int 1, .int q3]) (rest := []) B X (tX8_aloneOnes (d := d - 1) L (by omega) h4) mfX8_aloneOnes kw1187 (by omega) (LnX8_g L q2) rfl rfl (Nat.le_of_ble_eq_true rfl) hl.1 ⟨Nat.zero_le _, Nat.zero_le _⟩ dX8_runNow_162) (fun H locs X => ?_)
  have X : Hx A D S.heap (wf q4) H locs := X
  exact tX8_runNow_b165 L hd B 1000 q4 _ _ _ X (lv_sub hl [0] rfl) h
def fX8_runNow_b46 : Nat → Int32 → SX8 → Option SX8
  | 0, _, _ => none
  | n + 1, x4, z =>
    if x4 < 0 then (fX8_runNow_b143 z) else
    (if (z.1 15) = 0 then ((fX8_nextHalf z x4).bind fun q3 =>
    if q3.1 = (-1) then ((fX8_shutPart q3.2 x4).bind fun q10 =>
    fX8_runNow_b46 n (x4 + (-1)) q10) else
    ((fX8_rowsOfHalf q3.2 x4 q3.1).bind fun q5 =>
    (fX8_halfOf ((upd q3.2.1 19 ((q3.2.1 19) + q5)), q3.2.2.1, q3.2.2.2) x4 0 q3.1).bind fun q6 =>
    (fX8_halfOf ((upd q3.2.1 19 ((q3.2.1 19) + q5)), q3.2.2.1, q3.2.2.2) x4 1 q3.1).bind fun q7 =>
    (fX8_turn ((upd q3.2.1 19 ((q3.2.1 19) + q5)), q3.2.2.1, q3.2.2.2) (x4 + 1) q6 q7).bind fun q8 =>
    if q8.1 = 0 then (fX8_runNow_b46 n (x4 + 0) q8.2) else
    (fX8_runNow_b46 n (x4 + 1) q8.2))) else
    (fX8_runNow_b143 z))
set_option maxRecDepth 100000 in
set_option maxHeartbeats 4000000 in
theorem tX8_runNow_b46 {a q : Nat → Nat} {wf : SX8 → va_W} (L : LnX8 a q cI cB wf) {d : Nat} (hd : 8 ≤ d) (B : Bd RX8 cX8_runNow 6 none d A g D [(cI, .int), (cB, .byte)] p R S m args meth c) {q : SX8} : ∀ (n : Nat) (x4 : Int32) (z : SX8) (H : Heap) (locs : List Loc) (ls : Array Slot), Hx A D S.heap (wf z) H locs → lv_has ls 6 [(0, .ref (a 0)), (4, .int x4)] → fX8_runNow_b46 n x4 z = some q → W p l e R S m args below meth c H locs 0 0 (MQ below (QV A D (wf q)) args S 0 0 A) (F0 m 46 ls []) := by
  have hx := B.1
  have hb := B.2.1
  have hd1 : 1 ≤ d := by omega
  intro n
  induction n with
  | zero =>
    intro x4 z H locs ls X hl h
    cases h
  | succ n ih =>
    intro x4 z H locs ls X hl h
    rw [fX8_runNow_b46] at h
    refine lv_iload hx hb dX8_runNow_46 (lv_at hl 1 rfl) ?_
    refine lv_if_lt (tgt := 143) hx hb dX8_runNow_48 (by decide) (fun hc1 => ?_) (fun hc1 => ?_)
    · have h := it h hc1
      exact tX8_runNow_b143 L hd B z _ _ _ X (lv_sub hl [0] rfl) h
    · have h := ie h hc1
      refine lv_aload_n hx hb dX8_runNow_51 rfl (lv_at hl 0 rfl) ?_
      refine fG B X (LnX8_g L z) 15 rfl inTX8 (by decide) kw862 rfl dX8_runNow_52 ?_
      refine lv_if_ne (tgt := 143) hx hb dX8_runNow_55 (by decide) (fun hc2 => ?_) (fun hc2 => ?_)
      · have h := ie h hc2
        exact tX8_runNow_b143 L hd B z _ _ _ X (lv_sub hl [0] rfl) h
      · have h := it h hc2
        refine lv_aload_n hx hb dX8_runNow_58 rfl (lv_at hl 0 rfl) ?_
        refine lv_iload hx hb dX8_runNow_59 (lv_at hl 1 rfl) ?_
        obtain ⟨q3, h3, h⟩ := bs h
        refine kI X (cV (As := [.int x4]) (rest := []) B X (tX8_nextHalf (d := d - 1) L (by omega) h3) mfX8_nextHalf kw1227 (by omega) (LnX8_g L z) rfl rfl (Nat.le_of_ble_eq_true rfl) hl.1 ⟨Nat.zero_le _, Nat.zero_le _⟩ dX8_runNow_61) (fun H locs X => ?_)
        have X : Hx A D S.heap (wf q3.2) H locs := X
        refine lv_istore (lv' := [(5, .int q3.1), (0, .ref (a 0)), (4, .int x4)]) hx hb dX8_runNow_64 hl (by decide) rfl (fun ls hl => ?_)
        refine lv_iload hx hb dX8_runNow_66 (lv_at hl 0 rfl) ?_
        refine lv_iconst (v := (-1)) hx hb dX8_runNow_68 (by decide) ?_
        refine lv_icmp_ne (tgt := 84) hx hb dX8_runNow_69 (by decide) (fun hc4 => ?_) (fun hc4 => ?_)
        · have h := ie h hc4
          refine lv_aload_n hx hb dX8_runNow_84 rfl (lv_at hl 1 rfl) ?_
          refine lv_dup hx hb dX8_runNow_85 rfl ?_
          refine fG B X (LnX8_g L q3.2) 19 rfl inTX8 (by decide) kw866 rfl dX8_runNow_86 ?_
          refine lv_aload_n hx hb dX8_runNow_89 rfl (lv_at hl 1 rfl) ?_
          refine lv_iload hx hb dX8_runNow_90 (lv_at hl 2 rfl) ?_
          refine lv_iload hx hb dX8_runNow_92 (lv_at hl 0 rfl) ?_
          obtain ⟨q5, h5, h⟩ := bs h
          refine kI X (cV (As := [.int x4, .int q3.1]) (rest := [.int (q3.2.1 19), .ref (a 0)]) B X (tX8_rowsOfHalf (d := d - 1) L (by omega) h5) mfX8_rowsOfHalf kw1219 (by omega) (LnX8_g L q3.2) rfl rfl (Nat.le_of_ble_eq_true rfl) hl.1 ⟨Nat.zero_le _, Nat.zero_le _⟩ dX8_runNow_94) (fun H locs X => ?_)
          have X : Hx A D S.heap (wf q3.2) H locs := X
          refine lv_iadd hx hb dX8_runNow_97 ?_
          refine fP tyX8 B X (LnX8_g L q3.2) 19 (LnX8_i19 L q3.2 _) rfl inTX8 tyX8_ok nmX8 (by decide) kw866 rfl rfl rfl rfl (Nat.le_of_ble_eq_true rfl) dX8_runNow_98 (fun H locs X => ?_)
          have X : Hx A D S.heap (wf ((upd q3.2.1 19 ((q3.2.1 19) + q5)), q3.2.2.1, q3.2.2.2)) H locs := X
          refine lv_iload hx hb dX8_runNow_101 (lv_at hl 2 rfl) ?_
          refine lv_aload_n hx hb dX8_runNow_103 rfl (lv_at hl 1 rfl) ?_
          refine lv_iload hx hb dX8_runNow_104 (lv_at hl 2 rfl) ?_
          refine lv_iconst (v := 1) hx hb dX8_runNow_106 (by decide) ?_
          refine lv_iadd hx hb dX8_runNow_107 ?_
          refine lv_aload_n hx hb dX8_runNow_108 rfl (lv_at hl 1 rfl) ?_
          refine lv_iload hx hb dX8_runNow_109 (lv_at hl 2 rfl) ?_
          refine lv_iconst (v := 0) hx hb dX8_runNow_111 (by decide) ?_
          refine lv_iload hx hb dX8_runNow_112 (lv_at hl 0 rfl) ?_
          obtain ⟨q6, h6, h⟩ := bs h
          refine kI X (cV (As := [.int x4, .int 0, .int q3.1]) (rest := [.int (x4 + 1), .ref (a 0), .int x4]) B X (tX8_halfOf (d := d - 1) L (by omega) h6) mfX8_halfOf kw1211 (by omega) (LnX8_g L ((upd q3.2.1 19 ((q3.2.1 19) + q5)), q3.2.2.1, q3.2.2.2)) rfl rfl (Nat.le_of_ble_eq_true rfl) hl.1 ⟨Nat.zero_le _, Nat.zero_le _⟩ dX8_runNow_114) (fun H locs X => ?_)
          have X : Hx A D S.heap (wf ((upd q3.2.1 19 ((q3.2.1 19) + q5)), q3.2.2.1, q3.2.2.2)) H locs := X
          refine lv_aload_n hx hb dX8_runNow_117 rfl (lv_at hl 1 rfl) ?_
          refine lv_iload hx hb dX8_runNow_118 (lv_at hl 2 rfl) ?_
          refine lv_iconst (v := 1) hx hb dX8_runNow_120 (by decide) ?_
          refine lv_iload hx hb dX8_runNow_121 (lv_at hl 0 rfl) ?_
          obtain ⟨q7, h7, h⟩ := bs h
          refine kI X (cV (As := [.int x4, .int 1, .int q3.1]) (rest := [.int q6, .int (x4 + 1), .ref (a 0), .int x4]) B X (tX8_halfOf (d := d - 1) L (by omega) h7) mfX8_halfOf kw1211 (by omega) (LnX8_g L ((upd q3.2.1 19 ((q3.2.1 19) + q5)), q3.2.2.1, q3.2.2.2)) rfl rfl (Nat.le_of_ble_eq_true rfl) hl.1 ⟨Nat.zero_le _, Nat.zero_le _⟩ dX8_runNow_123) (fun H locs X => ?_)
          have X : Hx A D S.heap (wf ((upd q3.2.1 19 ((q3.2.1 19) + q5)), q3.2.2.1, q3.2.2.2)) H locs := X
          obtain ⟨q8, h8, h⟩ := bs h
          refine kI X (cV (As := [.int (x4 + 1), .int q6, .int q7]) (rest := [.int x4]) B X (tX8_turn (d := d - 1) L (by omega) h8) mfX8_turn kw1141 (by omega) (LnX8_g L ((upd q3.2.1 19 ((q3.2.1 19) + q5)), q3.2.2.1, q3.2.2.2)) rfl rfl (Nat.le_of_ble_eq_true rfl) hl.1 ⟨Nat.zero_le _, Nat.zero_le _⟩ dX8_runNow_126) (fun H locs X => ?_)
          have X : Hx A D S.heap (wf q8.2) H locs := X
          refine lv_if_eq (tgt := 136) hx hb dX8_runNow_129 (by decide) (fun hc9 => ?_) (fun hc9 => ?_)
          · have h := it h hc9
            refine lv_iconst (v := 0) hx hb dX8_runNow_136 (by decide) ?_
            refine lv_iadd hx hb dX8_runNow_137 ?_
            refine lv_istore (lv' := [(4, .int (x4 + 0)), (5, .int q3.1), (0, .ref (a 0))]) hx hb dX8_runNow_138 hl (by decide) rfl (fun ls hl => ?_)
            refine lv_goto (tgt := 46) hx hb dX8_runNow_140 (by decide) ?_
            exact ih (x4 + 0) q8.2 _ _ _ X (lv_sub hl [2, 0] rfl) h
          · have h := ie h hc9
            refine lv_iconst (v := 1) hx hb dX8_runNow_132 (by decide) ?_
            refine lv_goto (tgt := 137) hx hb dX8_runNow_133 (by decide) ?_
            refine lv_iadd hx hb dX8_runNow_137 ?_
            refine lv_istore (lv' := [(4, .int (x4 + 1)), (5, .int q3.1), (0, .ref (a 0))]) hx hb dX8_runNow_138 hl (by decide) rfl (fun ls hl => ?_)
            refine lv_goto (tgt := 46) hx hb dX8_runNow_140 (by decide) ?_
            exact ih (x4 + 1) q8.2 _ _ _ X (lv_sub hl [2, 0] rfl) h
        · have h := it h hc4
          refine lv_aload_n hx hb dX8_runNow_72 rfl (lv_at hl 1 rfl) ?_
          refine lv_iload hx hb dX8_runNow_73 (lv_at hl 2 rfl) ?_
          obtain ⟨q10, h10, h⟩ := bs h
          refine kV X (cV (As := [.int x4]) (rest := []) B X (tX8_shutPart (d := d - 1) L (by omega) h10) mfX8_shutPart kw1231 (by omega) (LnX8_g L q3.2) rfl rfl (Nat.le_of_ble_eq_true rfl) hl.1 ⟨Nat.zero_le _, Nat.zero_le _⟩ dX8_runNow_75) (fun H locs X => ?_)
          have X : Hx A D S.heap (wf q10) H locs := X
          refine lv_iinc (v := x4 + (-1)) (lv' := [(4, .int (x4 + (-1))), (5, .int q3.1), (0, .ref (a 0))]) hx hb dX8_runNow_78 hl (k := 2) rfl rfl (by decide) rfl (fun ls hl => ?_)
          refine lv_goto (tgt := 140) hx hb dX8_runNow_81 (by decide) ?_
          refine lv_goto (tgt := 46) hx hb dX8_runNow_140 (by decide) ?_
          exact ih (x4 + (-1)) q10 _ _ _ X (lv_sub hl [2, 0] rfl) h
def fX8_runNow (z : SX8) (x1 : Int32) : Option SX8 :=
    (fX8_clearRun z).bind fun q1 =>
    (fX8_withKeys ((upd q1.1 14 x1), q1.2.1, q1.2.2) 0 1).bind fun q2 =>
    (fX8_withKeys ((upd q1.1 14 x1), q1.2.1, q1.2.2) 1 1).bind fun q3 =>
    if (q2 ||| q3) = 0 then (fX8_runNow_b46 1000 (-1) ((upd q1.1 14 x1), q1.2.1, q1.2.2)) else
    ((fX8_turn ((upd q1.1 14 x1), q1.2.1, q1.2.2) 0 q2 q3).bind fun q5 =>
    if q5.1 = 0 then (fX8_runNow_b46 1000 (-1) q5.2) else
    (fX8_runNow_b46 1000 0 q5.2))
set_option maxRecDepth 100000 in
set_option maxHeartbeats 4000000 in
theorem tX8_runNow {a q : Nat → Nat} {wf : SX8 → va_W} (L : LnX8 a q cI cB wf) {d : Nat} (hd : 8 ≤ d) {z : SX8} {x1 : Int32} {q : SX8} (h : fX8_runNow z x1 = some q) : Ct l yX8_runNow cX8_runNow 6 none d A g D [(cI, .int), (cB, .byte)] [.ref (a 0), .int x1] (wf z) (QV A D (wf q)) := by
  refine mkM (by decide) (Nat.le_of_ble_eq_true rfl) ?_
  intro p e S m args below meth c B X ls hl
  have B : Bd RX8 cX8_runNow 6 none d A g D [(cI, .int), (cB, .byte)] p (rmd d) S m args meth c := B
  have hx := B.1
  have hb := B.2.1
  have hd1 : 1 ≤ d := by omega
  have hl : lv_has ls 6 [(0, .ref (a 0)), (1, .int x1)] := hl
  unfold fX8_runNow at h
  refine lv_aload_n hx hb dX8_runNow_0 rfl (lv_at hl 0 rfl) ?_
  obtain ⟨q1, h1, h⟩ := bs h
  refine kV X (cV (As := []) (rest := []) B X (tX8_clearRun (d := d - 1) L (by omega) h1) mfX8_clearRun kw1133 (by omega) (LnX8_g L z) rfl rfl (Nat.le_of_ble_eq_true rfl) hl.1 ⟨Nat.zero_le _, Nat.zero_le _⟩ dX8_runNow_1) (fun H locs X => ?_)
  have X : Hx A D S.heap (wf q1) H locs := X
  refine lv_aload_n hx hb dX8_runNow_4 rfl (lv_at hl 0 rfl) ?_
  refine lv_iload_n hx hb dX8_runNow_5 rfl (lv_at hl 1 rfl) ?_
  refine fP tyX8 B X (LnX8_g L q1) 14 (LnX8_i14 L q1 _) rfl inTX8 tyX8_ok nmX8 (by decide) kw861 rfl rfl rfl rfl (Nat.le_of_ble_eq_true rfl) dX8_runNow_6 (fun H locs X => ?_)
  have X : Hx A D S.heap (wf ((upd q1.1 14 x1), q1.2.1, q1.2.2)) H locs := X
  refine lv_aload_n hx hb dX8_runNow_9 rfl (lv_at hl 0 rfl) ?_
  refine lv_iconst (v := 0) hx hb dX8_runNow_10 (by decide) ?_
  refine lv_iconst (v := 1) hx hb dX8_runNow_11 (by decide) ?_
  obtain ⟨q2, h2, h⟩ := bs h
  refine kI X (cV (As := [.int 0, .int 1]) (rest := []) B X (tX8_withKeys (d := d - 1) L (by omega) h2) mfX8_withKeys kw1137 (by omega) (LnX8_g L ((upd q1.1 14 x1), q1.2.1, q1.2.2)) rfl rfl (Nat.le_of_ble_eq_true rfl) hl.1 ⟨Nat.zero_le _, Nat.zero_le _⟩ dX8_runNow_12) (fun H locs X => ?_)
  have X : Hx A D S.heap (wf ((upd q1.1 14 x1), q1.2.1, q1.2.2)) H locs := X
  refine lv_istore_n (lv' := [(2, .int q2), (0, .ref (a 0)), (1, .int x1)]) hx hb dX8_runNow_15 rfl hl (by decide) rfl (fun ls hl => ?_)
  refine lv_aload_n hx hb dX8_runNow_16 rfl (lv_at hl 1 rfl) ?_
  refine lv_iconst (v := 1) hx hb dX8_runNow_17 (by decide) ?_
  refine lv_iconst (v := 1) hx hb dX8_runNow_18 (by decide) ?_
  obtain ⟨q3, h3, h⟩ := bs h
  refine kI X (cV (As := [.int 1, .int 1]) (rest := []) B X (tX8_withKeys (d := d - 1) L (by omega) h3) mfX8_withKeys kw1137 (by omega) (LnX8_g L ((upd q1.1 14 x1), q1.2.1, q1.2.2)) rfl rfl (Nat.le_of_ble_eq_true rfl) hl.1 ⟨Nat.zero_le _, Nat.zero_le _⟩ dX8_runNow_19) (fun H locs X => ?_)
  have X : Hx A D S.heap (wf ((upd q1.1 14 x1), q1.2.1, q1.2.2)) H locs := X
  refine lv_istore_n (lv' := [(3, .int q3), (2, .int q2), (0, .ref (a 0)), (1, .int x1)]) hx hb dX8_runNow_22 rfl hl (by decide) rfl (fun ls hl => ?_)
  refine lv_iload_n hx hb dX8_runNow_23 rfl (lv_at hl 1 rfl) ?_
  refine lv_iload_n hx hb dX8_runNow_24 rfl (lv_at hl 0 rfl) ?_
  refine lv_ior hx hb dX8_runNow_25 ?_
  refine lv_if_eq (tgt := 43) hx hb dX8_runNow_26 (by decide) (fun hc4 => ?_) (fun hc4 => ?_)
  · have h := it h hc4
    refine lv_iconst (v := (-1)) hx hb dX8_runNow_43 (by decide) ?_
    refine lv_istore (lv' := [(4, .int (-1)), (3, .int q3), (2, .int q2), (0, .ref (a 0)), (1, .int x1)]) hx hb dX8_runNow_44 hl (by decide) rfl (fun ls hl => ?_)
    exact tX8_runNow_b46 L hd B 1000 (-1) ((upd q1.1 14 x1), q1.2.1, q1.2.2) _ _ _ X (lv_sub hl [3, 0] rfl) h
  · have h := ie h hc4
    refine lv_aload_n hx hb dX8_runNow_29 rfl (lv_at hl 2 rfl) ?_
    refine lv_iconst (v := 0) hx hb dX8_runNow_30 (by decide) ?_
    refine lv_iload_n hx hb dX8_runNow_31 rfl (lv_at hl 1 rfl) ?_
    refine lv_iload_n hx hb dX8_runNow_32 rfl (lv_at hl 0 rfl) ?_
    obtain ⟨q5, h5, h⟩ := bs h
    refine kI X (cV (As := [.int 0, .int q2, .int q3]) (rest := []) B X (tX8_turn (d := d - 1) L (by omega) h5) mfX8_turn kw1141 (by omega) (LnX8_g L ((upd q1.1 14 x1), q1.2.1, q1.2.2)) rfl rfl (Nat.le_of_ble_eq_true rfl) hl.1 ⟨Nat.zero_le _, Nat.zero_le _⟩ dX8_runNow_33) (fun H locs X => ?_)
    have X : Hx A D S.heap (wf q5.2) H locs := X
    refine lv_if_eq (tgt := 43) hx hb dX8_runNow_36 (by decide) (fun hc6 => ?_) (fun hc6 => ?_)
    · have h := it h hc6
      refine lv_iconst (v := (-1)) hx hb dX8_runNow_43 (by decide) ?_
      refine lv_istore (lv' := [(4, .int (-1)), (3, .int q3), (2, .int q2), (0, .ref (a 0)), (1, .int x1)]) hx hb dX8_runNow_44 hl (by decide) rfl (fun ls hl => ?_)
      exact tX8_runNow_b46 L hd B 1000 (-1) q5.2 _ _ _ X (lv_sub hl [3, 0] rfl) h
    · have h := ie h hc6
      refine lv_iconst (v := 0) hx hb dX8_runNow_39 (by decide) ?_
      refine lv_goto (tgt := 44) hx hb dX8_runNow_40 (by decide) ?_
      refine lv_istore (lv' := [(4, .int 0), (3, .int q3), (2, .int q2), (0, .ref (a 0)), (1, .int x1)]) hx hb dX8_runNow_44 hl (by decide) rfl (fun ls hl => ?_)
      exact tX8_runNow_b46 L hd B 1000 0 q5.2 _ _ _ X (lv_sub hl [3, 0] rfl) h
end
