section
variable {l : Launch} {p : Program} {e : Env} {R : Room} {S : State} {m : MethodId} {args : Array Value} {below : List Frame} {meth : Method} {c : Code} {A : Nat → Prop} {g : Nat → Nat} {D : va_G} {cI cB : ClassId}
def fX3_go_b40 (z : SX3) : Option SX3 :=
    (fX5_rowsWithoutKey z.1.1).bind fun q1 =>
    (fX3_comeOutAlone z 0 q1).bind fun q2 =>
    (fX5_rowsWithoutKey q2.1.2.1).bind fun q3 =>
    (fX3_comeOutAlone q2 1 q3).bind fun q4 =>
    some (q4.1, q4.2.1, q4.2.2.1, (upd (upd q4.2.2.2.1 (0 : Int32).toNatClampNeg q4.2.1.2.2.1) (9 : Int32).toNatClampNeg q4.2.2.1.2.2.2.1), q4.2.2.2.2)
set_option maxRecDepth 100000 in
set_option maxHeartbeats 4000000 in
theorem tX3_go_b40 {a0 a1 a2 a3 a4 a5 a6 a7 a8 a9 a10 a11 a12 a13 a14 a15 p0 p1 p2 p3 p4 p5 p6 p7 p8 p9 p10 p11 p12 p13 p14 p15 : Nat} {wf : SX3 → va_W} (L : LnX3 a0 a1 a2 a3 a4 a5 a6 a7 a8 a9 a10 a11 a12 a13 a14 a15 p0 p1 p2 p3 p4 p5 p6 p7 p8 p9 p10 p11 p12 p13 p14 p15 cI wf) {d : Nat} (hd : 25 ≤ d) (B : Bd RX3 cX3_go 4 none d A g D [(cI, .int), (cB, .byte)] p R S m args meth c) {q : SX3} : ∀  (z : SX3) (H : Heap) (locs : List Loc) (ls : Array Slot), Hx A D S.heap (wf z) H locs → lv_has ls 4 [(0, .ref a0)] → fX3_go_b40 z = some q → W p l e R S m args below meth c H locs 0 0 (MQ below (QV A D (wf q)) args S 0 0 A) (F0 m 40 ls []) := by
  have hx := B.1
  have hb := B.2.1
  have hd1 : 1 ≤ d := by omega
  intro z H locs ls X hl h
  unfold fX3_go_b40 at h
  refine lv_aload_n hx hb dX3_go_40 rfl (lv_at hl 0 rfl) ?_
  refine lv_iconst (v := 0) hx hb dX3_go_41 (by decide) ?_
  refine lv_aload_n hx hb dX3_go_42 rfl (lv_at hl 0 rfl) ?_
  refine fG B X (LnX3_g L z) 0 rfl inTX3 (by decide) kw255 rfl dX3_go_43 ?_
  refine fGN B X (LnX6_g (LnX3_s0 L z) z.1) 0 rfl inTX6 (by decide) kn175 rfl dX3_go_46 ?_
  obtain ⟨q1, h1, h⟩ := bs h
  refine kI X (cVN (As := []) (rest := [.int 0, .ref a0]) B X (tX5_rowsWithoutKey (d := d - 1) (LnX6_s0 (LnX3_s0 L z) z.1) (by omega) h1) mfX5_rowsWithoutKey kn706 (by omega) (LnX5_g (LnX6_s0 (LnX3_s0 L z) z.1) z.1.1) rfl rfl (Nat.le_of_ble_eq_true rfl) hl.1 ⟨Nat.zero_le _, Nat.zero_le _⟩ dX3_go_49) (fun H locs X => ?_)
  have X : Hx A D S.heap (wf z) H locs := X
  obtain ⟨q2, h2, h⟩ := bs h
  refine kV X (cV (As := [.int 0, .int q1]) (rest := []) B X (tX3_comeOutAlone (d := d - 1) L (by omega) h2) mfX3_comeOutAlone kw671 (by omega) (LnX3_g L z) rfl rfl (Nat.le_of_ble_eq_true rfl) hl.1 ⟨Nat.zero_le _, Nat.zero_le _⟩ dX3_go_52) (fun H locs X => ?_)
  have X : Hx A D S.heap (wf q2) H locs := X
  refine lv_aload_n hx hb dX3_go_55 rfl (lv_at hl 0 rfl) ?_
  refine lv_iconst (v := 1) hx hb dX3_go_56 (by decide) ?_
  refine lv_aload_n hx hb dX3_go_57 rfl (lv_at hl 0 rfl) ?_
  refine fG B X (LnX3_g L q2) 0 rfl inTX3 (by decide) kw255 rfl dX3_go_58 ?_
  refine fGN B X (LnX6_g (LnX3_s0 L q2) q2.1) 1 rfl inTX6 (by decide) kn178 rfl dX3_go_61 ?_
  obtain ⟨q3, h3, h⟩ := bs h
  refine kI X (cVN (As := []) (rest := [.int 1, .ref a0]) B X (tX5_rowsWithoutKey (d := d - 1) (LnX6_s1 (LnX3_s0 L q2) q2.1) (by omega) h3) mfX5_rowsWithoutKey kn706 (by omega) (LnX5_g (LnX6_s1 (LnX3_s0 L q2) q2.1) q2.1.2.1) rfl rfl (Nat.le_of_ble_eq_true rfl) hl.1 ⟨Nat.zero_le _, Nat.zero_le _⟩ dX3_go_64) (fun H locs X => ?_)
  have X : Hx A D S.heap (wf q2) H locs := X
  obtain ⟨q4, h4, h⟩ := bs h
  refine kV X (cV (As := [.int 1, .int q3]) (rest := []) B X (tX3_comeOutAlone (d := d - 1) L (by omega) h4) mfX3_comeOutAlone kw671 (by omega) (LnX3_g L q2) rfl rfl (Nat.le_of_ble_eq_true rfl) hl.1 ⟨Nat.zero_le _, Nat.zero_le _⟩ dX3_go_67) (fun H locs X => ?_)
  have X : Hx A D S.heap (wf q4) H locs := X
  refine lv_aload_n hx hb dX3_go_70 rfl (lv_at hl 0 rfl) ?_
  refine fG B X (LnX3_g L q4) 3 rfl inTX3 (by decide) kw261 rfl dX3_go_71 ?_
  refine lv_iconst (v := 0) hx hb dX3_go_74 (by decide) ?_
  refine lv_aload_n hx hb dX3_go_75 rfl (lv_at hl 0 rfl) ?_
  refine fG B X (LnX3_g L q4) 1 rfl inTX3 (by decide) kw257 rfl dX3_go_76 ?_
  refine fGN B X (LnX1_g (LnX3_s1 L q4) q4.2.1) 2 rfl inTX1 (by decide) kn204 rfl dX3_go_79 ?_
  refine aP B X (LnX3_a3 L q4) (LnX3_b3 L q4 _) 0 rfl (by decide) dX3_go_82 (fun H locs X => ?_)
  have X : Hx A D S.heap (wf (q4.1, q4.2.1, q4.2.2.1, (upd q4.2.2.2.1 (0 : Int32).toNatClampNeg q4.2.1.2.2.1), q4.2.2.2.2)) H locs := X
  refine lv_aload_n hx hb dX3_go_83 rfl (lv_at hl 0 rfl) ?_
  refine fG B X (LnX3_g L (q4.1, q4.2.1, q4.2.2.1, (upd q4.2.2.2.1 (0 : Int32).toNatClampNeg q4.2.1.2.2.1), q4.2.2.2.2)) 3 rfl inTX3 (by decide) kw261 rfl dX3_go_84 ?_
  refine lv_bipush (v := 9) hx hb dX3_go_87 (by decide) ?_
  refine lv_aload_n hx hb dX3_go_89 rfl (lv_at hl 0 rfl) ?_
  refine fG B X (LnX3_g L (q4.1, q4.2.1, q4.2.2.1, (upd q4.2.2.2.1 (0 : Int32).toNatClampNeg q4.2.1.2.2.1), q4.2.2.2.2)) 2 rfl inTX3 (by decide) kw259 rfl dX3_go_90 ?_
  refine fGN B X (LnX0_g (LnX3_s2 L (q4.1, q4.2.1, q4.2.2.1, (upd q4.2.2.2.1 (0 : Int32).toNatClampNeg q4.2.1.2.2.1), q4.2.2.2.2)) q4.2.2.1) 3 rfl inTX0 (by decide) kn231 rfl dX3_go_93 ?_
  refine aP B X (LnX3_a3 L (q4.1, q4.2.1, q4.2.2.1, (upd q4.2.2.2.1 (0 : Int32).toNatClampNeg q4.2.1.2.2.1), q4.2.2.2.2)) (LnX3_b3 L (q4.1, q4.2.1, q4.2.2.1, (upd q4.2.2.2.1 (0 : Int32).toNatClampNeg q4.2.1.2.2.1), q4.2.2.2.2) _) 0 rfl (by decide) dX3_go_96 (fun H locs X => ?_)
  have X : Hx A D S.heap (wf (q4.1, q4.2.1, q4.2.2.1, (upd (upd q4.2.2.2.1 (0 : Int32).toNatClampNeg q4.2.1.2.2.1) (9 : Int32).toNatClampNeg q4.2.2.1.2.2.2.1), q4.2.2.2.2)) H locs := X
  exact rV B X (congrArg wf (Option.some.inj h)) dX3_go_97
def fX3_go (z : SX3) (x1 : Int32) : Option SX3 :=
    (fX3_clear z x1).bind fun q1 =>
    (fX5_rowsWithKey q1.1.1).bind fun q2 =>
    (fX5_rowsWithKey q1.1.2.1).bind fun q3 =>
    if (q2 ||| q3) = 0 then (fX3_go_b40 q1) else
    ((fX3_turn 6 q1 q2 q3 0).bind fun q5 =>
    fX3_go_b40 q5)
set_option maxRecDepth 100000 in
set_option maxHeartbeats 4000000 in
theorem tX3_go {a0 a1 a2 a3 a4 a5 a6 a7 a8 a9 a10 a11 a12 a13 a14 a15 p0 p1 p2 p3 p4 p5 p6 p7 p8 p9 p10 p11 p12 p13 p14 p15 : Nat} {wf : SX3 → va_W} (L : LnX3 a0 a1 a2 a3 a4 a5 a6 a7 a8 a9 a10 a11 a12 a13 a14 a15 p0 p1 p2 p3 p4 p5 p6 p7 p8 p9 p10 p11 p12 p13 p14 p15 cI wf) {d : Nat} (hd : 25 ≤ d) {z : SX3} {x1 : Int32} {q : SX3} (h : fX3_go z x1 = some q) : Ct l yX3_go cX3_go 4 none d A g D [(cI, .int), (cB, .byte)] [.ref a0, .int x1] (wf z) (QV A D (wf q)) := by
  refine mkM (by decide) (Nat.le_of_ble_eq_true rfl) ?_
  intro p e S m args below meth c B X ls hl
  have B : Bd RX3 cX3_go 4 none d A g D [(cI, .int), (cB, .byte)] p (rmd d) S m args meth c := B
  have hx := B.1
  have hb := B.2.1
  have hd1 : 1 ≤ d := by omega
  have hl : lv_has ls 4 [(0, .ref a0), (1, .int x1)] := hl
  unfold fX3_go at h
  refine lv_aload_n hx hb dX3_go_0 rfl (lv_at hl 0 rfl) ?_
  refine lv_iload_n hx hb dX3_go_1 rfl (lv_at hl 1 rfl) ?_
  obtain ⟨q1, h1, h⟩ := bs h
  refine kV X (cV (As := [.int x1]) (rest := []) B X (tX3_clear (d := d - 1) L (by omega) h1) mfX3_clear kw599 (by omega) (LnX3_g L z) rfl rfl (Nat.le_of_ble_eq_true rfl) hl.1 ⟨Nat.zero_le _, Nat.zero_le _⟩ dX3_go_2) (fun H locs X => ?_)
  have X : Hx A D S.heap (wf q1) H locs := X
  refine lv_aload_n hx hb dX3_go_5 rfl (lv_at hl 0 rfl) ?_
  refine fG B X (LnX3_g L q1) 0 rfl inTX3 (by decide) kw255 rfl dX3_go_6 ?_
  refine fGN B X (LnX6_g (LnX3_s0 L q1) q1.1) 0 rfl inTX6 (by decide) kn175 rfl dX3_go_9 ?_
  obtain ⟨q2, h2, h⟩ := bs h
  refine kI X (cVN (As := []) (rest := []) B X (tX5_rowsWithKey (d := d - 1) (LnX6_s0 (LnX3_s0 L q1) q1.1) (by omega) h2) mfX5_rowsWithKey kn600 (by omega) (LnX5_g (LnX6_s0 (LnX3_s0 L q1) q1.1) q1.1.1) rfl rfl (Nat.le_of_ble_eq_true rfl) hl.1 ⟨Nat.zero_le _, Nat.zero_le _⟩ dX3_go_12) (fun H locs X => ?_)
  have X : Hx A D S.heap (wf q1) H locs := X
  refine lv_istore_n (lv' := [(2, .int q2), (0, .ref a0), (1, .int x1)]) hx hb dX3_go_15 rfl hl (by decide) rfl (fun ls hl => ?_)
  refine lv_aload_n hx hb dX3_go_16 rfl (lv_at hl 1 rfl) ?_
  refine fG B X (LnX3_g L q1) 0 rfl inTX3 (by decide) kw255 rfl dX3_go_17 ?_
  refine fGN B X (LnX6_g (LnX3_s0 L q1) q1.1) 1 rfl inTX6 (by decide) kn178 rfl dX3_go_20 ?_
  obtain ⟨q3, h3, h⟩ := bs h
  refine kI X (cVN (As := []) (rest := []) B X (tX5_rowsWithKey (d := d - 1) (LnX6_s1 (LnX3_s0 L q1) q1.1) (by omega) h3) mfX5_rowsWithKey kn600 (by omega) (LnX5_g (LnX6_s1 (LnX3_s0 L q1) q1.1) q1.1.2.1) rfl rfl (Nat.le_of_ble_eq_true rfl) hl.1 ⟨Nat.zero_le _, Nat.zero_le _⟩ dX3_go_23) (fun H locs X => ?_)
  have X : Hx A D S.heap (wf q1) H locs := X
  refine lv_istore_n (lv' := [(3, .int q3), (2, .int q2), (0, .ref a0), (1, .int x1)]) hx hb dX3_go_26 rfl hl (by decide) rfl (fun ls hl => ?_)
  refine lv_iload_n hx hb dX3_go_27 rfl (lv_at hl 1 rfl) ?_
  refine lv_iload_n hx hb dX3_go_28 rfl (lv_at hl 0 rfl) ?_
  refine lv_ior hx hb dX3_go_29 ?_
  refine lv_if_eq (tgt := 40) hx hb dX3_go_30 (by decide) (fun hc4 => ?_) (fun hc4 => ?_)
  · have h := it h hc4
    exact tX3_go_b40 L hd B q1 _ _ _ X (lv_sub hl [2] rfl) h
  · have h := ie h hc4
    refine lv_aload_n hx hb dX3_go_33 rfl (lv_at hl 2 rfl) ?_
    refine lv_iload_n hx hb dX3_go_34 rfl (lv_at hl 1 rfl) ?_
    refine lv_iload_n hx hb dX3_go_35 rfl (lv_at hl 0 rfl) ?_
    refine lv_iconst (v := 0) hx hb dX3_go_36 (by decide) ?_
    obtain ⟨q5, h5, h⟩ := bs h
    refine kV X (cV (As := [.int q2, .int q3, .int 0]) (rest := []) B X (tX3_turn 6 (d := d - 1) L (by omega) h5) mfX3_turn kw604 (by omega) (LnX3_g L q1) rfl rfl (Nat.le_of_ble_eq_true rfl) hl.1 ⟨Nat.zero_le _, Nat.zero_le _⟩ dX3_go_37) (fun H locs X => ?_)
    have X : Hx A D S.heap (wf q5) H locs := X
    exact tX3_go_b40 L hd B q5 _ _ _ X (lv_sub hl [2] rfl) h
end
