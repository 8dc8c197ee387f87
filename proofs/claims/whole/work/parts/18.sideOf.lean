section
variable {l : Launch} {A : Nat → Prop} {g : Nat → Nat} {D : va_G} {cI cB : ClassId}
set_option maxRecDepth 100000 in
set_option maxHeartbeats 4000000 in
theorem tX6_sideOf_L {a0 a1 a2 a3 a4 p0 p1 p2 p3 p4 : Nat} {wf : SX6 → va_W} (L : LnX6 a0 a1 a2 a3 a4 p0 p1 p2 p3 p4 cI wf) {d : Nat} (hd : 1 ≤ d) {z : SX6} {x1 : Int32} (hc : x1 = 0) : Ct l yX6_sideOf cX6_sideOf 2 (some (.object "SpillJoin$Side")) d A g D [(cI, .int), (cB, .byte)] [.ref a0, .int x1] (wf z) (QR A D (wf z) a1) := by
  refine mkM (by decide) (Nat.le_of_ble_eq_true rfl) ?_
  intro p e S m args below meth c B X ls hl
  have B : Bd RX6 cX6_sideOf 2 (some (.object "SpillJoin$Side")) d A g D [(cI, .int), (cB, .byte)] p (rmd d) S m args meth c := B
  have hx := B.1
  have hb := B.2.1
  have hl : lv_has ls 2 [(0, .ref a0), (1, .int x1)] := hl
  refine lv_iload_n hx hb dX6_sideOf_0 rfl (lv_at hl 1 rfl) ?_
  refine lv_if_ne (tgt := 11) hx hb dX6_sideOf_1 (by decide) (fun hc1 => ?_) (fun hc1 => ?_)
  · exact absurd hc hc1
  · refine lv_aload_n hx hb dX6_sideOf_4 rfl (lv_at hl 0 rfl) ?_
    refine fG B X (LnX6_g L z) 0 rfl inTX6 (by decide) kw174 rfl dX6_sideOf_5 ?_
    refine lv_goto (tgt := 15) hx hb dX6_sideOf_8 (by decide) ?_
    exact rR B X rfl rfl dX6_sideOf_15
set_option maxRecDepth 100000 in
set_option maxHeartbeats 4000000 in
theorem tX6_sideOf_R {a0 a1 a2 a3 a4 p0 p1 p2 p3 p4 : Nat} {wf : SX6 → va_W} (L : LnX6 a0 a1 a2 a3 a4 p0 p1 p2 p3 p4 cI wf) {d : Nat} (hd : 1 ≤ d) {z : SX6} {x1 : Int32} (hc : ¬ x1 = 0) : Ct l yX6_sideOf cX6_sideOf 2 (some (.object "SpillJoin$Side")) d A g D [(cI, .int), (cB, .byte)] [.ref a0, .int x1] (wf z) (QR A D (wf z) a3) := by
  refine mkM (by decide) (Nat.le_of_ble_eq_true rfl) ?_
  intro p e S m args below meth c B X ls hl
  have B : Bd RX6 cX6_sideOf 2 (some (.object "SpillJoin$Side")) d A g D [(cI, .int), (cB, .byte)] p (rmd d) S m args meth c := B
  have hx := B.1
  have hb := B.2.1
  have hl : lv_has ls 2 [(0, .ref a0), (1, .int x1)] := hl
  refine lv_iload_n hx hb dX6_sideOf_0 rfl (lv_at hl 1 rfl) ?_
  refine lv_if_ne (tgt := 11) hx hb dX6_sideOf_1 (by decide) (fun hc1 => ?_) (fun hc1 => ?_)
  · refine lv_aload_n hx hb dX6_sideOf_11 rfl (lv_at hl 0 rfl) ?_
    refine fG B X (LnX6_g L z) 1 rfl inTX6 (by decide) kw177 rfl dX6_sideOf_12 ?_
    exact rR B X rfl rfl dX6_sideOf_15
  · exact absurd hc1 hc
end
