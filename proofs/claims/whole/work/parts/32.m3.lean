section
variable {l : Launch} {p : Program} {e : Env} {R : Room} {S : State} {m : MethodId} {args : Array Value} {below : List Frame} {meth : Method} {c : Code} {A : Nat → Prop} {g : Nat → Nat} {D : va_G} {cI cB : ClassId}
def fX8_tell_b58 : Nat → Int32 → SX8 → Option SX8
  | 0, _, _ => none
  | n + 1, x1, z =>
    if (z.1 26) ≤ x1 then (some (z.1, z.2.1, (va_up (va_up (va_up (va_up (va_up (va_up (va_up (va_up (va_up (va_up z.2.2 43 (upd (z.2.2 43) (0 : Int32).toNatClampNeg (z.1 17))) 43 (upd (upd (z.2.2 43) (0 : Int32).toNatClampNeg (z.1 17)) (1 : Int32).toNatClampNeg (z.1 18))) 43 (upd (upd (upd (z.2.2 43) (0 : Int32).toNatClampNeg (z.1 17)) (1 : Int32).toNatClampNeg (z.1 18)) (2 : Int32).toNatClampNeg (z.1 19))) 43 (upd (upd (upd (upd (z.2.2 43) (0 : Int32).toNatClampNeg (z.1 17)) (1 : Int32).toNatClampNeg (z.1 18)) (2 : Int32).toNatClampNeg (z.1 19)) (3 : Int32).toNatClampNeg (z.1 20))) 43 (upd (upd (upd (upd (upd (z.2.2 43) (0 : Int32).toNatClampNeg (z.1 17)) (1 : Int32).toNatClampNeg (z.1 18)) (2 : Int32).toNatClampNeg (z.1 19)) (3 : Int32).toNatClampNeg (z.1 20)) (4 : Int32).toNatClampNeg (z.1 21))) 43 (upd (upd (upd (upd (upd (upd (z.2.2 43) (0 : Int32).toNatClampNeg (z.1 17)) (1 : Int32).toNatClampNeg (z.1 18)) (2 : Int32).toNatClampNeg (z.1 19)) (3 : Int32).toNatClampNeg (z.1 20)) (4 : Int32).toNatClampNeg (z.1 21)) (5 : Int32).toNatClampNeg (z.1 22))) 43 (upd (upd (upd (upd (upd (upd (upd (z.2.2 43) (0 : Int32).toNatClampNeg (z.1 17)) (1 : Int32).toNatClampNeg (z.1 18)) (2 : Int32).toNatClampNeg (z.1 19)) (3 : Int32).toNatClampNeg (z.1 20)) (4 : Int32).toNatClampNeg (z.1 21)) (5 : Int32).toNatClampNeg (z.1 22)) (6 : Int32).toNatClampNeg (z.1 23))) 43 (upd (upd (upd (upd (upd (upd (upd (upd (z.2.2 43) (0 : Int32).toNatClampNeg (z.1 17)) (1 : Int32).toNatClampNeg (z.1 18)) (2 : Int32).toNatClampNeg (z.1 19)) (3 : Int32).toNatClampNeg (z.1 20)) (4 : Int32).toNatClampNeg (z.1 21)) (5 : Int32).toNatClampNeg (z.1 22)) (6 : Int32).toNatClampNeg (z.1 23)) (7 : Int32).toNatClampNeg (z.1 24))) 43 (upd (upd (upd (upd (upd (upd (upd (upd (upd (z.2.2 43) (0 : Int32).toNatClampNeg (z.1 17)) (1 : Int32).toNatClampNeg (z.1 18)) (2 : Int32).toNatClampNeg (z.1 19)) (3 : Int32).toNatClampNeg (z.1 20)) (4 : Int32).toNatClampNeg (z.1 21)) (5 : Int32).toNatClampNeg (z.1 22)) (6 : Int32).toNatClampNeg (z.1 23)) (7 : Int32).toNatClampNeg (z.1 24)) (8 : Int32).toNatClampNeg (z.1 25))) 43 (upd (upd (upd (upd (upd (upd (upd (upd (upd (upd (z.2.2 43) (0 : Int32).toNatClampNeg (z.1 17)) (1 : Int32).toNatClampNeg (z.1 18)) (2 : Int32).toNatClampNeg (z.1 19)) (3 : Int32).toNatClampNeg (z.1 20)) (4 : Int32).toNatClampNeg (z.1 21)) (5 : Int32).toNatClampNeg (z.1 22)) (6 : Int32).toNatClampNeg (z.1 23)) (7 : Int32).toNatClampNeg (z.1 24)) (8 : Int32).toNatClampNeg (z.1 25)) (9 : Int32).toNatClampNeg (z.1 26))))) else
    (if x1 < 0 ∨ 512 ≤ x1.toNatClampNeg then none else
    (if x1 < 0 ∨ 512 ≤ x1.toNatClampNeg then none else
    (if x1 < 0 ∨ 512 ≤ x1.toNatClampNeg then none else
    (if x1 < 0 ∨ 512 ≤ x1.toNatClampNeg then none else
    (if x1 < 0 ∨ 512 ≤ x1.toNatClampNeg then none else
    (if x1 < 0 ∨ 512 ≤ x1.toNatClampNeg then none else
    (fX8_tell_b58 n (x1 + 1) (z.1, z.2.1, (va_up (va_up (va_up z.2.2 46 (upd (z.2.2 46) x1.toNatClampNeg ((z.2.2 33) x1.toNatClampNeg))) 47 (upd (z.2.2 47) x1.toNatClampNeg ((z.2.2 34) x1.toNatClampNeg))) 48 (upd (z.2.2 48) x1.toNatClampNeg ((z.2.2 35) x1.toNatClampNeg)))))))))))
set_option maxRecDepth 100000 in
set_option maxHeartbeats 4000000 in
theorem tX8_tell_b58 {a q : Nat → Nat} {wf : SX8 → va_W} (L : LnX8 a q cI cB wf) {d : Nat} (hd : 1 ≤ d) (B : Bd RX8 cX8_tell 2 none d A g D [(cI, .int), (cB, .byte)] p R S m args meth c) {q : SX8} : ∀ (n : Nat) (x1 : Int32) (z : SX8) (H : Heap) (locs : List Loc) (ls : Array Slot), Hx A D S.heap (wf z) H locs → lv_has ls 2 [(0, .ref (a 0)), (1, .int x1)] → fX8_tell_b58 n x1 z = some q → W p l e R S m args below meth c H locs 0 0 (MQ below (QV A D (wf q)) args S 0 0 A) (F0 m 58 ls []) := by
  have hx := B.1
  have hb := B.2.1
  have hd1 : 1 ≤ d := by omega
  intro n
  induction n with
  | zero =>
    intro x1 z H locs ls X hl h
    cases h
  | succ n ih =>
    intro x1 z H locs ls X hl h
    rw [fX8_tell_b58] at h
    refine lv_iload_n hx hb dX8_tell_58 rfl (lv_at hl 1 rfl) ?_
    refine lv_aload_n hx hb dX8_tell_59 rfl (lv_at hl 0 rfl) ?_
    refine fG B X (LnX8_g L z) 26 rfl inTX8 (by decide) kw873 rfl dX8_tell_60 ?_
    refine lv_icmp_ge (tgt := 108) hx hb dX8_tell_63 (by decide) (fun hc1 => ?_) (fun hc1 => ?_)
    · have h := it h hc1
      refine lv_aload_n hx hb dX8_tell_108 rfl (lv_at hl 0 rfl) ?_
      refine fG B X (LnX8_g L z) 43 rfl inTX8 (by decide) kw890 rfl dX8_tell_109 ?_
      refine lv_iconst (v := 0) hx hb dX8_tell_112 (by decide) ?_
      refine lv_aload_n hx hb dX8_tell_113 rfl (lv_at hl 0 rfl) ?_
      refine fG B X (LnX8_g L z) 17 rfl inTX8 (by decide) kw864 rfl dX8_tell_114 ?_
      refine aP B X (LnX8_a43 L z) (LnX8_b43 L z _) 0 rfl (by decide) dX8_tell_117 (fun H locs X => ?_)
      have X : Hx A D S.heap (wf (z.1, z.2.1, (va_up z.2.2 43 (upd (z.2.2 43) (0 : Int32).toNatClampNeg (z.1 17))))) H locs := X
      refine lv_aload_n hx hb dX8_tell_118 rfl (lv_at hl 0 rfl) ?_
      refine fG B X (LnX8_g L (z.1, z.2.1, (va_up z.2.2 43 (upd (z.2.2 43) (0 : Int32).toNatClampNeg (z.1 17))))) 43 rfl inTX8 (by decide) kw890 rfl dX8_tell_119 ?_
      refine lv_iconst (v := 1) hx hb dX8_tell_122 (by decide) ?_
      refine lv_aload_n hx hb dX8_tell_123 rfl (lv_at hl 0 rfl) ?_
      refine fG B X (LnX8_g L (z.1, z.2.1, (va_up z.2.2 43 (upd (z.2.2 43) (0 : Int32).toNatClampNeg (z.1 17))))) 18 rfl inTX8 (by decide) kw865 rfl dX8_tell_124 ?_
      refine aP B X (LnX8_a43 L (z.1, z.2.1, (va_up z.2.2 43 (upd (z.2.2 43) (0 : Int32).toNatClampNeg (z.1 17))))) (LnX8_b43 L (z.1, z.2.1, (va_up z.2.2 43 (upd (z.2.2 43) (0 : Int32).toNatClampNeg (z.1 17)))) _) 0 rfl (by decide) dX8_tell_127 (fun H locs X => ?_)
      have X : Hx A D S.heap (wf (z.1, z.2.1, (va_up (va_up z.2.2 43 (upd (z.2.2 43) (0 : Int32).toNatClampNeg (z.1 17))) 43 (upd (upd (z.2.2 43) (0 : Int32).toNatClampNeg (z.1 17)) (1 : Int32).toNatClampNeg (z.1 18))))) H locs := X
      refine lv_aload_n hx hb dX8_tell_128 rfl (lv_at hl 0 rfl) ?_
      refine fG B X (LnX8_g L (z.1, z.2.1, (va_up (va_up z.2.2 43 (upd (z.2.2 43) (0 : Int32).toNatClampNeg (z.1 17))) 43 (upd (upd (z.2.2 43) (0 : Int32).toNatClampNeg (z.1 17)) (1 : Int32).toNatClampNeg (z.1 18))))) 43 rfl inTX8 (by decide) kw890 rfl dX8_tell_129 ?_
      refine lv_iconst (v := 2) hx hb dX8_tell_132 (by decide) ?_
      refine lv_aload_n hx hb dX8_tell_133 rfl (lv_at hl 0 rfl) ?_
      refine fG B X (LnX8_g L (z.1, z.2.1, (va_up (va_up z.2.2 43 (upd (z.2.2 43) (0 : Int32).toNatClampNeg (z.1 17))) 43 (upd (upd (z.2.2 43) (0 : Int32).toNatClampNeg (z.1 17)) (1 : Int32).toNatClampNeg (z.1 18))))) 19 rfl inTX8 (by decide) kw866 rfl dX8_tell_134 ?_
      refine aP B X (LnX8_a43 L (z.1, z.2.1, (va_up (va_up z.2.2 43 (upd (z.2.2 43) (0 : Int32).toNatClampNeg (z.1 17))) 43 (upd (upd (z.2.2 43) (0 : Int32).toNatClampNeg (z.1 17)) (1 : Int32).toNatClampNeg (z.1 18))))) (LnX8_b43 L (z.1, z.2.1, (va_up (va_up z.2.2 43 (upd (z.2.2 43) (0 : Int32).toNatClampNeg (z.1 17))) 43 (upd (upd (z.2.2 43) (0 : Int32).toNatClampNeg (z.1 17)) (1 : Int32).toNatClampNeg (z.1 18)))) _) 0 rfl (by decide) dX8_tell_137 (fun H locs X => ?_)
      have X : Hx A D S.heap (wf (z.1, z.2.1, (va_up (va_up (va_up z.2.2 43 (upd (z.2.2 43) (0 : Int32).toNatClampNeg (z.1 17))) 43 (upd (upd (z.2.2 43) (0 : Int32).toNatClampNeg (z.1 17)) (1 : Int32).toNatClampNeg (z.1 18))) 43 (upd (upd (upd (z.2.2 43) (0 : Int32).toNatClampNeg (z.1 17)) (1 : Int32).toNatClampNeg (z.1 18)) (2 : Int32).toNatClampNeg (z.1 19))))) H locs := X
      refine lv_aload_n hx hb dX8_tell_138 rfl (lv_at hl 0 rfl) ?_
      refine fG B X (LnX8_g L (z.1, z.2.1, (va_up (va_up (va_up z.2.2 43 (upd (z.2.2 43) (0 : Int32).toNatClampNeg (z.1 17))) 43 (upd (upd (z.2.2 43) (0 : Int32).toNatClampNeg (z.1 17)) (1 : Int32).toNatClampNeg (z.1 18))) 43 (upd (upd (upd (z.2.2 43) (0 : Int32).toNatClampNeg (z.1 17)) (1 : Int32).toNatClampNeg (z.1 18)) (2 : Int32).toNatClampNeg (z.1 19))))) 43 rfl inTX8 (by decide) kw890 rfl dX8_tell_139 ?_
      refine lv_iconst (v := 3) hx hb dX8_tell_142 (by decide) ?_
      refine lv_aload_n hx hb dX8_tell_143 rfl (lv_at hl 0 rfl) ?_
      refine fG B X (LnX8_g L (z.1, z.2.1, (va_up (va_up (va_up z.2.2 43 (upd (z.2.2 43) (0 : Int32).toNatClampNeg (z.1 17))) 43 (upd (upd (z.2.2 43) (0 : Int32).toNatClampNeg (z.1 17)) (1 : Int32).toNatClampNeg (z.1 18))) 43 (upd (upd (upd (z.2.2 43) (0 : Int32).toNatClampNeg (z.1 17)) (1 : Int32).toNatClampNeg (z.1 18)) (2 : Int32).toNatClampNeg (z.1 19))))) 20 rfl inTX8 (by decide) kw867 rfl dX8_tell_144 ?_
      refine aP B X (LnX8_a43 L (z.1, z.2.1, (va_up (va_up (va_up z.2.2 43 (upd (z.2.2 43) (0 : Int32).toNatClampNeg (z.1 17))) 43 (upd (upd (z.2.2 43) (0 : Int32).toNatClampNeg (z.1 17)) (1 : Int32).toNatClampNeg (z.1 18))) 43 (upd (upd (upd (z.2.2 43) (0 : Int32).toNatClampNeg (z.1 17)) (1 : Int32).toNatClampNeg (z.1 18)) (2 : Int32).toNatClampNeg (z.1 19))))) (LnX8_b43 L (z.1, z.2.1, (va_up (va_up (va_up z.2.2 43 (upd (z.2.2 43) (0 : Int32).toNatClampNeg (z.1 17))) 43 (upd (upd (z.2.2 43) (0 : Int32).toNatClampNeg (z.1 17)) (1 : Int32).toNatClampNeg (z.1 18))) 43 (upd (upd (upd (z.2.2 43) (0 : Int32).toNatClampNeg (z.1 17)) (1 : Int32).toNatClampNeg (z.1 18)) (2 : Int32).toNatClampNeg (z.1 19)))) _) 0 rfl (by decide) dX8_tell_147 (fun H locs X => ?_)
      have X : Hx A D S.heap (wf (z.1, z.2.1, (va_up (va_up (va_up (va_up z.2.2 43 (upd (z.2.2 43) (0 : Int32).toNatClampNeg (z.1 17))) 43 (upd (upd (z.2.2 43) (0 : Int32).toNatClampNeg (z.1 17)) (1 : Int32).toNatClampNeg (z.1 18))) 43 (upd (upd (upd (z.2.2 43) (0 : Int32).toNatClampNeg (z.1 17)) (1 : Int32).toNatClampNeg (z.1 18)) (2 : Int32).toNatClampNeg (z.1 19))) 43 (upd (upd (upd (upd (z.2.2 43) (0 : Int32).toNatClampNeg (z.1 17)) (1 : Int32).toNatClampNeg (z.1 18)) (2 : Int32).toNatClampNeg (z.1 19)) (3 : Int32).toNatClampNeg (z.1 20))))) H locs := X
      refine lv_aload_n hx hb dX8_tell_148 rfl (lv_at hl 0 rfl) ?_
      refine fG B X (LnX8_g L (z.1, z.2.1, (va_up (va_up (va_up (va_up z.2.2 43 (upd (z.2.2 43) (0 : Int32).toNatClampNeg (z.1 17))) 43 (upd (upd (z.2.2 43) (0 : Int32).toNatClampNeg (z.1 17)) (1 : Int32).toNatClampNeg (z.1 18))) 43 (upd (upd (upd (z.2.2 43) (0 : Int32).toNatClampNeg (z.1 17)) (1 : Int32).toNatClampNeg (z.1 18)) (2 : Int32).toNatClampNeg (z.1 19))) 43 (upd (upd (upd (upd (z.2.2 43) (0 : Int32).toNatClampNeg (z.1 17)) (1 : Int32).toNatClampNeg (z.1 18)) (2 : Int32).toNatClampNeg (z.1 19)) (3 : Int32).toNatClampNeg (z.1 20))))) 43 rfl inTX8 (by decide) kw890 rfl dX8_tell_149 ?_
      refine lv_iconst (v := 4) hx hb dX8_tell_152 (by decide) ?_
      refine lv_aload_n hx hb dX8_tell_153 rfl (lv_at hl 0 rfl) ?_
      refine fG B X (LnX8_g L (z.1, z.2.1, (va_up (va_up (va_up (va_up z.2.2 43 (upd (z.2.2 43) (0 : Int32).toNatClampNeg (z.1 17))) 43 (upd (upd (z.2.2 43) (0 : Int32).toNatClampNeg (z.1 17)) (1 : Int32).toNatClampNeg (z.1 18))) 43 (upd (upd (upd (z.2.2 43) (0 : Int32).toNatClampNeg (z.1 17)) (1 : Int32).toNatClampNeg (z.1 18)) (2 : Int32).toNatClampNeg (z.1 19))) 43 (upd (upd (upd (upd (z.2.2 43) (0 : Int32).toNatClampNeg (z.1 17)) (1 : Int32).toNatClampNeg (z.1 18)) (2 : Int32).toNatClampNeg (z.1 19)) (3 : Int32).toNatClampNeg (z.1 20))))) 21 rfl inTX8 (by decide) kw868 rfl dX8_tell_154 ?_
      refine aP B X (LnX8_a43 L (z.1, z.2.1, (va_up (va_up (va_up (va_up z.2.2 43 (upd (z.2.2 43) (0 : Int32).toNatClampNeg (z.1 17))) 43 (upd (upd (z.2.2 43) (0 : Int32).toNatClampNeg (z.1 17)) (1 : Int32).toNatClampNeg (z.1 18))) 43 (upd (upd (upd (z.2.2 43) (0 : Int32).toNatClampNeg (z.1 17)) (1 : Int32).toNatClampNeg (z.1 18)) (2 : Int32).toNatClampNeg (z.1 19))) 43 (upd (upd (upd (upd (z.2.2 43) (0 : Int32).toNatClampNeg (z.1 17)) (1 : Int32).toNatClampNeg (z.1 18)) (2 : Int32).toNatClampNeg (z.1 19)) (3 : Int32).toNatClampNeg (z.1 20))))) (LnX8_b43 L (z.1, z.2.1, (va_up (va_up (va_up (va_up z.2.2 43 (upd (z.2.2 43) (0 : Int32).toNatClampNeg (z.1 17))) 43 (upd (upd (z.2.2 43) (0 : Int32).toNatClampNeg (z.1 17)) (1 : Int32).toNatClampNeg (z.1 18))) 43 (upd (upd (upd (z.2.2 43) (0 : Int32).toNatClampNeg (z.1 17)) (1 : Int32).toNatClampNeg (z.1 18)) (2 : Int32).toNatClampNeg (z.1 19))) 43 (upd (upd (upd (upd (z.2.2 43) (0 : Int32).toNatClampNeg (z.1 17)) (1 : Int32).toNatClampNeg (z.1 18)) (2 : Int32).toNatClampNeg (z.1 19)) (3 : Int32).toNatClampNeg (z.1 20)))) _) 0 rfl (by decide) dX8_tell_157 (fun H locs X => ?_)
      have X : Hx A D S.heap (wf (z.1, z.2.1, (va_up (va_up (va_up (va_up (va_up z.2.2 43 (upd (z.2.2 43) (0 : Int32).toNatClampNeg (z.1 17))) 43 (upd (upd (z.2.2 43) (0 : Int32).toNatClampNeg (z.1 17)) (1 : Int32).toNatClampNeg (z.1 18))) 43 (upd (upd (upd (z.2.2 43) (0 : Int32).toNatClampNeg (z.1 17)) (1 : Int32).toNatClampNeg (z.1 18)) (2 : Int32).toNatClampNeg (z.1 19))) 43 (upd (upd (upd (upd (z.2.2 43) (0 : Int32).toNatClampNeg (z.1 17)) (1 : Int32).toNatClampNeg (z.1 18)) (2 : Int32).toNatClampNeg (z.1 19)) (3 : Int32).toNatClampNeg (z.1 20))) 43 (upd (upd (upd (upd (upd (z.2.2 43) (0 : Int32).toNatClampNeg (z.1 17)) (1 : Int32).toNatClampNeg (z.1 18)) (2 : Int32).toNatClampNeg (z.1 19)) (3 : Int32).toNatClampNeg (z.1 20)) (4 : Int32).toNatClampNeg (z.1 21))))) H locs := X
      refine lv_aload_n hx hb dX8_tell_158 rfl (lv_at hl 0 rfl) ?_
      refine fG B X (LnX8_g L (z.1, z.2.1, (va_up (va_up (va_up (va_up (va_up z.2.2 43 (upd (z.2.2 43) (0 : Int32).toNatClampNeg (z.1 17))) 43 (upd (upd (z.2.2 43) (0 : Int32).toNatClampNeg (z.1 17)) (1 : Int32).toNatClampNeg (z.1 18))) 43 (upd (upd (upd (z.2.2 43) (0 : Int32).toNatClampNeg (z.1 17)) (1 : Int32).toNatClampNeg (z.1 18)) (2 : Int32).toNatClampNeg (z.1 19))) 43 (upd (upd (upd (upd (z.2.2 43) (0 : Int32).toNatClampNeg (z.1 17)) (1 : Int32).toNatClampNeg (z.1 18)) (2 : Int32).toNatClampNeg (z.1 19)) (3 : Int32).toNatClampNeg (z.1 20))) 43 (upd (upd (upd (upd (upd (z.2.2 43) (0 : Int32).toNatClampNeg (z.1 17)) (1 : Int32).toNatClampNeg (z.1 18)) (2 : Int32).toNatClampNeg (z.1 19)) (3 : Int32).toNatClampNeg (z.1 20)) (4 : Int32).toNatClampNeg (z.1 21))))) 43 rfl inTX8 (by decide) kw890 rfl dX8_tell_159 ?_
      refine lv_iconst (v := 5) hx hb dX8_tell_162 (by decide) ?_
      refine lv_aload_n hx hb dX8_tell_163 rfl (lv_at hl 0 rfl) ?_
      refine fG B X (LnX8_g L (z.1, z.2.1, (va_up (va_up (va_up (va_up (va_up z.2.2 43 (upd (z.2.2 43) (0 : Int32).toNatClampNeg (z.1 17))) 43 (upd (upd (z.2.2 43) (0 : Int32).toNatClampNeg (z.1 17)) (1 : Int32).toNatClampNeg (z.1 18))) 43 (upd (upd (upd (z.2.2 43) (0 : Int32).toNatClampNeg (z.1 17)) (1 : Int32).toNatClampNeg (z.1 18)) (2 : Int32).toNatClampNeg (z.1 19))) 43 (upd (upd (upd (upd (z.2.2 43) (0 : Int32).toNatClampNeg (z.1 17)) (1 : Int32).toNatClampNeg (z.1 18)) (2 : Int32).toNatClampNeg (z.1 19)) (3 : Int32).toNatClampNeg (z.1 20))) 43 (upd (upd (upd (upd (upd (z.2.2 43) (0 : Int32).toNatClampNeg (z.1 17)) (1 : Int32).toNatClampNeg (z.1 18)) (2 : Int32).toNatClampNeg (z.1 19)) (3 : Int32).toNatClampNeg (z.1 20)) (4 : Int32).toNatClampNeg (z.1 21))))) 22 rfl inTX8 (by decide) kw869 rfl dX8_tell_164 ?_
      refine aP B X (LnX8_a43 L (z.1, z.2.1, (va_up (va_up (va_up (va_up (va_up z.2.2 43 (upd (z.2.2 43) (0 : Int32).toNatClampNeg (z.1 17))) 43 (upd (upd (z.2.2 43) (0 : Int32).toNatClampNeg (z.1 17)) (1 : Int32).toNatClampNeg (z.1 18))) 43 (upd (upd (upd (z.2.2 43) (0 : Int32).toNatClampNeg (z.1 17)) (1 : Int32).toNatClampNeg (z.1 18)) (2 : Int32).toNatClampNeg (z.1 19))) 43 (upd (upd (upd (upd (z.2.2 43) (0 : Int32).toNatClampNeg (z.1 17)) (1 : Int32).toNatClampNeg (z.1 18)) (2 : Int32).toNatClampNeg (z.1 19)) (3 : Int32).toNatClampNeg (z.1 20))) 43 (upd (upd (upd (upd (upd (z.2.2 43) (0 : Int32).toNatClampNeg (z.1 17)) (1 : Int32).toNatClampNeg (z.1 18)) (2 : Int32).toNatClampNeg (z.1 19)) (3 : Int32).toNatClampNeg (z.1 20)) (4 : Int32).toNatClampNeg (z.1 21))))) (LnX8_b43 L (z.1, z.2.1, (va_up (va_up (va_up (va_up (va_up z.2.2 43 (upd (z.2.2 43) (0 : Int32).toNatClampNeg (z.1 17))) 43 (upd (upd (z.2.2 43) (0 : Int32).toNatClampNeg (z.1 17)) (1 : Int32).toNatClampNeg (z.1 18))) 43 (upd (upd (upd (z.2.2 43) (0 : Int32).toNatClampNeg (z.1 17)) (1 : Int32).toNatClampNeg (z.1 18)) (2 : Int32).toNatClampNeg (z.1 19))) 43 (upd (upd (upd (upd (z.2.2 43) (0 : Int32).toNatClampNeg (z.1 17)) (1 : Int32).toNatClampNeg (z.1 18)) (2 : Int32).toNatClampNeg (z.1 19)) (3 : Int32).toNatClampNeg (z.1 20))) 43 (upd (upd (upd (upd (upd (z.2.2 43) (0 : Int32).toNatClampNeg (z.1 17)) (1 : Int32).toNatClampNeg (z.1 18)) (2 : Int32).toNatClampNeg (z.1 19)) (3 : Int32).toNatClampNeg (z.1 20)) (4 : Int32).toNatClampNeg (z.1 21)))) _) 0 rfl (by decide) dX8_tell_167 (fun H locs X => ?_)
      have X : Hx A D S.heap (wf (z.1, z.2.1, (va_up (va_up (va_up (va_up (va_up (va_up z.2.2 43 (upd (z.2.2 43) (0 : Int32).toNatClampNeg (z.1 17))) 43 (upd (upd (z.2.2 43) (0 : Int32).toNatClampNeg (z.1 17)) (1 : Int32).toNatClampNeg (z.1 18))) 43 (upd (upd (upd (z.2.2 43) (0 : Int32).toNatClampNeg (z.1 17)) (1 : Int32).toNatClampNeg (z.1 18)) (2 : Int32).toNatClampNeg (z.1 19))) 43 (upd (upd (upd (upd (z.2.2 43) (0 : Int32).toNatClampNeg (z.1 17)) (1 : Int32).toNatClampNeg (z.1 18)) (2 : Int32).toNatClampNeg (z.1 19)) (3 : Int32).toNatClampNeg (z.1 20))) 43 (upd (upd (upd (upd (upd (z.2.2 43) (0 : Int32).toNatClampNeg (z.1 17)) (1 : Int32).toNatClampNeg (z.1 18)) (2 : Int32).toNatClampNeg (z.1 19)) (3 : Int32).toNatClampNeg (z.1 20)) (4 : Int32).toNatClampNeg (z.1 21))) 43 (upd (upd (upd (upd (upd (upd (z.2.2 43) (0 : Int32).toNatClampNeg (z.1 17)) (1 : Int32).toNatClampNeg (z.1 18)) (2 : Int32).toNatClampNeg (z.1 19)) (3 : Int32).toNatClampNeg (z.1 20)) (4 : Int32).toNatClampNeg (z.1 21)) (5 : Int32).toNatClampNeg (z.1 22))))) H locs := X
      refine lv_aload_n hx hb dX8_tell_168 rfl (lv_at hl 0 rfl) ?_
      refine fG B X (LnX8_g L (z.1, z.2.1, (va_up (va_up (va_up (va_up (va_up (va_up z.2.2 43 (upd (z.2.2 43) (0 : Int32).toNatClampNeg (z.1 17))) 43 (upd (upd (z.2.2 43) (0 : Int32).toNatClampNeg (z.1 17)) (1 : Int32).toNatClampNeg (z.1 18))) 43 (upd (upd (upd (z.2.2 43) (0 : Int32).toNatClampNeg (z.1 17)) (1 : Int32).toNatClampNeg (z.1 18)) (2 : Int32).toNatClampNeg (z.1 19))) 43 (upd (upd (upd (upd (z.2.2 43) (0 : Int32).toNatClampNeg (z.1 17)) (1 : Int32).toNatClampNeg (z.1 18)) (2 : Int32).toNatClampNeg (z.1 19)) (3 : Int32).toNatClampNeg (z.1 20))) 43 (upd (upd (upd (upd (upd (z.2.2 43) (0 : Int32).toNatClampNeg (z.1 17)) (1 : Int32).toNatClampNeg (z.1 18)) (2 : Int32).toNatClampNeg (z.1 19)) (3 : Int32).toNatClampNeg (z.1 20)) (4 : Int32).toNatClampNeg (z.1 21))) 43 (upd (upd (upd (upd (upd (upd (z.2.2 43) (0 : Int32).toNatClampNeg (z.1 17)) (1 : Int32).toNatClampNeg (z.1 18)) (2 : Int32).toNatClampNeg (z.1 19)) (3 : Int32).toNatClampNeg (z.1 20)) (4 : Int32).toNatClampNeg (z.1 21)) (5 : Int32).toNatClampNeg (z.1 22))))) 43 rfl inTX8 (by decide) kw890 rfl dX8_tell_169 ?_
      refine lv_bipush (v := 6) hx hb dX8_tell_172 (by decide) ?_
      refine lv_aload_n hx hb dX8_tell_174 rfl (lv_at hl 0 rfl) ?_
      refine fG B X (LnX8_g L (z.1, z.2.1, (va_up (va_up (va_up (va_up (va_up (va_up z.2.2 43 (upd (z.2.2 43) (0 : Int32).toNatClampNeg (z.1 17))) 43 (upd (upd (z.2.2 43) (0 : Int32).toNatClampNeg (z.1 17)) (1 : Int32).toNatClampNeg (z.1 18))) 43 (upd (upd (upd (z.2.2 43) (0 : Int32).toNatClampNeg (z.1 17)) (1 : Int32).toNatClampNeg (z.1 18)) (2 : Int32).toNatClampNeg (z.1 19))) 43 (upd (upd (upd (upd (z.2.2 43) (0 : Int32).toNatClampNeg (z.1 17)) (1 : Int32).toNatClampNeg (z.1 18)) (2 : Int32).toNatClampNeg (z.1 19)) (3 : Int32).toNatClampNeg (z.1 20))) 43 (upd (upd (upd (upd (upd (z.2.2 43) (0 : Int32).toNatClampNeg (z.1 17)) (1 : Int32).toNatClampNeg (z.1 18)) (2 : Int32).toNatClampNeg (z.1 19)) (3 : Int32).toNatClampNeg (z.1 20)) (4 : Int32).toNatClampNeg (z.1 21))) 43 (upd (upd (upd (upd (upd (upd (z.2.2 43) (0 : Int32).toNatClampNeg (z.1 17)) (1 : Int32).toNatClampNeg (z.1 18)) (2 : Int32).toNatClampNeg (z.1 19)) (3 : Int32).toNatClampNeg (z.1 20)) (4 : Int32).toNatClampNeg (z.1 21)) (5 : Int32).toNatClampNeg (z.1 22))))) 23 rfl inTX8 (by decide) kw870 rfl dX8_tell_175 ?_
      refine aP B X (LnX8_a43 L (z.1, z.2.1, (va_up (va_up (va_up (va_up (va_up (va_up z.2.2 43 (upd (z.2.2 43) (0 : Int32).toNatClampNeg (z.1 17))) 43 (upd (upd (z.2.2 43) (0 : Int32).toNatClampNeg (z.1 17)) (1 : Int32).toNatClampNeg (z.1 18))) 43 (upd (upd (upd (z.2.2 43) (0 : Int32).toNatClampNeg (z.1 17)) (1 : Int32).toNatClampNeg (z.1 18)) (2 : Int32).toNatClampNeg (z.1 19))) 43 (upd (upd (upd (upd (z.2.2 43) (0 : Int32).toNatClampNeg (z.1 17)) (1 : Int32).toNatClampNeg (z.1 18)) (2 : Int32).toNatClampNeg (z.1 19)) (3 : Int32).toNatClampNeg (z.1 20))) 43 (upd (upd (upd (upd (upd (z.2.2 43) (0 : Int32).toNatClampNeg (z.1 17)) (1 : Int32).toNatClampNeg (z.1 18)) (2 : Int32).toNatClampNeg (z.1 19)) (3 : Int32).toNatClampNeg (z.1 20)) (4 : Int32).toNatClampNeg (z.1 21))) 43 (upd (upd (upd (upd (upd (upd (z.2.2 43) (0 : Int32).toNatClampNeg (z.1 17)) (1 : Int32).toNatClampNeg (z.1 18)) (2 : Int32).toNatClampNeg (z.1 19)) (3 : Int32).toNatClampNeg (z.1 20)) (4 : Int32).toNatClampNeg (z.1 21)) (5 : Int32).toNatClampNeg (z.1 22))))) (LnX8_b43 L (z.1, z.2.1, (va_up (va_up (va_up (va_up (va_up (va_up z.2.2 43 (upd (z.2.2 43) (0 : Int32).toNatClampNeg (z.1 17))) 43 (upd (upd (z.2.2 43) (0 : Int32).toNatClampNeg (z.1 17)) (1 : Int32).toNatClampNeg (z.1 18))) 43 (upd (upd (upd (z.2.2 43) (0 : Int32).toNatClampNeg (z.1 17)) (1 : Int32).toNatClampNeg (z.1 18)) (2 : Int32).toNatClampNeg (z.1 19))) 43 (upd (upd (upd (upd (z.2.2 43) (0 : Int32).toNatClampNeg (z.1 17)) (1 : Int32).toNatClampNeg (z.1 18)) (2 : Int32).toNatClampNeg (z.1 19)) (3 : Int32).toNatClampNeg (z.1 20))) 43 (upd (upd (upd (upd (upd (z.2.2 43) (0 : Int32).toNatClampNeg (z.1 17)) (1 : Int32).toNatClampNeg (z.1 18)) (2 : Int32).toNatClampNeg (z.1 19)) (3 : Int32).toNatClampNeg (z.1 20)) (4 : Int32).toNatClampNeg (z.1 21))) 43 (upd (upd (upd (upd (upd (upd (z.2.2 43) (0 : Int32).toNatClampNeg (z.1 17)) (1 : Int32).toNatClampNeg (z.1 18)) (2 : Int32).toNatClampNeg (z.1 19)) (3 : Int32).toNatClampNeg (z.1 20)) (4 : Int32).toNatClampNeg (z.1 21)) (5 : Int32).toNatClampNeg (z.1 22)))) _) 0 rfl (by decide) dX8_tell_178 (fun H locs X => ?_)
      have X : Hx A D S.heap (wf (z.1, z.2.1, (va_up (va_up (va_up (va_up (va_up (va_up (va_up z.2.2 43 (upd (z.2.2 43) (0 : Int32).toNatClampNeg (z.1 17))) 43 (upd (upd (z.2.2 43) (0 : Int32).toNatClampNeg (z.1 17)) (1 : Int32).toNatClampNeg (z.1 18))) 43 (upd (upd (upd (z.2.2 43) (0 : Int32).toNatClampNeg (z.1 17)) (1 : Int32).toNatClampNeg (z.1 18)) (2 : Int32).toNatClampNeg (z.1 19))) 43 (upd (upd (upd (upd (z.2.2 43) (0 : Int32).toNatClampNeg (z.1 17)) (1 : Int32).toNatClampNeg (z.1 18)) (2 : Int32).toNatClampNeg (z.1 19)) (3 : Int32).toNatClampNeg (z.1 20))) 43 (upd (upd (upd (upd (upd (z.2.2 43) (0 : Int32).toNatClampNeg (z.1 17)) (1 : Int32).toNatClampNeg (z.1 18)) (2 : Int32).toNatClampNeg (z.1 19)) (3 : Int32).toNatClampNeg (z.1 20)) (4 : Int32).toNatClampNeg (z.1 21))) 43 (upd (upd (upd (upd (upd (upd (z.2.2 43) (0 : Int32).toNatClampNeg (z.1 17)) (1 : Int32).toNatClampNeg (z.1 18)) (2 : Int32).toNatClampNeg (z.1 19)) (3 : Int32).toNatClampNeg (z.1 20)) (4 : Int32).toNatClampNeg (z.1 21)) (5 : Int32).toNatClampNeg (z.1 22))) 43 (upd (upd (upd (upd (upd (upd (upd (z.2.2 43) (0 : Int32).toNatClampNeg (z.1 17)) (1 : Int32).toNatClampNeg (z.1 18)) (2 : Int32).toNatClampNeg (z.1 19)) (3 : Int32).toNatClampNeg (z.1 20)) (4 : Int32).toNatClampNeg (z.1 21)) (5 : Int32).toNatClampNeg (z.1 22)) (6 : Int32).toNatClampNeg (z.1 23))))) H locs := X
      refine lv_aload_n hx hb dX8_tell_179 rfl (lv_at hl 0 rfl) ?_
      refine fG B X (LnX8_g L (z.1, z.2.1, (va_up (va_up (va_up (va_up (va_up (va_up (va_up z.2.2 43 (upd (z.2.2 43) (0 : Int32).toNatClampNeg (z.1 17))) 43 (upd (upd (z.2.2 43) (0 : Int32).toNatClampNeg (z.1 17)) (1 : Int32).toNatClampNeg (z.1 18))) 43 (upd (upd (upd (z.2.2 43) (0 : Int32).toNatClampNeg (z.1 17)) (1 : Int32).toNatClampNeg (z.1 18)) (2 : Int32).toNatClampNeg (z.1 19))) 43 (upd (upd (upd (upd (z.2.2 43) (0 : Int32).toNatClampNeg (z.1 17)) (1 : Int32).toNatClampNeg (z.1 18)) (2 : Int32).toNatClampNeg (z.1 19)) (3 : Int32).toNatClampNeg (z.1 20))) 43 (upd (upd (upd (upd (upd (z.2.2 43) (0 : Int32).toNatClampNeg (z.1 17)) (1 : Int32).toNatClampNeg (z.1 18)) (2 : Int32).toNatClampNeg (z.1 19)) (3 : Int32).toNatClampNeg (z.1 20)) (4 : Int32).toNatClampNeg (z.1 21))) 43 (upd (upd (upd (upd (upd (upd (z.2.2 43) (0 : Int32).toNatClampNeg (z.1 17)) (1 : Int32).toNatClampNeg (z.1 18)) (2 : Int32).toNatClampNeg (z.1 19)) (3 : Int32).toNatClampNeg (z.1 20)) (4 : Int32).toNatClampNeg (z.1 21)) (5 : Int32).toNatClampNeg (z.1 22))) 43 (upd (upd (upd (upd (upd (upd (upd (z.2.2 43) (0 : Int32).toNatClampNeg (z.1 17)) (1 : Int32).toNatClampNeg (z.1 18)) (2 : Int32).toNatClampNeg (z.1 19)) (3 : Int32).toNatClampNeg (z.1 20)) (4 : Int32).toNatClampNeg (z.1 21)) (5 : Int32).toNatClampNeg (z.1 22)) (6 : Int32).toNatClampNeg (z.1 23))))) 43 rfl inTX8 (by decide) kw890 rfl dX8_tell_180 ?_
      refine lv_bipush (v := 7) hx hb dX8_tell_183 (by decide) ?_
      refine lv_aload_n hx hb dX8_tell_185 rfl (lv_at hl 0 rfl) ?_
      refine fG B X (LnX8_g L (z.1, z.2.1, (va_up (va_up (va_up (va_up (va_up (va_up (va_up z.2.2 43 (upd (z.2.2 43) (0 : Int32).toNatClampNeg (z.1 17))) 43 (upd (upd (z.2.2 43) (0 : Int32).toNatClampNeg (z.1 17)) (1 : Int32).toNatClampNeg (z.1 18))) 43 (upd (upd (upd (z.2.2 43) (0 : Int32).toNatClampNeg (z.1 17)) (1 : Int32).toNatClampNeg (z.1 18)) (2 : Int32).toNatClampNeg (z.1 19))) 43 (upd (upd (upd (upd (z.2.2 43) (0 : Int32).toNatClampNeg (z.1 17)) (1 : Int32).toNatClampNeg (z.1 18)) (2 : Int32).toNatClampNeg (z.1 19)) (3 : Int32).toNatClampNeg (z.1 20))) 43 (upd (upd (upd (upd (upd (z.2.2 43) (0 : Int32).toNatClampNeg (z.1 17)) (1 : Int32).toNatClampNeg (z.1 18)) (2 : Int32).toNatClampNeg (z.1 19)) (3 : Int32).toNatClampNeg (z.1 20)) (4 : Int32).toNatClampNeg (z.1 21))) 43 (upd (upd (upd (upd (upd (upd (z.2.2 43) (0 : Int32).toNatClampNeg (z.1 17)) (1 : Int32).toNatClampNeg (z.1 18)) (2 : Int32).toNatClampNeg (z.1 19)) (3 : Int32).toNatClampNeg (z.1 20)) (4 : Int32).toNatClampNeg (z.1 21)) (5 : Int32).toNatClampNeg (z.1 22))) 43 (upd (upd (upd (upd (upd (upd (upd (z.2.2 43) (0 : Int32).toNatClampNeg (z.1 17)) (1 : Int32).toNatClampNeg (z.1 18)) (2 : Int32).toNatClampNeg (z.1 19)) (3 : Int32).toNatClampNeg (z.1 20)) (4 : Int32).toNatClampNeg (z.1 21)) (5 : Int32).toNatClampNeg (z.1 22)) (6 : Int32).toNatClampNeg (z.1 23))))) 24 rfl inTX8 (by decide) kw871 rfl dX8_tell_186 ?_
      refine aP B X (LnX8_a43 L (z.1, z.2.1, (va_up (va_up (va_up (va_up (va_up (va_up (va_up z.2.2 43 (upd (z.2.2 43) (0 : Int32).toNatClampNeg (z.1 17))) 43 (upd (upd (z.2.2 43) (0 : Int32).toNatClampNeg (z.1 17)) (1 : Int32).toNatClampNeg (z.1 18))) 43 (upd (upd (upd (z.2.2 43) (0 : Int32).toNatClampNeg (z.1 17)) (1 : Int32).toNatClampNeg (z.1 18)) (2 : Int32).toNatClampNeg (z.1 19))) 43 (upd (upd (upd (upd (z.2.2 43) (0 : Int32).toNatClampNeg (z.1 17)) (1 : Int32).toNatClampNeg (z.1 18)) (2 : Int32).toNatClampNeg (z.1 19)) (3 : Int32).toNatClampNeg (z.1 20))) 43 (upd (upd (upd (upd (upd (z.2.2 43) (0 : Int32).toNatClampNeg (z.1 17)) (1 : Int32).toNatClampNeg (z.1 18)) (2 : Int32).toNatClampNeg (z.1 19)) (3 : Int32).toNatClampNeg (z.1 20)) (4 : Int32).toNatClampNeg (z.1 21))) 43 (upd (upd (upd (upd (upd (upd (z.2.2 43) (0 : Int32).toNatClampNeg (z.1 17)) (1 : Int32).toNatClampNeg (z.1 18)) (2 : Int32).toNatClampNeg (z.1 19)) (3 : Int32).toNatClampNeg (z.1 20)) (4 : Int32).toNatClampNeg (z.1 21)) (5 : Int32).toNatClampNeg (z.1 22))) 43 (upd (upd (upd (upd (upd (upd (upd (z.2.2 43) (0 : Int32).toNatClampNeg (z.1 17)) (1 : Int32).toNatClampNeg (z.1 18)) (2 : Int32).toNatClampNeg (z.1 19)) (3 : Int32).toNatClampNeg (z.1 20)) (4 : Int32).toNatClampNeg (z.1 21)) (5 : Int32).toNatClampNeg (z.1 22)) (6 : Int32).toNatClampNeg (z.1 23))))) (LnX8_b43 L (z.1, z.2.1, (va_up (va_up (va_up (va_up (va_up (va_up (va_up z.2.2 43 (upd (z.2.2 43) (0 : Int32).toNatClampNeg (z.1 17))) 43 (upd (upd (z.2.2 43) (0 : Int32).toNatClampNeg (z.1 17)) (1 : Int32).toNatClampNeg (z.1 18))) 43 (upd (upd (upd (z.2.2 43) (0 : Int32).toNatClampNeg (z.1 17)) (1 : Int32).toNatClampNeg (z.1 18)) (2 : Int32).toNatClampNeg (z.1 19))) 43 (upd (upd (upd (upd (z.2.2 43) (0 : Int32).toNatClampNeg (z.1 17)) (1 : Int32).toNatClampNeg (z.1 18)) (2 : Int32).toNatClampNeg (z.1 19)) (3 : Int32).toNatClampNeg (z.1 20))) 43 (upd (upd (upd (upd (upd (z.2.2 43) (0 : Int32).toNatClampNeg (z.1 17)) (1 : Int32).toNatClampNeg (z.1 18)) (2 : Int32).toNatClampNeg (z.1 19)) (3 : Int32).toNatClampNeg (z.1 20)) (4 : Int32).toNatClampNeg (z.1 21))) 43 (upd (upd (upd (upd (upd (upd (z.2.2 43) (0 : Int32).toNatClampNeg (z.1 17)) (1 : Int32).toNatClampNeg (z.1 18)) (2 : Int32).toNatClampNeg (z.1 19)) (3 : Int32).toNatClampNeg (z.1 20)) (4 : Int32).toNatClampNeg (z.1 21)) (5 : Int32).toNatClampNeg (z.1 22))) 43 (upd (upd (upd (upd (upd (upd (upd (z.2.2 43) (0 : Int32).toNatClampNeg (z.1 17)) (1 : Int32).toNatClampNeg (z.1 18)) (2 : Int32).toNatClampNeg (z.1 19)) (3 : Int32).toNatClampNeg (z.1 20)) (4 : Int32).toNatClampNeg (z.1 21)) (5 : Int32).toNatClampNeg (z.1 22)) (6 : Int32).toNatClampNeg (z.1 23)))) _) 0 rfl (by decide) dX8_tell_189 (fun H locs X => ?_)
      have X : Hx A D S.heap (wf (z.1, z.2.1, (va_up (va_up (va_up (va_up (va_up (va_up (va_up (va_up z.2.2 43 (upd (z.2.2 43) (0 : Int32).toNatClampNeg (z.1 17))) 43 (upd (upd (z.2.2 43) (0 : Int32).toNatClampNeg (z.1 17)) (1 : Int32).toNatClampNeg (z.1 18))) 43 (upd (upd (upd (z.2.2 43) (0 : Int32).toNatClampNeg (z.1 17)) (1 : Int32).toNatClampNeg (z.1 18)) (2 : Int32).toNatClampNeg (z.1 19))) 43 (upd (upd (upd (upd (z.2.2 43) (0 : Int32).toNatClampNeg (z.1 17)) (1 : Int32).toNatClampNeg (z.1 18)) (2 : Int32).toNatClampNeg (z.1 19)) (3 : Int32).toNatClampNeg (z.1 20))) 43 (upd (upd (upd (upd (upd (z.2.2 43) (0 : Int32).toNatClampNeg (z.1 17)) (1 : Int32).toNatClampNeg (z.1 18)) (2 : Int32).toNatClampNeg (z.1 19)) (3 : Int32).toNatClampNeg (z.1 20)) (4 : Int32).toNatClampNeg (z.1 21))) 43 (upd (upd (upd (upd (upd (upd (z.2.2 43) (0 : Int32).toNatClampNeg (z.1 17)) (1 : Int32).toNatClampNeg (z.1 18)) (2 : Int32).toNatClampNeg (z.1 19)) (3 : Int32).toNatClampNeg (z.1 20)) (4 : Int32).toNatClampNeg (z.1 21)) (5 : Int32).toNatClampNeg (z.1 22))) 43 (upd (upd (upd (upd (upd (upd (upd (z.2.2 43) (0 : Int32).toNatClampNeg (z.1 17)) (1 : Int32).toNatClampNeg (z.1 18)) (2 : Int32).toNatClampNeg (z.1 19)) (3 : Int32).toNatClampNeg (z.1 20)) (4 : Int32).toNatClampNeg (z.1 21)) (5 : Int32).toNatClampNeg (z.1 22)) (6 : Int32).toNatClampNeg (z.1 23))) 43 (upd (upd (upd (upd (upd (upd (upd (upd (z.2.2 43) (0 : Int32).toNatClampNeg (z.1 17)) (1 : Int32).toNatClampNeg (z.1 18)) (2 : Int32).toNatClampNeg (z.1 19)) (3 : Int32).toNatClampNeg (z.1 20)) (4 : Int32).toNatClampNeg (z.1 21)) (5 : Int32).toNatClampNeg (z.1 22)) (6 : Int32).toNatClampNeg (z.1 23)) (7 : Int32).toNatClampNeg (z.1 24))))) H locs := X
      refine lv_aload_n hx hb dX8_tell_190 rfl (lv_at hl 0 rfl) ?_
      refine fG B X (LnX8_g L (z.1, z.2.1, (va_up (va_up (va_up (va_up (va_up (va_up (va_up (va_up z.2.2 43 (upd (z.2.2 43) (0 : Int32).toNatClampNeg (z.1 17))) 43 (upd (upd (z.2.2 43) (0 : Int32).toNatClampNeg (z.1 17)) (1 : Int32).toNatClampNeg (z.1 18))) 43 (upd (upd (upd (z.2.2 43) (0 : Int32).toNatClampNeg (z.1 17)) (1 : Int32).toNatClampNeg (z.1 18)) (2 : Int32).toNatClampNeg (z.1 19))) 43 (upd (upd (upd (upd (z.2.2 43) (0 : Int32).toNatClampNeg (z.1 17)) (1 : Int32).toNatClampNeg (z.1 18)) (2 : Int32).toNatClampNeg (z.1 19)) (3 : Int32).toNatClampNeg (z.1 20))) 43 (upd (upd (upd (upd (upd (z.2.2 43) (0 : Int32).toNatClampNeg (z.1 17)) (1 : Int32).toNatClampNeg (z.1 18)) (2 : Int32).toNatClampNeg (z.1 19)) (3 : Int32).toNatClampNeg (z.1 20)) (4 : Int32).toNatClampNeg (z.1 21))) 43 (upd (upd (upd (upd (upd (upd (z.2.2 43) (0 : Int32).toNatClampNeg (z.1 17)) (1 : Int32).toNatClampNeg (z.1 18)) (2 : Int32).toNatClampNeg (z.1 19)) (3 : Int32).toNatClampNeg (z.1 20)) (4 : Int32).toNatClampNeg (z.1 21)) (5 : Int32).toNatClampNeg (z.1 22))) 43 (upd (upd (upd (upd (upd (upd (upd (z.2.2 43) (0 : Int32).toNatClampNeg (z.1 17)) (1 : Int32).toNatClampNeg (z.1 18)) (2 : Int32).toNatClampNeg (z.1 19)) (3 : Int32).toNatClampNeg (z.1 20)) (4 : Int32).toNatClampNeg (z.1 21)) (5 : Int32).toNatClampNeg (z.1 22)) (6 : Int32).toNatClampNeg (z.1 23))) 43 (upd (upd (upd (upd (upd (upd (upd (upd (z.2.2 43) (0 : Int32).toNatClampNeg (z.1 17)) (1 : Int32).toNatClampNeg (z.1 18)) (2 : Int32).toNatClampNeg (z.1 19)) (3 : Int32).toNatClampNeg (z.1 20)) (4 : Int32).toNatClampNeg (z.1 21)) (5 : Int32).toNatClampNeg (z.1 22)) (6 : Int32).toNatClampNeg (z.1 23)) (7 : Int32).toNatClampNeg (z.1 24))))) 43 rfl inTX8 (by decide) kw890 rfl dX8_tell_191 ?_
      refine lv_bipush (v := 8) hx hb dX8_tell_194 (by decide) ?_
      refine lv_aload_n hx hb dX8_tell_196 rfl (lv_at hl 0 rfl) ?_
      refine fG B X (LnX8_g L (z.1, z.2.1, (va_up (va_up (va_up (va_up (va_up (va_up (va_up (va_up z.2.2 43 (upd (z.2.2 43) (0 : Int32).toNatClampNeg (z.1 17))) 43 (upd (upd (z.2.2 43) (0 : Int32).toNatClampNeg (z.1 17)) (1 : Int32).toNatClampNeg (z.1 18))) 43 (upd (upd (upd (z.2.2 43) (0 : Int32).toNatClampNeg (z.1 17)) (1 : Int32).toNatClampNeg (z.1 18)) (2 : Int32).toNatClampNeg (z.1 19))) 43 (upd (upd (upd (upd (z.2.2 43) (0 : Int32).toNatClampNeg (z.1 17)) (1 : Int32).toNatClampNeg (z.1 18)) (2 : Int32).toNatClampNeg (z.1 19)) (3 : Int32).toNatClampNeg (z.1 20))) 43 (upd (upd (upd (upd (upd (z.2.2 43) (0 : Int32).toNatClampNeg (z.1 17)) (1 : Int32).toNatClampNeg (z.1 18)) (2 : Int32).toNatClampNeg (z.1 19)) (3 : Int32).toNatClampNeg (z.1 20)) (4 : Int32).toNatClampNeg (z.1 21))) 43 (upd (upd (upd (upd (upd (upd (z.2.2 43) (0 : Int32).toNatClampNeg (z.1 17)) (1 : Int32).toNatClampNeg (z.1 18)) (2 : Int32).toNatClampNeg (z.1 19)) (3 : Int32).toNatClampNeg (z.1 20)) (4 : Int32).toNatClampNeg (z.1 21)) (5 : Int32).toNatClampNeg (z.1 22))) 43 (upd (upd (upd (upd (upd (upd (upd (z.2.2 43) (0 : Int32).toNatClampNeg (z.1 17)) (1 : Int32).toNatClampNeg (z.1 18)) (2 : Int32).toNatClampNeg (z.1 19)) (3 : Int32).toNatClampNeg (z.1 20)) (4 : Int32).toNatClampNeg (z.1 21)) (5 : Int32).toNatClampNeg (z.1 22)) (6 : Int32).toNatClampNeg (z.1 23))) 43 (upd (upd (upd (upd (upd (upd (upd (upd (z.2.2 43) (0 : Int32).toNatClampNeg (z.1 17)) (1 : Int32).toNatClampNeg (z.1 18)) (2 : Int32).toNatClampNeg (z.1 19)) (3 : Int32).toNatClampNeg (z.1 20)) (4 : Int32).toNatClampNeg (z.1 21)) (5 : Int32).toNatClampNeg (z.1 22)) (6 : Int32).toNatClampNeg (z.1 23)) (7 : Int32).toNatClampNeg (z.1 24))))) 25 rfl inTX8 (by decide) kw872 rfl dX8_tell_197 ?_
      refine aP B X (LnX8_a43 L (z.1, z.2.1, (va_up (va_up (va_up (va_up (va_up (va_up (va_up (va_up z.2.2 43 (upd (z.2.2 43) (0 : Int32).toNatClampNeg (z.1 17))) 43 (upd (upd (z.2.2 43) (0 : Int32).toNatClampNeg (z.1 17)) (1 : Int32).toNatClampNeg (z.1 18))) 43 (upd (upd (upd (z.2.2 43) (0 : Int32).toNatClampNeg (z.1 17)) (1 : Int32).toNatClampNeg (z.1 18)) (2 : Int32).toNatClampNeg (z.1 19))) 43 (upd (upd (upd (upd (z.2.2 43) (0 : Int32).toNatClampNeg (z.1 17)) (1 : Int32).toNatClampNeg (z.1 18)) (2 : Int32).toNatClampNeg (z.1 19)) (3 : Int32).toNatClampNeg (z.1 20))) 43 (upd (upd (upd (upd (upd (z.2.2 43) (0 : Int32).toNatClampNeg (z.1 17)) (1 : Int32).toNatClampNeg (z.1 18)) (2 : Int32).toNatClampNeg (z.1 19)) (3 : Int32).toNatClampNeg (z.1 20)) (4 : Int32).toNatClampNeg (z.1 21))) 43 (upd (upd (upd (upd (upd (upd (z.2.2 43) (0 : Int32).toNatClampNeg (z.1 17)) (1 : Int32).toNatClampNeg (z.1 18)) (2 : Int32).toNatClampNeg (z.1 19)) (3 : Int32).toNatClampNeg (z.1 20)) (4 : Int32).toNatClampNeg (z.1 21)) (5 : Int32).toNatClampNeg (z.1 22))) 43 (upd (upd (upd (upd (upd (upd (upd (z.2.2 43) (0 : Int32).toNatClampNeg (z.1 17)) (1 : Int32).toNatClampNeg (z.1 18)) (2 : Int32).toNatClampNeg (z.1 19)) (3 : Int32).toNatClampNeg (z.1 20)) (4 : Int32).toNatClampNeg (z.1 21)) (5 : Int32).toNatClampNeg (z.1 22)) (6 : Int32).toNatClampNeg (z.1 23))) 43 (upd (upd (upd (upd (upd (upd (upd (upd (z.2.2 43) (0 : Int32).toNatClampNeg (z.1 17)) (1 : Int32).toNatClampNeg (z.1 18)) (2 : Int32).toNatClampNeg (z.1 19)) (3 : Int32).toNatClampNeg (z.1 20)) (4 : Int32).toNatClampNeg (z.1 21)) (5 : Int32).toNatClampNeg (z.1 22)) (6 : Int32).toNatClampNeg (z.1 23)) (7 : Int32).toNatClampNeg (z.1 24))))) (LnX8_b43 L (z.1, z.2.1, (va_up (va_up (va_up (va_up (va_up (va_up (va_up (va_up z.2.2 43 (upd (z.2.2 43) (0 : Int32).toNatClampNeg (z.1 17))) 43 (upd (upd (z.2.2 43) (0 : Int32).toNatClampNeg (z.1 17)) (1 : Int32).toNatClampNeg (z.1 18))) 43 (upd (upd (upd (z.2.2 43) (0 : Int32).toNatClampNeg (z.1 17)) (1 : Int32).toNatClampNeg (z.1 18)) (2 : Int32).toNatClampNeg (z.1 19))) 43 (upd (upd (upd (upd (z.2.2 43) (0 : Int32).toNatClampNeg (z.1 17)) (1 : Int32).toNatClampNeg (z.1 18)) (2 : Int32).toNatClampNeg (z.1 19)) (3 : Int32).toNatClampNeg (z.1 20))) 43 (upd (upd (upd (upd (upd (z.2.2 43) (0 : Int32).toNatClampNeg (z.1 17)) (1 : Int32).toNatClampNeg (z.1 18)) (2 : Int32).toNatClampNeg (z.1 19)) (3 : Int32).toNatClampNeg (z.1 20)) (4 : Int32).toNatClampNeg (z.1 21))) 43 (upd (upd (upd (upd (upd (upd (z.2.2 43) (0 : Int32).toNatClampNeg (z.1 17)) (1 : Int32).toNatClampNeg (z.1 18)) (2 : Int32).toNatClampNeg (z.1 19)) (3 : Int32).toNatClampNeg (z.1 20)) (4 : Int32).toNatClampNeg (z.1 21)) (5 : Int32).toNatClampNeg (z.1 22))) 43 (upd (upd (upd (upd (upd (upd (upd (z.2.2 43) (0 : Int32).toNatClampNeg (z.1 17)) (1 : Int32).toNatClampNeg (z.1 18)) (2 : Int32).toNatClampNeg (z.1 19)) (3 : Int32).toNatClampNeg (z.1 20)) (4 : Int32).toNatClampNeg (z.1 21)) (5 : Int32).toNatClampNeg (z.1 22)) (6 : Int32).toNatClampNeg (z.1 23))) 43 (upd (upd (upd (upd (upd (upd (upd (upd (z.2.2 43) (0 : Int32).toNatClampNeg (z.1 17)) (1 : Int32).toNatClampNeg (z.1 18)) (2 : Int32).toNatClampNeg (z.1 19)) (3 : Int32).toNatClampNeg (z.1 20)) (4 : Int32).toNatClampNeg (z.1 21)) (5 : Int32).toNatClampNeg (z.1 22)) (6 : Int32).toNatClampNeg (z.1 23)) (7 : Int32).toNatClampNeg (z.1 24)))) _) 0 rfl (by decide) dX8_tell_200 (fun H locs X => ?_)
      have X : Hx A D S.heap (wf (z.1, z.2.1, (va_up (va_up (va_up (va_up (va_up (va_up (va_up (va_up (va_up z.2.2 43 (upd (z.2.2 43) (0 : Int32).toNatClampNeg (z.1 17))) 43 (upd (upd (z.2.2 43) (0 : Int32).toNatClampNeg (z.1 17)) (1 : Int32).toNatClampNeg (z.1 18))) 43 (upd (upd (upd (z.2.2 43) (0 : Int32).toNatClampNeg (z.1 17)) (1 : Int32).toNatClampNeg (z.1 18)) (2 : Int32).toNatClampNeg (z.1 19))) 43 (upd (upd (upd (upd (z.2.2 43) (0 : Int32).toNatClampNeg (z.1 17)) (1 : Int32).toNatClampNeg (z.1 18)) (2 : Int32).toNatClampNeg (z.1 19)) (3 : Int32).toNatClampNeg (z.1 20))) 43 (upd (upd (upd (upd (upd (z.2.2 43) (0 : Int32).toNatClampNeg (z.1 17)) (1 : Int32).toNatClampNeg (z.1 18)) (2 : Int32).toNatClampNeg (z.1 19)) (3 : Int32).toNatClampNeg (z.1 20)) (4 : Int32).toNatClampNeg (z.1 21))) 43 (upd (upd (upd (upd (upd (upd (z.2.2 43) (0 : Int32).toNatClampNeg (z.1 17)) (1 : Int32).toNatClampNeg (z.1 18)) (2 : Int32).toNatClampNeg (z.1 19)) (3 : Int32).toNatClampNeg (z.1 20)) (4 : Int32).toNatClampNeg (z.1 21)) (5 : Int32).toNatClampNeg (z.1 22))) 43 (upd (upd (upd (upd (upd (upd (upd (z.2.2 43) (0 : Int32).toNatClampNeg (z.1 17)) (1 : Int32).toNatClampNeg (z.1 18)) (2 : Int32).toNatClampNeg (z.1 19)) (3 : Int32).toNatClampNeg (z.1 20)) (4 : Int32).toNatClampNeg (z.1 21)) (5 : Int32).toNatClampNeg (z.1 22)) (6 : Int32).toNatClampNeg (z.1 23))) 43 (upd (upd (upd (upd (upd (upd (upd (upd (z.2.2 43) (0 : Int32).toNatClampNeg (z.1 17)) (1 : Int32).toNatClampNeg (z.1 18)) (2 : Int32).toNatClampNeg (z.1 19)) (3 : Int32).toNatClampNeg (z.1 20)) (4 : Int32).toNatClampNeg (z.1 21)) (5 : Int32).toNatClampNeg (z.1 22)) (6 : Int32).toNatClampNeg (z.1 23)) (7 : Int32).toNatClampNeg (z.1 24))) 43 (upd (upd (upd (upd (upd (upd (upd (upd (upd (z.2.2 43) (0 : Int32).toNatClampNeg (z.1 17)) (1 : Int32).toNatClampNeg (z.1 18)) (2 : Int32).toNatClampNeg (z.1 19)) (3 : Int32).toNatClampNeg (z.1 20)) (4 : Int32).toNatClampNeg (z.1 21)) (5 : Int32).toNatClampNeg (z.1 22)) (6 : Int32).toNatClampNeg (z.1 23)) (7 : Int32).toNatClampNeg (z.1 24)) (8 : Int32).toNatClampNeg (z.1 25))))) H locs := X
      refine lv_aload_n hx hb dX8_tell_201 rfl (lv_at hl 0 rfl) ?_
      refine fG B X (LnX8_g L (z.1, z.2.1, (va_up (va_up (va_up (va_up (va_up (va_up (va_up (va_up (va_up z.2.2 43 (upd (z.2.2 43) (0 : Int32).toNatClampNeg (z.1 17))) 43 (upd (upd (z.2.2 43) (0 : Int32).toNatClampNeg (z.1 17)) (1 : Int32).toNatClampNeg (z.1 18))) 43 (upd (upd (upd (z.2.2 43) (0 : Int32).toNatClampNeg (z.1 17)) (1 : Int32).toNatClampNeg (z.1 18)) (2 : Int32).toNatClampNeg (z.1 19))) 43 (upd (upd (upd (upd (z.2.2 43) (0 : Int32).toNatClampNeg (z.1 17)) (1 : Int32).toNatClampNeg (z.1 18)) (2 : Int32).toNatClampNeg (z.1 19)) (3 : Int32).toNatClampNeg (z.1 20))) 43 (upd (upd (upd (upd (upd (z.2.2 43) (0 : Int32).toNatClampNeg (z.1 17)) (1 : Int32).toNatClampNeg (z.1 18)) (2 : Int32).toNatClampNeg (z.1 19)) (3 : Int32).toNatClampNeg (z.1 20)) (4 : Int32).toNatClampNeg (z.1 21))) 43 (upd (upd (upd (upd (upd (upd (z.2.2 43) (0 : Int32).toNatClampNeg (z.1 17)) (1 : Int32).toNatClampNeg (z.1 18)) (2 : Int32).toNatClampNeg (z.1 19)) (3 : Int32).toNatClampNeg (z.1 20)) (4 : Int32).toNatClampNeg (z.1 21)) (5 : Int32).toNatClampNeg (z.1 22))) 43 (upd (upd (upd (upd (upd (upd (upd (z.2.2 43) (0 : Int32).toNatClampNeg (z.1 17)) (1 : Int32).toNatClampNeg (z.1 18)) (2 : Int32).toNatClampNeg (z.1 19)) (3 : Int32).toNatClampNeg (z.1 20)) (4 : Int32).toNatClampNeg (z.1 21)) (5 : Int32).toNatClampNeg (z.1 22)) (6 : Int32).toNatClampNeg (z.1 23))) 43 (upd (upd (upd (upd (upd (upd (upd (upd (z.2.2 43) (0 : Int32).toNatClampNeg (z.1 17)) (1 : Int32).toNatClampNeg (z.1 18)) (2 : Int32).toNatClampNeg (z.1 19)) (3 : Int32).toNatClampNeg (z.1 20)) (4 : Int32).toNatClampNeg (z.1 21)) (5 : Int32).toNatClampNeg (z.1 22)) (6 : Int32).toNatClampNeg (z.1 23)) (7 : Int32).toNatClampNeg (z.1 24))) 43 (upd (upd (upd (upd (upd (upd (upd (upd (upd (z.2.2 43) (0 : Int32).toNatClampNeg (z.1 17)) (1 : Int32).toNatClampNeg (z.1 18)) (2 : Int32).toNatClampNeg (z.1 19)) (3 : Int32).toNatClampNeg (z.1 20)) (4 : Int32).toNatClampNeg (z.1 21)) (5 : Int32).toNatClampNeg (z.1 22)) (6 : Int32).toNatClampNeg (z.1 23)) (7 : Int32).toNatClampNeg (z.1 24)) (8 : Int32).toNatClampNeg (z.1 25))))) 43 rfl inTX8 (by decide) kw890 rfl dX8_tell_202 ?_
      refine lv_bipush (v := 9) hx hb dX8_tell_205 (by decide) ?_
      refine lv_aload_n hx hb dX8_tell_207 rfl (lv_at hl 0 rfl) ?_
      refine fG B X (LnX8_g L (z.1, z.2.1, (va_up (va_up (va_up (va_up (va_up (va_up (va_up (va_up (va_up z.2.2 43 (upd (z.2.2 43) (0 : Int32).toNatClampNeg (z.1 17))) 43 (upd (upd (z.2.2 43) (0 : Int32).toNatClampNeg (z.1 17)) (1 : Int32).toNatClampNeg (z.1 18))) 43 (upd (upd (upd (z.2.2 43) (0 : Int32).toNatClampNeg (z.1 17)) (1 : Int32).toNatClampNeg (z.1 18)) (2 : Int32).toNatClampNeg (z.1 19))) 43 (upd (upd (upd (upd (z.2.2 43) (0 : Int32).toNatClampNeg (z.1 17)) (1 : Int32).toNatClampNeg (z.1 18)) (2 : Int32).toNatClampNeg (z.1 19)) (3 : Int32).toNatClampNeg (z.1 20))) 43 (upd (upd (upd (upd (upd (z.2.2 43) (0 : Int32).toNatClampNeg (z.1 17)) (1 : Int32).toNatClampNeg (z.1 18)) (2 : Int32).toNatClampNeg (z.1 19)) (3 : Int32).toNatClampNeg (z.1 20)) (4 : Int32).toNatClampNeg (z.1 21))) 43 (upd (upd (upd (upd (upd (upd (z.2.2 43) (0 : Int32).toNatClampNeg (z.1 17)) (1 : Int32).toNatClampNeg (z.1 18)) (2 : Int32).toNatClampNeg (z.1 19)) (3 : Int32).toNatClampNeg (z.1 20)) (4 : Int32).toNatClampNeg (z.1 21)) (5 : Int32).toNatClampNeg (z.1 22))) 43 (upd (upd (upd (upd (upd (upd (upd (z.2.2 43) (0 : Int32).toNatClampNeg (z.1 17)) (1 : Int32).toNatClampNeg (z.1 18)) (2 : Int32).toNatClampNeg (z.1 19)) (3 : Int32).toNatClampNeg (z.1 20)) (4 : Int32).toNatClampNeg (z.1 21)) (5 : Int32).toNatClampNeg (z.1 22)) (6 : Int32).toNatClampNeg (z.1 23))) 43 (upd (upd (upd (upd (upd (upd (upd (upd (z.2.2 43) (0 : Int32).toNatClampNeg (z.1 17)) (1 : Int32).toNatClampNeg (z.1 18)) (2 : Int32).toNatClampNeg (z.1 19)) (3 : Int32).toNatClampNeg (z.1 20)) (4 : Int32).toNatClampNeg (z.1 21)) (5 : Int32).toNatClampNeg (z.1 22)) (6 : Int32).toNatClampNeg (z.1 23)) (7 : Int32).toNatClampNeg (z.1 24))) 43 (upd (upd (upd (upd (upd (upd (upd (upd (upd (z.2.2 43) (0 : Int32).toNatClampNeg (z.1 17)) (1 : Int32).toNatClampNeg (z.1 18)) (2 : Int32).toNatClampNeg (z.1 19)) (3 : Int32).toNatClampNeg (z.1 20)) (4 : Int32).toNatClampNeg (z.1 21)) (5 : Int32).toNatClampNeg (z.1 22)) (6 : Int32).toNatClampNeg (z.1 23)) (7 : Int32).toNatClampNeg (z.1 24)) (8 : Int32).toNatClampNeg (z.1 25))))) 26 rfl inTX8 (by decide) kw873 rfl dX8_tell_208 ?_
      refine aP B X (LnX8_a43 L (z.1, z.2.1, (va_up (va_up (va_up (va_up (va_up (va_up (va_up (va_up (va_up z.2.2 43 (upd (z.2.2 43) (0 : Int32).toNatClampNeg (z.1 17))) 43 (upd (upd (z.2.2 43) (0 : Int32).toNatClampNeg (z.1 17)) (1 : Int32).toNatClampNeg (z.1 18))) 43 (upd (upd (upd (z.2.2 43) (0 : Int32).toNatClampNeg (z.1 17)) (1 : Int32).toNatClampNeg (z.1 18)) (2 : Int32).toNatClampNeg (z.1 19))) 43 (upd (upd (upd (upd (z.2.2 43) (0 : Int32).toNatClampNeg (z.1 17)) (1 : Int32).toNatClampNeg (z.1 18)) (2 : Int32).toNatClampNeg (z.1 19)) (3 : Int32).toNatClampNeg (z.1 20))) 43 (upd (upd (upd (upd (upd (z.2.2 43) (0 : Int32).toNatClampNeg (z.1 17)) (1 : Int32).toNatClampNeg (z.1 18)) (2 : Int32).toNatClampNeg (z.1 19)) (3 : Int32).toNatClampNeg (z.1 20)) (4 : Int32).toNatClampNeg (z.1 21))) 43 (upd (upd (upd (upd (upd (upd (z.2.2 43) (0 : Int32).toNatClampNeg (z.1 17)) (1 : Int32).toNatClampNeg (z.1 18)) (2 : Int32).toNatClampNeg (z.1 19)) (3 : Int32).toNatClampNeg (z.1 20)) (4 : Int32).toNatClampNeg (z.1 21)) (5 : Int32).toNatClampNeg (z.1 22))) 43 (upd (upd (upd (upd (upd (upd (upd (z.2.2 43) (0 : Int32).toNatClampNeg (z.1 17)) (1 : Int32).toNatClampNeg (z.1 18)) (2 : Int32).toNatClampNeg (z.1 19)) (3 : Int32).toNatClampNeg (z.1 20)) (4 : Int32).toNatClampNeg (z.1 21)) (5 : Int32).toNatClampNeg (z.1 22)) (6 : Int32).toNatClampNeg (z.1 23))) 43 (upd (upd (upd (upd (upd (upd (upd (upd (z.2.2 43) (0 : Int32).toNatClampNeg (z.1 17)) (1 : Int32).toNatClampNeg (z.1 18)) (2 : Int32).toNatClampNeg (z.1 19)) (3 : Int32).toNatClampNeg (z.1 20)) (4 : Int32).toNatClampNeg (z.1 21)) (5 : Int32).toNatClampNeg (z.1 22)) (6 : Int32).toNatClampNeg (z.1 23)) (7 : Int32).toNatClampNeg (z.1 24))) 43 (upd (upd (upd (upd (upd (upd (upd (upd (upd (z.2.2 43) (0 : Int32).toNatClampNeg (z.1 17)) (1 : Int32).toNatClampNeg (z.1 18)) (2 : Int32).toNatClampNeg (z.1 19)) (3 : Int32).toNatClampNeg (z.1 20)) (4 : Int32).toNatClampNeg (z.1 21)) (5 : Int32).toNatClampNeg (z.1 22)) (6 : Int32).toNatClampNeg (z.1 23)) (7 : Int32).toNatClampNeg (z.1 24)) (8 : Int32).toNatClampNeg (z.1 25))))) (LnX8_b43 L (z.1, z.2.1, (va_up (va_up (va_up (va_up (va_up (va_up (va_up (va_up (va_up z.2.2 43 (upd (z.2.2 43) (0 : Int32).toNatClampNeg (z.1 17))) 43 (upd (upd (z.2.2 43) (0 : Int32).toNatClampNeg (z.1 17)) (1 : Int32).toNatClampNeg (z.1 18))) 43 (upd (upd (upd (z.2.2 43) (0 : Int32).toNatClampNeg (z.1 17)) (1 : Int32).toNatClampNeg (z.1 18)) (2 : Int32).toNatClampNeg (z.1 19))) 43 (upd (upd (upd (upd (z.2.2 43) (0 : Int32).toNatClampNeg (z.1 17)) (1 : Int32).toNatClampNeg (z.1 18)) (2 : Int32).toNatClampNeg (z.1 19)) (3 : Int32).toNatClampNeg (z.1 20))) 43 (upd (upd (upd (upd (upd (z.2.2 43) (0 : Int32).toNatClampNeg (z.1 17)) (1 : Int32).toNatClampNeg (z.1 18)) (2 : Int32).toNatClampNeg (z.1 19)) (3 : Int32).toNatClampNeg (z.1 20)) (4 : Int32).toNatClampNeg (z.1 21))) 43 (upd (upd (upd (upd (upd (upd (z.2.2 43) (0 : Int32).toNatClampNeg (z.1 17)) (1 : Int32).toNatClampNeg (z.1 18)) (2 : Int32).toNatClampNeg (z.1 19)) (3 : Int32).toNatClampNeg (z.1 20)) (4 : Int32).toNatClampNeg (z.1 21)) (5 : Int32).toNatClampNeg (z.1 22))) 43 (upd (upd (upd (upd (upd (upd (upd (z.2.2 43) (0 : Int32).toNatClampNeg (z.1 17)) (1 : Int32).toNatClampNeg (z.1 18)) (2 : Int32).toNatClampNeg (z.1 19)) (3 : Int32).toNatClampNeg (z.1 20)) (4 : Int32).toNatClampNeg (z.1 21)) (5 : Int32).toNatClampNeg (z.1 22)) (6 : Int32).toNatClampNeg (z.1 23))) 43 (upd (upd (upd (upd (upd (upd (upd (upd (z.2.2 43) (0 : Int32).toNatClampNeg (z.1 17)) (1 : Int32).toNatClampNeg (z.1 18)) (2 : Int32).toNatClampNeg (z.1 19)) (3 : Int32).toNatClampNeg (z.1 20)) (4 : Int32).toNatClampNeg (z.1 21)) (5 : Int32).toNatClampNeg (z.1 22)) (6 : Int32).toNatClampNeg (z.1 23)) (7 : Int32).toNatClampNeg (z.1 24))) 43 (upd (upd (upd (upd (upd (upd (upd (upd (upd (z.2.2 43) (0 : Int32).toNatClampNeg (z.1 17)) (1 : Int32).toNatClampNeg (z.1 18)) (2 : Int32).toNatClampNeg (z.1 19)) (3 : Int32).toNatClampNeg (z.1 20)) (4 : Int32).toNatClampNeg (z.1 21)) (5 : Int32).toNatClampNeg (z.1 22)) (6 : Int32).toNatClampNeg (z.1 23)) (7 : Int32).toNatClampNeg (z.1 24)) (8 : Int32).toNatClampNeg (z.1 25)))) _) 0 rfl (by decide) dX8_tell_211 (fun H locs X => ?_)
      have X : Hx A D S.heap (wf (z.1, z.2.1, (va_up (va_up (va_up (va_up (va_up (va_up (va_up (va_up (va_up (va_up z.2.2 43 (upd (z.2.2 43) (0 : Int32).toNatClampNeg (z.1 17))) 43 (upd (upd (z.2.2 43) (0 : Int32).toNatClampNeg (z.1 17)) (1 : Int32).toNatClampNeg (z.1 18))) 43 (upd (upd (upd (z.2.2 43) (0 : Int32).toNatClampNeg (z.1 17)) (1 : Int32).toNatClampNeg (z.1 18)) (2 : Int32).toNatClampNeg (z.1 19))) 43 (upd (upd (upd (upd (z.2.2 43) (0 : Int32).toNatClampNeg (z.1 17)) (1 : Int32).toNatClampNeg (z.1 18)) (2 : Int32).toNatClampNeg (z.1 19)) (3 : Int32).toNatClampNeg (z.1 20))) 43 (upd (upd (upd (upd (upd (z.2.2 43) (0 : Int32).toNatClampNeg (z.1 17)) (1 : Int32).toNatClampNeg (z.1 18)) (2 : Int32).toNatClampNeg (z.1 19)) (3 : Int32).toNatClampNeg (z.1 20)) (4 : Int32).toNatClampNeg (z.1 21))) 43 (upd (upd (upd (upd (upd (upd (z.2.2 43) (0 : Int32).toNatClampNeg (z.1 17)) (1 : Int32).toNatClampNeg (z.1 18)) (2 : Int32).toNatClampNeg (z.1 19)) (3 : Int32).toNatClampNeg (z.1 20)) (4 : Int32).toNatClampNeg (z.1 21)) (5 : Int32).toNatClampNeg (z.1 22))) 43 (upd (upd (upd (upd (upd (upd (upd (z.2.2 43) (0 : Int32).toNatClampNeg (z.1 17)) (1 : Int32).toNatClampNeg (z.1 18)) (2 : Int32).toNatClampNeg (z.1 19)) (3 : Int32).toNatClampNeg (z.1 20)) (4 : Int32).toNatClampNeg (z.1 21)) (5 : Int32).toNatClampNeg (z.1 22)) (6 : Int32).toNatClampNeg (z.1 23))) 43 (upd (upd (upd (upd (upd (upd (upd (upd (z.2.2 43) (0 : Int32).toNatClampNeg (z.1 17)) (1 : Int32).toNatClampNeg (z.1 18)) (2 : Int32).toNatClampNeg (z.1 19)) (3 : Int32).toNatClampNeg (z.1 20)) (4 : Int32).toNatClampNeg (z.1 21)) (5 : Int32).toNatClampNeg (z.1 22)) (6 : Int32).toNatClampNeg (z.1 23)) (7 : Int32).toNatClampNeg (z.1 24))) 43 (upd (upd (upd (upd (upd (upd (upd (upd (upd (z.2.2 43) (0 : Int32).toNatClampNeg (z.1 17)) (1 : Int32).toNatClampNeg (z.1 18)) (2 : Int32).toNatClampNeg (z.1 19)) (3 : Int32).toNatClampNeg (z.1 20)) (4 : Int32).toNatClampNeg (z.1 21)) (5 : Int32).toNatClampNeg (z.1 22)) (6 : Int32).toNatClampNeg (z.1 23)) (7 : Int32).toNatClampNeg (z.1 24)) (8 : Int32).toNatClampNeg (z.1 25))) 43 (upd (upd (upd (upd (upd (upd (upd (upd (upd (upd (z.2.2 43) (0 : Int32).toNatClampNeg (z.1 17)) (1 : Int32).toNatClampNeg (z.1 18)) (2 : Int32).toNatClampNeg (z.1 19)) (3 : Int32).toNatClampNeg (z.1 20)) (4 : Int32).toNatClampNeg (z.1 21)) (5 : Int32).toNatClampNeg (z.1 22)) (6 : Int32).toNatClampNeg (z.1 23)) (7 : Int32).toNatClampNeg (z.1 24)) (8 : Int32).toNatClampNeg (z.1 25)) (9 : Int32).toNatClampNeg (z.1 26))))) H locs := X
      exact rV B X (congrArg wf (Option.some.inj h)) dX8_tell_212
    · have h := ie h hc1
      refine lv_aload_n hx hb dX8_tell_66 rfl (lv_at hl 0 rfl) ?_
      refine fG B X (LnX8_g L z) 46 rfl inTX8 (by decide) kw893 rfl dX8_tell_67 ?_
      refine lv_iload_n hx hb dX8_tell_70 rfl (lv_at hl 1 rfl) ?_
      refine lv_aload_n hx hb dX8_tell_71 rfl (lv_at hl 0 rfl) ?_
      refine fG B X (LnX8_g L z) 33 rfl inTX8 (by decide) kw880 rfl dX8_tell_72 ?_
      refine lv_iload_n hx hb dX8_tell_75 rfl (lv_at hl 1 rfl) ?_
      by_cases hc12 : (x1 < 0 ∨ 512 ≤ x1.toNatClampNeg)
      · cases it h hc12
      have h := ie h hc12
      refine aG B X (LnX8_a33 L z) 0 rfl hc12 dX8_tell_76 ?_
      by_cases hc13 : (x1 < 0 ∨ 512 ≤ x1.toNatClampNeg)
      · cases it h hc13
      have h := ie h hc13
      refine aP B X (LnX8_a46 L z) (LnX8_b46 L z _) 0 rfl hc13 dX8_tell_77 (fun H locs X => ?_)
      have X : Hx A D S.heap (wf (z.1, z.2.1, (va_up z.2.2 46 (upd (z.2.2 46) x1.toNatClampNeg ((z.2.2 33) x1.toNatClampNeg))))) H locs := X
      refine lv_aload_n hx hb dX8_tell_78 rfl (lv_at hl 0 rfl) ?_
      refine fG B X (LnX8_g L (z.1, z.2.1, (va_up z.2.2 46 (upd (z.2.2 46) x1.toNatClampNeg ((z.2.2 33) x1.toNatClampNeg))))) 47 rfl inTX8 (by decide) kw894 rfl dX8_tell_79 ?_
      refine lv_iload_n hx hb dX8_tell_82 rfl (lv_at hl 1 rfl) ?_
      refine lv_aload_n hx hb dX8_tell_83 rfl (lv_at hl 0 rfl) ?_
      refine fG B X (LnX8_g L (z.1, z.2.1, (va_up z.2.2 46 (upd (z.2.2 46) x1.toNatClampNeg ((z.2.2 33) x1.toNatClampNeg))))) 34 rfl inTX8 (by decide) kw881 rfl dX8_tell_84 ?_
      refine lv_iload_n hx hb dX8_tell_87 rfl (lv_at hl 1 rfl) ?_
      by_cases hc14 : (x1 < 0 ∨ 512 ≤ x1.toNatClampNeg)
      · cases it h hc14
      have h := ie h hc14
      refine aG B X (LnX8_a34 L (z.1, z.2.1, (va_up z.2.2 46 (upd (z.2.2 46) x1.toNatClampNeg ((z.2.2 33) x1.toNatClampNeg))))) 0 rfl hc14 dX8_tell_88 ?_
      by_cases hc15 : (x1 < 0 ∨ 512 ≤ x1.toNatClampNeg)
      · cases it h hc15
      have h := ie h hc15
      refine aP B X (LnX8_a47 L (z.1, z.2.1, (va_up z.2.2 46 (upd (z.2.2 46) x1.toNatClampNeg ((z.2.2 33) x1.toNatClampNeg))))) (LnX8_b47 L (z.1, z.2.1, (va_up z.2.2 46 (upd (z.2.2 46) x1.toNatClampNeg ((z.2.2 33) x1.toNatClampNeg)))) _) 0 rfl hc15 dX8_tell_89 (fun H locs X => ?_)
      have X : Hx A D S.heap (wf (z.1, z.2.1, (va_up (va_up z.2.2 46 (upd (z.2.2 46) x1.toNatClampNeg ((z.2.2 33) x1.toNatClampNeg))) 47 (upd (z.2.2 47) x1.toNatClampNeg ((z.2.2 34) x1.toNatClampNeg))))) H locs := X
      refine lv_aload_n hx hb dX8_tell_90 rfl (lv_at hl 0 rfl) ?_
      refine fG B X (LnX8_g L (z.1, z.2.1, (va_up (va_up z.2.2 46 (upd (z.2.2 46) x1.toNatClampNeg ((z.2.2 33) x1.toNatClampNeg))) 47 (upd (z.2.2 47) x1.toNatClampNeg ((z.2.2 34) x1.toNatClampNeg))))) 48 rfl inTX8 (by decide) kw895 rfl dX8_tell_91 ?_
      refine lv_iload_n hx hb dX8_tell_94 rfl (lv_at hl 1 rfl) ?_
      refine lv_aload_n hx hb dX8_tell_95 rfl (lv_at hl 0 rfl) ?_
      refine fG B X (LnX8_g L (z.1, z.2.1, (va_up (va_up z.2.2 46 (upd (z.2.2 46) x1.toNatClampNeg ((z.2.2 33) x1.toNatClampNeg))) 47 (upd (z.2.2 47) x1.toNatClampNeg ((z.2.2 34) x1.toNatClampNeg))))) 35 rfl inTX8 (by decide) kw882 rfl dX8_tell_96 ?_
      refine lv_iload_n hx hb dX8_tell_99 rfl (lv_at hl 1 rfl) ?_
      by_cases hc16 : (x1 < 0 ∨ 512 ≤ x1.toNatClampNeg)
      · cases it h hc16
      have h := ie h hc16
      refine aG B X (LnX8_a35 L (z.1, z.2.1, (va_up (va_up z.2.2 46 (upd (z.2.2 46) x1.toNatClampNeg ((z.2.2 33) x1.toNatClampNeg))) 47 (upd (z.2.2 47) x1.toNatClampNeg ((z.2.2 34) x1.toNatClampNeg))))) 0 rfl hc16 dX8_tell_100 ?_
      by_cases hc17 : (x1 < 0 ∨ 512 ≤ x1.toNatClampNeg)
      · cases it h hc17
      have h := ie h hc17
      refine aP B X (LnX8_a48 L (z.1, z.2.1, (va_up (va_up z.2.2 46 (upd (z.2.2 46) x1.toNatClampNeg ((z.2.2 33) x1.toNatClampNeg))) 47 (upd (z.2.2 47) x1.toNatClampNeg ((z.2.2 34) x1.toNatClampNeg))))) (LnX8_b48 L (z.1, z.2.1, (va_up (va_up z.2.2 46 (upd (z.2.2 46) x1.toNatClampNeg ((z.2.2 33) x1.toNatClampNeg))) 47 (upd (z.2.2 47) x1.toNatClampNeg ((z.2.2 34) x1.toNatClampNeg)))) _) 0 rfl hc17 dX8_tell_101 (fun H locs X => ?_)
      have X : Hx A D S.heap (wf (z.1, z.2.1, (va_up (va_up (va_up z.2.2 46 (upd (z.2.2 46) x1.toNatClampNeg ((z.2.2 33) x1.toNatClampNeg))) 47 (upd (z.2.2 47) x1.toNatClampNeg ((z.2.2 34) x1.toNatClampNeg))) 48 (upd (z.2.2 48) x1.toNatClampNeg ((z.2.2 35) x1.toNatClampNeg))))) H locs := X
      refine lv_iinc (v := x1 + 1) (lv' := [(1, .int (x1 + 1)), (0, .ref (a 0))]) hx hb dX8_tell_102 hl (k := 1) rfl rfl (by decide) rfl (fun ls hl => ?_)
      refine lv_goto (tgt := 58) hx hb dX8_tell_105 (by decide) ?_
      exact ih (x1 + 1) (z.1, z.2.1, (va_up (va_up (va_up z.2.2 46 (upd (z.2.2 46) x1.toNatClampNeg ((z.2.2 33) x1.toNatClampNeg))) 47 (upd (z.2.2 47) x1.toNatClampNeg ((z.2.2 34) x1.toNatClampNeg))) 48 (upd (z.2.2 48) x1.toNatClampNeg ((z.2.2 35) x1.toNatClampNeg)))) _ _ _ X (lv_sub hl [1, 0] rfl) h
def fX8_tell_b18 : Nat → Int32 → SX8 → Option SX8
  | 0, _, _ => none
  | n + 1, x1, z =>
    if (z.1 17) ≤ x1 then (fX8_tell_b58 1000 0 z) else
    (if x1 < 0 ∨ 256 ≤ x1.toNatClampNeg then none else
    (if x1 < 0 ∨ 256 ≤ x1.toNatClampNeg then none else
    (if x1 < 0 ∨ 256 ≤ x1.toNatClampNeg then none else
    (if x1 < 0 ∨ 256 ≤ x1.toNatClampNeg then none else
    (fX8_tell_b18 n (x1 + 1) (z.1, z.2.1, (va_up (va_up z.2.2 44 (upd (z.2.2 44) x1.toNatClampNeg ((z.2.2 31) x1.toNatClampNeg))) 45 (upd (z.2.2 45) x1.toNatClampNeg ((z.2.2 32) x1.toNatClampNeg)))))))))
set_option maxRecDepth 100000 in
set_option maxHeartbeats 4000000 in
theorem tX8_tell_b18 {a q : Nat → Nat} {wf : SX8 → va_W} (L : LnX8 a q cI cB wf) {d : Nat} (hd : 1 ≤ d) (B : Bd RX8 cX8_tell 2 none d A g D [(cI, .int), (cB, .byte)] p R S m args meth c) {q : SX8} : ∀ (n : Nat) (x1 : Int32) (z : SX8) (H : Heap) (locs : List Loc) (ls : Array Slot), Hx A D S.heap (wf z) H locs → lv_has ls 2 [(0, .ref (a 0)), (1, .int x1)] → fX8_tell_b18 n x1 z = some q → W p l e R S m args below meth c H locs 0 0 (MQ below (QV A D (wf q)) args S 0 0 A) (F0 m 18 ls []) := by
  have hx := B.1
  have hb := B.2.1
  have hd1 : 1 ≤ d := by omega
  intro n
  induction n with
  | zero =>
    intro x1 z H locs ls X hl h
    cases h
  | succ n ih =>
    intro x1 z H locs ls X hl h
    rw [fX8_tell_b18] at h
    refine lv_iload_n hx hb dX8_tell_18 rfl (lv_at hl 1 rfl) ?_
    refine lv_aload_n hx hb dX8_tell_19 rfl (lv_at hl 0 rfl) ?_
    refine fG B X (LnX8_g L z) 17 rfl inTX8 (by decide) kw864 rfl dX8_tell_20 ?_
    refine lv_icmp_ge (tgt := 56) hx hb dX8_tell_23 (by decide) (fun hc1 => ?_) (fun hc1 => ?_)
    · have h := it h hc1
      refine lv_iconst (v := 0) hx hb dX8_tell_56 (by decide) ?_
      refine lv_istore_n (lv' := [(1, .int 0), (0, .ref (a 0))]) hx hb dX8_tell_57 rfl hl (by decide) rfl (fun ls hl => ?_)
      exact tX8_tell_b58 L hd B 1000 0 z _ _ _ X (lv_sub hl [1, 0] rfl) h
    · have h := ie h hc1
      refine lv_aload_n hx hb dX8_tell_26 rfl (lv_at hl 0 rfl) ?_
      refine fG B X (LnX8_g L z) 44 rfl inTX8 (by decide) kw891 rfl dX8_tell_27 ?_
      refine lv_iload_n hx hb dX8_tell_30 rfl (lv_at hl 1 rfl) ?_
      refine lv_aload_n hx hb dX8_tell_31 rfl (lv_at hl 0 rfl) ?_
      refine fG B X (LnX8_g L z) 31 rfl inTX8 (by decide) kw878 rfl dX8_tell_32 ?_
      refine lv_iload_n hx hb dX8_tell_35 rfl (lv_at hl 1 rfl) ?_
      by_cases hc2 : (x1 < 0 ∨ 256 ≤ x1.toNatClampNeg)
      · cases it h hc2
      have h := ie h hc2
      refine aG B X (LnX8_a31 L z) 0 rfl hc2 dX8_tell_36 ?_
      by_cases hc3 : (x1 < 0 ∨ 256 ≤ x1.toNatClampNeg)
      · cases it h hc3
      have h := ie h hc3
      refine aP B X (LnX8_a44 L z) (LnX8_b44 L z _) 0 rfl hc3 dX8_tell_37 (fun H locs X => ?_)
      have X : Hx A D S.heap (wf (z.1, z.2.1, (va_up z.2.2 44 (upd (z.2.2 44) x1.toNatClampNeg ((z.2.2 31) x1.toNatClampNeg))))) H locs := X
      refine lv_aload_n hx hb dX8_tell_38 rfl (lv_at hl 0 rfl) ?_
      refine fG B X (LnX8_g L (z.1, z.2.1, (va_up z.2.2 44 (upd (z.2.2 44) x1.toNatClampNeg ((z.2.2 31) x1.toNatClampNeg))))) 45 rfl inTX8 (by decide) kw892 rfl dX8_tell_39 ?_
      refine lv_iload_n hx hb dX8_tell_42 rfl (lv_at hl 1 rfl) ?_
      refine lv_aload_n hx hb dX8_tell_43 rfl (lv_at hl 0 rfl) ?_
      refine fG B X (LnX8_g L (z.1, z.2.1, (va_up z.2.2 44 (upd (z.2.2 44) x1.toNatClampNeg ((z.2.2 31) x1.toNatClampNeg))))) 32 rfl inTX8 (by decide) kw879 rfl dX8_tell_44 ?_
      refine lv_iload_n hx hb dX8_tell_47 rfl (lv_at hl 1 rfl) ?_
      by_cases hc4 : (x1 < 0 ∨ 256 ≤ x1.toNatClampNeg)
      · cases it h hc4
      have h := ie h hc4
      refine aG B X (LnX8_a32 L (z.1, z.2.1, (va_up z.2.2 44 (upd (z.2.2 44) x1.toNatClampNeg ((z.2.2 31) x1.toNatClampNeg))))) 0 rfl hc4 dX8_tell_48 ?_
      by_cases hc5 : (x1 < 0 ∨ 256 ≤ x1.toNatClampNeg)
      · cases it h hc5
      have h := ie h hc5
      refine aP B X (LnX8_a45 L (z.1, z.2.1, (va_up z.2.2 44 (upd (z.2.2 44) x1.toNatClampNeg ((z.2.2 31) x1.toNatClampNeg))))) (LnX8_b45 L (z.1, z.2.1, (va_up z.2.2 44 (upd (z.2.2 44) x1.toNatClampNeg ((z.2.2 31) x1.toNatClampNeg)))) _) 0 rfl hc5 dX8_tell_49 (fun H locs X => ?_)
      have X : Hx A D S.heap (wf (z.1, z.2.1, (va_up (va_up z.2.2 44 (upd (z.2.2 44) x1.toNatClampNeg ((z.2.2 31) x1.toNatClampNeg))) 45 (upd (z.2.2 45) x1.toNatClampNeg ((z.2.2 32) x1.toNatClampNeg))))) H locs := X
      refine lv_iinc (v := x1 + 1) (lv' := [(1, .int (x1 + 1)), (0, .ref (a 0))]) hx hb dX8_tell_50 hl (k := 1) rfl rfl (by decide) rfl (fun ls hl => ?_)
      refine lv_goto (tgt := 18) hx hb dX8_tell_53 (by decide) ?_
      exact ih (x1 + 1) (z.1, z.2.1, (va_up (va_up z.2.2 44 (upd (z.2.2 44) x1.toNatClampNeg ((z.2.2 31) x1.toNatClampNeg))) 45 (upd (z.2.2 45) x1.toNatClampNeg ((z.2.2 32) x1.toNatClampNeg)))) _ _ _ X (lv_sub hl [1, 0] rfl) h
def fX8_tell (z : SX8) : Option SX8 :=
    fX8_tell_b18 1000 0 ((upd (upd z.1 41 (z.1 17)) 42 (z.1 26)), z.2.1, z.2.2)
set_option maxRecDepth 100000 in
set_option maxHeartbeats 4000000 in
theorem tX8_tell {a q : Nat → Nat} {wf : SX8 → va_W} (L : LnX8 a q cI cB wf) {d : Nat} (hd : 1 ≤ d) {z : SX8} {q : SX8} (h : fX8_tell z = some q) : Ct l yX8_tell cX8_tell 2 none d A g D [(cI, .int), (cB, .byte)] [.ref (a 0)] (wf z) (QV A D (wf q)) := by
  refine mkM (by decide) (Nat.le_of_ble_eq_true rfl) ?_
  intro p e S m args below meth c B X ls hl
  have B : Bd RX8 cX8_tell 2 none d A g D [(cI, .int), (cB, .byte)] p (rmd d) S m args meth c := B
  have hx := B.1
  have hb := B.2.1
  have hd1 : 1 ≤ d := by omega
  have hl : lv_has ls 2 [(0, .ref (a 0))] := hl
  unfold fX8_tell at h
  refine lv_aload_n hx hb dX8_tell_0 rfl (lv_at hl 0 rfl) ?_
  refine lv_aload_n hx hb dX8_tell_1 rfl (lv_at hl 0 rfl) ?_
  refine fG B X (LnX8_g L z) 17 rfl inTX8 (by decide) kw864 rfl dX8_tell_2 ?_
  refine fP tyX8 B X (LnX8_g L z) 41 (LnX8_i41 L z _) rfl inTX8 tyX8_ok nmX8 (by decide) kw888 rfl rfl rfl rfl (Nat.le_of_ble_eq_true rfl) dX8_tell_5 (fun H locs X => ?_)
  have X : Hx A D S.heap (wf ((upd z.1 41 (z.1 17)), z.2.1, z.2.2)) H locs := X
  refine lv_aload_n hx hb dX8_tell_8 rfl (lv_at hl 0 rfl) ?_
  refine lv_aload_n hx hb dX8_tell_9 rfl (lv_at hl 0 rfl) ?_
  refine fG B X (LnX8_g L ((upd z.1 41 (z.1 17)), z.2.1, z.2.2)) 26 rfl inTX8 (by decide) kw873 rfl dX8_tell_10 ?_
  refine fP tyX8 B X (LnX8_g L ((upd z.1 41 (z.1 17)), z.2.1, z.2.2)) 42 (LnX8_i42 L ((upd z.1 41 (z.1 17)), z.2.1, z.2.2) _) rfl inTX8 tyX8_ok nmX8 (by decide) kw889 rfl rfl rfl rfl (Nat.le_of_ble_eq_true rfl) dX8_tell_13 (fun H locs X => ?_)
  have X : Hx A D S.heap (wf ((upd (upd z.1 41 (z.1 17)) 42 (z.1 26)), z.2.1, z.2.2)) H locs := X
  refine lv_iconst (v := 0) hx hb dX8_tell_16 (by decide) ?_
  refine lv_istore_n (lv' := [(1, .int 0), (0, .ref (a 0))]) hx hb dX8_tell_17 rfl hl (by decide) rfl (fun ls hl => ?_)
  exact tX8_tell_b18 L hd B 1000 0 ((upd (upd z.1 41 (z.1 17)) 42 (z.1 26)), z.2.1, z.2.2) _ _ _ X (lv_sub hl [1, 0] rfl) h
def fX8_run (z : SX8) (x1 : Int32) : Option (Int32 × SX8) :=
    (fX8_within x1 0 250).bind fun q1 =>
    if q1 = 0 then (some ((-102), z)) else
    (if (z.1 0) = 0 then (some ((-103), z)) else
    ((fX8_runNow z x1).bind fun q4 =>
    (fX8_tell q4).bind fun q5 =>
    if (q5.1 15) = 0 then (some ((q5.1 17), ((upd q5.1 5 ((q5.1 5) + 1)), q5.2.1, q5.2.2))) else
    (some ((-2), ((upd q5.1 5 ((q5.1 5) + 1)), q5.2.1, q5.2.2)))))
set_option maxRecDepth 100000 in
set_option maxHeartbeats 4000000 in
theorem tX8_run {a q : Nat → Nat} {wf : SX8 → va_W} (L : LnX8 a q cI cB wf) {d : Nat} (hd : 9 ≤ d) {z : SX8} {x1 : Int32} {q : Int32 × SX8} (h : fX8_run z x1 = some q) : Ct l yX8_run cX8_run 2 (some .int) d A g D [(cI, .int), (cB, .byte)] [.ref (a 0), .int x1] (wf z) (QI A D (wf q.2) q.1) := by
  refine mkM (by decide) (Nat.le_of_ble_eq_true rfl) ?_
  intro p e S m args below meth c B X ls hl
  have B : Bd RX8 cX8_run 2 (some .int) d A g D [(cI, .int), (cB, .byte)] p (rmd d) S m args meth c := B
  have hx := B.1
  have hb := B.2.1
  have hd1 : 1 ≤ d := by omega
  have hl : lv_has ls 2 [(0, .ref (a 0)), (1, .int x1)] := hl
  unfold fX8_run at h
  refine lv_iload_n hx hb dX8_run_0 rfl (lv_at hl 1 rfl) ?_
  refine lv_iconst (v := 0) hx hb dX8_run_1 (by decide) ?_
  refine lv_sipush (v := 250) hx hb dX8_run_2 (by decide) ?_
  obtain ⟨q1, h1, h⟩ := bs h
  refine kI X (cS (As := [.int x1, .int 0, .int 250]) (rest := []) B X (tX8_within (d := d - 1) (by omega) h1) msX8_within kw1038 (by omega) rfl (Nat.le_of_ble_eq_true rfl) hl.1 ⟨Nat.zero_le _, Nat.zero_le _⟩ dX8_run_5) (fun H locs X => ?_)
  have X : Hx A D S.heap (wf z) H locs := X
  refine lv_if_ne (tgt := 14) hx hb dX8_run_8 (by decide) (fun hc2 => ?_) (fun hc2 => ?_)
  · have h := ie h hc2
    refine lv_aload_n hx hb dX8_run_14 rfl (lv_at hl 0 rfl) ?_
    refine fG B X (LnX8_g L z) 0 rfl inTX8 (by decide) kw847 rfl dX8_run_15 ?_
    refine lv_if_ne (tgt := 24) hx hb dX8_run_18 (by decide) (fun hc3 => ?_) (fun hc3 => ?_)
    · have h := ie h hc3
      refine lv_aload_n hx hb dX8_run_24 rfl (lv_at hl 0 rfl) ?_
      refine lv_iload_n hx hb dX8_run_25 rfl (lv_at hl 1 rfl) ?_
      obtain ⟨q4, h4, h⟩ := bs h
      refine kV X (cV (As := [.int x1]) (rest := []) B X (tX8_runNow (d := d - 1) L (by omega) h4) mfX8_runNow kw1129 (by omega) (LnX8_g L z) rfl rfl (Nat.le_of_ble_eq_true rfl) hl.1 ⟨Nat.zero_le _, Nat.zero_le _⟩ dX8_run_26) (fun H locs X => ?_)
      have X : Hx A D S.heap (wf q4) H locs := X
      refine lv_aload_n hx hb dX8_run_29 rfl (lv_at hl 0 rfl) ?_
      obtain ⟨q5, h5, h⟩ := bs h
      refine kV X (cV (As := []) (rest := []) B X (tX8_tell (d := d - 1) L (by omega) h5) mfX8_tell kw1235 (by omega) (LnX8_g L q4) rfl rfl (Nat.le_of_ble_eq_true rfl) hl.1 ⟨Nat.zero_le _, Nat.zero_le _⟩ dX8_run_30) (fun H locs X => ?_)
      have X : Hx A D S.heap (wf q5) H locs := X
      refine lv_aload_n hx hb dX8_run_33 rfl (lv_at hl 0 rfl) ?_
      refine lv_dup hx hb dX8_run_34 rfl ?_
      refine fG B X (LnX8_g L q5) 5 rfl inTX8 (by decide) kw852 rfl dX8_run_35 ?_
      refine lv_iconst (v := 1) hx hb dX8_run_38 (by decide) ?_
      refine lv_iadd hx hb dX8_run_39 ?_
      refine fP tyX8 B X (LnX8_g L q5) 5 (LnX8_i5 L q5 _) rfl inTX8 tyX8_ok nmX8 (by decide) kw852 rfl rfl rfl rfl (Nat.le_of_ble_eq_true rfl) dX8_run_40 (fun H locs X => ?_)
      have X : Hx A D S.heap (wf ((upd q5.1 5 ((q5.1 5) + 1)), q5.2.1, q5.2.2)) H locs := X
      refine lv_aload_n hx hb dX8_run_43 rfl (lv_at hl 0 rfl) ?_
      refine fG B X (LnX8_g L ((upd q5.1 5 ((q5.1 5) + 1)), q5.2.1, q5.2.2)) 15 rfl inTX8 (by decide) kw862 rfl dX8_run_44 ?_
      refine lv_if_eq (tgt := 55) hx hb dX8_run_47 (by decide) (fun hc6 => ?_) (fun hc6 => ?_)
      · have h := it h hc6
        refine lv_aload_n hx hb dX8_run_55 rfl (lv_at hl 0 rfl) ?_
        refine fG B X (LnX8_g L ((upd q5.1 5 ((q5.1 5) + 1)), q5.2.1, q5.2.2)) 17 rfl inTX8 (by decide) kw864 rfl dX8_run_56 ?_
        exact rI B X (congrArg (fun q => wf q.2) (Option.some.inj h)) (congrArg (fun q => q.1) (Option.some.inj h)) dX8_run_59
      · have h := ie h hc6
        refine lv_bipush (v := (-2)) hx hb dX8_run_50 (by decide) ?_
        refine lv_goto (tgt := 59) hx hb dX8_run_52 (by decide) ?_
        exact rI B X (congrArg (fun q => wf q.2) (Option.some.inj h)) (congrArg (fun q => q.1) (Option.some.inj h)) dX8_run_59
    · have h := it h hc3
      refine lv_bipush (v := (-103)) hx hb dX8_run_21 (by decide) ?_
      exact rI B X (congrArg (fun q => wf q.2) (Option.some.inj h)) (congrArg (fun q => q.1) (Option.some.inj h)) dX8_run_23
  · have h := it h hc2
    refine lv_bipush (v := (-102)) hx hb dX8_run_11 (by decide) ?_
    exact rI B X (congrArg (fun q => wf q.2) (Option.some.inj h)) (congrArg (fun q => q.1) (Option.some.inj h)) dX8_run_13
def fX8_outNow (z : SX8) (x1 : Int32) (x2 : Int32) : Option Int32 :=
    if x2 = 0 then (if x1 < 0 ∨ 256 ≤ x1.toNatClampNeg then none else
    (some ((z.2.2 44) x1.toNatClampNeg))) else
    (if x1 < 0 ∨ 256 ≤ x1.toNatClampNeg then none else
    (some ((z.2.2 45) x1.toNatClampNeg)))
set_option maxRecDepth 100000 in
set_option maxHeartbeats 4000000 in
theorem tX8_outNow {a q : Nat → Nat} {wf : SX8 → va_W} (L : LnX8 a q cI cB wf) {d : Nat} (hd : 1 ≤ d) {z : SX8} {x1 x2 : Int32} {q : Int32} (h : fX8_outNow z x1 x2 = some q) : Ct l yX8_outNow cX8_outNow 3 (some .int) d A g D [(cI, .int), (cB, .byte)] [.ref (a 0), .int x1, .int x2] (wf z) (QI A D (wf z) q) := by
  refine mkM (by decide) (Nat.le_of_ble_eq_true rfl) ?_
  intro p e S m args below meth c B X ls hl
  have B : Bd RX8 cX8_outNow 3 (some .int) d A g D [(cI, .int), (cB, .byte)] p (rmd d) S m args meth c := B
  have hx := B.1
  have hb := B.2.1
  have hd1 : 1 ≤ d := by omega
  have hl : lv_has ls 3 [(0, .ref (a 0)), (1, .int x1), (2, .int x2)] := hl
  unfold fX8_outNow at h
  refine lv_iload_n hx hb dX8_outNow_0 rfl (lv_at hl 2 rfl) ?_
  refine lv_if_ne (tgt := 13) hx hb dX8_outNow_1 (by decide) (fun hc1 => ?_) (fun hc1 => ?_)
  · have h := ie h hc1
    refine lv_aload_n hx hb dX8_outNow_13 rfl (lv_at hl 0 rfl) ?_
    refine fG B X (LnX8_g L z) 45 rfl inTX8 (by decide) kw892 rfl dX8_outNow_14 ?_
    refine lv_iload_n hx hb dX8_outNow_17 rfl (lv_at hl 1 rfl) ?_
    by_cases hc2 : (x1 < 0 ∨ 256 ≤ x1.toNatClampNeg)
    · cases it h hc2
    have h := ie h hc2
    refine aG B X (LnX8_a45 L z) 0 rfl hc2 dX8_outNow_18 ?_
    exact rI B X rfl (Option.some.inj h) dX8_outNow_19
  · have h := it h hc1
    refine lv_aload_n hx hb dX8_outNow_4 rfl (lv_at hl 0 rfl) ?_
    refine fG B X (LnX8_g L z) 44 rfl inTX8 (by decide) kw891 rfl dX8_outNow_5 ?_
    refine lv_iload_n hx hb dX8_outNow_8 rfl (lv_at hl 1 rfl) ?_
    by_cases hc3 : (x1 < 0 ∨ 256 ≤ x1.toNatClampNeg)
    · cases it h hc3
    have h := ie h hc3
    refine aG B X (LnX8_a44 L z) 0 rfl hc3 dX8_outNow_9 ?_
    refine lv_goto (tgt := 19) hx hb dX8_outNow_10 (by decide) ?_
    exact rI B X rfl (Option.some.inj h) dX8_outNow_19
def fX8_out (z : SX8) (x1 : Int32) (x2 : Int32) : Option Int32 :=
    (fX8_within x1 0 ((z.1 41) - 1)).bind fun q1 =>
    if q1 = 0 then (some (-101)) else
    ((fX8_within x2 0 1).bind fun q3 =>
    if q3 = 0 then (some (-102)) else
    ((fX8_outNow z x1 x2).bind fun q5 =>
    some q5))
set_option maxRecDepth 100000 in
set_option maxHeartbeats 4000000 in
theorem tX8_out {a q : Nat → Nat} {wf : SX8 → va_W} (L : LnX8 a q cI cB wf) {d : Nat} (hd : 2 ≤ d) {z : SX8} {x1 x2 : Int32} {q : Int32} (h : fX8_out z x1 x2 = some q) : Ct l yX8_out cX8_out 3 (some .int) d A g D [(cI, .int), (cB, .byte)] [.ref (a 0), .int x1, .int x2] (wf z) (QI A D (wf z) q) := by
  refine mkM (by decide) (Nat.le_of_ble_eq_true rfl) ?_
  intro p e S m args below meth c B X ls hl
  have B : Bd RX8 cX8_out 3 (some .int) d A g D [(cI, .int), (cB, .byte)] p (rmd d) S m args meth c := B
  have hx := B.1
  have hb := B.2.1
  have hd1 : 1 ≤ d := by omega
  have hl : lv_has ls 3 [(0, .ref (a 0)), (1, .int x1), (2, .int x2)] := hl
  unfold fX8_out at h
  refine lv_iload_n hx hb dX8_out_0 rfl (lv_at hl 1 rfl) ?_
  refine lv_iconst (v := 0) hx hb dX8_out_1 (by decide) ?_
  refine lv_aload_n hx hb dX8_out_2 rfl (lv_at hl 0 rfl) ?_
  refine fG B X (LnX8_g L z) 41 rfl inTX8 (by decide) kw888 rfl dX8_out_3 ?_
  refine lv_iconst (v := 1) hx hb dX8_out_6 (by decide) ?_
  refine lv_isub hx hb dX8_out_7 ?_
  obtain ⟨q1, h1, h⟩ := bs h
  refine kI X (cS (As := [.int x1, .int 0, .int ((z.1 41) - 1)]) (rest := []) B X (tX8_within (d := d - 1) (by omega) h1) msX8_within kw1038 (by omega) rfl (Nat.le_of_ble_eq_true rfl) hl.1 ⟨Nat.zero_le _, Nat.zero_le _⟩ dX8_out_8) (fun H locs X => ?_)
  have X : Hx A D S.heap (wf z) H locs := X
  refine lv_if_ne (tgt := 19) hx hb dX8_out_11 (by decide) (fun hc2 => ?_) (fun hc2 => ?_)
  · have h := ie h hc2
    refine lv_iload_n hx hb dX8_out_19 rfl (lv_at hl 2 rfl) ?_
    refine lv_iconst (v := 0) hx hb dX8_out_20 (by decide) ?_
    refine lv_iconst (v := 1) hx hb dX8_out_21 (by decide) ?_
    obtain ⟨q3, h3, h⟩ := bs h
    refine kI X (cS (As := [.int x2, .int 0, .int 1]) (rest := []) B X (tX8_within (d := d - 1) (by omega) h3) msX8_within kw1038 (by omega) rfl (Nat.le_of_ble_eq_true rfl) hl.1 ⟨Nat.zero_le _, Nat.zero_le _⟩ dX8_out_22) (fun H locs X => ?_)
    have X : Hx A D S.heap (wf z) H locs := X
    refine lv_if_eq (tgt := 37) hx hb dX8_out_25 (by decide) (fun hc4 => ?_) (fun hc4 => ?_)
    · have h := it h hc4
      refine lv_bipush (v := (-102)) hx hb dX8_out_37 (by decide) ?_
      exact rI B X rfl (Option.some.inj h) dX8_out_39
    · have h := ie h hc4
      refine lv_aload_n hx hb dX8_out_28 rfl (lv_at hl 0 rfl) ?_
      refine lv_iload_n hx hb dX8_out_29 rfl (lv_at hl 1 rfl) ?_
      refine lv_iload_n hx hb dX8_out_30 rfl (lv_at hl 2 rfl) ?_
      obtain ⟨q5, h5, h⟩ := bs h
      refine kI X (cV (As := [.int x1, .int x2]) (rest := []) B X (tX8_outNow (d := d - 1) L (by omega) h5) mfX8_outNow kw1243 (by omega) (LnX8_g L z) rfl rfl (Nat.le_of_ble_eq_true rfl) hl.1 ⟨Nat.zero_le _, Nat.zero_le _⟩ dX8_out_31) (fun H locs X => ?_)
      have X : Hx A D S.heap (wf z) H locs := X
      refine lv_goto (tgt := 39) hx hb dX8_out_34 (by decide) ?_
      exact rI B X rfl (Option.some.inj h) dX8_out_39
  · have h := it h hc2
    refine lv_bipush (v := (-101)) hx hb dX8_out_14 (by decide) ?_
    refine lv_goto (tgt := 39) hx hb dX8_out_16 (by decide) ?_
    exact rI B X rfl (Option.some.inj h) dX8_out_39
def fX8_logNow (z : SX8) (x1 : Int32) (x2 : Int32) : Option Int32 :=
    if x2 = 0 then (if x1 < 0 ∨ 512 ≤ x1.toNatClampNeg then none else
    (some ((z.2.2 46) x1.toNatClampNeg))) else
    (if x2 = 1 then (if x1 < 0 ∨ 512 ≤ x1.toNatClampNeg then none else
    (some ((z.2.2 47) x1.toNatClampNeg))) else
    (if x1 < 0 ∨ 512 ≤ x1.toNatClampNeg then none else
    (some ((z.2.2 48) x1.toNatClampNeg))))
set_option maxRecDepth 100000 in
set_option maxHeartbeats 4000000 in
theorem tX8_logNow {a q : Nat → Nat} {wf : SX8 → va_W} (L : LnX8 a q cI cB wf) {d : Nat} (hd : 1 ≤ d) {z : SX8} {x1 x2 : Int32} {q : Int32} (h : fX8_logNow z x1 x2 = some q) : Ct l yX8_logNow cX8_logNow 3 (some .int) d A g D [(cI, .int), (cB, .byte)] [.ref (a 0), .int x1, .int x2] (wf z) (QI A D (wf z) q) := by
  refine mkM (by decide) (Nat.le_of_ble_eq_true rfl) ?_
  intro p e S m args below meth c B X ls hl
  have B : Bd RX8 cX8_logNow 3 (some .int) d A g D [(cI, .int), (cB, .byte)] p (rmd d) S m args meth c := B
  have hx := B.1
  have hb := B.2.1
  have hd1 : 1 ≤ d := by omega
  have hl : lv_has ls 3 [(0, .ref (a 0)), (1, .int x1), (2, .int x2)] := hl
  unfold fX8_logNow at h
  refine lv_iload_n hx hb dX8_logNow_0 rfl (lv_at hl 2 rfl) ?_
  refine lv_if_ne (tgt := 13) hx hb dX8_logNow_1 (by decide) (fun hc1 => ?_) (fun hc1 => ?_)
  · have h := ie h hc1
    refine lv_iload_n hx hb dX8_logNow_13 rfl (lv_at hl 2 rfl) ?_
    refine lv_iconst (v := 1) hx hb dX8_logNow_14 (by decide) ?_
    refine lv_icmp_ne (tgt := 27) hx hb dX8_logNow_15 (by decide) (fun hc2 => ?_) (fun hc2 => ?_)
    · have h := ie h hc2
      refine lv_aload_n hx hb dX8_logNow_27 rfl (lv_at hl 0 rfl) ?_
      refine fG B X (LnX8_g L z) 48 rfl inTX8 (by decide) kw895 rfl dX8_logNow_28 ?_
      refine lv_iload_n hx hb dX8_logNow_31 rfl (lv_at hl 1 rfl) ?_
      by_cases hc3 : (x1 < 0 ∨ 512 ≤ x1.toNatClampNeg)
      · cases it h hc3
      have h := ie h hc3
      refine aG B X (LnX8_a48 L z) 0 rfl hc3 dX8_logNow_32 ?_
      exact rI B X rfl (Option.some.inj h) dX8_logNow_33
    · have h := it h hc2
      refine lv_aload_n hx hb dX8_logNow_18 rfl (lv_at hl 0 rfl) ?_
      refine fG B X (LnX8_g L z) 47 rfl inTX8 (by decide) kw894 rfl dX8_logNow_19 ?_
      refine lv_iload_n hx hb dX8_logNow_22 rfl (lv_at hl 1 rfl) ?_
      by_cases hc4 : (x1 < 0 ∨ 512 ≤ x1.toNatClampNeg)
      · cases it h hc4
      have h := ie h hc4
      refine aG B X (LnX8_a47 L z) 0 rfl hc4 dX8_logNow_23 ?_
      refine lv_goto (tgt := 33) hx hb dX8_logNow_24 (by decide) ?_
      exact rI B X rfl (Option.some.inj h) dX8_logNow_33
  · have h := it h hc1
    refine lv_aload_n hx hb dX8_logNow_4 rfl (lv_at hl 0 rfl) ?_
    refine fG B X (LnX8_g L z) 46 rfl inTX8 (by decide) kw893 rfl dX8_logNow_5 ?_
    refine lv_iload_n hx hb dX8_logNow_8 rfl (lv_at hl 1 rfl) ?_
    by_cases hc5 : (x1 < 0 ∨ 512 ≤ x1.toNatClampNeg)
    · cases it h hc5
    have h := ie h hc5
    refine aG B X (LnX8_a46 L z) 0 rfl hc5 dX8_logNow_9 ?_
    refine lv_goto (tgt := 33) hx hb dX8_logNow_10 (by decide) ?_
    exact rI B X rfl (Option.some.inj h) dX8_logNow_33
def fX8_log (z : SX8) (x1 : Int32) (x2 : Int32) : Option Int32 :=
    (fX8_within x1 0 ((z.1 42) - 1)).bind fun q1 =>
    if q1 = 0 then (some (-101)) else
    ((fX8_within x2 0 2).bind fun q3 =>
    if q3 = 0 then (some (-102)) else
    ((fX8_logNow z x1 x2).bind fun q5 =>
    some q5))
set_option maxRecDepth 100000 in
set_option maxHeartbeats 4000000 in
theorem tX8_log {a q : Nat → Nat} {wf : SX8 → va_W} (L : LnX8 a q cI cB wf) {d : Nat} (hd : 2 ≤ d) {z : SX8} {x1 x2 : Int32} {q : Int32} (h : fX8_log z x1 x2 = some q) : Ct l yX8_log cX8_log 3 (some .int) d A g D [(cI, .int), (cB, .byte)] [.ref (a 0), .int x1, .int x2] (wf z) (QI A D (wf z) q) := by
  refine mkM (by decide) (Nat.le_of_ble_eq_true rfl) ?_
  intro p e S m args below meth c B X ls hl
  have B : Bd RX8 cX8_log 3 (some .int) d A g D [(cI, .int), (cB, .byte)] p (rmd d) S m args meth c := B
  have hx := B.1
  have hb := B.2.1
  have hd1 : 1 ≤ d := by omega
  have hl : lv_has ls 3 [(0, .ref (a 0)), (1, .int x1), (2, .int x2)] := hl
  unfold fX8_log at h
  refine lv_iload_n hx hb dX8_log_0 rfl (lv_at hl 1 rfl) ?_
  refine lv_iconst (v := 0) hx hb dX8_log_1 (by decide) ?_
  refine lv_aload_n hx hb dX8_log_2 rfl (lv_at hl 0 rfl) ?_
  refine fG B X (LnX8_g L z) 42 rfl inTX8 (by decide) kw889 rfl dX8_log_3 ?_
  refine lv_iconst (v := 1) hx hb dX8_log_6 (by decide) ?_
  refine lv_isub hx hb dX8_log_7 ?_
  obtain ⟨q1, h1, h⟩ := bs h
  refine kI X (cS (As := [.int x1, .int 0, .int ((z.1 42) - 1)]) (rest := []) B X (tX8_within (d := d - 1) (by omega) h1) msX8_within kw1038 (by omega) rfl (Nat.le_of_ble_eq_true rfl) hl.1 ⟨Nat.zero_le _, Nat.zero_le _⟩ dX8_log_8) (fun H locs X => ?_)
  have X : Hx A D S.heap (wf z) H locs := X
  refine lv_if_ne (tgt := 19) hx hb dX8_log_11 (by decide) (fun hc2 => ?_) (fun hc2 => ?_)
  · have h := ie h hc2
    refine lv_iload_n hx hb dX8_log_19 rfl (lv_at hl 2 rfl) ?_
    refine lv_iconst (v := 0) hx hb dX8_log_20 (by decide) ?_
    refine lv_iconst (v := 2) hx hb dX8_log_21 (by decide) ?_
    obtain ⟨q3, h3, h⟩ := bs h
    refine kI X (cS (As := [.int x2, .int 0, .int 2]) (rest := []) B X (tX8_within (d := d - 1) (by omega) h3) msX8_within kw1038 (by omega) rfl (Nat.le_of_ble_eq_true rfl) hl.1 ⟨Nat.zero_le _, Nat.zero_le _⟩ dX8_log_22) (fun H locs X => ?_)
    have X : Hx A D S.heap (wf z) H locs := X
    refine lv_if_eq (tgt := 37) hx hb dX8_log_25 (by decide) (fun hc4 => ?_) (fun hc4 => ?_)
    · have h := it h hc4
      refine lv_bipush (v := (-102)) hx hb dX8_log_37 (by decide) ?_
      exact rI B X rfl (Option.some.inj h) dX8_log_39
    · have h := ie h hc4
      refine lv_aload_n hx hb dX8_log_28 rfl (lv_at hl 0 rfl) ?_
      refine lv_iload_n hx hb dX8_log_29 rfl (lv_at hl 1 rfl) ?_
      refine lv_iload_n hx hb dX8_log_30 rfl (lv_at hl 2 rfl) ?_
      obtain ⟨q5, h5, h⟩ := bs h
      refine kI X (cV (As := [.int x1, .int x2]) (rest := []) B X (tX8_logNow (d := d - 1) L (by omega) h5) mfX8_logNow kw1251 (by omega) (LnX8_g L z) rfl rfl (Nat.le_of_ble_eq_true rfl) hl.1 ⟨Nat.zero_le _, Nat.zero_le _⟩ dX8_log_31) (fun H locs X => ?_)
      have X : Hx A D S.heap (wf z) H locs := X
      refine lv_goto (tgt := 39) hx hb dX8_log_34 (by decide) ?_
      exact rI B X rfl (Option.some.inj h) dX8_log_39
  · have h := it h hc2
    refine lv_bipush (v := (-101)) hx hb dX8_log_14 (by decide) ?_
    refine lv_goto (tgt := 39) hx hb dX8_log_16 (by decide) ?_
    exact rI B X rfl (Option.some.inj h) dX8_log_39
def fX8_ledger (z : SX8) (x1 : Int32) : Option Int32 :=
    (fX8_within x1 0 9).bind fun q1 =>
    if q1 = 0 then (some (-102)) else
    (if x1 < 0 ∨ 10 ≤ x1.toNatClampNeg then none else
    (some ((z.2.2 43) x1.toNatClampNeg)))
set_option maxRecDepth 100000 in
set_option maxHeartbeats 4000000 in
theorem tX8_ledger {a q : Nat → Nat} {wf : SX8 → va_W} (L : LnX8 a q cI cB wf) {d : Nat} (hd : 2 ≤ d) {z : SX8} {x1 : Int32} {q : Int32} (h : fX8_ledger z x1 = some q) : Ct l yX8_ledger cX8_ledger 2 (some .int) d A g D [(cI, .int), (cB, .byte)] [.ref (a 0), .int x1] (wf z) (QI A D (wf z) q) := by
  refine mkM (by decide) (Nat.le_of_ble_eq_true rfl) ?_
  intro p e S m args below meth c B X ls hl
  have B : Bd RX8 cX8_ledger 2 (some .int) d A g D [(cI, .int), (cB, .byte)] p (rmd d) S m args meth c := B
  have hx := B.1
  have hb := B.2.1
  have hd1 : 1 ≤ d := by omega
  have hl : lv_has ls 2 [(0, .ref (a 0)), (1, .int x1)] := hl
  unfold fX8_ledger at h
  refine lv_iload_n hx hb dX8_ledger_0 rfl (lv_at hl 1 rfl) ?_
  refine lv_iconst (v := 0) hx hb dX8_ledger_1 (by decide) ?_
  refine lv_bipush (v := 9) hx hb dX8_ledger_2 (by decide) ?_
  obtain ⟨q1, h1, h⟩ := bs h
  refine kI X (cS (As := [.int x1, .int 0, .int 9]) (rest := []) B X (tX8_within (d := d - 1) (by omega) h1) msX8_within kw1038 (by omega) rfl (Nat.le_of_ble_eq_true rfl) hl.1 ⟨Nat.zero_le _, Nat.zero_le _⟩ dX8_ledger_4) (fun H locs X => ?_)
  have X : Hx A D S.heap (wf z) H locs := X
  refine lv_if_eq (tgt := 19) hx hb dX8_ledger_7 (by decide) (fun hc2 => ?_) (fun hc2 => ?_)
  · have h := it h hc2
    refine lv_bipush (v := (-102)) hx hb dX8_ledger_19 (by decide) ?_
    exact rI B X rfl (Option.some.inj h) dX8_ledger_21
  · have h := ie h hc2
    refine lv_aload_n hx hb dX8_ledger_10 rfl (lv_at hl 0 rfl) ?_
    refine fG B X (LnX8_g L z) 43 rfl inTX8 (by decide) kw890 rfl dX8_ledger_11 ?_
    refine lv_iload_n hx hb dX8_ledger_14 rfl (lv_at hl 1 rfl) ?_
    by_cases hc3 : (x1 < 0 ∨ 10 ≤ x1.toNatClampNeg)
    · cases it h hc3
    have h := ie h hc3
    refine aG B X (LnX8_a43 L z) 0 rfl hc3 dX8_ledger_15 ?_
    refine lv_goto (tgt := 21) hx hb dX8_ledger_16 (by decide) ?_
    exact rI B X rfl (Option.some.inj h) dX8_ledger_21
def fX8_spareNow_b10 : Nat → Int32 → Int32 → Int32 → SX8 → Option (Int32 × SX8)
  | 0, _, _, _, _ => none
  | n + 1, x1, x2, x3, z =>
    if x3 ≤ 0 then (some (x2, ((upd z.1 1 x1), z.2.1, z.2.2))) else
    ((fX8_runNow ((upd z.1 1 x3), z.2.1, z.2.2) 268435456).bind fun q2 =>
    if (q2.1 18) = 0 then (fX8_spareNow_b10 n x1 x3 (x3 + (-1)) q2) else
    (fX8_spareNow_b10 n x1 x2 (x3 + (-1)) q2))
set_option maxRecDepth 100000 in
set_option maxHeartbeats 4000000 in
theorem tX8_spareNow_b10 {a q : Nat → Nat} {wf : SX8 → va_W} (L : LnX8 a q cI cB wf) {d : Nat} (hd : 9 ≤ d) (B : Bd RX8 cX8_spareNow 4 (some .int) d A g D [(cI, .int), (cB, .byte)] p R S m args meth c) {q : Int32 × SX8} : ∀ (n : Nat) (x1 : Int32) (x2 : Int32) (x3 : Int32) (z : SX8) (H : Heap) (locs : List Loc) (ls : Array Slot), Hx A D S.heap (wf z) H locs → lv_has ls 4 [(0, .ref (a 0)), (1, .int x1), (2, .int x2), (3, .int x3)] → fX8_spareNow_b10 n x1 x2 x3 z = some q → W p l e R S m args below meth c H locs 0 0 (MQ below (QI A D (wf q.2) q.1) args S 0 0 A) (F0 m 10 ls []) := by
  have hx := B.1
  have hb := B.2.1
  have hd1 : 1 ≤ d := by omega
  intro n
  induction n with
  | zero =>
    intro x1 x2 x3 z H locs ls X hl h
    cases h
  | succ n ih =>
    intro x1 x2 x3 z H locs ls X hl h
    rw [fX8_spareNow_b10] at h
    refine lv_iload_n hx hb dX8_spareNow_10 rfl (lv_at hl 3 rfl) ?_
    refine lv_if_le (tgt := 45) hx hb dX8_spareNow_11 (by decide) (fun hc1 => ?_) (fun hc1 => ?_)
    · have h := it h hc1
      refine lv_aload_n hx hb dX8_spareNow_45 rfl (lv_at hl 0 rfl) ?_
      refine lv_iload_n hx hb dX8_spareNow_46 rfl (lv_at hl 1 rfl) ?_
      refine fP tyX8 B X (LnX8_g L z) 1 (LnX8_i1 L z _) rfl inTX8 tyX8_ok nmX8 (by decide) kw848 rfl rfl rfl rfl (Nat.le_of_ble_eq_true rfl) dX8_spareNow_47 (fun H locs X => ?_)
      have X : Hx A D S.heap (wf ((upd z.1 1 x1), z.2.1, z.2.2)) H locs := X
      refine lv_iload_n hx hb dX8_spareNow_50 rfl (lv_at hl 2 rfl) ?_
      exact rI B X (congrArg (fun q => wf q.2) (Option.some.inj h)) (congrArg (fun q => q.1) (Option.some.inj h)) dX8_spareNow_51
    · have h := ie h hc1
      refine lv_aload_n hx hb dX8_spareNow_14 rfl (lv_at hl 0 rfl) ?_
      refine lv_iload_n hx hb dX8_spareNow_15 rfl (lv_at hl 3 rfl) ?_
      refine fP tyX8 B X (LnX8_g L z) 1 (LnX8_i1 L z _) rfl inTX8 tyX8_ok nmX8 (by decide) kw848 rfl rfl rfl rfl (Nat.le_of_ble_eq_true rfl) dX8_spareNow_16 (fun H locs X => ?_)
      have X : Hx A D S.heap (wf ((upd z.1 1 x3), z.2.1, z.2.2)) H locs := X
      refine lv_aload_n hx hb dX8_spareNow_19 rfl (lv_at hl 0 rfl) ?_
      refine lv_ldcw hx hb B.2.2.2.1 (B.2.2.2.2.1 _ kw1267) dX8_spareNow_20 ?_
      obtain ⟨q2, h2, h⟩ := bs h
      refine kV X (cV (As := [.int 268435456]) (rest := []) B X (tX8_runNow (d := d - 1) L (by omega) h2) mfX8_runNow kw1129 (by omega) (LnX8_g L ((upd z.1 1 x3), z.2.1, z.2.2)) rfl rfl (Nat.le_of_ble_eq_true rfl) hl.1 ⟨Nat.zero_le _, Nat.zero_le _⟩ dX8_spareNow_23) (fun H locs X => ?_)
      have X : Hx A D S.heap (wf q2) H locs := X
      refine lv_aload_n hx hb dX8_spareNow_26 rfl (lv_at hl 0 rfl) ?_
      refine fG B X (LnX8_g L q2) 18 rfl inTX8 (by decide) kw865 rfl dX8_spareNow_27 ?_
      refine lv_if_ne (tgt := 37) hx hb dX8_spareNow_30 (by decide) (fun hc3 => ?_) (fun hc3 => ?_)
      · have h := ie h hc3
        refine lv_iload_n hx hb dX8_spareNow_37 rfl (lv_at hl 2 rfl) ?_
        refine lv_istore_n (lv' := [(2, .int x2), (0, .ref (a 0)), (1, .int x1), (3, .int x3)]) hx hb dX8_spareNow_38 rfl hl (by decide) rfl (fun ls hl => ?_)
        refine lv_iinc (v := x3 + (-1)) (lv' := [(3, .int (x3 + (-1))), (2, .int x2), (0, .ref (a 0)), (1, .int x1)]) hx hb dX8_spareNow_39 hl (k := 3) rfl rfl (by decide) rfl (fun ls hl => ?_)
        refine lv_goto (tgt := 10) hx hb dX8_spareNow_42 (by decide) ?_
        exact ih x1 x2 (x3 + (-1)) q2 _ _ _ X (lv_sub hl [2, 3, 1, 0] rfl) h
      · have h := it h hc3
        refine lv_iload_n hx hb dX8_spareNow_33 rfl (lv_at hl 3 rfl) ?_
        refine lv_goto (tgt := 38) hx hb dX8_spareNow_34 (by decide) ?_
        refine lv_istore_n (lv' := [(2, .int x3), (0, .ref (a 0)), (1, .int x1), (3, .int x3)]) hx hb dX8_spareNow_38 rfl hl (by decide) rfl (fun ls hl => ?_)
        refine lv_iinc (v := x3 + (-1)) (lv' := [(3, .int (x3 + (-1))), (2, .int x3), (0, .ref (a 0)), (1, .int x1)]) hx hb dX8_spareNow_39 hl (k := 3) rfl rfl (by decide) rfl (fun ls hl => ?_)
        refine lv_goto (tgt := 10) hx hb dX8_spareNow_42 (by decide) ?_
        exact ih x1 x3 (x3 + (-1)) q2 _ _ _ X (lv_sub hl [2, 3, 1, 0] rfl) h
def fX8_spareNow (z : SX8) : Option (Int32 × SX8) :=
    fX8_spareNow_b10 1000 (z.1 1) (-1) 9 z
set_option maxRecDepth 100000 in
set_option maxHeartbeats 4000000 in
theorem tX8_spareNow {a q : Nat → Nat} {wf : SX8 → va_W} (L : LnX8 a q cI cB wf) {d : Nat} (hd : 9 ≤ d) {z : SX8} {q : Int32 × SX8} (h : fX8_spareNow z = some q) : Ct l yX8_spareNow cX8_spareNow 4 (some .int) d A g D [(cI, .int), (cB, .byte)] [.ref (a 0)] (wf z) (QI A D (wf q.2) q.1) := by
  refine mkM (by decide) (Nat.le_of_ble_eq_true rfl) ?_
  intro p e S m args below meth c B X ls hl
  have B : Bd RX8 cX8_spareNow 4 (some .int) d A g D [(cI, .int), (cB, .byte)] p (rmd d) S m args meth c := B
  have hx := B.1
  have hb := B.2.1
  have hd1 : 1 ≤ d := by omega
  have hl : lv_has ls 4 [(0, .ref (a 0))] := hl
  unfold fX8_spareNow at h
  refine lv_aload_n hx hb dX8_spareNow_0 rfl (lv_at hl 0 rfl) ?_
  refine fG B X (LnX8_g L z) 1 rfl inTX8 (by decide) kw848 rfl dX8_spareNow_1 ?_
  refine lv_istore_n (lv' := [(1, .int (z.1 1)), (0, .ref (a 0))]) hx hb dX8_spareNow_4 rfl hl (by decide) rfl (fun ls hl => ?_)
  refine lv_iconst (v := (-1)) hx hb dX8_spareNow_5 (by decide) ?_
  refine lv_istore_n (lv' := [(2, .int (-1)), (1, .int (z.1 1)), (0, .ref (a 0))]) hx hb dX8_spareNow_6 rfl hl (by decide) rfl (fun ls hl => ?_)
  refine lv_bipush (v := 9) hx hb dX8_spareNow_7 (by decide) ?_
  refine lv_istore_n (lv' := [(3, .int 9), (2, .int (-1)), (1, .int (z.1 1)), (0, .ref (a 0))]) hx hb dX8_spareNow_9 rfl hl (by decide) rfl (fun ls hl => ?_)
  exact tX8_spareNow_b10 L hd B 1000 (z.1 1) (-1) 9 z _ _ _ X (lv_sub hl [3, 2, 1, 0] rfl) h
def fX8_spare (z : SX8) : Option (Int32 × SX8) :=
    if (z.1 0) = 0 then (some ((-103), z)) else
    ((fX8_spareNow z).bind fun q2 =>
    some (q2.1, q2.2))
set_option maxRecDepth 100000 in
set_option maxHeartbeats 4000000 in
theorem tX8_spare {a q : Nat → Nat} {wf : SX8 → va_W} (L : LnX8 a q cI cB wf) {d : Nat} (hd : 10 ≤ d) {z : SX8} {q : Int32 × SX8} (h : fX8_spare z = some q) : Ct l yX8_spare cX8_spare 1 (some .int) d A g D [(cI, .int), (cB, .byte)] [.ref (a 0)] (wf z) (QI A D (wf q.2) q.1) := by
  refine mkM (by decide) (Nat.le_of_ble_eq_true rfl) ?_
  intro p e S m args below meth c B X ls hl
  have B : Bd RX8 cX8_spare 1 (some .int) d A g D [(cI, .int), (cB, .byte)] p (rmd d) S m args meth c := B
  have hx := B.1
  have hb := B.2.1
  have hd1 : 1 ≤ d := by omega
  have hl : lv_has ls 1 [(0, .ref (a 0))] := hl
  unfold fX8_spare at h
  refine lv_aload_n hx hb dX8_spare_0 rfl (lv_at hl 0 rfl) ?_
  refine fG B X (LnX8_g L z) 0 rfl inTX8 (by decide) kw847 rfl dX8_spare_1 ?_
  refine lv_if_ne (tgt := 12) hx hb dX8_spare_4 (by decide) (fun hc1 => ?_) (fun hc1 => ?_)
  · have h := ie h hc1
    refine lv_aload_n hx hb dX8_spare_12 rfl (lv_at hl 0 rfl) ?_
    obtain ⟨q2, h2, h⟩ := bs h
    refine kI X (cV (As := []) (rest := []) B X (tX8_spareNow (d := d - 1) L (by omega) h2) mfX8_spareNow kw1263 (by omega) (LnX8_g L z) rfl rfl (Nat.le_of_ble_eq_true rfl) hl.1 ⟨Nat.zero_le _, Nat.zero_le _⟩ dX8_spare_13) (fun H locs X => ?_)
    have X : Hx A D S.heap (wf q2.2) H locs := X
    exact rI B X (congrArg (fun q => wf q.2) (Option.some.inj h)) (congrArg (fun q => q.1) (Option.some.inj h)) dX8_spare_16
  · have h := it h hc1
    refine lv_bipush (v := (-103)) hx hb dX8_spare_7 (by decide) ?_
    refine lv_goto (tgt := 16) hx hb dX8_spare_9 (by decide) ?_
    exact rI B X (congrArg (fun q => wf q.2) (Option.some.inj h)) (congrArg (fun q => q.1) (Option.some.inj h)) dX8_spare_16
def fX8_could (x0 : Int32) (x1 : Int32) : Option Int32 :=
    if x1 = 0 then (if x0 = 0 then (some 1) else
    (if x0 = 1 then (some 1) else
    (if x0 = 4 then (some 1) else
    (some 0)))) else
    if x1 = 1 then (if x0 = 1 then (some 1) else
    (if x0 = 2 then (some 1) else
    (if x0 = 4 then (some 1) else
    (some 0)))) else
    if x1 = 2 then (if x0 = 4 then (some 1) else
    (some 0)) else
    (if x0 = 3 then (some 1) else
    (some 0))
set_option maxRecDepth 100000 in
set_option maxHeartbeats 4000000 in
theorem tX8_could {w : va_W} {d : Nat} (hd : 1 ≤ d) {x0 x1 : Int32} {q : Int32} (h : fX8_could x0 x1 = some q) : Ct l yX8_could cX8_could 2 (some .boolean) d A g D [(cI, .int), (cB, .byte)] [.int x0, .int x1] (w) (QI A D w q) := by
  refine mkM (by decide) (Nat.le_of_ble_eq_true rfl) ?_
  intro p e S m args below meth c B X ls hl
  have B : Bd RX8 cX8_could 2 (some .boolean) d A g D [(cI, .int), (cB, .byte)] p (rmd d) S m args meth c := B
  have hx := B.1
  have hb := B.2.1
  have hd1 : 1 ≤ d := by omega
  have hl : lv_has ls 2 [(0, .int x0), (1, .int x1)] := hl
  unfold fX8_could at h
  refine lv_iload_n hx hb dX8_could_0 rfl (lv_at hl 1 rfl) ?_
  by_cases hc1 : (x1 = 0)
  · have h := it h hc1
    refine lv_tableIn (off := 27) (tgt := 28) hx hb dX8_could_1 (by rw [hc1]; decide) (by rw [hc1]; decide) (by rw [hc1]; rfl) (by decide) ?_
    refine lv_iload_n hx hb dX8_could_28 rfl (lv_at hl 0 rfl) ?_
    refine lv_if_eq (tgt := 42) hx hb dX8_could_29 (by decide) (fun hc2 => ?_) (fun hc2 => ?_)
    · have h := it h hc2
      refine lv_iconst (v := 1) hx hb dX8_could_42 (by decide) ?_
      refine lv_goto (tgt := 47) hx hb dX8_could_43 (by decide) ?_
      exact rZ B X rfl (Option.some.inj h) rfl dX8_could_47
    · have h := ie h hc2
      refine lv_iload_n hx hb dX8_could_32 rfl (lv_at hl 0 rfl) ?_
      refine lv_iconst (v := 1) hx hb dX8_could_33 (by decide) ?_
      refine lv_icmp_eq (tgt := 42) hx hb dX8_could_34 (by decide) (fun hc3 => ?_) (fun hc3 => ?_)
      · have h := it h hc3
        refine lv_iconst (v := 1) hx hb dX8_could_42 (by decide) ?_
        refine lv_goto (tgt := 47) hx hb dX8_could_43 (by decide) ?_
        exact rZ B X rfl (Option.some.inj h) rfl dX8_could_47
      · have h := ie h hc3
        refine lv_iload_n hx hb dX8_could_37 rfl (lv_at hl 0 rfl) ?_
        refine lv_iconst (v := 4) hx hb dX8_could_38 (by decide) ?_
        refine lv_icmp_ne (tgt := 46) hx hb dX8_could_39 (by decide) (fun hc4 => ?_) (fun hc4 => ?_)
        · have h := ie h hc4
          refine lv_iconst (v := 0) hx hb dX8_could_46 (by decide) ?_
          exact rZ B X rfl (Option.some.inj h) rfl dX8_could_47
        · have h := it h hc4
          refine lv_iconst (v := 1) hx hb dX8_could_42 (by decide) ?_
          refine lv_goto (tgt := 47) hx hb dX8_could_43 (by decide) ?_
          exact rZ B X rfl (Option.some.inj h) rfl dX8_could_47
  have h := ie h hc1
  by_cases hc5 : (x1 = 1)
  · have h := it h hc5
    refine lv_tableIn (off := 47) (tgt := 48) hx hb dX8_could_1 (by rw [hc5]; decide) (by rw [hc5]; decide) (by rw [hc5]; rfl) (by decide) ?_
    refine lv_iload_n hx hb dX8_could_48 rfl (lv_at hl 0 rfl) ?_
    refine lv_iconst (v := 1) hx hb dX8_could_49 (by decide) ?_
    refine lv_icmp_eq (tgt := 63) hx hb dX8_could_50 (by decide) (fun hc6 => ?_) (fun hc6 => ?_)
    · have h := it h hc6
      refine lv_iconst (v := 1) hx hb dX8_could_63 (by decide) ?_
      refine lv_goto (tgt := 68) hx hb dX8_could_64 (by decide) ?_
      exact rZ B X rfl (Option.some.inj h) rfl dX8_could_68
    · have h := ie h hc6
      refine lv_iload_n hx hb dX8_could_53 rfl (lv_at hl 0 rfl) ?_
      refine lv_iconst (v := 2) hx hb dX8_could_54 (by decide) ?_
      refine lv_icmp_eq (tgt := 63) hx hb dX8_could_55 (by decide) (fun hc7 => ?_) (fun hc7 => ?_)
      · have h := it h hc7
        refine lv_iconst (v := 1) hx hb dX8_could_63 (by decide) ?_
        refine lv_goto (tgt := 68) hx hb dX8_could_64 (by decide) ?_
        exact rZ B X rfl (Option.some.inj h) rfl dX8_could_68
      · have h := ie h hc7
        refine lv_iload_n hx hb dX8_could_58 rfl (lv_at hl 0 rfl) ?_
        refine lv_iconst (v := 4) hx hb dX8_could_59 (by decide) ?_
        refine lv_icmp_ne (tgt := 67) hx hb dX8_could_60 (by decide) (fun hc8 => ?_) (fun hc8 => ?_)
        · have h := ie h hc8
          refine lv_iconst (v := 0) hx hb dX8_could_67 (by decide) ?_
          exact rZ B X rfl (Option.some.inj h) rfl dX8_could_68
        · have h := it h hc8
          refine lv_iconst (v := 1) hx hb dX8_could_63 (by decide) ?_
          refine lv_goto (tgt := 68) hx hb dX8_could_64 (by decide) ?_
          exact rZ B X rfl (Option.some.inj h) rfl dX8_could_68
  have h := ie h hc5
  by_cases hc9 : (x1 = 2)
  · have h := it h hc9
    refine lv_tableIn (off := 68) (tgt := 69) hx hb dX8_could_1 (by rw [hc9]; decide) (by rw [hc9]; decide) (by rw [hc9]; rfl) (by decide) ?_
    refine lv_iload_n hx hb dX8_could_69 rfl (lv_at hl 0 rfl) ?_
    refine lv_iconst (v := 4) hx hb dX8_could_70 (by decide) ?_
    refine lv_icmp_ne (tgt := 78) hx hb dX8_could_71 (by decide) (fun hc10 => ?_) (fun hc10 => ?_)
    · have h := ie h hc10
      refine lv_iconst (v := 0) hx hb dX8_could_78 (by decide) ?_
      exact rZ B X rfl (Option.some.inj h) rfl dX8_could_79
    · have h := it h hc10
      refine lv_iconst (v := 1) hx hb dX8_could_74 (by decide) ?_
      refine lv_goto (tgt := 79) hx hb dX8_could_75 (by decide) ?_
      exact rZ B X rfl (Option.some.inj h) rfl dX8_could_79
  have h := ie h hc9
  refine lv_tableOut (tgt := 80) hx hb dX8_could_1 (sw_out 3 (by decide) (fun k hk => by
    have : k = 0 ∨ k = 1 ∨ k = 2 := by omega
    rcases this with rfl | rfl | rfl
    · exact hc1 
    · exact hc5 
    · exact hc9)) (by decide) ?_
  refine lv_iload_n hx hb dX8_could_80 rfl (lv_at hl 0 rfl) ?_
  refine lv_iconst (v := 3) hx hb dX8_could_81 (by decide) ?_
  refine lv_icmp_ne (tgt := 89) hx hb dX8_could_82 (by decide) (fun hc11 => ?_) (fun hc11 => ?_)
  · have h := ie h hc11
    refine lv_iconst (v := 0) hx hb dX8_could_89 (by decide) ?_
    exact rZ B X rfl (Option.some.inj h) rfl dX8_could_90
  · have h := it h hc11
    refine lv_iconst (v := 1) hx hb dX8_could_85 (by decide) ?_
    refine lv_goto (tgt := 90) hx hb dX8_could_86 (by decide) ?_
    exact rZ B X rfl (Option.some.inj h) rfl dX8_could_90
def fX8_see_b61 (y0 : Int32) (y1 : Int32) (z : SX8) : Option (Int32 × SX8) :=
    if y1 < 0 ∨ 6 ≤ y1.toNatClampNeg then none else
    (some (((z.1 6) + 1), ((upd z.1 6 ((z.1 6) + 1)), z.2.1, (va_up z.2.2 8 (upd (z.2.2 8) y1.toNatClampNeg y0)))))
set_option maxRecDepth 100000 in
set_option maxHeartbeats 4000000 in
theorem tX8_see_b61 {a q : Nat → Nat} {wf : SX8 → va_W} (L : LnX8 a q cI cB wf) {d : Nat} (hd : 2 ≤ d) (B : Bd RX8 cX8_see 3 (some .int) d A g D [(cI, .int), (cB, .byte)] p R S m args meth c) {q : Int32 × SX8} : ∀ (y0 : Int32) (y1 : Int32) (z : SX8) (H : Heap) (locs : List Loc) (ls : Array Slot), Hx A D S.heap (wf z) H locs → lv_has ls 3 [(0, .ref (a 0))] → fX8_see_b61 y0 y1 z = some q → W p l e R S m args below meth c H locs 0 0 (MQ below (QI A D (wf q.2) q.1) args S 0 0 A) (F0 m 61 ls [.int y0, .int y1, .ref (a 8)]) := by
  have hx := B.1
  have hb := B.2.1
  have hd1 : 1 ≤ d := by omega
  intro y0 y1 z H locs ls X hl h
  unfold fX8_see_b61 at h
  by_cases hc1 : (y1 < 0 ∨ 6 ≤ y1.toNatClampNeg)
  · cases it h hc1
  have h := ie h hc1
  refine aP B X (LnX8_a8 L z) (LnX8_b8 L z _) 0 rfl hc1 dX8_see_61 (fun H locs X => ?_)
  have X : Hx A D S.heap (wf (z.1, z.2.1, (va_up z.2.2 8 (upd (z.2.2 8) y1.toNatClampNeg y0)))) H locs := X
  refine lv_aload_n hx hb dX8_see_62 rfl (lv_at hl 0 rfl) ?_
  refine lv_dup hx hb dX8_see_63 rfl ?_
  refine fG B X (LnX8_g L (z.1, z.2.1, (va_up z.2.2 8 (upd (z.2.2 8) y1.toNatClampNeg y0)))) 6 rfl inTX8 (by decide) kw853 rfl dX8_see_64 ?_
  refine lv_iconst (v := 1) hx hb dX8_see_67 (by decide) ?_
  refine lv_iadd hx hb dX8_see_68 ?_
  refine fP tyX8 B X (LnX8_g L (z.1, z.2.1, (va_up z.2.2 8 (upd (z.2.2 8) y1.toNatClampNeg y0)))) 6 (LnX8_i6 L (z.1, z.2.1, (va_up z.2.2 8 (upd (z.2.2 8) y1.toNatClampNeg y0))) _) rfl inTX8 tyX8_ok nmX8 (by decide) kw853 rfl rfl rfl rfl (Nat.le_of_ble_eq_true rfl) dX8_see_69 (fun H locs X => ?_)
  have X : Hx A D S.heap (wf ((upd z.1 6 ((z.1 6) + 1)), z.2.1, (va_up z.2.2 8 (upd (z.2.2 8) y1.toNatClampNeg y0)))) H locs := X
  refine lv_aload_n hx hb dX8_see_72 rfl (lv_at hl 0 rfl) ?_
  refine fG B X (LnX8_g L ((upd z.1 6 ((z.1 6) + 1)), z.2.1, (va_up z.2.2 8 (upd (z.2.2 8) y1.toNatClampNeg y0)))) 6 rfl inTX8 (by decide) kw853 rfl dX8_see_73 ?_
  exact rI B X (congrArg (fun q => wf q.2) (Option.some.inj h)) (congrArg (fun q => q.1) (Option.some.inj h)) dX8_see_76
def fX8_see (z : SX8) (x1 : Int32) (x2 : Int32) : Option (Int32 × SX8) :=
    (fX8_within x1 0 3).bind fun q1 =>
    if q1 = 0 then (some ((-102), z)) else
    (if (z.1 0) = 0 then (some ((-103), z)) else
    (if (z.1 6) = 6 then (some ((-104), z)) else
    (if (z.1 6) < 0 ∨ 6 ≤ (z.1 6).toNatClampNeg then none else
    (if x2 = 0 then (fX8_see_b61 0 (z.1 6) (z.1, z.2.1, (va_up z.2.2 7 (upd (z.2.2 7) (z.1 6).toNatClampNeg x1)))) else
    (fX8_see_b61 1 (z.1 6) (z.1, z.2.1, (va_up z.2.2 7 (upd (z.2.2 7) (z.1 6).toNatClampNeg x1))))))))
set_option maxRecDepth 100000 in
set_option maxHeartbeats 4000000 in
theorem tX8_see {a q : Nat → Nat} {wf : SX8 → va_W} (L : LnX8 a q cI cB wf) {d : Nat} (hd : 2 ≤ d) {z : SX8} {x1 x2 : Int32} {q : Int32 × SX8} (h : fX8_see z x1 x2 = some q) : Ct l yX8_see cX8_see 3 (some .int) d A g D [(cI, .int), (cB, .byte)] [.ref (a 0), .int x1, .int x2] (wf z) (QI A D (wf q.2) q.1) := by
  refine mkM (by decide) (Nat.le_of_ble_eq_true rfl) ?_
  intro p e S m args below meth c B X ls hl
  have B : Bd RX8 cX8_see 3 (some .int) d A g D [(cI, .int), (cB, .byte)] p (rmd d) S m args meth c := B
  have hx := B.1
  have hb := B.2.1
  have hd1 : 1 ≤ d := by omega
  have hl : lv_has ls 3 [(0, .ref (a 0)), (1, .int x1), (2, .int x2)] := hl
  unfold fX8_see at h
  refine lv_iload_n hx hb dX8_see_0 rfl (lv_at hl 1 rfl) ?_
  refine lv_iconst (v := 0) hx hb dX8_see_1 (by decide) ?_
  refine lv_iconst (v := 3) hx hb dX8_see_2 (by decide) ?_
  obtain ⟨q1, h1, h⟩ := bs h
  refine kI X (cS (As := [.int x1, .int 0, .int 3]) (rest := []) B X (tX8_within (d := d - 1) (by omega) h1) msX8_within kw1038 (by omega) rfl (Nat.le_of_ble_eq_true rfl) hl.1 ⟨Nat.zero_le _, Nat.zero_le _⟩ dX8_see_3) (fun H locs X => ?_)
  have X : Hx A D S.heap (wf z) H locs := X
  refine lv_if_ne (tgt := 12) hx hb dX8_see_6 (by decide) (fun hc2 => ?_) (fun hc2 => ?_)
  · have h := ie h hc2
    refine lv_aload_n hx hb dX8_see_12 rfl (lv_at hl 0 rfl) ?_
    refine fG B X (LnX8_g L z) 0 rfl inTX8 (by decide) kw847 rfl dX8_see_13 ?_
    refine lv_if_ne (tgt := 22) hx hb dX8_see_16 (by decide) (fun hc3 => ?_) (fun hc3 => ?_)
    · have h := ie h hc3
      refine lv_aload_n hx hb dX8_see_22 rfl (lv_at hl 0 rfl) ?_
      refine fG B X (LnX8_g L z) 6 rfl inTX8 (by decide) kw853 rfl dX8_see_23 ?_
      refine lv_bipush (v := 6) hx hb dX8_see_26 (by decide) ?_
      refine lv_icmp_ne (tgt := 34) hx hb dX8_see_28 (by decide) (fun hc4 => ?_) (fun hc4 => ?_)
      · have h := ie h hc4
        refine lv_aload_n hx hb dX8_see_34 rfl (lv_at hl 0 rfl) ?_
        refine fG B X (LnX8_g L z) 7 rfl inTX8 (by decide) kw854 rfl dX8_see_35 ?_
        refine lv_aload_n hx hb dX8_see_38 rfl (lv_at hl 0 rfl) ?_
        refine fG B X (LnX8_g L z) 6 rfl inTX8 (by decide) kw853 rfl dX8_see_39 ?_
        refine lv_iload_n hx hb dX8_see_42 rfl (lv_at hl 1 rfl) ?_
        by_cases hc5 : ((z.1 6) < 0 ∨ 6 ≤ (z.1 6).toNatClampNeg)
        · cases it h hc5
        have h := ie h hc5
        refine aP B X (LnX8_a7 L z) (LnX8_b7 L z _) 0 rfl hc5 dX8_see_43 (fun H locs X => ?_)
        have X : Hx A D S.heap (wf (z.1, z.2.1, (va_up z.2.2 7 (upd (z.2.2 7) (z.1 6).toNatClampNeg x1)))) H locs := X
        refine lv_aload_n hx hb dX8_see_44 rfl (lv_at hl 0 rfl) ?_
        refine fG B X (LnX8_g L (z.1, z.2.1, (va_up z.2.2 7 (upd (z.2.2 7) (z.1 6).toNatClampNeg x1)))) 8 rfl inTX8 (by decide) kw855 rfl dX8_see_45 ?_
        refine lv_aload_n hx hb dX8_see_48 rfl (lv_at hl 0 rfl) ?_
        refine fG B X (LnX8_g L (z.1, z.2.1, (va_up z.2.2 7 (upd (z.2.2 7) (z.1 6).toNatClampNeg x1)))) 6 rfl inTX8 (by decide) kw853 rfl dX8_see_49 ?_
        refine lv_iload_n hx hb dX8_see_52 rfl (lv_at hl 2 rfl) ?_
        refine lv_if_eq (tgt := 60) hx hb dX8_see_53 (by decide) (fun hc6 => ?_) (fun hc6 => ?_)
        · have h := it h hc6
          refine lv_iconst (v := 0) hx hb dX8_see_60 (by decide) ?_
          exact tX8_see_b61 L hd B 0 (z.1 6) (z.1, z.2.1, (va_up z.2.2 7 (upd (z.2.2 7) (z.1 6).toNatClampNeg x1))) _ _ _ X (lv_sub hl [0] rfl) h
        · have h := ie h hc6
          refine lv_iconst (v := 1) hx hb dX8_see_56 (by decide) ?_
          refine lv_goto (tgt := 61) hx hb dX8_see_57 (by decide) ?_
          exact tX8_see_b61 L hd B 1 (z.1 6) (z.1, z.2.1, (va_up z.2.2 7 (upd (z.2.2 7) (z.1 6).toNatClampNeg x1))) _ _ _ X (lv_sub hl [0] rfl) h
      · have h := it h hc4
        refine lv_bipush (v := (-104)) hx hb dX8_see_31 (by decide) ?_
        exact rI B X (congrArg (fun q => wf q.2) (Option.some.inj h)) (congrArg (fun q => q.1) (Option.some.inj h)) dX8_see_33
    · have h := it h hc3
      refine lv_bipush (v := (-103)) hx hb dX8_see_19 (by decide) ?_
      exact rI B X (congrArg (fun q => wf q.2) (Option.some.inj h)) (congrArg (fun q => q.1) (Option.some.inj h)) dX8_see_21
  · have h := it h hc2
    refine lv_bipush (v := (-102)) hx hb dX8_see_9 (by decide) ?_
    exact rI B X (congrArg (fun q => wf q.2) (Option.some.inj h)) (congrArg (fun q => q.1) (Option.some.inj h)) dX8_see_11
def fX8_forget (z : SX8) : Option (Int32 × SX8) :=
    some ((z.1 6), ((upd z.1 6 0), z.2.1, z.2.2))
set_option maxRecDepth 100000 in
set_option maxHeartbeats 4000000 in
theorem tX8_forget {a q : Nat → Nat} {wf : SX8 → va_W} (L : LnX8 a q cI cB wf) {d : Nat} (hd : 1 ≤ d) {z : SX8} {q : Int32 × SX8} (h : fX8_forget z = some q) : Ct l yX8_forget cX8_forget 2 (some .int) d A g D [(cI, .int), (cB, .byte)] [.ref (a 0)] (wf z) (QI A D (wf q.2) q.1) := by
  refine mkM (by decide) (Nat.le_of_ble_eq_true rfl) ?_
  intro p e S m args below meth c B X ls hl
  have B : Bd RX8 cX8_forget 2 (some .int) d A g D [(cI, .int), (cB, .byte)] p (rmd d) S m args meth c := B
  have hx := B.1
  have hb := B.2.1
  have hd1 : 1 ≤ d := by omega
  have hl : lv_has ls 2 [(0, .ref (a 0))] := hl
  unfold fX8_forget at h
  refine lv_aload_n hx hb dX8_forget_0 rfl (lv_at hl 0 rfl) ?_
  refine fG B X (LnX8_g L z) 6 rfl inTX8 (by decide) kw853 rfl dX8_forget_1 ?_
  refine lv_istore_n (lv' := [(1, .int (z.1 6)), (0, .ref (a 0))]) hx hb dX8_forget_4 rfl hl (by decide) rfl (fun ls hl => ?_)
  refine lv_aload_n hx hb dX8_forget_5 rfl (lv_at hl 1 rfl) ?_
  refine lv_iconst (v := 0) hx hb dX8_forget_6 (by decide) ?_
  refine fP tyX8 B X (LnX8_g L z) 6 (LnX8_i6 L z _) rfl inTX8 tyX8_ok nmX8 (by decide) kw853 rfl rfl rfl rfl (Nat.le_of_ble_eq_true rfl) dX8_forget_7 (fun H locs X => ?_)
  have X : Hx A D S.heap (wf ((upd z.1 6 0), z.2.1, z.2.2)) H locs := X
  refine lv_iload_n hx hb dX8_forget_10 rfl (lv_at hl 0 rfl) ?_
  exact rI B X (congrArg (fun q => wf q.2) (Option.some.inj h)) (congrArg (fun q => q.1) (Option.some.inj h)) dX8_forget_11
def fX8_sortsNow_b14 (k4 : Int32 → Int32 → Option Int32) (z : SX8) : Nat → Int32 → Int32 → Int32 → Int32 → Option Int32
  | 0, _, _, _, _ => none
  | n + 1, x1, x2, x3, x4 =>
    if (z.1 6) ≤ x4 then (if x3 = 0 then (k4 (x1 ||| 0) (x2 + 1)) else
    (k4 (x1 ||| (1 <<< (x2 &&& 31))) (x2 + 1))) else
    (if x3 = 0 then (fX8_sortsNow_b14 k4 z n x1 x2 0 (x4 + 1)) else
    (if x4 < 0 ∨ 6 ≤ x4.toNatClampNeg then none else
    ((fX8_could x2 ((z.2.2 7) x4.toNatClampNeg)).bind fun q5 =>
    if x4 < 0 ∨ 6 ≤ x4.toNatClampNeg then none else
    (if ((z.2.2 8) x4.toNatClampNeg) = 1 then (if q5 = 1 then (fX8_sortsNow_b14 k4 z n x1 x2 1 (x4 + 1)) else
    (fX8_sortsNow_b14 k4 z n x1 x2 0 (x4 + 1))) else
    (if q5 = 0 then (fX8_sortsNow_b14 k4 z n x1 x2 1 (x4 + 1)) else
    (fX8_sortsNow_b14 k4 z n x1 x2 0 (x4 + 1)))))))
set_option maxRecDepth 100000 in
set_option maxHeartbeats 4000000 in
theorem tX8_sortsNow_b14 {a q : Nat → Nat} {wf : SX8 → va_W} (L : LnX8 a q cI cB wf) {d : Nat} (hd : 2 ≤ d) {z : SX8} (B : Bd RX8 cX8_sortsNow 5 (some .int) d A g D [(cI, .int), (cB, .byte)] p R S m args meth c) {q : Int32} {k4 : Int32 → Int32 → Option Int32} (hk4 : ∀ (x1 : Int32) (x2 : Int32) (H : Heap) (locs : List Loc) (ls : Array Slot), Hx A D S.heap (wf z) H locs → lv_has ls 5 [(0, .ref (a 0)), (1, .int x1), (2, .int x2)] → k4 x1 x2 = some q → W p l e R S m args below meth c H locs 0 0 (MQ below (QI A D (wf z) q) args S 0 0 A) (F0 m 4 ls [])) : ∀ (n : Nat) (x1 : Int32) (x2 : Int32) (x3 : Int32) (x4 : Int32) (H : Heap) (locs : List Loc) (ls : Array Slot), Hx A D S.heap (wf z) H locs → lv_has ls 5 [(0, .ref (a 0)), (1, .int x1), (2, .int x2), (3, .int x3), (4, .int x4)] → fX8_sortsNow_b14 k4 z n x1 x2 x3 x4 = some q → W p l e R S m args below meth c H locs 0 0 (MQ below (QI A D (wf z) q) args S 0 0 A) (F0 m 14 ls []) := by
  have hx := B.1
  have hb := B.2.1
  have hd1 : 1 ≤ d := by omega
  intro n
  induction n with
  | zero =>
    intro x1 x2 x3 x4 H locs ls X hl h
    cases h
  | succ n ih =>
    intro x1 x2 x3 x4 H locs ls X hl h
    rw [fX8_sortsNow_b14] at h
    refine lv_iload hx hb dX8_sortsNow_14 (lv_at hl 4 rfl) ?_
    refine lv_aload_n hx hb dX8_sortsNow_16 rfl (lv_at hl 0 rfl) ?_
    refine fG B X (LnX8_g L z) 6 rfl inTX8 (by decide) kw853 rfl dX8_sortsNow_17 ?_
    refine lv_icmp_ge (tgt := 69) hx hb dX8_sortsNow_20 (by decide) (fun hc1 => ?_) (fun hc1 => ?_)
    · have h := it h hc1
      refine lv_iload_n hx hb dX8_sortsNow_69 rfl (lv_at hl 1 rfl) ?_
      refine lv_iload_n hx hb dX8_sortsNow_70 rfl (lv_at hl 3 rfl) ?_
      refine lv_if_eq (tgt := 80) hx hb dX8_sortsNow_71 (by decide) (fun hc2 => ?_) (fun hc2 => ?_)
      · have h := it h hc2
        refine lv_iconst (v := 0) hx hb dX8_sortsNow_80 (by decide) ?_
        refine lv_ior hx hb dX8_sortsNow_81 ?_
        refine lv_istore_n (lv' := [(1, .int (x1 ||| 0)), (0, .ref (a 0)), (2, .int x2), (3, .int x3), (4, .int x4)]) hx hb dX8_sortsNow_82 rfl hl (by decide) rfl (fun ls hl => ?_)
        refine lv_iinc (v := x2 + 1) (lv' := [(2, .int (x2 + 1)), (1, .int (x1 ||| 0)), (0, .ref (a 0)), (3, .int x3), (4, .int x4)]) hx hb dX8_sortsNow_83 hl (k := 2) rfl rfl (by decide) rfl (fun ls hl => ?_)
        refine lv_goto (tgt := 4) hx hb dX8_sortsNow_86 (by decide) ?_
        exact hk4 (x1 ||| 0) (x2 + 1) _ _ _ X (lv_sub hl [2, 1, 0] rfl) h
      · have h := ie h hc2
        refine lv_iconst (v := 1) hx hb dX8_sortsNow_74 (by decide) ?_
        refine lv_iload_n hx hb dX8_sortsNow_75 rfl (lv_at hl 2 rfl) ?_
        refine lv_ishl hx hb dX8_sortsNow_76 ?_
        refine lv_goto (tgt := 81) hx hb dX8_sortsNow_77 (by decide) ?_
        refine lv_ior hx hb dX8_sortsNow_81 ?_
        refine lv_istore_n (lv' := [(1, .int (x1 ||| (1 <<< (x2 &&& 31)))), (0, .ref (a 0)), (2, .int x2), (3, .int x3), (4, .int x4)]) hx hb dX8_sortsNow_82 rfl hl (by decide) rfl (fun ls hl => ?_)
        refine lv_iinc (v := x2 + 1) (lv' := [(2, .int (x2 + 1)), (1, .int (x1 ||| (1 <<< (x2 &&& 31)))), (0, .ref (a 0)), (3, .int x3), (4, .int x4)]) hx hb dX8_sortsNow_83 hl (k := 2) rfl rfl (by decide) rfl (fun ls hl => ?_)
        refine lv_goto (tgt := 4) hx hb dX8_sortsNow_86 (by decide) ?_
        exact hk4 (x1 ||| (1 <<< (x2 &&& 31))) (x2 + 1) _ _ _ X (lv_sub hl [2, 1, 0] rfl) h
    · have h := ie h hc1
      refine lv_iload_n hx hb dX8_sortsNow_23 rfl (lv_at hl 3 rfl) ?_
      refine lv_if_eq (tgt := 61) hx hb dX8_sortsNow_24 (by decide) (fun hc3 => ?_) (fun hc3 => ?_)
      · have h := it h hc3
        refine lv_iconst (v := 0) hx hb dX8_sortsNow_61 (by decide) ?_
        refine lv_istore_n (lv' := [(3, .int 0), (0, .ref (a 0)), (1, .int x1), (2, .int x2), (4, .int x4)]) hx hb dX8_sortsNow_62 rfl hl (by decide) rfl (fun ls hl => ?_)
        refine lv_iinc (v := x4 + 1) (lv' := [(4, .int (x4 + 1)), (3, .int 0), (0, .ref (a 0)), (1, .int x1), (2, .int x2)]) hx hb dX8_sortsNow_63 hl (k := 4) rfl rfl (by decide) rfl (fun ls hl => ?_)
        refine lv_goto (tgt := 14) hx hb dX8_sortsNow_66 (by decide) ?_
        exact ih x1 x2 0 (x4 + 1) _ _ _ X (lv_sub hl [2, 3, 4, 1, 0] rfl) h
      · have h := ie h hc3
        refine lv_iload_n hx hb dX8_sortsNow_27 rfl (lv_at hl 2 rfl) ?_
        refine lv_aload_n hx hb dX8_sortsNow_28 rfl (lv_at hl 0 rfl) ?_
        refine fG B X (LnX8_g L z) 7 rfl inTX8 (by decide) kw854 rfl dX8_sortsNow_29 ?_
        refine lv_iload hx hb dX8_sortsNow_32 (lv_at hl 4 rfl) ?_
        by_cases hc4 : (x4 < 0 ∨ 6 ≤ x4.toNatClampNeg)
        · cases it h hc4
        have h := ie h hc4
        refine aG B X (LnX8_a7 L z) 0 rfl hc4 dX8_sortsNow_34 ?_
        obtain ⟨q5, h5, h⟩ := bs h
        refine kI X (cS (As := [.int x2, .int ((z.2.2 7) x4.toNatClampNeg)]) (rest := []) B X (tX8_could (d := d - 1) (by omega) h5) msX8_could kw1284 (by omega) rfl (Nat.le_of_ble_eq_true rfl) hl.1 ⟨Nat.zero_le _, Nat.zero_le _⟩ dX8_sortsNow_35) (fun H locs X => ?_)
        have X : Hx A D S.heap (wf z) H locs := X
        refine lv_aload_n hx hb dX8_sortsNow_38 rfl (lv_at hl 0 rfl) ?_
        refine fG B X (LnX8_g L z) 8 rfl inTX8 (by decide) kw855 rfl dX8_sortsNow_39 ?_
        refine lv_iload hx hb dX8_sortsNow_42 (lv_at hl 4 rfl) ?_
        by_cases hc6 : (x4 < 0 ∨ 6 ≤ x4.toNatClampNeg)
        · cases it h hc6
        have h := ie h hc6
        refine aG B X (LnX8_a8 L z) 0 rfl hc6 dX8_sortsNow_44 ?_
        refine lv_iconst (v := 1) hx hb dX8_sortsNow_45 (by decide) ?_
        refine lv_icmp_ne (tgt := 53) hx hb dX8_sortsNow_46 (by decide) (fun hc7 => ?_) (fun hc7 => ?_)
        · have h := ie h hc7
          refine lv_iconst (v := 0) hx hb dX8_sortsNow_53 (by decide) ?_
          refine lv_icmp_ne (tgt := 61) hx hb dX8_sortsNow_54 (by decide) (fun hc8 => ?_) (fun hc8 => ?_)
          · have h := ie h hc8
            refine lv_iconst (v := 0) hx hb dX8_sortsNow_61 (by decide) ?_
            refine lv_istore_n (lv' := [(3, .int 0), (0, .ref (a 0)), (1, .int x1), (2, .int x2), (4, .int x4)]) hx hb dX8_sortsNow_62 rfl hl (by decide) rfl (fun ls hl => ?_)
            refine lv_iinc (v := x4 + 1) (lv' := [(4, .int (x4 + 1)), (3, .int 0), (0, .ref (a 0)), (1, .int x1), (2, .int x2)]) hx hb dX8_sortsNow_63 hl (k := 4) rfl rfl (by decide) rfl (fun ls hl => ?_)
            refine lv_goto (tgt := 14) hx hb dX8_sortsNow_66 (by decide) ?_
            exact ih x1 x2 0 (x4 + 1) _ _ _ X (lv_sub hl [2, 3, 4, 1, 0] rfl) h
          · have h := it h hc8
            refine lv_iconst (v := 1) hx hb dX8_sortsNow_57 (by decide) ?_
            refine lv_goto (tgt := 62) hx hb dX8_sortsNow_58 (by decide) ?_
            refine lv_istore_n (lv' := [(3, .int 1), (0, .ref (a 0)), (1, .int x1), (2, .int x2), (4, .int x4)]) hx hb dX8_sortsNow_62 rfl hl (by decide) rfl (fun ls hl => ?_)
            refine lv_iinc (v := x4 + 1) (lv' := [(4, .int (x4 + 1)), (3, .int 1), (0, .ref (a 0)), (1, .int x1), (2, .int x2)]) hx hb dX8_sortsNow_63 hl (k := 4) rfl rfl (by decide) rfl (fun ls hl => ?_)
            refine lv_goto (tgt := 14) hx hb dX8_sortsNow_66 (by decide) ?_
            exact ih x1 x2 1 (x4 + 1) _ _ _ X (lv_sub hl [2, 3, 4, 1, 0] rfl) h
        · have h := it h hc7
          refine lv_iconst (v := 1) hx hb dX8_sortsNow_49 (by decide) ?_
          refine lv_goto (tgt := 54) hx hb dX8_sortsNow_50 (by decide) ?_
          refine lv_icmp_ne (tgt := 61) hx hb dX8_sortsNow_54 (by decide) (fun hc9 => ?_) (fun hc9 => ?_)
          · have h := ie h hc9
            refine lv_iconst (v := 0) hx hb dX8_sortsNow_61 (by decide) ?_
            refine lv_istore_n (lv' := [(3, .int 0), (0, .ref (a 0)), (1, .int x1), (2, .int x2), (4, .int x4)]) hx hb dX8_sortsNow_62 rfl hl (by decide) rfl (fun ls hl => ?_)
            refine lv_iinc (v := x4 + 1) (lv' := [(4, .int (x4 + 1)), (3, .int 0), (0, .ref (a 0)), (1, .int x1), (2, .int x2)]) hx hb dX8_sortsNow_63 hl (k := 4) rfl rfl (by decide) rfl (fun ls hl => ?_)
            refine lv_goto (tgt := 14) hx hb dX8_sortsNow_66 (by decide) ?_
            exact ih x1 x2 0 (x4 + 1) _ _ _ X (lv_sub hl [2, 3, 4, 1, 0] rfl) h
          · have h := it h hc9
            refine lv_iconst (v := 1) hx hb dX8_sortsNow_57 (by decide) ?_
            refine lv_goto (tgt := 62) hx hb dX8_sortsNow_58 (by decide) ?_
            refine lv_istore_n (lv' := [(3, .int 1), (0, .ref (a 0)), (1, .int x1), (2, .int x2), (4, .int x4)]) hx hb dX8_sortsNow_62 rfl hl (by decide) rfl (fun ls hl => ?_)
            refine lv_iinc (v := x4 + 1) (lv' := [(4, .int (x4 + 1)), (3, .int 1), (0, .ref (a 0)), (1, .int x1), (2, .int x2)]) hx hb dX8_sortsNow_63 hl (k := 4) rfl rfl (by decide) rfl (fun ls hl => ?_)
            refine lv_goto (tgt := 14) hx hb dX8_sortsNow_66 (by decide) ?_
            exact ih x1 x2 1 (x4 + 1) _ _ _ X (lv_sub hl [2, 3, 4, 1, 0] rfl) h
def fX8_sortsNow_b4 (z : SX8) : Nat → Int32 → Int32 → Option Int32
  | 0, _, _ => none
  | n + 1, x1, x2 =>
    if 4 < x2 then (some x1) else
    (fX8_sortsNow_b14 (fX8_sortsNow_b4 z n) z 1000 x1 x2 1 0)
set_option maxRecDepth 100000 in
set_option maxHeartbeats 4000000 in
theorem tX8_sortsNow_b4 {a q : Nat → Nat} {wf : SX8 → va_W} (L : LnX8 a q cI cB wf) {d : Nat} (hd : 2 ≤ d) {z : SX8} (B : Bd RX8 cX8_sortsNow 5 (some .int) d A g D [(cI, .int), (cB, .byte)] p R S m args meth c) {q : Int32} : ∀ (n : Nat) (x1 : Int32) (x2 : Int32) (H : Heap) (locs : List Loc) (ls : Array Slot), Hx A D S.heap (wf z) H locs → lv_has ls 5 [(0, .ref (a 0)), (1, .int x1), (2, .int x2)] → fX8_sortsNow_b4 z n x1 x2 = some q → W p l e R S m args below meth c H locs 0 0 (MQ below (QI A D (wf z) q) args S 0 0 A) (F0 m 4 ls []) := by
  have hx := B.1
  have hb := B.2.1
  have hd1 : 1 ≤ d := by omega
  intro n
  induction n with
  | zero =>
    intro x1 x2 H locs ls X hl h
    cases h
  | succ n ih =>
    intro x1 x2 H locs ls X hl h
    rw [fX8_sortsNow_b4] at h
    refine lv_iload_n hx hb dX8_sortsNow_4 rfl (lv_at hl 2 rfl) ?_
    refine lv_iconst (v := 4) hx hb dX8_sortsNow_5 (by decide) ?_
    refine lv_icmp_gt (tgt := 89) hx hb dX8_sortsNow_6 (by decide) (fun hc1 => ?_) (fun hc1 => ?_)
    · have h := it h hc1
      refine lv_iload_n hx hb dX8_sortsNow_89 rfl (lv_at hl 1 rfl) ?_
      exact rI B X rfl (Option.some.inj h) dX8_sortsNow_90
    · have h := ie h hc1
      refine lv_iconst (v := 1) hx hb dX8_sortsNow_9 (by decide) ?_
      refine lv_istore_n (lv' := [(3, .int 1), (0, .ref (a 0)), (1, .int x1), (2, .int x2)]) hx hb dX8_sortsNow_10 rfl hl (by decide) rfl (fun ls hl => ?_)
      refine lv_iconst (v := 0) hx hb dX8_sortsNow_11 (by decide) ?_
      refine lv_istore (lv' := [(4, .int 0), (3, .int 1), (0, .ref (a 0)), (1, .int x1), (2, .int x2)]) hx hb dX8_sortsNow_12 hl (by decide) rfl (fun ls hl => ?_)
      exact tX8_sortsNow_b14 L hd B ih 1000 x1 x2 1 0 _ _ _ X (lv_sub hl [2, 3, 4, 1, 0] rfl) h
def fX8_sortsNow (z : SX8) : Option Int32 :=
    fX8_sortsNow_b4 z 1000 0 0
set_option maxRecDepth 100000 in
set_option maxHeartbeats 4000000 in
theorem tX8_sortsNow {a q : Nat → Nat} {wf : SX8 → va_W} (L : LnX8 a q cI cB wf) {d : Nat} (hd : 2 ≤ d) {z : SX8} {q : Int32} (h : fX8_sortsNow z = some q) : Ct l yX8_sortsNow cX8_sortsNow 5 (some .int) d A g D [(cI, .int), (cB, .byte)] [.ref (a 0)] (wf z) (QI A D (wf z) q) := by
  refine mkM (by decide) (Nat.le_of_ble_eq_true rfl) ?_
  intro p e S m args below meth c B X ls hl
  have B : Bd RX8 cX8_sortsNow 5 (some .int) d A g D [(cI, .int), (cB, .byte)] p (rmd d) S m args meth c := B
  have hx := B.1
  have hb := B.2.1
  have hd1 : 1 ≤ d := by omega
  have hl : lv_has ls 5 [(0, .ref (a 0))] := hl
  unfold fX8_sortsNow at h
  refine lv_iconst (v := 0) hx hb dX8_sortsNow_0 (by decide) ?_
  refine lv_istore_n (lv' := [(1, .int 0), (0, .ref (a 0))]) hx hb dX8_sortsNow_1 rfl hl (by decide) rfl (fun ls hl => ?_)
  refine lv_iconst (v := 0) hx hb dX8_sortsNow_2 (by decide) ?_
  refine lv_istore_n (lv' := [(2, .int 0), (1, .int 0), (0, .ref (a 0))]) hx hb dX8_sortsNow_3 rfl hl (by decide) rfl (fun ls hl => ?_)
  exact tX8_sortsNow_b4 L hd B 1000 0 0 _ _ _ X (lv_sub hl [2, 1, 0] rfl) h
def fX8_askNow_b108 (k14 : Int32 → Int32 → Int32 → Int32 → Option Int32) (z : SX8) (x1 : Int32) (x3 : Int32) (x4 : Int32) (x7 : Int32) (y0 : Int32) : Option Int32 :=
    if x3 ≤ x7 then (k14 x1 y0 x3 (x4 + 1)) else
    (k14 x1 y0 x7 (x4 + 1))
set_option maxRecDepth 100000 in
set_option maxHeartbeats 4000000 in
theorem tX8_askNow_b108 {a q : Nat → Nat} {wf : SX8 → va_W} (L : LnX8 a q cI cB wf) {d : Nat} (hd : 3 ≤ d) {z : SX8} (B : Bd RX8 cX8_askNow 8 (some .int) d A g D [(cI, .int), (cB, .byte)] p R S m args meth c) {q : Int32} {k14 : Int32 → Int32 → Int32 → Int32 → Option Int32} (hk14 : ∀ (x1 : Int32) (x2 : Int32) (x3 : Int32) (x4 : Int32) (H : Heap) (locs : List Loc) (ls : Array Slot), Hx A D S.heap (wf z) H locs → lv_has ls 8 [(1, .int x1), (2, .int x2), (3, .int x3), (4, .int x4)] → k14 x1 x2 x3 x4 = some q → W p l e R S m args below meth c H locs 0 0 (MQ below (QI A D (wf z) q) args S 0 0 A) (F0 m 14 ls [])) : ∀ (x1 : Int32) (x3 : Int32) (x4 : Int32) (x7 : Int32) (y0 : Int32) (H : Heap) (locs : List Loc) (ls : Array Slot), Hx A D S.heap (wf z) H locs → lv_has ls 8 [(1, .int x1), (3, .int x3), (4, .int x4), (7, .int x7)] → fX8_askNow_b108 k14 z x1 x3 x4 x7 y0 = some q → W p l e R S m args below meth c H locs 0 0 (MQ below (QI A D (wf z) q) args S 0 0 A) (F0 m 108 ls [.int y0]) := by
  have hx := B.1
  have hb := B.2.1
  have hd1 : 1 ≤ d := by omega
  intro x1 x3 x4 x7 y0 H locs ls X hl h
  unfold fX8_askNow_b108 at h
  refine lv_istore_n (lv' := [(2, .int y0), (1, .int x1), (3, .int x3), (4, .int x4), (7, .int x7)]) hx hb dX8_askNow_108 rfl hl (by decide) rfl (fun ls hl => ?_)
  refine lv_iload hx hb dX8_askNow_109 (lv_at hl 4 rfl) ?_
  refine lv_iload_n hx hb dX8_askNow_111 rfl (lv_at hl 2 rfl) ?_
  refine lv_icmp_ge (tgt := 120) hx hb dX8_askNow_112 (by decide) (fun hc1 => ?_) (fun hc1 => ?_)
  · have h := it h hc1
    refine lv_iload_n hx hb dX8_askNow_120 rfl (lv_at hl 2 rfl) ?_
    refine lv_istore_n (lv' := [(3, .int x3), (2, .int y0), (1, .int x1), (4, .int x4), (7, .int x7)]) hx hb dX8_askNow_121 rfl hl (by decide) rfl (fun ls hl => ?_)
    refine lv_iinc (v := x4 + 1) (lv' := [(4, .int (x4 + 1)), (3, .int x3), (2, .int y0), (1, .int x1), (7, .int x7)]) hx hb dX8_askNow_122 hl (k := 3) rfl rfl (by decide) rfl (fun ls hl => ?_)
    refine lv_goto (tgt := 14) hx hb dX8_askNow_125 (by decide) ?_
    exact hk14 x1 y0 x3 (x4 + 1) _ _ _ X (lv_sub hl [3, 2, 1, 0] rfl) h
  · have h := ie h hc1
    refine lv_iload hx hb dX8_askNow_115 (lv_at hl 4 rfl) ?_
    refine lv_goto (tgt := 121) hx hb dX8_askNow_117 (by decide) ?_
    refine lv_istore_n (lv' := [(3, .int x7), (2, .int y0), (1, .int x1), (4, .int x4), (7, .int x7)]) hx hb dX8_askNow_121 rfl hl (by decide) rfl (fun ls hl => ?_)
    refine lv_iinc (v := x4 + 1) (lv' := [(4, .int (x4 + 1)), (3, .int x7), (2, .int y0), (1, .int x1), (7, .int x7)]) hx hb dX8_askNow_122 hl (k := 3) rfl rfl (by decide) rfl (fun ls hl => ?_)
    refine lv_goto (tgt := 14) hx hb dX8_askNow_125 (by decide) ?_
    exact hk14 x1 y0 x7 (x4 + 1) _ _ _ X (lv_sub hl [3, 2, 1, 0] rfl) h
def fX8_askNow_b94 (k14 : Int32 → Int32 → Int32 → Int32 → Option Int32) (z : SX8) (x1 : Int32) (x2 : Int32) (x3 : Int32) (x4 : Int32) (y0 : Int32) : Option Int32 :=
    if x3 ≤ y0 then (fX8_askNow_b108 k14 z x1 x3 x4 y0 x2) else
    (fX8_askNow_b108 k14 z x1 x3 x4 y0 x4)
set_option maxRecDepth 100000 in
set_option maxHeartbeats 4000000 in
theorem tX8_askNow_b94 {a q : Nat → Nat} {wf : SX8 → va_W} (L : LnX8 a q cI cB wf) {d : Nat} (hd : 3 ≤ d) {z : SX8} (B : Bd RX8 cX8_askNow 8 (some .int) d A g D [(cI, .int), (cB, .byte)] p R S m args meth c) {q : Int32} {k14 : Int32 → Int32 → Int32 → Int32 → Option Int32} (hk14 : ∀ (x1 : Int32) (x2 : Int32) (x3 : Int32) (x4 : Int32) (H : Heap) (locs : List Loc) (ls : Array Slot), Hx A D S.heap (wf z) H locs → lv_has ls 8 [(1, .int x1), (2, .int x2), (3, .int x3), (4, .int x4)] → k14 x1 x2 x3 x4 = some q → W p l e R S m args below meth c H locs 0 0 (MQ below (QI A D (wf z) q) args S 0 0 A) (F0 m 14 ls [])) : ∀ (x1 : Int32) (x2 : Int32) (x3 : Int32) (x4 : Int32) (y0 : Int32) (H : Heap) (locs : List Loc) (ls : Array Slot), Hx A D S.heap (wf z) H locs → lv_has ls 8 [(1, .int x1), (2, .int x2), (3, .int x3), (4, .int x4)] → fX8_askNow_b94 k14 z x1 x2 x3 x4 y0 = some q → W p l e R S m args below meth c H locs 0 0 (MQ below (QI A D (wf z) q) args S 0 0 A) (F0 m 94 ls [.int y0]) := by
  have hx := B.1
  have hb := B.2.1
  have hd1 : 1 ≤ d := by omega
  intro x1 x2 x3 x4 y0 H locs ls X hl h
  unfold fX8_askNow_b94 at h
  refine lv_istore (lv' := [(7, .int y0), (1, .int x1), (2, .int x2), (3, .int x3), (4, .int x4)]) hx hb dX8_askNow_94 hl (by decide) rfl (fun ls hl => ?_)
  refine lv_iload hx hb dX8_askNow_96 (lv_at hl 0 rfl) ?_
  refine lv_iload_n hx hb dX8_askNow_98 rfl (lv_at hl 3 rfl) ?_
  refine lv_icmp_ge (tgt := 107) hx hb dX8_askNow_99 (by decide) (fun hc1 => ?_) (fun hc1 => ?_)
  · have h := it h hc1
    refine lv_iload_n hx hb dX8_askNow_107 rfl (lv_at hl 2 rfl) ?_
    exact tX8_askNow_b108 L hd B hk14 x1 x3 x4 y0 x2 _ _ _ X (lv_sub hl [1, 3, 4, 0] rfl) h
  · have h := ie h hc1
    refine lv_iload hx hb dX8_askNow_102 (lv_at hl 4 rfl) ?_
    refine lv_goto (tgt := 108) hx hb dX8_askNow_104 (by decide) ?_
    exact tX8_askNow_b108 L hd B hk14 x1 x3 x4 y0 x4 _ _ _ X (lv_sub hl [1, 3, 4, 0] rfl) h
def fX8_askNow_b30 (k14 : Int32 → Int32 → Int32 → Int32 → Option Int32) (z : SX8) : Nat → Int32 → Int32 → Int32 → Int32 → Int32 → Int32 → Option Int32
  | 0, _, _, _, _, _, _ => none
  | n + 1, x1, x2, x3, x4, x5, x6 =>
    if 4 < x6 then ((fX8_size x1).bind fun q2 =>
    if x5 ≤ (q2 - x5) then (fX8_askNow_b94 k14 z x1 x2 x3 x4 (q2 - x5)) else
    (fX8_askNow_b94 k14 z x1 x2 x3 x4 x5)) else
    ((fX8_isIn x1 x6).bind fun q4 =>
    if q4 = 0 then (fX8_askNow_b30 k14 z n x1 x2 x3 x4 (x5 + 0) (x6 + 1)) else
    ((fX8_could x6 x4).bind fun q6 =>
    if q6 = 0 then (fX8_askNow_b30 k14 z n x1 x2 x3 x4 (x5 + 0) (x6 + 1)) else
    (fX8_askNow_b30 k14 z n x1 x2 x3 x4 (x5 + 1) (x6 + 1))))
set_option maxRecDepth 100000 in
set_option maxHeartbeats 4000000 in
theorem tX8_askNow_b30 {a q : Nat → Nat} {wf : SX8 → va_W} (L : LnX8 a q cI cB wf) {d : Nat} (hd : 3 ≤ d) {z : SX8} (B : Bd RX8 cX8_askNow 8 (some .int) d A g D [(cI, .int), (cB, .byte)] p R S m args meth c) {q : Int32} {k14 : Int32 → Int32 → Int32 → Int32 → Option Int32} (hk14 : ∀ (x1 : Int32) (x2 : Int32) (x3 : Int32) (x4 : Int32) (H : Heap) (locs : List Loc) (ls : Array Slot), Hx A D S.heap (wf z) H locs → lv_has ls 8 [(1, .int x1), (2, .int x2), (3, .int x3), (4, .int x4)] → k14 x1 x2 x3 x4 = some q → W p l e R S m args below meth c H locs 0 0 (MQ below (QI A D (wf z) q) args S 0 0 A) (F0 m 14 ls [])) : ∀ (n : Nat) (x1 : Int32) (x2 : Int32) (x3 : Int32) (x4 : Int32) (x5 : Int32) (x6 : Int32) (H : Heap) (locs : List Loc) (ls : Array Slot), Hx A D S.heap (wf z) H locs → lv_has ls 8 [(1, .int x1), (2, .int x2), (3, .int x3), (4, .int x4), (5, .int x5), (6, .int x6)] → fX8_askNow_b30 k14 z n x1 x2 x3 x4 x5 x6 = some q → W p l e R S m args below meth c H locs 0 0 (MQ below (QI A D (wf z) q) args S 0 0 A) (F0 m 30 ls []) := by
  have hx := B.1
  have hb := B.2.1
  have hd1 : 1 ≤ d := by omega
  intro n
  induction n with
  | zero =>
    intro x1 x2 x3 x4 x5 x6 H locs ls X hl h
    cases h
  | succ n ih =>
    intro x1 x2 x3 x4 x5 x6 H locs ls X hl h
    rw [fX8_askNow_b30] at h
    refine lv_iload hx hb dX8_askNow_30 (lv_at hl 5 rfl) ?_
    refine lv_iconst (v := 4) hx hb dX8_askNow_32 (by decide) ?_
    refine lv_icmp_gt (tgt := 71) hx hb dX8_askNow_33 (by decide) (fun hc1 => ?_) (fun hc1 => ?_)
    · have h := it h hc1
      refine lv_iload_n hx hb dX8_askNow_71 rfl (lv_at hl 0 rfl) ?_
      obtain ⟨q2, h2, h⟩ := bs h
      refine kI X (cS (As := [.int x1]) (rest := []) B X (tX8_size (d := d - 1) (by omega) h2) msX8_size kw1145 (by omega) rfl (Nat.le_of_ble_eq_true rfl) hl.1 ⟨Nat.zero_le _, Nat.zero_le _⟩ dX8_askNow_72) (fun H locs X => ?_)
      have X : Hx A D S.heap (wf z) H locs := X
      refine lv_iload hx hb dX8_askNow_75 (lv_at hl 4 rfl) ?_
      refine lv_isub hx hb dX8_askNow_77 ?_
      refine lv_istore (lv' := [(6, .int (q2 - x5)), (1, .int x1), (2, .int x2), (3, .int x3), (4, .int x4), (5, .int x5)]) hx hb dX8_askNow_78 hl (by decide) rfl (fun ls hl => ?_)
      refine lv_iload hx hb dX8_askNow_80 (lv_at hl 5 rfl) ?_
      refine lv_iload hx hb dX8_askNow_82 (lv_at hl 0 rfl) ?_
      refine lv_icmp_le (tgt := 92) hx hb dX8_askNow_84 (by decide) (fun hc3 => ?_) (fun hc3 => ?_)
      · have h := it h hc3
        refine lv_iload hx hb dX8_askNow_92 (lv_at hl 0 rfl) ?_
        exact tX8_askNow_b94 L hd B hk14 x1 x2 x3 x4 (q2 - x5) _ _ _ X (lv_sub hl [1, 2, 3, 4] rfl) h
      · have h := ie h hc3
        refine lv_iload hx hb dX8_askNow_87 (lv_at hl 5 rfl) ?_
        refine lv_goto (tgt := 94) hx hb dX8_askNow_89 (by decide) ?_
        exact tX8_askNow_b94 L hd B hk14 x1 x2 x3 x4 x5 _ _ _ X (lv_sub hl [1, 2, 3, 4] rfl) h
    · have h := ie h hc1
      refine lv_iload hx hb dX8_askNow_36 (lv_at hl 4 rfl) ?_
      refine lv_iload_n hx hb dX8_askNow_38 rfl (lv_at hl 0 rfl) ?_
      refine lv_iload hx hb dX8_askNow_39 (lv_at hl 5 rfl) ?_
      obtain ⟨q4, h4, h⟩ := bs h
      refine kI X (cS (As := [.int x1, .int x6]) (rest := [.int x5]) B X (tX8_isIn (d := d - 1) (by omega) h4) msX8_isIn kw1164 (by omega) rfl (Nat.le_of_ble_eq_true rfl) hl.1 ⟨Nat.zero_le _, Nat.zero_le _⟩ dX8_askNow_41) (fun H locs X => ?_)
      have X : Hx A D S.heap (wf z) H locs := X
      refine lv_if_eq (tgt := 61) hx hb dX8_askNow_44 (by decide) (fun hc5 => ?_) (fun hc5 => ?_)
      · have h := it h hc5
        refine lv_iconst (v := 0) hx hb dX8_askNow_61 (by decide) ?_
        refine lv_iadd hx hb dX8_askNow_62 ?_
        refine lv_istore (lv' := [(5, .int (x5 + 0)), (1, .int x1), (2, .int x2), (3, .int x3), (4, .int x4), (6, .int x6)]) hx hb dX8_askNow_63 hl (by decide) rfl (fun ls hl => ?_)
        refine lv_iinc (v := x6 + 1) (lv' := [(6, .int (x6 + 1)), (5, .int (x5 + 0)), (1, .int x1), (2, .int x2), (3, .int x3), (4, .int x4)]) hx hb dX8_askNow_65 hl (k := 5) rfl rfl (by decide) rfl (fun ls hl => ?_)
        refine lv_goto (tgt := 30) hx hb dX8_askNow_68 (by decide) ?_
        exact ih x1 x2 x3 x4 (x5 + 0) (x6 + 1) _ _ _ X (lv_sub hl [2, 3, 4, 5, 1, 0] rfl) h
      · have h := ie h hc5
        refine lv_iload hx hb dX8_askNow_47 (lv_at hl 5 rfl) ?_
        refine lv_iload hx hb dX8_askNow_49 (lv_at hl 3 rfl) ?_
        obtain ⟨q6, h6, h⟩ := bs h
        refine kI X (cS (As := [.int x6, .int x4]) (rest := [.int x5]) B X (tX8_could (d := d - 1) (by omega) h6) msX8_could kw1284 (by omega) rfl (Nat.le_of_ble_eq_true rfl) hl.1 ⟨Nat.zero_le _, Nat.zero_le _⟩ dX8_askNow_51) (fun H locs X => ?_)
        have X : Hx A D S.heap (wf z) H locs := X
        refine lv_if_eq (tgt := 61) hx hb dX8_askNow_54 (by decide) (fun hc7 => ?_) (fun hc7 => ?_)
        · have h := it h hc7
          refine lv_iconst (v := 0) hx hb dX8_askNow_61 (by decide) ?_
          refine lv_iadd hx hb dX8_askNow_62 ?_
          refine lv_istore (lv' := [(5, .int (x5 + 0)), (1, .int x1), (2, .int x2), (3, .int x3), (4, .int x4), (6, .int x6)]) hx hb dX8_askNow_63 hl (by decide) rfl (fun ls hl => ?_)
          refine lv_iinc (v := x6 + 1) (lv' := [(6, .int (x6 + 1)), (5, .int (x5 + 0)), (1, .int x1), (2, .int x2), (3, .int x3), (4, .int x4)]) hx hb dX8_askNow_65 hl (k := 5) rfl rfl (by decide) rfl (fun ls hl => ?_)
          refine lv_goto (tgt := 30) hx hb dX8_askNow_68 (by decide) ?_
          exact ih x1 x2 x3 x4 (x5 + 0) (x6 + 1) _ _ _ X (lv_sub hl [2, 3, 4, 5, 1, 0] rfl) h
        · have h := ie h hc7
          refine lv_iconst (v := 1) hx hb dX8_askNow_57 (by decide) ?_
          refine lv_goto (tgt := 62) hx hb dX8_askNow_58 (by decide) ?_
          refine lv_iadd hx hb dX8_askNow_62 ?_
          refine lv_istore (lv' := [(5, .int (x5 + 1)), (1, .int x1), (2, .int x2), (3, .int x3), (4, .int x4), (6, .int x6)]) hx hb dX8_askNow_63 hl (by decide) rfl (fun ls hl => ?_)
          refine lv_iinc (v := x6 + 1) (lv' := [(6, .int (x6 + 1)), (5, .int (x5 + 1)), (1, .int x1), (2, .int x2), (3, .int x3), (4, .int x4)]) hx hb dX8_askNow_65 hl (k := 5) rfl rfl (by decide) rfl (fun ls hl => ?_)
          refine lv_goto (tgt := 30) hx hb dX8_askNow_68 (by decide) ?_
          exact ih x1 x2 x3 x4 (x5 + 1) (x6 + 1) _ _ _ X (lv_sub hl [2, 3, 4, 5, 1, 0] rfl) h
def fX8_askNow_b14 (z : SX8) : Nat → Int32 → Int32 → Int32 → Int32 → Option Int32
  | 0, _, _, _, _ => none
  | n + 1, x1, x2, x3, x4 =>
    if 4 ≤ x4 then (some x2) else
    (if x1 = 0 then (some x2) else
    (fX8_askNow_b30 (fX8_askNow_b14 z n) z 1000 x1 x2 x3 x4 0 0))
set_option maxRecDepth 100000 in
set_option maxHeartbeats 4000000 in
theorem tX8_askNow_b14 {a q : Nat → Nat} {wf : SX8 → va_W} (L : LnX8 a q cI cB wf) {d : Nat} (hd : 3 ≤ d) {z : SX8} (B : Bd RX8 cX8_askNow 8 (some .int) d A g D [(cI, .int), (cB, .byte)] p R S m args meth c) {q : Int32} : ∀ (n : Nat) (x1 : Int32) (x2 : Int32) (x3 : Int32) (x4 : Int32) (H : Heap) (locs : List Loc) (ls : Array Slot), Hx A D S.heap (wf z) H locs → lv_has ls 8 [(1, .int x1), (2, .int x2), (3, .int x3), (4, .int x4)] → fX8_askNow_b14 z n x1 x2 x3 x4 = some q → W p l e R S m args below meth c H locs 0 0 (MQ below (QI A D (wf z) q) args S 0 0 A) (F0 m 14 ls []) := by
  have hx := B.1
  have hb := B.2.1
  have hd1 : 1 ≤ d := by omega
  intro n
  induction n with
  | zero =>
    intro x1 x2 x3 x4 H locs ls X hl h
    cases h
  | succ n ih =>
    intro x1 x2 x3 x4 H locs ls X hl h
    rw [fX8_askNow_b14] at h
    refine lv_iload hx hb dX8_askNow_14 (lv_at hl 3 rfl) ?_
    refine lv_iconst (v := 4) hx hb dX8_askNow_16 (by decide) ?_
    refine lv_icmp_ge (tgt := 128) hx hb dX8_askNow_17 (by decide) (fun hc1 => ?_) (fun hc1 => ?_)
    · have h := it h hc1
      refine lv_iload_n hx hb dX8_askNow_128 rfl (lv_at hl 1 rfl) ?_
      exact rI B X rfl (Option.some.inj h) dX8_askNow_129
    · have h := ie h hc1
      refine lv_iload_n hx hb dX8_askNow_20 rfl (lv_at hl 0 rfl) ?_
      refine lv_if_eq (tgt := 128) hx hb dX8_askNow_21 (by decide) (fun hc2 => ?_) (fun hc2 => ?_)
      · have h := it h hc2
        refine lv_iload_n hx hb dX8_askNow_128 rfl (lv_at hl 1 rfl) ?_
        exact rI B X rfl (Option.some.inj h) dX8_askNow_129
      · have h := ie h hc2
        refine lv_iconst (v := 0) hx hb dX8_askNow_24 (by decide) ?_
        refine lv_istore (lv' := [(5, .int 0), (1, .int x1), (2, .int x2), (3, .int x3), (4, .int x4)]) hx hb dX8_askNow_25 hl (by decide) rfl (fun ls hl => ?_)
        refine lv_iconst (v := 0) hx hb dX8_askNow_27 (by decide) ?_
        refine lv_istore (lv' := [(6, .int 0), (5, .int 0), (1, .int x1), (2, .int x2), (3, .int x3), (4, .int x4)]) hx hb dX8_askNow_28 hl (by decide) rfl (fun ls hl => ?_)
        exact tX8_askNow_b30 L hd B ih 1000 x1 x2 x3 x4 0 0 _ _ _ X (lv_sub hl [2, 3, 4, 5, 1, 0] rfl) h
def fX8_askNow (z : SX8) : Option Int32 :=
    (fX8_sortsNow z).bind fun q1 =>
    fX8_askNow_b14 z 1000 q1 (-1) 268435456 0
set_option maxRecDepth 100000 in
set_option maxHeartbeats 4000000 in
theorem tX8_askNow {a q : Nat → Nat} {wf : SX8 → va_W} (L : LnX8 a q cI cB wf) {d : Nat} (hd : 3 ≤ d) {z : SX8} {q : Int32} (h : fX8_askNow z = some q) : Ct l yX8_askNow cX8_askNow 8 (some .int) d A g D [(cI, .int), (cB, .byte)] [.ref (a 0)] (wf z) (QI A D (wf z) q) := by
  refine mkM (by decide) (Nat.le_of_ble_eq_true rfl) ?_
  intro p e S m args below meth c B X ls hl
  have B : Bd RX8 cX8_askNow 8 (some .int) d A g D [(cI, .int), (cB, .byte)] p (rmd d) S m args meth c := B
  have hx := B.1
  have hb := B.2.1
  have hd1 : 1 ≤ d := by omega
  have hl : lv_has ls 8 [(0, .ref (a 0))] := hl
  unfold fX8_askNow at h
  refine lv_aload_n hx hb dX8_askNow_0 rfl (lv_at hl 0 rfl) ?_
  obtain ⟨q1, h1, h⟩ := bs h
  refine kI X (cV (As := []) (rest := []) B X (tX8_sortsNow (d := d - 1) L (by omega) h1) mfX8_sortsNow kw1280 (by omega) (LnX8_g L z) rfl rfl (Nat.le_of_ble_eq_true rfl) hl.1 ⟨Nat.zero_le _, Nat.zero_le _⟩ dX8_askNow_1) (fun H locs X => ?_)
  have X : Hx A D S.heap (wf z) H locs := X
  refine lv_istore_n (lv' := [(1, .int q1), (0, .ref (a 0))]) hx hb dX8_askNow_4 rfl hl (by decide) rfl (fun ls hl => ?_)
  refine lv_iconst (v := (-1)) hx hb dX8_askNow_5 (by decide) ?_
  refine lv_istore_n (lv' := [(2, .int (-1)), (1, .int q1), (0, .ref (a 0))]) hx hb dX8_askNow_6 rfl hl (by decide) rfl (fun ls hl => ?_)
  refine lv_ldcw hx hb B.2.2.2.1 (B.2.2.2.2.1 _ kw1267) dX8_askNow_7 ?_
  refine lv_istore_n (lv' := [(3, .int 268435456), (2, .int (-1)), (1, .int q1), (0, .ref (a 0))]) hx hb dX8_askNow_10 rfl hl (by decide) rfl (fun ls hl => ?_)
  refine lv_iconst (v := 0) hx hb dX8_askNow_11 (by decide) ?_
  refine lv_istore (lv' := [(4, .int 0), (3, .int 268435456), (2, .int (-1)), (1, .int q1), (0, .ref (a 0))]) hx hb dX8_askNow_12 hl (by decide) rfl (fun ls hl => ?_)
  exact tX8_askNow_b14 L hd B 1000 q1 (-1) 268435456 0 _ _ _ X (lv_sub hl [3, 2, 1, 0] rfl) h
def fX8_sorts (z : SX8) (x1 : Int32) : Option Int32 :=
    (fX8_within x1 0 1).bind fun q1 =>
    if q1 = 0 then (some (-102)) else
    (if x1 = 0 then ((fX8_sortsNow z).bind fun q5 =>
    some q5) else
    ((fX8_askNow z).bind fun q4 =>
    some q4))
set_option maxRecDepth 100000 in
set_option maxHeartbeats 4000000 in
theorem tX8_sorts {a q : Nat → Nat} {wf : SX8 → va_W} (L : LnX8 a q cI cB wf) {d : Nat} (hd : 4 ≤ d) {z : SX8} {x1 : Int32} {q : Int32} (h : fX8_sorts z x1 = some q) : Ct l yX8_sorts cX8_sorts 2 (some .int) d A g D [(cI, .int), (cB, .byte)] [.ref (a 0), .int x1] (wf z) (QI A D (wf z) q) := by
  refine mkM (by decide) (Nat.le_of_ble_eq_true rfl) ?_
  intro p e S m args below meth c B X ls hl
  have B : Bd RX8 cX8_sorts 2 (some .int) d A g D [(cI, .int), (cB, .byte)] p (rmd d) S m args meth c := B
  have hx := B.1
  have hb := B.2.1
  have hd1 : 1 ≤ d := by omega
  have hl : lv_has ls 2 [(0, .ref (a 0)), (1, .int x1)] := hl
  unfold fX8_sorts at h
  refine lv_iload_n hx hb dX8_sorts_0 rfl (lv_at hl 1 rfl) ?_
  refine lv_iconst (v := 0) hx hb dX8_sorts_1 (by decide) ?_
  refine lv_iconst (v := 1) hx hb dX8_sorts_2 (by decide) ?_
  obtain ⟨q1, h1, h⟩ := bs h
  refine kI X (cS (As := [.int x1, .int 0, .int 1]) (rest := []) B X (tX8_within (d := d - 1) (by omega) h1) msX8_within kw1038 (by omega) rfl (Nat.le_of_ble_eq_true rfl) hl.1 ⟨Nat.zero_le _, Nat.zero_le _⟩ dX8_sorts_3) (fun H locs X => ?_)
  have X : Hx A D S.heap (wf z) H locs := X
  refine lv_if_ne (tgt := 14) hx hb dX8_sorts_6 (by decide) (fun hc2 => ?_) (fun hc2 => ?_)
  · have h := ie h hc2
    refine lv_iload_n hx hb dX8_sorts_14 rfl (lv_at hl 1 rfl) ?_
    refine lv_if_ne (tgt := 25) hx hb dX8_sorts_15 (by decide) (fun hc3 => ?_) (fun hc3 => ?_)
    · have h := ie h hc3
      refine lv_aload_n hx hb dX8_sorts_25 rfl (lv_at hl 0 rfl) ?_
      obtain ⟨q4, h4, h⟩ := bs h
      refine kI X (cV (As := []) (rest := []) B X (tX8_askNow (d := d - 1) L (by omega) h4) mfX8_askNow kw1287 (by omega) (LnX8_g L z) rfl rfl (Nat.le_of_ble_eq_true rfl) hl.1 ⟨Nat.zero_le _, Nat.zero_le _⟩ dX8_sorts_26) (fun H locs X => ?_)
      have X : Hx A D S.heap (wf z) H locs := X
      exact rI B X rfl (Option.some.inj h) dX8_sorts_29
    · have h := it h hc3
      refine lv_aload_n hx hb dX8_sorts_18 rfl (lv_at hl 0 rfl) ?_
      obtain ⟨q5, h5, h⟩ := bs h
      refine kI X (cV (As := []) (rest := []) B X (tX8_sortsNow (d := d - 1) L (by omega) h5) mfX8_sortsNow kw1280 (by omega) (LnX8_g L z) rfl rfl (Nat.le_of_ble_eq_true rfl) hl.1 ⟨Nat.zero_le _, Nat.zero_le _⟩ dX8_sorts_19) (fun H locs X => ?_)
      have X : Hx A D S.heap (wf z) H locs := X
      refine lv_goto (tgt := 29) hx hb dX8_sorts_22 (by decide) ?_
      exact rI B X rfl (Option.some.inj h) dX8_sorts_29
  · have h := it h hc2
    refine lv_bipush (v := (-102)) hx hb dX8_sorts_9 (by decide) ?_
    refine lv_goto (tgt := 29) hx hb dX8_sorts_11 (by decide) ?_
    exact rI B X rfl (Option.some.inj h) dX8_sorts_29
def fX8_draw (z : SX8) (x1 : Int32) : Option (Int32 × SX8) :=
    if (x1.toInt64) = 0 then none else
    some ((((((1103515245 * (z.2.1 49)) + 12345) &&& 2147483647) / 65536) - ((((1103515245 * (z.2.1 49)) + 12345) &&& 2147483647) / 65536) / (x1.toInt64) * (x1.toInt64)).toInt32, (z.1, (va_up z.2.1 49 (((1103515245 * (z.2.1 49)) + 12345) &&& 2147483647)), z.2.2))
set_option maxRecDepth 100000 in
set_option maxHeartbeats 4000000 in
theorem tX8_draw {a q : Nat → Nat} {wf : SX8 → va_W} (L : LnX8 a q cI cB wf) {d : Nat} (hd : 1 ≤ d) {z : SX8} {x1 : Int32} {q : Int32 × SX8} (h : fX8_draw z x1 = some q) : Ct l yX8_draw cX8_draw 2 (some .int) d A g D [(cI, .int), (cB, .byte)] [.ref (a 0), .int x1] (wf z) (QI A D (wf q.2) q.1) := by
  refine mkM (by decide) (Nat.le_of_ble_eq_true rfl) ?_
  intro p e S m args below meth c B X ls hl
  have B : Bd RX8 cX8_draw 2 (some .int) d A g D [(cI, .int), (cB, .byte)] p (rmd d) S m args meth c := B
  have hx := B.1
  have hb := B.2.1
  have hd1 : 1 ≤ d := by omega
  have hl : lv_has ls 2 [(0, .ref (a 0)), (1, .int x1)] := hl
  unfold fX8_draw at h
  refine lv_aload_n hx hb dX8_draw_0 rfl (lv_at hl 0 rfl) ?_
  refine lv_ldc2 hx hb B.2.2.2.1 (B.2.2.2.2.1 _ kw1303) dX8_draw_1 ?_
  refine lv_aload_n hx hb dX8_draw_4 rfl (lv_at hl 0 rfl) ?_
  refine fG B X (LnX8_g L z) 49 rfl inTX8 (by decide) kw896 rfl dX8_draw_5 ?_
  refine lv_lmul hx hb dX8_draw_8 ?_
  refine lv_ldc2 hx hb B.2.2.2.1 (B.2.2.2.2.1 _ kw1304) dX8_draw_9 ?_
  refine lv_ladd hx hb dX8_draw_12 ?_
  refine lv_ldc2 hx hb B.2.2.2.1 (B.2.2.2.2.1 _ kw1305) dX8_draw_13 ?_
  refine lv_land hx hb dX8_draw_16 ?_
  refine fP tyX8 B X (LnX8_g L z) 49 (LnX8_j49 L z _) rfl inTX8 tyX8_ok nmX8 (by decide) kw896 rfl rfl rfl rfl (Nat.le_of_ble_eq_true rfl) dX8_draw_17 (fun H locs X => ?_)
  have X : Hx A D S.heap (wf (z.1, (va_up z.2.1 49 (((1103515245 * (z.2.1 49)) + 12345) &&& 2147483647)), z.2.2)) H locs := X
  refine lv_aload_n hx hb dX8_draw_20 rfl (lv_at hl 0 rfl) ?_
  refine fG B X (LnX8_g L (z.1, (va_up z.2.1 49 (((1103515245 * (z.2.1 49)) + 12345) &&& 2147483647)), z.2.2)) 49 rfl inTX8 (by decide) kw896 rfl dX8_draw_21 ?_
  refine lv_ldc2 hx hb B.2.2.2.1 (B.2.2.2.2.1 _ kw1306) dX8_draw_24 ?_
  refine lv_ldiv hx hb dX8_draw_27 (by decide) ?_
  refine lv_iload_n hx hb dX8_draw_28 rfl (lv_at hl 1 rfl) ?_
  refine lv_i2l hx hb dX8_draw_29 rfl ?_
  by_cases hc1 : ((x1.toInt64) = 0)
  · cases it h hc1
  have h := ie h hc1
  refine lv_lrem hx hb dX8_draw_30 hc1 ?_
  refine lv_l2i hx hb dX8_draw_31 rfl ?_
  exact rI B X (congrArg (fun q => wf q.2) (Option.some.inj h)) (congrArg (fun q => q.1) (Option.some.inj h)) dX8_draw_32
def fX8_drawnNow_b195 : Nat → Int32 → Int32 → Int32 → Int32 → SX8 → Option (Int32 × SX8)
  | 0, _, _, _, _, _ => none
  | n + 1, x3, x6, x7, x8, z =>
    if 28 ≤ x8 then (if x3 = 0 then (some (x6, z)) else
    (if x3 = 1 then (some (x7, z)) else
    (some ((z.2.1 49).toInt32, z)))) else
    (if x8 < 0 ∨ 28 ≤ x8.toNatClampNeg then none else
    (if x8 < 0 ∨ 28 ≤ x8.toNatClampNeg then none else
    (fX8_drawnNow_b195 n x3 x6 x7 (x8 + 1) (z.1, z.2.1, (va_up z.2.2 3 (upd (z.2.2 3) x8.toNatClampNeg ((z.2.2 50) x8.toNatClampNeg)))))))
set_option maxRecDepth 100000 in
set_option maxHeartbeats 4000000 in
theorem tX8_drawnNow_b195 {a q : Nat → Nat} {wf : SX8 → va_W} (L : LnX8 a q cI cB wf) {d : Nat} (hd : 9 ≤ d) (B : Bd RX8 cX8_drawnNow 11 (some .int) d A g D [(cI, .int), (cB, .byte)] p R S m args meth c) {q : Int32 × SX8} : ∀ (n : Nat) (x3 : Int32) (x6 : Int32) (x7 : Int32) (x8 : Int32) (z : SX8) (H : Heap) (locs : List Loc) (ls : Array Slot), Hx A D S.heap (wf z) H locs → lv_has ls 11 [(0, .ref (a 0)), (3, .int x3), (6, .int x6), (7, .int x7), (8, .int x8)] → fX8_drawnNow_b195 n x3 x6 x7 x8 z = some q → W p l e R S m args below meth c H locs 0 0 (MQ below (QI A D (wf q.2) q.1) args S 0 0 A) (F0 m 195 ls []) := by
  have hx := B.1
  have hb := B.2.1
  have hd1 : 1 ≤ d := by omega
  intro n
  induction n with
  | zero =>
    intro x3 x6 x7 x8 z H locs ls X hl h
    cases h
  | succ n ih =>
    intro x3 x6 x7 x8 z H locs ls X hl h
    rw [fX8_drawnNow_b195] at h
    refine lv_iload hx hb dX8_drawnNow_195 (lv_at hl 4 rfl) ?_
    refine lv_bipush (v := 28) hx hb dX8_drawnNow_197 (by decide) ?_
    refine lv_icmp_ge (tgt := 222) hx hb dX8_drawnNow_199 (by decide) (fun hc1 => ?_) (fun hc1 => ?_)
    · have h := it h hc1
      refine lv_iload_n hx hb dX8_drawnNow_222 rfl (lv_at hl 1 rfl) ?_
      refine lv_if_ne (tgt := 231) hx hb dX8_drawnNow_223 (by decide) (fun hc2 => ?_) (fun hc2 => ?_)
      · have h := ie h hc2
        refine lv_iload_n hx hb dX8_drawnNow_231 rfl (lv_at hl 1 rfl) ?_
        refine lv_iconst (v := 1) hx hb dX8_drawnNow_232 (by decide) ?_
        refine lv_icmp_ne (tgt := 241) hx hb dX8_drawnNow_233 (by decide) (fun hc3 => ?_) (fun hc3 => ?_)
        · have h := ie h hc3
          refine lv_aload_n hx hb dX8_drawnNow_241 rfl (lv_at hl 0 rfl) ?_
          refine fG B X (LnX8_g L z) 49 rfl inTX8 (by decide) kw896 rfl dX8_drawnNow_242 ?_
          refine lv_l2i hx hb dX8_drawnNow_245 rfl ?_
          exact rI B X (congrArg (fun q => wf q.2) (Option.some.inj h)) (congrArg (fun q => q.1) (Option.some.inj h)) dX8_drawnNow_246
        · have h := it h hc3
          refine lv_iload hx hb dX8_drawnNow_236 (lv_at hl 3 rfl) ?_
          refine lv_goto (tgt := 246) hx hb dX8_drawnNow_238 (by decide) ?_
          exact rI B X (congrArg (fun q => wf q.2) (Option.some.inj h)) (congrArg (fun q => q.1) (Option.some.inj h)) dX8_drawnNow_246
      · have h := it h hc2
        refine lv_iload hx hb dX8_drawnNow_226 (lv_at hl 2 rfl) ?_
        refine lv_goto (tgt := 246) hx hb dX8_drawnNow_228 (by decide) ?_
        exact rI B X (congrArg (fun q => wf q.2) (Option.some.inj h)) (congrArg (fun q => q.1) (Option.some.inj h)) dX8_drawnNow_246
    · have h := ie h hc1
      refine lv_aload_n hx hb dX8_drawnNow_202 rfl (lv_at hl 0 rfl) ?_
      refine fG B X (LnX8_g L z) 3 rfl inTX8 (by decide) kw850 rfl dX8_drawnNow_203 ?_
      refine lv_iload hx hb dX8_drawnNow_206 (lv_at hl 4 rfl) ?_
      refine lv_aload_n hx hb dX8_drawnNow_208 rfl (lv_at hl 0 rfl) ?_
      refine fG B X (LnX8_g L z) 50 rfl inTX8 (by decide) kw897 rfl dX8_drawnNow_209 ?_
      refine lv_iload hx hb dX8_drawnNow_212 (lv_at hl 4 rfl) ?_
      by_cases hc4 : (x8 < 0 ∨ 28 ≤ x8.toNatClampNeg)
      · cases it h hc4
      have h := ie h hc4
      refine aG B X (LnX8_a50 L z) 0 rfl hc4 dX8_drawnNow_214 ?_
      by_cases hc5 : (x8 < 0 ∨ 28 ≤ x8.toNatClampNeg)
      · cases it h hc5
      have h := ie h hc5
      refine aP B X (LnX8_a3 L z) (LnX8_b3 L z _) 0 rfl hc5 dX8_drawnNow_215 (fun H locs X => ?_)
      have X : Hx A D S.heap (wf (z.1, z.2.1, (va_up z.2.2 3 (upd (z.2.2 3) x8.toNatClampNeg ((z.2.2 50) x8.toNatClampNeg))))) H locs := X
      refine lv_iinc (v := x8 + 1) (lv' := [(8, .int (x8 + 1)), (0, .ref (a 0)), (3, .int x3), (6, .int x6), (7, .int x7)]) hx hb dX8_drawnNow_216 hl (k := 4) rfl rfl (by decide) rfl (fun ls hl => ?_)
      refine lv_goto (tgt := 195) hx hb dX8_drawnNow_219 (by decide) ?_
      exact ih x3 x6 x7 (x8 + 1) (z.1, z.2.1, (va_up z.2.2 3 (upd (z.2.2 3) x8.toNatClampNeg ((z.2.2 50) x8.toNatClampNeg)))) _ _ _ X (lv_sub hl [1, 2, 3, 4, 0] rfl) h
def fX8_drawnNow_b86 (k77 : Int32 → Int32 → Int32 → Int32 → Int32 → Int32 → Int32 → SX8 → Option (Int32 × SX8)) : Nat → Int32 → Int32 → Int32 → Int32 → Int32 → Int32 → Int32 → Int32 → SX8 → Option (Int32 × SX8)
  | 0, _, _, _, _, _, _, _, _, _ => none
  | n + 1, x1, x3, x4, x5, x6, x7, x8, x9, z =>
    if 16 ≤ x9 then ((fX8_runNow z 268435456).bind fun q2 =>
    k77 x1 x3 x4 x5 (x6 + (q2.1 17)) (x7 + (q2.1 18)) (x8 + 1) q2) else
    ((fX8_draw z 17).bind fun q3 =>
    if 8 ≤ x9 then (if q3.1 = 16 then (if ((14 + x9) - 8) < 0 ∨ 28 ≤ ((14 + x9) - 8).toNatClampNeg then none else
    (fX8_drawnNow_b86 k77 n x1 x3 x4 x5 x6 x7 x8 (x9 + 1) (q3.2.1, q3.2.2.1, (va_up q3.2.2.2 3 (upd (q3.2.2.2 3) ((14 + x9) - 8).toNatClampNeg (-1)))))) else
    (if ((14 + x9) - 8) < 0 ∨ 28 ≤ ((14 + x9) - 8).toNatClampNeg then none else
    (fX8_drawnNow_b86 k77 n x1 x3 x4 x5 x6 x7 x8 (x9 + 1) (q3.2.1, q3.2.2.1, (va_up q3.2.2.2 3 (upd (q3.2.2.2 3) ((14 + x9) - 8).toNatClampNeg q3.1)))))) else
    (if q3.1 = 16 then (if x9 < 0 ∨ 28 ≤ x9.toNatClampNeg then none else
    (fX8_drawnNow_b86 k77 n x1 x3 x4 x5 x6 x7 x8 (x9 + 1) (q3.2.1, q3.2.2.1, (va_up q3.2.2.2 3 (upd (q3.2.2.2 3) x9.toNatClampNeg (-1)))))) else
    (if x9 < 0 ∨ 28 ≤ x9.toNatClampNeg then none else
    (fX8_drawnNow_b86 k77 n x1 x3 x4 x5 x6 x7 x8 (x9 + 1) (q3.2.1, q3.2.2.1, (va_up q3.2.2.2 3 (upd (q3.2.2.2 3) x9.toNatClampNeg q3.1)))))))
set_option maxRecDepth 100000 in
set_option maxHeartbeats 4000000 in
theorem tX8_drawnNow_b86 {a q : Nat → Nat} {wf : SX8 → va_W} (L : LnX8 a q cI cB wf) {d : Nat} (hd : 9 ≤ d) (B : Bd RX8 cX8_drawnNow 11 (some .int) d A g D [(cI, .int), (cB, .byte)] p R S m args meth c) {q : Int32 × SX8} {k77 : Int32 → Int32 → Int32 → Int32 → Int32 → Int32 → Int32 → SX8 → Option (Int32 × SX8)} (hk77 : ∀ (x1 : Int32) (x3 : Int32) (x4 : Int32) (x5 : Int32) (x6 : Int32) (x7 : Int32) (x8 : Int32) (z : SX8) (H : Heap) (locs : List Loc) (ls : Array Slot), Hx A D S.heap (wf z) H locs → lv_has ls 11 [(0, .ref (a 0)), (1, .int x1), (3, .int x3), (4, .int x4), (5, .int x5), (6, .int x6), (7, .int x7), (8, .int x8)] → k77 x1 x3 x4 x5 x6 x7 x8 z = some q → W p l e R S m args below meth c H locs 0 0 (MQ below (QI A D (wf q.2) q.1) args S 0 0 A) (F0 m 77 ls [])) : ∀ (n : Nat) (x1 : Int32) (x3 : Int32) (x4 : Int32) (x5 : Int32) (x6 : Int32) (x7 : Int32) (x8 : Int32) (x9 : Int32) (z : SX8) (H : Heap) (locs : List Loc) (ls : Array Slot), Hx A D S.heap (wf z) H locs → lv_has ls 11 [(0, .ref (a 0)), (1, .int x1), (3, .int x3), (4, .int x4), (5, .int x5), (6, .int x6), (7, .int x7), (8, .int x8), (9, .int x9)] → fX8_drawnNow_b86 k77 n x1 x3 x4 x5 x6 x7 x8 x9 z = some q → W p l e R S m args below meth c H locs 0 0 (MQ below (QI A D (wf q.2) q.1) args S 0 0 A) (F0 m 86 ls []) := by
  have hx := B.1
  have hb := B.2.1
  have hd1 : 1 ≤ d := by omega
  intro n
  induction n with
  | zero =>
    intro x1 x3 x4 x5 x6 x7 x8 x9 z H locs ls X hl h
    cases h
  | succ n ih =>
    intro x1 x3 x4 x5 x6 x7 x8 x9 z H locs ls X hl h
    rw [fX8_drawnNow_b86] at h
    refine lv_iload hx hb dX8_drawnNow_86 (lv_at hl 8 rfl) ?_
    refine lv_bipush (v := 16) hx hb dX8_drawnNow_88 (by decide) ?_
    refine lv_icmp_ge (tgt := 145) hx hb dX8_drawnNow_90 (by decide) (fun hc1 => ?_) (fun hc1 => ?_)
    · have h := it h hc1
      refine lv_aload_n hx hb dX8_drawnNow_145 rfl (lv_at hl 0 rfl) ?_
      refine lv_ldcw hx hb B.2.2.2.1 (B.2.2.2.2.1 _ kw1267) dX8_drawnNow_146 ?_
      obtain ⟨q2, h2, h⟩ := bs h
      refine kV X (cV (As := [.int 268435456]) (rest := []) B X (tX8_runNow (d := d - 1) L (by omega) h2) mfX8_runNow kw1129 (by omega) (LnX8_g L z) rfl rfl (Nat.le_of_ble_eq_true rfl) hl.1 ⟨Nat.zero_le _, Nat.zero_le _⟩ dX8_drawnNow_149) (fun H locs X => ?_)
      have X : Hx A D S.heap (wf q2) H locs := X
      refine lv_iload hx hb dX8_drawnNow_152 (lv_at hl 5 rfl) ?_
      refine lv_aload_n hx hb dX8_drawnNow_154 rfl (lv_at hl 0 rfl) ?_
      refine fG B X (LnX8_g L q2) 17 rfl inTX8 (by decide) kw864 rfl dX8_drawnNow_155 ?_
      refine lv_iadd hx hb dX8_drawnNow_158 ?_
      refine lv_istore (lv' := [(6, .int (x6 + (q2.1 17))), (0, .ref (a 0)), (1, .int x1), (3, .int x3), (4, .int x4), (5, .int x5), (7, .int x7), (8, .int x8), (9, .int x9)]) hx hb dX8_drawnNow_159 hl (by decide) rfl (fun ls hl => ?_)
      refine lv_iload hx hb dX8_drawnNow_161 (lv_at hl 6 rfl) ?_
      refine lv_aload_n hx hb dX8_drawnNow_163 rfl (lv_at hl 1 rfl) ?_
      refine fG B X (LnX8_g L q2) 18 rfl inTX8 (by decide) kw865 rfl dX8_drawnNow_164 ?_
      refine lv_iadd hx hb dX8_drawnNow_167 ?_
      refine lv_istore (lv' := [(7, .int (x7 + (q2.1 18))), (6, .int (x6 + (q2.1 17))), (0, .ref (a 0)), (1, .int x1), (3, .int x3), (4, .int x4), (5, .int x5), (8, .int x8), (9, .int x9)]) hx hb dX8_drawnNow_168 hl (by decide) rfl (fun ls hl => ?_)
      refine lv_iinc (v := x8 + 1) (lv' := [(8, .int (x8 + 1)), (7, .int (x7 + (q2.1 18))), (6, .int (x6 + (q2.1 17))), (0, .ref (a 0)), (1, .int x1), (3, .int x3), (4, .int x4), (5, .int x5), (9, .int x9)]) hx hb dX8_drawnNow_170 hl (k := 7) rfl rfl (by decide) rfl (fun ls hl => ?_)
      refine lv_goto (tgt := 77) hx hb dX8_drawnNow_173 (by decide) ?_
      exact hk77 x1 x3 x4 x5 (x6 + (q2.1 17)) (x7 + (q2.1 18)) (x8 + 1) q2 _ _ _ X (lv_sub hl [3, 4, 5, 6, 7, 2, 1, 0] rfl) h
    · have h := ie h hc1
      refine lv_aload_n hx hb dX8_drawnNow_93 rfl (lv_at hl 0 rfl) ?_
      refine lv_bipush (v := 17) hx hb dX8_drawnNow_94 (by decide) ?_
      obtain ⟨q3, h3, h⟩ := bs h
      refine kI X (cV (As := [.int 17]) (rest := []) B X (tX8_draw (d := d - 1) L (by omega) h3) mfX8_draw kw1299 (by omega) (LnX8_g L z) rfl rfl (Nat.le_of_ble_eq_true rfl) hl.1 ⟨Nat.zero_le _, Nat.zero_le _⟩ dX8_drawnNow_96) (fun H locs X => ?_)
      have X : Hx A D S.heap (wf q3.2) H locs := X
      refine lv_istore (lv' := [(10, .int q3.1), (0, .ref (a 0)), (1, .int x1), (3, .int x3), (4, .int x4), (5, .int x5), (6, .int x6), (7, .int x7), (8, .int x8), (9, .int x9)]) hx hb dX8_drawnNow_99 hl (by decide) rfl (fun ls hl => ?_)
      refine lv_aload_n hx hb dX8_drawnNow_101 rfl (lv_at hl 1 rfl) ?_
      refine fG B X (LnX8_g L q3.2) 3 rfl inTX8 (by decide) kw850 rfl dX8_drawnNow_102 ?_
      refine lv_iload hx hb dX8_drawnNow_105 (lv_at hl 9 rfl) ?_
      refine lv_bipush (v := 8) hx hb dX8_drawnNow_107 (by decide) ?_
      refine lv_icmp_ge (tgt := 117) hx hb dX8_drawnNow_109 (by decide) (fun hc4 => ?_) (fun hc4 => ?_)
      · have h := it h hc4
        refine lv_bipush (v := 14) hx hb dX8_drawnNow_117 (by decide) ?_
        refine lv_iload hx hb dX8_drawnNow_119 (lv_at hl 9 rfl) ?_
        refine lv_iadd hx hb dX8_drawnNow_121 ?_
        refine lv_bipush (v := 8) hx hb dX8_drawnNow_122 (by decide) ?_
        refine lv_isub hx hb dX8_drawnNow_124 ?_
        refine lv_iload hx hb dX8_drawnNow_125 (lv_at hl 0 rfl) ?_
        refine lv_bipush (v := 16) hx hb dX8_drawnNow_127 (by decide) ?_
        refine lv_icmp_ne (tgt := 136) hx hb dX8_drawnNow_129 (by decide) (fun hc5 => ?_) (fun hc5 => ?_)
        · have h := ie h hc5
          refine lv_iload hx hb dX8_drawnNow_136 (lv_at hl 0 rfl) ?_
          by_cases hc6 : (((14 + x9) - 8) < 0 ∨ 28 ≤ ((14 + x9) - 8).toNatClampNeg)
          · cases it h hc6
          have h := ie h hc6
          refine aP B X (LnX8_a3 L q3.2) (LnX8_b3 L q3.2 _) 0 rfl hc6 dX8_drawnNow_138 (fun H locs X => ?_)
          have X : Hx A D S.heap (wf (q3.2.1, q3.2.2.1, (va_up q3.2.2.2 3 (upd (q3.2.2.2 3) ((14 + x9) - 8).toNatClampNeg q3.1)))) H locs := X
          refine lv_iinc (v := x9 + 1) (lv' := [(9, .int (x9 + 1)), (10, .int q3.1), (0, .ref (a 0)), (1, .int x1), (3, .int x3), (4, .int x4), (5, .int x5), (6, .int x6), (7, .int x7), (8, .int x8)]) hx hb dX8_drawnNow_139 hl (k := 9) rfl rfl (by decide) rfl (fun ls hl => ?_)
          refine lv_goto (tgt := 86) hx hb dX8_drawnNow_142 (by decide) ?_
          exact ih x1 x3 x4 x5 x6 x7 x8 (x9 + 1) (q3.2.1, q3.2.2.1, (va_up q3.2.2.2 3 (upd (q3.2.2.2 3) ((14 + x9) - 8).toNatClampNeg q3.1))) _ _ _ X (lv_sub hl [2, 3, 4, 5, 6, 7, 8, 9, 0] rfl) h
        · have h := it h hc5
          refine lv_iconst (v := (-1)) hx hb dX8_drawnNow_132 (by decide) ?_
          refine lv_goto (tgt := 138) hx hb dX8_drawnNow_133 (by decide) ?_
          by_cases hc7 : (((14 + x9) - 8) < 0 ∨ 28 ≤ ((14 + x9) - 8).toNatClampNeg)
          · cases it h hc7
          have h := ie h hc7
          refine aP B X (LnX8_a3 L q3.2) (LnX8_b3 L q3.2 _) 0 rfl hc7 dX8_drawnNow_138 (fun H locs X => ?_)
          have X : Hx A D S.heap (wf (q3.2.1, q3.2.2.1, (va_up q3.2.2.2 3 (upd (q3.2.2.2 3) ((14 + x9) - 8).toNatClampNeg (-1))))) H locs := X
          refine lv_iinc (v := x9 + 1) (lv' := [(9, .int (x9 + 1)), (10, .int q3.1), (0, .ref (a 0)), (1, .int x1), (3, .int x3), (4, .int x4), (5, .int x5), (6, .int x6), (7, .int x7), (8, .int x8)]) hx hb dX8_drawnNow_139 hl (k := 9) rfl rfl (by decide) rfl (fun ls hl => ?_)
          refine lv_goto (tgt := 86) hx hb dX8_drawnNow_142 (by decide) ?_
          exact ih x1 x3 x4 x5 x6 x7 x8 (x9 + 1) (q3.2.1, q3.2.2.1, (va_up q3.2.2.2 3 (upd (q3.2.2.2 3) ((14 + x9) - 8).toNatClampNeg (-1)))) _ _ _ X (lv_sub hl [2, 3, 4, 5, 6, 7, 8, 9, 0] rfl) h
      · have h := ie h hc4
        refine lv_iload hx hb dX8_drawnNow_112 (lv_at hl 9 rfl) ?_
        refine lv_goto (tgt := 125) hx hb dX8_drawnNow_114 (by decide) ?_
        refine lv_iload hx hb dX8_drawnNow_125 (lv_at hl 0 rfl) ?_
        refine lv_bipush (v := 16) hx hb dX8_drawnNow_127 (by decide) ?_
        refine lv_icmp_ne (tgt := 136) hx hb dX8_drawnNow_129 (by decide) (fun hc8 => ?_) (fun hc8 => ?_)
        · have h := ie h hc8
          refine lv_iload hx hb dX8_drawnNow_136 (lv_at hl 0 rfl) ?_
          by_cases hc9 : (x9 < 0 ∨ 28 ≤ x9.toNatClampNeg)
          · cases it h hc9
          have h := ie h hc9
          refine aP B X (LnX8_a3 L q3.2) (LnX8_b3 L q3.2 _) 0 rfl hc9 dX8_drawnNow_138 (fun H locs X => ?_)
          have X : Hx A D S.heap (wf (q3.2.1, q3.2.2.1, (va_up q3.2.2.2 3 (upd (q3.2.2.2 3) x9.toNatClampNeg q3.1)))) H locs := X
          refine lv_iinc (v := x9 + 1) (lv' := [(9, .int (x9 + 1)), (10, .int q3.1), (0, .ref (a 0)), (1, .int x1), (3, .int x3), (4, .int x4), (5, .int x5), (6, .int x6), (7, .int x7), (8, .int x8)]) hx hb dX8_drawnNow_139 hl (k := 9) rfl rfl (by decide) rfl (fun ls hl => ?_)
          refine lv_goto (tgt := 86) hx hb dX8_drawnNow_142 (by decide) ?_
          exact ih x1 x3 x4 x5 x6 x7 x8 (x9 + 1) (q3.2.1, q3.2.2.1, (va_up q3.2.2.2 3 (upd (q3.2.2.2 3) x9.toNatClampNeg q3.1))) _ _ _ X (lv_sub hl [2, 3, 4, 5, 6, 7, 8, 9, 0] rfl) h
        · have h := it h hc8
          refine lv_iconst (v := (-1)) hx hb dX8_drawnNow_132 (by decide) ?_
          refine lv_goto (tgt := 138) hx hb dX8_drawnNow_133 (by decide) ?_
          by_cases hc10 : (x9 < 0 ∨ 28 ≤ x9.toNatClampNeg)
          · cases it h hc10
          have h := ie h hc10
          refine aP B X (LnX8_a3 L q3.2) (LnX8_b3 L q3.2 _) 0 rfl hc10 dX8_drawnNow_138 (fun H locs X => ?_)
          have X : Hx A D S.heap (wf (q3.2.1, q3.2.2.1, (va_up q3.2.2.2 3 (upd (q3.2.2.2 3) x9.toNatClampNeg (-1))))) H locs := X
          refine lv_iinc (v := x9 + 1) (lv' := [(9, .int (x9 + 1)), (10, .int q3.1), (0, .ref (a 0)), (1, .int x1), (3, .int x3), (4, .int x4), (5, .int x5), (6, .int x6), (7, .int x7), (8, .int x8)]) hx hb dX8_drawnNow_139 hl (k := 9) rfl rfl (by decide) rfl (fun ls hl => ?_)
          refine lv_goto (tgt := 86) hx hb dX8_drawnNow_142 (by decide) ?_
          exact ih x1 x3 x4 x5 x6 x7 x8 (x9 + 1) (q3.2.1, q3.2.2.1, (va_up q3.2.2.2 3 (upd (q3.2.2.2 3) x9.toNatClampNeg (-1)))) _ _ _ X (lv_sub hl [2, 3, 4, 5, 6, 7, 8, 9, 0] rfl) h
def fX8_drawnNow_b77 : Nat → Int32 → Int32 → Int32 → Int32 → Int32 → Int32 → Int32 → SX8 → Option (Int32 × SX8)
  | 0, _, _, _, _, _, _, _, _ => none
  | n + 1, x1, x3, x4, x5, x6, x7, x8, z =>
    if x1 ≤ x8 then (fX8_drawnNow_b195 1000 x3 x6 x7 0 (z.1, z.2.1, (va_up (va_up z.2.2 4 (upd (z.2.2 4) (0 : Int32).toNatClampNeg x4)) 4 (upd (upd (z.2.2 4) (0 : Int32).toNatClampNeg x4) (1 : Int32).toNatClampNeg x5)))) else
    (fX8_drawnNow_b86 (fX8_drawnNow_b77 n) 1000 x1 x3 x4 x5 x6 x7 x8 0 z)
set_option maxRecDepth 100000 in
set_option maxHeartbeats 4000000 in
theorem tX8_drawnNow_b77 {a q : Nat → Nat} {wf : SX8 → va_W} (L : LnX8 a q cI cB wf) {d : Nat} (hd : 9 ≤ d) (B : Bd RX8 cX8_drawnNow 11 (some .int) d A g D [(cI, .int), (cB, .byte)] p R S m args meth c) {q : Int32 × SX8} : ∀ (n : Nat) (x1 : Int32) (x3 : Int32) (x4 : Int32) (x5 : Int32) (x6 : Int32) (x7 : Int32) (x8 : Int32) (z : SX8) (H : Heap) (locs : List Loc) (ls : Array Slot), Hx A D S.heap (wf z) H locs → lv_has ls 11 [(0, .ref (a 0)), (1, .int x1), (3, .int x3), (4, .int x4), (5, .int x5), (6, .int x6), (7, .int x7), (8, .int x8)] → fX8_drawnNow_b77 n x1 x3 x4 x5 x6 x7 x8 z = some q → W p l e R S m args below meth c H locs 0 0 (MQ below (QI A D (wf q.2) q.1) args S 0 0 A) (F0 m 77 ls []) := by
  have hx := B.1
  have hb := B.2.1
  have hd1 : 1 ≤ d := by omega
  intro n
  induction n with
  | zero =>
    intro x1 x3 x4 x5 x6 x7 x8 z H locs ls X hl h
    cases h
  | succ n ih =>
    intro x1 x3 x4 x5 x6 x7 x8 z H locs ls X hl h
    rw [fX8_drawnNow_b77] at h
    refine lv_iload hx hb dX8_drawnNow_77 (lv_at hl 7 rfl) ?_
    refine lv_iload_n hx hb dX8_drawnNow_79 rfl (lv_at hl 1 rfl) ?_
    refine lv_icmp_ge (tgt := 176) hx hb dX8_drawnNow_80 (by decide) (fun hc1 => ?_) (fun hc1 => ?_)
    · have h := it h hc1
      refine lv_aload_n hx hb dX8_drawnNow_176 rfl (lv_at hl 0 rfl) ?_
      refine fG B X (LnX8_g L z) 4 rfl inTX8 (by decide) kw851 rfl dX8_drawnNow_177 ?_
      refine lv_iconst (v := 0) hx hb dX8_drawnNow_180 (by decide) ?_
      refine lv_iload hx hb dX8_drawnNow_181 (lv_at hl 3 rfl) ?_
      refine aP B X (LnX8_a4 L z) (LnX8_b4 L z _) 0 rfl (by decide) dX8_drawnNow_183 (fun H locs X => ?_)
      have X : Hx A D S.heap (wf (z.1, z.2.1, (va_up z.2.2 4 (upd (z.2.2 4) (0 : Int32).toNatClampNeg x4)))) H locs := X
      refine lv_aload_n hx hb dX8_drawnNow_184 rfl (lv_at hl 0 rfl) ?_
      refine fG B X (LnX8_g L (z.1, z.2.1, (va_up z.2.2 4 (upd (z.2.2 4) (0 : Int32).toNatClampNeg x4)))) 4 rfl inTX8 (by decide) kw851 rfl dX8_drawnNow_185 ?_
      refine lv_iconst (v := 1) hx hb dX8_drawnNow_188 (by decide) ?_
      refine lv_iload hx hb dX8_drawnNow_189 (lv_at hl 4 rfl) ?_
      refine aP B X (LnX8_a4 L (z.1, z.2.1, (va_up z.2.2 4 (upd (z.2.2 4) (0 : Int32).toNatClampNeg x4)))) (LnX8_b4 L (z.1, z.2.1, (va_up z.2.2 4 (upd (z.2.2 4) (0 : Int32).toNatClampNeg x4))) _) 0 rfl (by decide) dX8_drawnNow_191 (fun H locs X => ?_)
      have X : Hx A D S.heap (wf (z.1, z.2.1, (va_up (va_up z.2.2 4 (upd (z.2.2 4) (0 : Int32).toNatClampNeg x4)) 4 (upd (upd (z.2.2 4) (0 : Int32).toNatClampNeg x4) (1 : Int32).toNatClampNeg x5)))) H locs := X
      refine lv_iconst (v := 0) hx hb dX8_drawnNow_192 (by decide) ?_
      refine lv_istore (lv' := [(8, .int 0), (0, .ref (a 0)), (1, .int x1), (3, .int x3), (4, .int x4), (5, .int x5), (6, .int x6), (7, .int x7)]) hx hb dX8_drawnNow_193 hl (by decide) rfl (fun ls hl => ?_)
      exact tX8_drawnNow_b195 L hd B 1000 x3 x6 x7 0 (z.1, z.2.1, (va_up (va_up z.2.2 4 (upd (z.2.2 4) (0 : Int32).toNatClampNeg x4)) 4 (upd (upd (z.2.2 4) (0 : Int32).toNatClampNeg x4) (1 : Int32).toNatClampNeg x5))) _ _ _ X (lv_sub hl [1, 3, 6, 7, 0] rfl) h
    · have h := ie h hc1
      refine lv_iconst (v := 0) hx hb dX8_drawnNow_83 (by decide) ?_
      refine lv_istore (lv' := [(9, .int 0), (0, .ref (a 0)), (1, .int x1), (3, .int x3), (4, .int x4), (5, .int x5), (6, .int x6), (7, .int x7), (8, .int x8)]) hx hb dX8_drawnNow_84 hl (by decide) rfl (fun ls hl => ?_)
      exact tX8_drawnNow_b86 L hd B ih 1000 x1 x3 x4 x5 x6 x7 x8 0 z _ _ _ X (lv_sub hl [1, 2, 3, 4, 5, 6, 7, 8, 0] rfl) h
def fX8_drawnNow_b19 : Nat → Int32 → Int32 → Int32 → Int32 → Int32 → Int32 → SX8 → Option (Int32 × SX8)
  | 0, _, _, _, _, _, _, _ => none
  | n + 1, x1, x2, x3, x4, x5, x6, z =>
    if 28 ≤ x6 then (fX8_drawnNow_b77 1000 x1 x3 x4 x5 0 0 0 (z.1, (va_up z.2.1 49 (x2.toInt64)), (va_up (va_up z.2.2 4 (upd (z.2.2 4) (0 : Int32).toNatClampNeg 8)) 4 (upd (upd (z.2.2 4) (0 : Int32).toNatClampNeg 8) (1 : Int32).toNatClampNeg 8)))) else
    (if x6 < 0 ∨ 28 ≤ x6.toNatClampNeg then none else
    (if x6 < 0 ∨ 28 ≤ x6.toNatClampNeg then none else
    (fX8_drawnNow_b19 n x1 x2 x3 x4 x5 (x6 + 1) (z.1, z.2.1, (va_up z.2.2 50 (upd (z.2.2 50) x6.toNatClampNeg ((z.2.2 3) x6.toNatClampNeg)))))))
set_option maxRecDepth 100000 in
set_option maxHeartbeats 4000000 in
theorem tX8_drawnNow_b19 {a q : Nat → Nat} {wf : SX8 → va_W} (L : LnX8 a q cI cB wf) {d : Nat} (hd : 9 ≤ d) (B : Bd RX8 cX8_drawnNow 11 (some .int) d A g D [(cI, .int), (cB, .byte)] p R S m args meth c) {q : Int32 × SX8} : ∀ (n : Nat) (x1 : Int32) (x2 : Int32) (x3 : Int32) (x4 : Int32) (x5 : Int32) (x6 : Int32) (z : SX8) (H : Heap) (locs : List Loc) (ls : Array Slot), Hx A D S.heap (wf z) H locs → lv_has ls 11 [(0, .ref (a 0)), (1, .int x1), (2, .int x2), (3, .int x3), (4, .int x4), (5, .int x5), (6, .int x6)] → fX8_drawnNow_b19 n x1 x2 x3 x4 x5 x6 z = some q → W p l e R S m args below meth c H locs 0 0 (MQ below (QI A D (wf q.2) q.1) args S 0 0 A) (F0 m 19 ls []) := by
  have hx := B.1
  have hb := B.2.1
  have hd1 : 1 ≤ d := by omega
  intro n
  induction n with
  | zero =>
    intro x1 x2 x3 x4 x5 x6 z H locs ls X hl h
    cases h
  | succ n ih =>
    intro x1 x2 x3 x4 x5 x6 z H locs ls X hl h
    rw [fX8_drawnNow_b19] at h
    refine lv_iload hx hb dX8_drawnNow_19 (lv_at hl 6 rfl) ?_
    refine lv_bipush (v := 28) hx hb dX8_drawnNow_21 (by decide) ?_
    refine lv_icmp_ge (tgt := 46) hx hb dX8_drawnNow_23 (by decide) (fun hc1 => ?_) (fun hc1 => ?_)
    · have h := it h hc1
      refine lv_aload_n hx hb dX8_drawnNow_46 rfl (lv_at hl 0 rfl) ?_
      refine fG B X (LnX8_g L z) 4 rfl inTX8 (by decide) kw851 rfl dX8_drawnNow_47 ?_
      refine lv_iconst (v := 0) hx hb dX8_drawnNow_50 (by decide) ?_
      refine lv_bipush (v := 8) hx hb dX8_drawnNow_51 (by decide) ?_
      refine aP B X (LnX8_a4 L z) (LnX8_b4 L z _) 0 rfl (by decide) dX8_drawnNow_53 (fun H locs X => ?_)
      have X : Hx A D S.heap (wf (z.1, z.2.1, (va_up z.2.2 4 (upd (z.2.2 4) (0 : Int32).toNatClampNeg 8)))) H locs := X
      refine lv_aload_n hx hb dX8_drawnNow_54 rfl (lv_at hl 0 rfl) ?_
      refine fG B X (LnX8_g L (z.1, z.2.1, (va_up z.2.2 4 (upd (z.2.2 4) (0 : Int32).toNatClampNeg 8)))) 4 rfl inTX8 (by decide) kw851 rfl dX8_drawnNow_55 ?_
      refine lv_iconst (v := 1) hx hb dX8_drawnNow_58 (by decide) ?_
      refine lv_bipush (v := 8) hx hb dX8_drawnNow_59 (by decide) ?_
      refine aP B X (LnX8_a4 L (z.1, z.2.1, (va_up z.2.2 4 (upd (z.2.2 4) (0 : Int32).toNatClampNeg 8)))) (LnX8_b4 L (z.1, z.2.1, (va_up z.2.2 4 (upd (z.2.2 4) (0 : Int32).toNatClampNeg 8))) _) 0 rfl (by decide) dX8_drawnNow_61 (fun H locs X => ?_)
      have X : Hx A D S.heap (wf (z.1, z.2.1, (va_up (va_up z.2.2 4 (upd (z.2.2 4) (0 : Int32).toNatClampNeg 8)) 4 (upd (upd (z.2.2 4) (0 : Int32).toNatClampNeg 8) (1 : Int32).toNatClampNeg 8)))) H locs := X
      refine lv_aload_n hx hb dX8_drawnNow_62 rfl (lv_at hl 0 rfl) ?_
      refine lv_iload_n hx hb dX8_drawnNow_63 rfl (lv_at hl 2 rfl) ?_
      refine lv_i2l hx hb dX8_drawnNow_64 rfl ?_
      refine fP tyX8 B X (LnX8_g L (z.1, z.2.1, (va_up (va_up z.2.2 4 (upd (z.2.2 4) (0 : Int32).toNatClampNeg 8)) 4 (upd (upd (z.2.2 4) (0 : Int32).toNatClampNeg 8) (1 : Int32).toNatClampNeg 8)))) 49 (LnX8_j49 L (z.1, z.2.1, (va_up (va_up z.2.2 4 (upd (z.2.2 4) (0 : Int32).toNatClampNeg 8)) 4 (upd (upd (z.2.2 4) (0 : Int32).toNatClampNeg 8) (1 : Int32).toNatClampNeg 8))) _) rfl inTX8 tyX8_ok nmX8 (by decide) kw896 rfl rfl rfl rfl (Nat.le_of_ble_eq_true rfl) dX8_drawnNow_65 (fun H locs X => ?_)
      have X : Hx A D S.heap (wf (z.1, (va_up z.2.1 49 (x2.toInt64)), (va_up (va_up z.2.2 4 (upd (z.2.2 4) (0 : Int32).toNatClampNeg 8)) 4 (upd (upd (z.2.2 4) (0 : Int32).toNatClampNeg 8) (1 : Int32).toNatClampNeg 8)))) H locs := X
      refine lv_iconst (v := 0) hx hb dX8_drawnNow_68 (by decide) ?_
      refine lv_istore (lv' := [(6, .int 0), (0, .ref (a 0)), (1, .int x1), (2, .int x2), (3, .int x3), (4, .int x4), (5, .int x5)]) hx hb dX8_drawnNow_69 hl (by decide) rfl (fun ls hl => ?_)
      refine lv_iconst (v := 0) hx hb dX8_drawnNow_71 (by decide) ?_
      refine lv_istore (lv' := [(7, .int 0), (6, .int 0), (0, .ref (a 0)), (1, .int x1), (2, .int x2), (3, .int x3), (4, .int x4), (5, .int x5)]) hx hb dX8_drawnNow_72 hl (by decide) rfl (fun ls hl => ?_)
      refine lv_iconst (v := 0) hx hb dX8_drawnNow_74 (by decide) ?_
      refine lv_istore (lv' := [(8, .int 0), (7, .int 0), (6, .int 0), (0, .ref (a 0)), (1, .int x1), (2, .int x2), (3, .int x3), (4, .int x4), (5, .int x5)]) hx hb dX8_drawnNow_75 hl (by decide) rfl (fun ls hl => ?_)
      exact tX8_drawnNow_b77 L hd B 1000 x1 x3 x4 x5 0 0 0 (z.1, (va_up z.2.1 49 (x2.toInt64)), (va_up (va_up z.2.2 4 (upd (z.2.2 4) (0 : Int32).toNatClampNeg 8)) 4 (upd (upd (z.2.2 4) (0 : Int32).toNatClampNeg 8) (1 : Int32).toNatClampNeg 8))) _ _ _ X (lv_sub hl [3, 4, 6, 7, 8, 2, 1, 0] rfl) h
    · have h := ie h hc1
      refine lv_aload_n hx hb dX8_drawnNow_26 rfl (lv_at hl 0 rfl) ?_
      refine fG B X (LnX8_g L z) 50 rfl inTX8 (by decide) kw897 rfl dX8_drawnNow_27 ?_
      refine lv_iload hx hb dX8_drawnNow_30 (lv_at hl 6 rfl) ?_
      refine lv_aload_n hx hb dX8_drawnNow_32 rfl (lv_at hl 0 rfl) ?_
      refine fG B X (LnX8_g L z) 3 rfl inTX8 (by decide) kw850 rfl dX8_drawnNow_33 ?_
      refine lv_iload hx hb dX8_drawnNow_36 (lv_at hl 6 rfl) ?_
      by_cases hc4 : (x6 < 0 ∨ 28 ≤ x6.toNatClampNeg)
      · cases it h hc4
      have h := ie h hc4
      refine aG B X (LnX8_a3 L z) 0 rfl hc4 dX8_drawnNow_38 ?_
      by_cases hc5 : (x6 < 0 ∨ 28 ≤ x6.toNatClampNeg)
      · cases it h hc5
      have h := ie h hc5
      refine aP B X (LnX8_a50 L z) (LnX8_b50 L z _) 0 rfl hc5 dX8_drawnNow_39 (fun H locs X => ?_)
      have X : Hx A D S.heap (wf (z.1, z.2.1, (va_up z.2.2 50 (upd (z.2.2 50) x6.toNatClampNeg ((z.2.2 3) x6.toNatClampNeg))))) H locs := X
      refine lv_iinc (v := x6 + 1) (lv' := [(6, .int (x6 + 1)), (0, .ref (a 0)), (1, .int x1), (2, .int x2), (3, .int x3), (4, .int x4), (5, .int x5)]) hx hb dX8_drawnNow_40 hl (k := 6) rfl rfl (by decide) rfl (fun ls hl => ?_)
      refine lv_goto (tgt := 19) hx hb dX8_drawnNow_43 (by decide) ?_
      exact ih x1 x2 x3 x4 x5 (x6 + 1) (z.1, z.2.1, (va_up z.2.2 50 (upd (z.2.2 50) x6.toNatClampNeg ((z.2.2 3) x6.toNatClampNeg)))) _ _ _ X (lv_sub hl [1, 2, 3, 4, 5, 6, 0] rfl) h
def fX8_drawnNow (z : SX8) (x1 : Int32) (x2 : Int32) (x3 : Int32) : Option (Int32 × SX8) :=
    fX8_drawnNow_b19 1000 x1 x2 x3 ((z.2.2 4) (0 : Int32).toNatClampNeg) ((z.2.2 4) (1 : Int32).toNatClampNeg) 0 z
set_option maxRecDepth 100000 in
set_option maxHeartbeats 4000000 in
theorem tX8_drawnNow {a q : Nat → Nat} {wf : SX8 → va_W} (L : LnX8 a q cI cB wf) {d : Nat} (hd : 9 ≤ d) {z : SX8} {x1 x2 x3 : Int32} {q : Int32 × SX8} (h : fX8_drawnNow z x1 x2 x3 = some q) : Ct l yX8_drawnNow cX8_drawnNow 11 (some .int) d A g D [(cI, .int), (cB, .byte)] [.ref (a 0), .int x1, .int x2, .int x3] (wf z) (QI A D (wf q.2) q.1) := by
  refine mkM (by decide) (Nat.le_of_ble_eq_true rfl) ?_
  intro p e S m args below meth c B X ls hl
  have B : Bd RX8 cX8_drawnNow 11 (some .int) d A g D [(cI, .int), (cB, .byte)] p (rmd d) S m args meth c := B
  have hx := B.1
  have hb := B.2.1
  have hd1 : 1 ≤ d := by omega
  have hl : lv_has ls 11 [(0, .ref (a 0)), (1, .int x1), (2, .int x2), (3, .int x3)] := hl
  unfold fX8_drawnNow at h
  refine lv_aload_n hx hb dX8_drawnNow_0 rfl (lv_at hl 0 rfl) ?_
  refine fG B X (LnX8_g L z) 4 rfl inTX8 (by decide) kw851 rfl dX8_drawnNow_1 ?_
  refine lv_iconst (v := 0) hx hb dX8_drawnNow_4 (by decide) ?_
  refine aG B X (LnX8_a4 L z) 0 rfl (by decide) dX8_drawnNow_5 ?_
  refine lv_istore (lv' := [(4, .int ((z.2.2 4) (0 : Int32).toNatClampNeg)), (0, .ref (a 0)), (1, .int x1), (2, .int x2), (3, .int x3)]) hx hb dX8_drawnNow_6 hl (by decide) rfl (fun ls hl => ?_)
  refine lv_aload_n hx hb dX8_drawnNow_8 rfl (lv_at hl 1 rfl) ?_
  refine fG B X (LnX8_g L z) 4 rfl inTX8 (by decide) kw851 rfl dX8_drawnNow_9 ?_
  refine lv_iconst (v := 1) hx hb dX8_drawnNow_12 (by decide) ?_
  refine aG B X (LnX8_a4 L z) 0 rfl (by decide) dX8_drawnNow_13 ?_
  refine lv_istore (lv' := [(5, .int ((z.2.2 4) (1 : Int32).toNatClampNeg)), (4, .int ((z.2.2 4) (0 : Int32).toNatClampNeg)), (0, .ref (a 0)), (1, .int x1), (2, .int x2), (3, .int x3)]) hx hb dX8_drawnNow_14 hl (by decide) rfl (fun ls hl => ?_)
  refine lv_iconst (v := 0) hx hb dX8_drawnNow_16 (by decide) ?_
  refine lv_istore (lv' := [(6, .int 0), (5, .int ((z.2.2 4) (1 : Int32).toNatClampNeg)), (4, .int ((z.2.2 4) (0 : Int32).toNatClampNeg)), (0, .ref (a 0)), (1, .int x1), (2, .int x2), (3, .int x3)]) hx hb dX8_drawnNow_17 hl (by decide) rfl (fun ls hl => ?_)
  exact tX8_drawnNow_b19 L hd B 1000 x1 x2 x3 ((z.2.2 4) (0 : Int32).toNatClampNeg) ((z.2.2 4) (1 : Int32).toNatClampNeg) 0 z _ _ _ X (lv_sub hl [3, 4, 5, 6, 2, 1, 0] rfl) h
def fX8_drawn (z : SX8) (x1 : Int32) (x2 : Int32) (x3 : Int32) : Option (Int32 × SX8) :=
    (fX8_within x1 1 10).bind fun q1 =>
    if q1 = 0 then (some ((-102), z)) else
    (if x2 < 0 then (some ((-102), z)) else
    ((fX8_within x3 0 2).bind fun q4 =>
    if q4 = 0 then (some ((-102), z)) else
    (if (z.1 0) = 0 then (some ((-103), z)) else
    ((fX8_drawnNow z x1 x2 x3).bind fun q7 =>
    some (q7.1, q7.2)))))
set_option maxRecDepth 100000 in
set_option maxHeartbeats 4000000 in
theorem tX8_drawn {a q : Nat → Nat} {wf : SX8 → va_W} (L : LnX8 a q cI cB wf) {d : Nat} (hd : 10 ≤ d) {z : SX8} {x1 x2 x3 : Int32} {q : Int32 × SX8} (h : fX8_drawn z x1 x2 x3 = some q) : Ct l yX8_drawn cX8_drawn 4 (some .int) d A g D [(cI, .int), (cB, .byte)] [.ref (a 0), .int x1, .int x2, .int x3] (wf z) (QI A D (wf q.2) q.1) := by
  refine mkM (by decide) (Nat.le_of_ble_eq_true rfl) ?_
  intro p e S m args below meth c B X ls hl
  have B : Bd RX8 cX8_drawn 4 (some .int) d A g D [(cI, .int), (cB, .byte)] p (rmd d) S m args meth c := B
  have hx := B.1
  have hb := B.2.1
  have hd1 : 1 ≤ d := by omega
  have hl : lv_has ls 4 [(0, .ref (a 0)), (1, .int x1), (2, .int x2), (3, .int x3)] := hl
  unfold fX8_drawn at h
  refine lv_iload_n hx hb dX8_drawn_0 rfl (lv_at hl 1 rfl) ?_
  refine lv_iconst (v := 1) hx hb dX8_drawn_1 (by decide) ?_
  refine lv_bipush (v := 10) hx hb dX8_drawn_2 (by decide) ?_
  obtain ⟨q1, h1, h⟩ := bs h
  refine kI X (cS (As := [.int x1, .int 1, .int 10]) (rest := []) B X (tX8_within (d := d - 1) (by omega) h1) msX8_within kw1038 (by omega) rfl (Nat.le_of_ble_eq_true rfl) hl.1 ⟨Nat.zero_le _, Nat.zero_le _⟩ dX8_drawn_4) (fun H locs X => ?_)
  have X : Hx A D S.heap (wf z) H locs := X
  refine lv_if_eq (tgt := 23) hx hb dX8_drawn_7 (by decide) (fun hc2 => ?_) (fun hc2 => ?_)
  · have h := it h hc2
    refine lv_bipush (v := (-102)) hx hb dX8_drawn_23 (by decide) ?_
    exact rI B X (congrArg (fun q => wf q.2) (Option.some.inj h)) (congrArg (fun q => q.1) (Option.some.inj h)) dX8_drawn_25
  · have h := ie h hc2
    refine lv_iload_n hx hb dX8_drawn_10 rfl (lv_at hl 2 rfl) ?_
    refine lv_if_lt (tgt := 23) hx hb dX8_drawn_11 (by decide) (fun hc3 => ?_) (fun hc3 => ?_)
    · have h := it h hc3
      refine lv_bipush (v := (-102)) hx hb dX8_drawn_23 (by decide) ?_
      exact rI B X (congrArg (fun q => wf q.2) (Option.some.inj h)) (congrArg (fun q => q.1) (Option.some.inj h)) dX8_drawn_25
    · have h := ie h hc3
      refine lv_iload_n hx hb dX8_drawn_14 rfl (lv_at hl 3 rfl) ?_
      refine lv_iconst (v := 0) hx hb dX8_drawn_15 (by decide) ?_
      refine lv_iconst (v := 2) hx hb dX8_drawn_16 (by decide) ?_
      obtain ⟨q4, h4, h⟩ := bs h
      refine kI X (cS (As := [.int x3, .int 0, .int 2]) (rest := []) B X (tX8_within (d := d - 1) (by omega) h4) msX8_within kw1038 (by omega) rfl (Nat.le_of_ble_eq_true rfl) hl.1 ⟨Nat.zero_le _, Nat.zero_le _⟩ dX8_drawn_17) (fun H locs X => ?_)
      have X : Hx A D S.heap (wf z) H locs := X
      refine lv_if_ne (tgt := 26) hx hb dX8_drawn_20 (by decide) (fun hc5 => ?_) (fun hc5 => ?_)
      · have h := ie h hc5
        refine lv_aload_n hx hb dX8_drawn_26 rfl (lv_at hl 0 rfl) ?_
        refine fG B X (LnX8_g L z) 0 rfl inTX8 (by decide) kw847 rfl dX8_drawn_27 ?_
        refine lv_if_ne (tgt := 38) hx hb dX8_drawn_30 (by decide) (fun hc6 => ?_) (fun hc6 => ?_)
        · have h := ie h hc6
          refine lv_aload_n hx hb dX8_drawn_38 rfl (lv_at hl 0 rfl) ?_
          refine lv_iload_n hx hb dX8_drawn_39 rfl (lv_at hl 1 rfl) ?_
          refine lv_iload_n hx hb dX8_drawn_40 rfl (lv_at hl 2 rfl) ?_
          refine lv_iload_n hx hb dX8_drawn_41 rfl (lv_at hl 3 rfl) ?_
          obtain ⟨q7, h7, h⟩ := bs h
          refine kI X (cV (As := [.int x1, .int x2, .int x3]) (rest := []) B X (tX8_drawnNow (d := d - 1) L (by omega) h7) mfX8_drawnNow kw1295 (by omega) (LnX8_g L z) rfl rfl (Nat.le_of_ble_eq_true rfl) hl.1 ⟨Nat.zero_le _, Nat.zero_le _⟩ dX8_drawn_42) (fun H locs X => ?_)
          have X : Hx A D S.heap (wf q7.2) H locs := X
          exact rI B X (congrArg (fun q => wf q.2) (Option.some.inj h)) (congrArg (fun q => q.1) (Option.some.inj h)) dX8_drawn_45
        · have h := it h hc6
          refine lv_bipush (v := (-103)) hx hb dX8_drawn_33 (by decide) ?_
          refine lv_goto (tgt := 45) hx hb dX8_drawn_35 (by decide) ?_
          exact rI B X (congrArg (fun q => wf q.2) (Option.some.inj h)) (congrArg (fun q => q.1) (Option.some.inj h)) dX8_drawn_45
      · have h := it h hc5
        refine lv_bipush (v := (-102)) hx hb dX8_drawn_23 (by decide) ?_
        exact rI B X (congrArg (fun q => wf q.2) (Option.some.inj h)) (congrArg (fun q => q.1) (Option.some.inj h)) dX8_drawn_25
def fX8_image_b95 : Nat → Int32 → SX8 → Option (Int32 × SX8)
  | 0, _, _ => none
  | n + 1, x1, z =>
    if 6 ≤ x1 then (some ((((z.2.2 4) (0 : Int32).toNatClampNeg) + ((z.2.2 4) (1 : Int32).toNatClampNeg)), z)) else
    (if x1 < 0 ∨ 6 ≤ x1.toNatClampNeg then none else
    (if x1 < 0 ∨ 6 ≤ x1.toNatClampNeg then none else
    (if x1 < 0 ∨ 6 ≤ x1.toNatClampNeg then none else
    (if x1 < 0 ∨ 6 ≤ x1.toNatClampNeg then none else
    (fX8_image_b95 n (x1 + 1) (z.1, z.2.1, (va_up (va_up z.2.2 59 (upd (z.2.2 59) x1.toNatClampNeg ((z.2.2 7) x1.toNatClampNeg))) 60 (upd (z.2.2 60) x1.toNatClampNeg ((z.2.2 8) x1.toNatClampNeg)))))))))
set_option maxRecDepth 100000 in
set_option maxHeartbeats 4000000 in
theorem tX8_image_b95 {a q : Nat → Nat} {wf : SX8 → va_W} (L : LnX8 a q cI cB wf) {d : Nat} (hd : 1 ≤ d) (B : Bd RX8 cX8_image 2 (some .int) d A g D [(cI, .int), (cB, .byte)] p R S m args meth c) {q : Int32 × SX8} : ∀ (n : Nat) (x1 : Int32) (z : SX8) (H : Heap) (locs : List Loc) (ls : Array Slot), Hx A D S.heap (wf z) H locs → lv_has ls 2 [(0, .ref (a 0)), (1, .int x1)] → fX8_image_b95 n x1 z = some q → W p l e R S m args below meth c H locs 0 0 (MQ below (QI A D (wf q.2) q.1) args S 0 0 A) (F0 m 95 ls []) := by
  have hx := B.1
  have hb := B.2.1
  have hd1 : 1 ≤ d := by omega
  intro n
  induction n with
  | zero =>
    intro x1 z H locs ls X hl h
    cases h
  | succ n ih =>
    intro x1 z H locs ls X hl h
    rw [fX8_image_b95] at h
    refine lv_iload_n hx hb dX8_image_95 rfl (lv_at hl 1 rfl) ?_
    refine lv_bipush (v := 6) hx hb dX8_image_96 (by decide) ?_
    refine lv_icmp_ge (tgt := 131) hx hb dX8_image_98 (by decide) (fun hc1 => ?_) (fun hc1 => ?_)
    · have h := it h hc1
      refine lv_aload_n hx hb dX8_image_131 rfl (lv_at hl 0 rfl) ?_
      refine fG B X (LnX8_g L z) 4 rfl inTX8 (by decide) kw851 rfl dX8_image_132 ?_
      refine lv_iconst (v := 0) hx hb dX8_image_135 (by decide) ?_
      refine aG B X (LnX8_a4 L z) 0 rfl (by decide) dX8_image_136 ?_
      refine lv_aload_n hx hb dX8_image_137 rfl (lv_at hl 0 rfl) ?_
      refine fG B X (LnX8_g L z) 4 rfl inTX8 (by decide) kw851 rfl dX8_image_138 ?_
      refine lv_iconst (v := 1) hx hb dX8_image_141 (by decide) ?_
      refine aG B X (LnX8_a4 L z) 0 rfl (by decide) dX8_image_142 ?_
      refine lv_iadd hx hb dX8_image_143 ?_
      exact rI B X (congrArg (fun q => wf q.2) (Option.some.inj h)) (congrArg (fun q => q.1) (Option.some.inj h)) dX8_image_144
    · have h := ie h hc1
      refine lv_aload_n hx hb dX8_image_101 rfl (lv_at hl 0 rfl) ?_
      refine fG B X (LnX8_g L z) 59 rfl inTX8 (by decide) kw906 rfl dX8_image_102 ?_
      refine lv_iload_n hx hb dX8_image_105 rfl (lv_at hl 1 rfl) ?_
      refine lv_aload_n hx hb dX8_image_106 rfl (lv_at hl 0 rfl) ?_
      refine fG B X (LnX8_g L z) 7 rfl inTX8 (by decide) kw854 rfl dX8_image_107 ?_
      refine lv_iload_n hx hb dX8_image_110 rfl (lv_at hl 1 rfl) ?_
      by_cases hc4 : (x1 < 0 ∨ 6 ≤ x1.toNatClampNeg)
      · cases it h hc4
      have h := ie h hc4
      refine aG B X (LnX8_a7 L z) 0 rfl hc4 dX8_image_111 ?_
      by_cases hc5 : (x1 < 0 ∨ 6 ≤ x1.toNatClampNeg)
      · cases it h hc5
      have h := ie h hc5
      refine aP B X (LnX8_a59 L z) (LnX8_b59 L z _) 0 rfl hc5 dX8_image_112 (fun H locs X => ?_)
      have X : Hx A D S.heap (wf (z.1, z.2.1, (va_up z.2.2 59 (upd (z.2.2 59) x1.toNatClampNeg ((z.2.2 7) x1.toNatClampNeg))))) H locs := X
      refine lv_aload_n hx hb dX8_image_113 rfl (lv_at hl 0 rfl) ?_
      refine fG B X (LnX8_g L (z.1, z.2.1, (va_up z.2.2 59 (upd (z.2.2 59) x1.toNatClampNeg ((z.2.2 7) x1.toNatClampNeg))))) 60 rfl inTX8 (by decide) kw907 rfl dX8_image_114 ?_
      refine lv_iload_n hx hb dX8_image_117 rfl (lv_at hl 1 rfl) ?_
      refine lv_aload_n hx hb dX8_image_118 rfl (lv_at hl 0 rfl) ?_
      refine fG B X (LnX8_g L (z.1, z.2.1, (va_up z.2.2 59 (upd (z.2.2 59) x1.toNatClampNeg ((z.2.2 7) x1.toNatClampNeg))))) 8 rfl inTX8 (by decide) kw855 rfl dX8_image_119 ?_
      refine lv_iload_n hx hb dX8_image_122 rfl (lv_at hl 1 rfl) ?_
      by_cases hc6 : (x1 < 0 ∨ 6 ≤ x1.toNatClampNeg)
      · cases it h hc6
      have h := ie h hc6
      refine aG B X (LnX8_a8 L (z.1, z.2.1, (va_up z.2.2 59 (upd (z.2.2 59) x1.toNatClampNeg ((z.2.2 7) x1.toNatClampNeg))))) 0 rfl hc6 dX8_image_123 ?_
      by_cases hc7 : (x1 < 0 ∨ 6 ≤ x1.toNatClampNeg)
      · cases it h hc7
      have h := ie h hc7
      refine aP B X (LnX8_a60 L (z.1, z.2.1, (va_up z.2.2 59 (upd (z.2.2 59) x1.toNatClampNeg ((z.2.2 7) x1.toNatClampNeg))))) (LnX8_b60 L (z.1, z.2.1, (va_up z.2.2 59 (upd (z.2.2 59) x1.toNatClampNeg ((z.2.2 7) x1.toNatClampNeg)))) _) 0 rfl hc7 dX8_image_124 (fun H locs X => ?_)
      have X : Hx A D S.heap (wf (z.1, z.2.1, (va_up (va_up z.2.2 59 (upd (z.2.2 59) x1.toNatClampNeg ((z.2.2 7) x1.toNatClampNeg))) 60 (upd (z.2.2 60) x1.toNatClampNeg ((z.2.2 8) x1.toNatClampNeg))))) H locs := X
      refine lv_iinc (v := x1 + 1) (lv' := [(1, .int (x1 + 1)), (0, .ref (a 0))]) hx hb dX8_image_125 hl (k := 1) rfl rfl (by decide) rfl (fun ls hl => ?_)
      refine lv_goto (tgt := 95) hx hb dX8_image_128 (by decide) ?_
      exact ih (x1 + 1) (z.1, z.2.1, (va_up (va_up z.2.2 59 (upd (z.2.2 59) x1.toNatClampNeg ((z.2.2 7) x1.toNatClampNeg))) 60 (upd (z.2.2 60) x1.toNatClampNeg ((z.2.2 8) x1.toNatClampNeg)))) _ _ _ X (lv_sub hl [1, 0] rfl) h
def fX8_image_b69 : Nat → Int32 → SX8 → Option (Int32 × SX8)
  | 0, _, _ => none
  | n + 1, x1, z =>
    if 28 ≤ x1 then (fX8_image_b95 1000 0 z) else
    (if x1 < 0 ∨ 28 ≤ x1.toNatClampNeg then none else
    (if x1 < 0 ∨ 28 ≤ x1.toNatClampNeg then none else
    (fX8_image_b69 n (x1 + 1) (z.1, z.2.1, (va_up z.2.2 58 (upd (z.2.2 58) x1.toNatClampNeg ((z.2.2 3) x1.toNatClampNeg)))))))
set_option maxRecDepth 100000 in
set_option maxHeartbeats 4000000 in
theorem tX8_image_b69 {a q : Nat → Nat} {wf : SX8 → va_W} (L : LnX8 a q cI cB wf) {d : Nat} (hd : 1 ≤ d) (B : Bd RX8 cX8_image 2 (some .int) d A g D [(cI, .int), (cB, .byte)] p R S m args meth c) {q : Int32 × SX8} : ∀ (n : Nat) (x1 : Int32) (z : SX8) (H : Heap) (locs : List Loc) (ls : Array Slot), Hx A D S.heap (wf z) H locs → lv_has ls 2 [(0, .ref (a 0)), (1, .int x1)] → fX8_image_b69 n x1 z = some q → W p l e R S m args below meth c H locs 0 0 (MQ below (QI A D (wf q.2) q.1) args S 0 0 A) (F0 m 69 ls []) := by
  have hx := B.1
  have hb := B.2.1
  have hd1 : 1 ≤ d := by omega
  intro n
  induction n with
  | zero =>
    intro x1 z H locs ls X hl h
    cases h
  | succ n ih =>
    intro x1 z H locs ls X hl h
    rw [fX8_image_b69] at h
    refine lv_iload_n hx hb dX8_image_69 rfl (lv_at hl 1 rfl) ?_
    refine lv_bipush (v := 28) hx hb dX8_image_70 (by decide) ?_
    refine lv_icmp_ge (tgt := 93) hx hb dX8_image_72 (by decide) (fun hc1 => ?_) (fun hc1 => ?_)
    · have h := it h hc1
      refine lv_iconst (v := 0) hx hb dX8_image_93 (by decide) ?_
      refine lv_istore_n (lv' := [(1, .int 0), (0, .ref (a 0))]) hx hb dX8_image_94 rfl hl (by decide) rfl (fun ls hl => ?_)
      exact tX8_image_b95 L hd B 1000 0 z _ _ _ X (lv_sub hl [1, 0] rfl) h
    · have h := ie h hc1
      refine lv_aload_n hx hb dX8_image_75 rfl (lv_at hl 0 rfl) ?_
      refine fG B X (LnX8_g L z) 58 rfl inTX8 (by decide) kw905 rfl dX8_image_76 ?_
      refine lv_iload_n hx hb dX8_image_79 rfl (lv_at hl 1 rfl) ?_
      refine lv_aload_n hx hb dX8_image_80 rfl (lv_at hl 0 rfl) ?_
      refine fG B X (LnX8_g L z) 3 rfl inTX8 (by decide) kw850 rfl dX8_image_81 ?_
      refine lv_iload_n hx hb dX8_image_84 rfl (lv_at hl 1 rfl) ?_
      by_cases hc2 : (x1 < 0 ∨ 28 ≤ x1.toNatClampNeg)
      · cases it h hc2
      have h := ie h hc2
      refine aG B X (LnX8_a3 L z) 0 rfl hc2 dX8_image_85 ?_
      by_cases hc3 : (x1 < 0 ∨ 28 ≤ x1.toNatClampNeg)
      · cases it h hc3
      have h := ie h hc3
      refine aP B X (LnX8_a58 L z) (LnX8_b58 L z _) 0 rfl hc3 dX8_image_86 (fun H locs X => ?_)
      have X : Hx A D S.heap (wf (z.1, z.2.1, (va_up z.2.2 58 (upd (z.2.2 58) x1.toNatClampNeg ((z.2.2 3) x1.toNatClampNeg))))) H locs := X
      refine lv_iinc (v := x1 + 1) (lv' := [(1, .int (x1 + 1)), (0, .ref (a 0))]) hx hb dX8_image_87 hl (k := 1) rfl rfl (by decide) rfl (fun ls hl => ?_)
      refine lv_goto (tgt := 69) hx hb dX8_image_90 (by decide) ?_
      exact ih (x1 + 1) (z.1, z.2.1, (va_up z.2.2 58 (upd (z.2.2 58) x1.toNatClampNeg ((z.2.2 3) x1.toNatClampNeg)))) _ _ _ X (lv_sub hl [1, 0] rfl) h
def fX8_image (z : SX8) : Option (Int32 × SX8) :=
    if (z.1 0) = 0 then (some ((-103), z)) else
    (fX8_image_b69 1000 0 ((upd (upd (upd (upd (upd (upd (upd z.1 51 1) 52 (z.1 0)) 53 (z.1 1)) 54 (z.1 2)) 55 ((z.2.2 4) (0 : Int32).toNatClampNeg)) 56 ((z.2.2 4) (1 : Int32).toNatClampNeg)) 57 (z.1 6)), z.2.1, z.2.2))
set_option maxRecDepth 100000 in
set_option maxHeartbeats 4000000 in
theorem tX8_image {a q : Nat → Nat} {wf : SX8 → va_W} (L : LnX8 a q cI cB wf) {d : Nat} (hd : 1 ≤ d) {z : SX8} {q : Int32 × SX8} (h : fX8_image z = some q) : Ct l yX8_image cX8_image 2 (some .int) d A g D [(cI, .int), (cB, .byte)] [.ref (a 0)] (wf z) (QI A D (wf q.2) q.1) := by
  refine mkM (by decide) (Nat.le_of_ble_eq_true rfl) ?_
  intro p e S m args below meth c B X ls hl
  have B : Bd RX8 cX8_image 2 (some .int) d A g D [(cI, .int), (cB, .byte)] p (rmd d) S m args meth c := B
  have hx := B.1
  have hb := B.2.1
  have hd1 : 1 ≤ d := by omega
  have hl : lv_has ls 2 [(0, .ref (a 0))] := hl
  unfold fX8_image at h
  refine lv_aload_n hx hb dX8_image_0 rfl (lv_at hl 0 rfl) ?_
  refine fG B X (LnX8_g L z) 0 rfl inTX8 (by decide) kw847 rfl dX8_image_1 ?_
  refine lv_if_ne (tgt := 10) hx hb dX8_image_4 (by decide) (fun hc1 => ?_) (fun hc1 => ?_)
  · have h := ie h hc1
    refine lv_aload_n hx hb dX8_image_10 rfl (lv_at hl 0 rfl) ?_
    refine lv_iconst (v := 1) hx hb dX8_image_11 (by decide) ?_
    refine fP tyX8 B X (LnX8_g L z) 51 (LnX8_i51 L z _) rfl inTX8 tyX8_ok nmX8 (by decide) kw898 rfl rfl rfl rfl (Nat.le_of_ble_eq_true rfl) dX8_image_12 (fun H locs X => ?_)
    have X : Hx A D S.heap (wf ((upd z.1 51 1), z.2.1, z.2.2)) H locs := X
    refine lv_aload_n hx hb dX8_image_15 rfl (lv_at hl 0 rfl) ?_
    refine lv_aload_n hx hb dX8_image_16 rfl (lv_at hl 0 rfl) ?_
    refine fG B X (LnX8_g L ((upd z.1 51 1), z.2.1, z.2.2)) 0 rfl inTX8 (by decide) kw847 rfl dX8_image_17 ?_
    refine fP tyX8 B X (LnX8_g L ((upd z.1 51 1), z.2.1, z.2.2)) 52 (LnX8_i52 L ((upd z.1 51 1), z.2.1, z.2.2) _) rfl inTX8 tyX8_ok nmX8 (by decide) kw899 rfl rfl rfl rfl (Nat.le_of_ble_eq_true rfl) dX8_image_20 (fun H locs X => ?_)
    have X : Hx A D S.heap (wf ((upd (upd z.1 51 1) 52 (z.1 0)), z.2.1, z.2.2)) H locs := X
    refine lv_aload_n hx hb dX8_image_23 rfl (lv_at hl 0 rfl) ?_
    refine lv_aload_n hx hb dX8_image_24 rfl (lv_at hl 0 rfl) ?_
    refine fG B X (LnX8_g L ((upd (upd z.1 51 1) 52 (z.1 0)), z.2.1, z.2.2)) 1 rfl inTX8 (by decide) kw848 rfl dX8_image_25 ?_
    refine fP tyX8 B X (LnX8_g L ((upd (upd z.1 51 1) 52 (z.1 0)), z.2.1, z.2.2)) 53 (LnX8_i53 L ((upd (upd z.1 51 1) 52 (z.1 0)), z.2.1, z.2.2) _) rfl inTX8 tyX8_ok nmX8 (by decide) kw900 rfl rfl rfl rfl (Nat.le_of_ble_eq_true rfl) dX8_image_28 (fun H locs X => ?_)
    have X : Hx A D S.heap (wf ((upd (upd (upd z.1 51 1) 52 (z.1 0)) 53 (z.1 1)), z.2.1, z.2.2)) H locs := X
    refine lv_aload_n hx hb dX8_image_31 rfl (lv_at hl 0 rfl) ?_
    refine lv_aload_n hx hb dX8_image_32 rfl (lv_at hl 0 rfl) ?_
    refine fG B X (LnX8_g L ((upd (upd (upd z.1 51 1) 52 (z.1 0)) 53 (z.1 1)), z.2.1, z.2.2)) 2 rfl inTX8 (by decide) kw849 rfl dX8_image_33 ?_
    refine fP tyX8 B X (LnX8_g L ((upd (upd (upd z.1 51 1) 52 (z.1 0)) 53 (z.1 1)), z.2.1, z.2.2)) 54 (LnX8_i54 L ((upd (upd (upd z.1 51 1) 52 (z.1 0)) 53 (z.1 1)), z.2.1, z.2.2) _) rfl inTX8 tyX8_ok nmX8 (by decide) kw901 rfl rfl rfl rfl (Nat.le_of_ble_eq_true rfl) dX8_image_36 (fun H locs X => ?_)
    have X : Hx A D S.heap (wf ((upd (upd (upd (upd z.1 51 1) 52 (z.1 0)) 53 (z.1 1)) 54 (z.1 2)), z.2.1, z.2.2)) H locs := X
    refine lv_aload_n hx hb dX8_image_39 rfl (lv_at hl 0 rfl) ?_
    refine lv_aload_n hx hb dX8_image_40 rfl (lv_at hl 0 rfl) ?_
    refine fG B X (LnX8_g L ((upd (upd (upd (upd z.1 51 1) 52 (z.1 0)) 53 (z.1 1)) 54 (z.1 2)), z.2.1, z.2.2)) 4 rfl inTX8 (by decide) kw851 rfl dX8_image_41 ?_
    refine lv_iconst (v := 0) hx hb dX8_image_44 (by decide) ?_
    refine aG B X (LnX8_a4 L ((upd (upd (upd (upd z.1 51 1) 52 (z.1 0)) 53 (z.1 1)) 54 (z.1 2)), z.2.1, z.2.2)) 0 rfl (by decide) dX8_image_45 ?_
    refine fP tyX8 B X (LnX8_g L ((upd (upd (upd (upd z.1 51 1) 52 (z.1 0)) 53 (z.1 1)) 54 (z.1 2)), z.2.1, z.2.2)) 55 (LnX8_i55 L ((upd (upd (upd (upd z.1 51 1) 52 (z.1 0)) 53 (z.1 1)) 54 (z.1 2)), z.2.1, z.2.2) _) rfl inTX8 tyX8_ok nmX8 (by decide) kw902 rfl rfl rfl rfl (Nat.le_of_ble_eq_true rfl) dX8_image_46 (fun H locs X => ?_)
    have X : Hx A D S.heap (wf ((upd (upd (upd (upd (upd z.1 51 1) 52 (z.1 0)) 53 (z.1 1)) 54 (z.1 2)) 55 ((z.2.2 4) (0 : Int32).toNatClampNeg)), z.2.1, z.2.2)) H locs := X
    refine lv_aload_n hx hb dX8_image_49 rfl (lv_at hl 0 rfl) ?_
    refine lv_aload_n hx hb dX8_image_50 rfl (lv_at hl 0 rfl) ?_
    refine fG B X (LnX8_g L ((upd (upd (upd (upd (upd z.1 51 1) 52 (z.1 0)) 53 (z.1 1)) 54 (z.1 2)) 55 ((z.2.2 4) (0 : Int32).toNatClampNeg)), z.2.1, z.2.2)) 4 rfl inTX8 (by decide) kw851 rfl dX8_image_51 ?_
    refine lv_iconst (v := 1) hx hb dX8_image_54 (by decide) ?_
    refine aG B X (LnX8_a4 L ((upd (upd (upd (upd (upd z.1 51 1) 52 (z.1 0)) 53 (z.1 1)) 54 (z.1 2)) 55 ((z.2.2 4) (0 : Int32).toNatClampNeg)), z.2.1, z.2.2)) 0 rfl (by decide) dX8_image_55 ?_
    refine fP tyX8 B X (LnX8_g L ((upd (upd (upd (upd (upd z.1 51 1) 52 (z.1 0)) 53 (z.1 1)) 54 (z.1 2)) 55 ((z.2.2 4) (0 : Int32).toNatClampNeg)), z.2.1, z.2.2)) 56 (LnX8_i56 L ((upd (upd (upd (upd (upd z.1 51 1) 52 (z.1 0)) 53 (z.1 1)) 54 (z.1 2)) 55 ((z.2.2 4) (0 : Int32).toNatClampNeg)), z.2.1, z.2.2) _) rfl inTX8 tyX8_ok nmX8 (by decide) kw903 rfl rfl rfl rfl (Nat.le_of_ble_eq_true rfl) dX8_image_56 (fun H locs X => ?_)
    have X : Hx A D S.heap (wf ((upd (upd (upd (upd (upd (upd z.1 51 1) 52 (z.1 0)) 53 (z.1 1)) 54 (z.1 2)) 55 ((z.2.2 4) (0 : Int32).toNatClampNeg)) 56 ((z.2.2 4) (1 : Int32).toNatClampNeg)), z.2.1, z.2.2)) H locs := X
    refine lv_aload_n hx hb dX8_image_59 rfl (lv_at hl 0 rfl) ?_
    refine lv_aload_n hx hb dX8_image_60 rfl (lv_at hl 0 rfl) ?_
    refine fG B X (LnX8_g L ((upd (upd (upd (upd (upd (upd z.1 51 1) 52 (z.1 0)) 53 (z.1 1)) 54 (z.1 2)) 55 ((z.2.2 4) (0 : Int32).toNatClampNeg)) 56 ((z.2.2 4) (1 : Int32).toNatClampNeg)), z.2.1, z.2.2)) 6 rfl inTX8 (by decide) kw853 rfl dX8_image_61 ?_
    refine fP tyX8 B X (LnX8_g L ((upd (upd (upd (upd (upd (upd z.1 51 1) 52 (z.1 0)) 53 (z.1 1)) 54 (z.1 2)) 55 ((z.2.2 4) (0 : Int32).toNatClampNeg)) 56 ((z.2.2 4) (1 : Int32).toNatClampNeg)), z.2.1, z.2.2)) 57 (LnX8_i57 L ((upd (upd (upd (upd (upd (upd z.1 51 1) 52 (z.1 0)) 53 (z.1 1)) 54 (z.1 2)) 55 ((z.2.2 4) (0 : Int32).toNatClampNeg)) 56 ((z.2.2 4) (1 : Int32).toNatClampNeg)), z.2.1, z.2.2) _) rfl inTX8 tyX8_ok nmX8 (by decide) kw904 rfl rfl rfl rfl (Nat.le_of_ble_eq_true rfl) dX8_image_64 (fun H locs X => ?_)
    have X : Hx A D S.heap (wf ((upd (upd (upd (upd (upd (upd (upd z.1 51 1) 52 (z.1 0)) 53 (z.1 1)) 54 (z.1 2)) 55 ((z.2.2 4) (0 : Int32).toNatClampNeg)) 56 ((z.2.2 4) (1 : Int32).toNatClampNeg)) 57 (z.1 6)), z.2.1, z.2.2)) H locs := X
    refine lv_iconst (v := 0) hx hb dX8_image_67 (by decide) ?_
    refine lv_istore_n (lv' := [(1, .int 0), (0, .ref (a 0))]) hx hb dX8_image_68 rfl hl (by decide) rfl (fun ls hl => ?_)
    exact tX8_image_b69 L hd B 1000 0 ((upd (upd (upd (upd (upd (upd (upd z.1 51 1) 52 (z.1 0)) 53 (z.1 1)) 54 (z.1 2)) 55 ((z.2.2 4) (0 : Int32).toNatClampNeg)) 56 ((z.2.2 4) (1 : Int32).toNatClampNeg)) 57 (z.1 6)), z.2.1, z.2.2) _ _ _ X (lv_sub hl [1, 0] rfl) h
  · have h := it h hc1
    refine lv_bipush (v := (-103)) hx hb dX8_image_7 (by decide) ?_
    exact rI B X (congrArg (fun q => wf q.2) (Option.some.inj h)) (congrArg (fun q => q.1) (Option.some.inj h)) dX8_image_9
def fX8_restore_b93 : Nat → Int32 → SX8 → Option (Int32 × SX8)
  | 0, _, _ => none
  | n + 1, x1, z =>
    if 6 ≤ x1 then (some ((((z.2.2 4) (0 : Int32).toNatClampNeg) + ((z.2.2 4) (1 : Int32).toNatClampNeg)), z)) else
    (if x1 < 0 ∨ 6 ≤ x1.toNatClampNeg then none else
    (if x1 < 0 ∨ 6 ≤ x1.toNatClampNeg then none else
    (if x1 < 0 ∨ 6 ≤ x1.toNatClampNeg then none else
    (if x1 < 0 ∨ 6 ≤ x1.toNatClampNeg then none else
    (fX8_restore_b93 n (x1 + 1) (z.1, z.2.1, (va_up (va_up z.2.2 7 (upd (z.2.2 7) x1.toNatClampNeg ((z.2.2 59) x1.toNatClampNeg))) 8 (upd (z.2.2 8) x1.toNatClampNeg ((z.2.2 60) x1.toNatClampNeg)))))))))
set_option maxRecDepth 100000 in
set_option maxHeartbeats 4000000 in
theorem tX8_restore_b93 {a q : Nat → Nat} {wf : SX8 → va_W} (L : LnX8 a q cI cB wf) {d : Nat} (hd : 1 ≤ d) (B : Bd RX8 cX8_restore 2 (some .int) d A g D [(cI, .int), (cB, .byte)] p R S m args meth c) {q : Int32 × SX8} : ∀ (n : Nat) (x1 : Int32) (z : SX8) (H : Heap) (locs : List Loc) (ls : Array Slot), Hx A D S.heap (wf z) H locs → lv_has ls 2 [(0, .ref (a 0)), (1, .int x1)] → fX8_restore_b93 n x1 z = some q → W p l e R S m args below meth c H locs 0 0 (MQ below (QI A D (wf q.2) q.1) args S 0 0 A) (F0 m 93 ls []) := by
  have hx := B.1
  have hb := B.2.1
  have hd1 : 1 ≤ d := by omega
  intro n
  induction n with
  | zero =>
    intro x1 z H locs ls X hl h
    cases h
  | succ n ih =>
    intro x1 z H locs ls X hl h
    rw [fX8_restore_b93] at h
    refine lv_iload_n hx hb dX8_restore_93 rfl (lv_at hl 1 rfl) ?_
    refine lv_bipush (v := 6) hx hb dX8_restore_94 (by decide) ?_
    refine lv_icmp_ge (tgt := 129) hx hb dX8_restore_96 (by decide) (fun hc1 => ?_) (fun hc1 => ?_)
    · have h := it h hc1
      refine lv_aload_n hx hb dX8_restore_129 rfl (lv_at hl 0 rfl) ?_
      refine fG B X (LnX8_g L z) 4 rfl inTX8 (by decide) kw851 rfl dX8_restore_130 ?_
      refine lv_iconst (v := 0) hx hb dX8_restore_133 (by decide) ?_
      refine aG B X (LnX8_a4 L z) 0 rfl (by decide) dX8_restore_134 ?_
      refine lv_aload_n hx hb dX8_restore_135 rfl (lv_at hl 0 rfl) ?_
      refine fG B X (LnX8_g L z) 4 rfl inTX8 (by decide) kw851 rfl dX8_restore_136 ?_
      refine lv_iconst (v := 1) hx hb dX8_restore_139 (by decide) ?_
      refine aG B X (LnX8_a4 L z) 0 rfl (by decide) dX8_restore_140 ?_
      refine lv_iadd hx hb dX8_restore_141 ?_
      exact rI B X (congrArg (fun q => wf q.2) (Option.some.inj h)) (congrArg (fun q => q.1) (Option.some.inj h)) dX8_restore_142
    · have h := ie h hc1
      refine lv_aload_n hx hb dX8_restore_99 rfl (lv_at hl 0 rfl) ?_
      refine fG B X (LnX8_g L z) 7 rfl inTX8 (by decide) kw854 rfl dX8_restore_100 ?_
      refine lv_iload_n hx hb dX8_restore_103 rfl (lv_at hl 1 rfl) ?_
      refine lv_aload_n hx hb dX8_restore_104 rfl (lv_at hl 0 rfl) ?_
      refine fG B X (LnX8_g L z) 59 rfl inTX8 (by decide) kw906 rfl dX8_restore_105 ?_
      refine lv_iload_n hx hb dX8_restore_108 rfl (lv_at hl 1 rfl) ?_
      by_cases hc4 : (x1 < 0 ∨ 6 ≤ x1.toNatClampNeg)
      · cases it h hc4
      have h := ie h hc4
      refine aG B X (LnX8_a59 L z) 0 rfl hc4 dX8_restore_109 ?_
      by_cases hc5 : (x1 < 0 ∨ 6 ≤ x1.toNatClampNeg)
      · cases it h hc5
      have h := ie h hc5
      refine aP B X (LnX8_a7 L z) (LnX8_b7 L z _) 0 rfl hc5 dX8_restore_110 (fun H locs X => ?_)
      have X : Hx A D S.heap (wf (z.1, z.2.1, (va_up z.2.2 7 (upd (z.2.2 7) x1.toNatClampNeg ((z.2.2 59) x1.toNatClampNeg))))) H locs := X
      refine lv_aload_n hx hb dX8_restore_111 rfl (lv_at hl 0 rfl) ?_
      refine fG B X (LnX8_g L (z.1, z.2.1, (va_up z.2.2 7 (upd (z.2.2 7) x1.toNatClampNeg ((z.2.2 59) x1.toNatClampNeg))))) 8 rfl inTX8 (by decide) kw855 rfl dX8_restore_112 ?_
      refine lv_iload_n hx hb dX8_restore_115 rfl (lv_at hl 1 rfl) ?_
      refine lv_aload_n hx hb dX8_restore_116 rfl (lv_at hl 0 rfl) ?_
      refine fG B X (LnX8_g L (z.1, z.2.1, (va_up z.2.2 7 (upd (z.2.2 7) x1.toNatClampNeg ((z.2.2 59) x1.toNatClampNeg))))) 60 rfl inTX8 (by decide) kw907 rfl dX8_restore_117 ?_
      refine lv_iload_n hx hb dX8_restore_120 rfl (lv_at hl 1 rfl) ?_
      by_cases hc6 : (x1 < 0 ∨ 6 ≤ x1.toNatClampNeg)
      · cases it h hc6
      have h := ie h hc6
      refine aG B X (LnX8_a60 L (z.1, z.2.1, (va_up z.2.2 7 (upd (z.2.2 7) x1.toNatClampNeg ((z.2.2 59) x1.toNatClampNeg))))) 0 rfl hc6 dX8_restore_121 ?_
      by_cases hc7 : (x1 < 0 ∨ 6 ≤ x1.toNatClampNeg)
      · cases it h hc7
      have h := ie h hc7
      refine aP B X (LnX8_a8 L (z.1, z.2.1, (va_up z.2.2 7 (upd (z.2.2 7) x1.toNatClampNeg ((z.2.2 59) x1.toNatClampNeg))))) (LnX8_b8 L (z.1, z.2.1, (va_up z.2.2 7 (upd (z.2.2 7) x1.toNatClampNeg ((z.2.2 59) x1.toNatClampNeg)))) _) 0 rfl hc7 dX8_restore_122 (fun H locs X => ?_)
      have X : Hx A D S.heap (wf (z.1, z.2.1, (va_up (va_up z.2.2 7 (upd (z.2.2 7) x1.toNatClampNeg ((z.2.2 59) x1.toNatClampNeg))) 8 (upd (z.2.2 8) x1.toNatClampNeg ((z.2.2 60) x1.toNatClampNeg))))) H locs := X
      refine lv_iinc (v := x1 + 1) (lv' := [(1, .int (x1 + 1)), (0, .ref (a 0))]) hx hb dX8_restore_123 hl (k := 1) rfl rfl (by decide) rfl (fun ls hl => ?_)
      refine lv_goto (tgt := 93) hx hb dX8_restore_126 (by decide) ?_
      exact ih (x1 + 1) (z.1, z.2.1, (va_up (va_up z.2.2 7 (upd (z.2.2 7) x1.toNatClampNeg ((z.2.2 59) x1.toNatClampNeg))) 8 (upd (z.2.2 8) x1.toNatClampNeg ((z.2.2 60) x1.toNatClampNeg)))) _ _ _ X (lv_sub hl [1, 0] rfl) h
def fX8_restore_b67 : Nat → Int32 → SX8 → Option (Int32 × SX8)
  | 0, _, _ => none
  | n + 1, x1, z =>
    if 28 ≤ x1 then (fX8_restore_b93 1000 0 z) else
    (if x1 < 0 ∨ 28 ≤ x1.toNatClampNeg then none else
    (if x1 < 0 ∨ 28 ≤ x1.toNatClampNeg then none else
    (fX8_restore_b67 n (x1 + 1) (z.1, z.2.1, (va_up z.2.2 3 (upd (z.2.2 3) x1.toNatClampNeg ((z.2.2 58) x1.toNatClampNeg)))))))
set_option maxRecDepth 100000 in
set_option maxHeartbeats 4000000 in
theorem tX8_restore_b67 {a q : Nat → Nat} {wf : SX8 → va_W} (L : LnX8 a q cI cB wf) {d : Nat} (hd : 1 ≤ d) (B : Bd RX8 cX8_restore 2 (some .int) d A g D [(cI, .int), (cB, .byte)] p R S m args meth c) {q : Int32 × SX8} : ∀ (n : Nat) (x1 : Int32) (z : SX8) (H : Heap) (locs : List Loc) (ls : Array Slot), Hx A D S.heap (wf z) H locs → lv_has ls 2 [(0, .ref (a 0)), (1, .int x1)] → fX8_restore_b67 n x1 z = some q → W p l e R S m args below meth c H locs 0 0 (MQ below (QI A D (wf q.2) q.1) args S 0 0 A) (F0 m 67 ls []) := by
  have hx := B.1
  have hb := B.2.1
  have hd1 : 1 ≤ d := by omega
  intro n
  induction n with
  | zero =>
    intro x1 z H locs ls X hl h
    cases h
  | succ n ih =>
    intro x1 z H locs ls X hl h
    rw [fX8_restore_b67] at h
    refine lv_iload_n hx hb dX8_restore_67 rfl (lv_at hl 1 rfl) ?_
    refine lv_bipush (v := 28) hx hb dX8_restore_68 (by decide) ?_
    refine lv_icmp_ge (tgt := 91) hx hb dX8_restore_70 (by decide) (fun hc1 => ?_) (fun hc1 => ?_)
    · have h := it h hc1
      refine lv_iconst (v := 0) hx hb dX8_restore_91 (by decide) ?_
      refine lv_istore_n (lv' := [(1, .int 0), (0, .ref (a 0))]) hx hb dX8_restore_92 rfl hl (by decide) rfl (fun ls hl => ?_)
      exact tX8_restore_b93 L hd B 1000 0 z _ _ _ X (lv_sub hl [1, 0] rfl) h
    · have h := ie h hc1
      refine lv_aload_n hx hb dX8_restore_73 rfl (lv_at hl 0 rfl) ?_
      refine fG B X (LnX8_g L z) 3 rfl inTX8 (by decide) kw850 rfl dX8_restore_74 ?_
      refine lv_iload_n hx hb dX8_restore_77 rfl (lv_at hl 1 rfl) ?_
      refine lv_aload_n hx hb dX8_restore_78 rfl (lv_at hl 0 rfl) ?_
      refine fG B X (LnX8_g L z) 58 rfl inTX8 (by decide) kw905 rfl dX8_restore_79 ?_
      refine lv_iload_n hx hb dX8_restore_82 rfl (lv_at hl 1 rfl) ?_
      by_cases hc2 : (x1 < 0 ∨ 28 ≤ x1.toNatClampNeg)
      · cases it h hc2
      have h := ie h hc2
      refine aG B X (LnX8_a58 L z) 0 rfl hc2 dX8_restore_83 ?_
      by_cases hc3 : (x1 < 0 ∨ 28 ≤ x1.toNatClampNeg)
      · cases it h hc3
      have h := ie h hc3
      refine aP B X (LnX8_a3 L z) (LnX8_b3 L z _) 0 rfl hc3 dX8_restore_84 (fun H locs X => ?_)
      have X : Hx A D S.heap (wf (z.1, z.2.1, (va_up z.2.2 3 (upd (z.2.2 3) x1.toNatClampNeg ((z.2.2 58) x1.toNatClampNeg))))) H locs := X
      refine lv_iinc (v := x1 + 1) (lv' := [(1, .int (x1 + 1)), (0, .ref (a 0))]) hx hb dX8_restore_85 hl (k := 1) rfl rfl (by decide) rfl (fun ls hl => ?_)
      refine lv_goto (tgt := 67) hx hb dX8_restore_88 (by decide) ?_
      exact ih (x1 + 1) (z.1, z.2.1, (va_up z.2.2 3 (upd (z.2.2 3) x1.toNatClampNeg ((z.2.2 58) x1.toNatClampNeg)))) _ _ _ X (lv_sub hl [1, 0] rfl) h
def fX8_restore (z : SX8) : Option (Int32 × SX8) :=
    if (z.1 51) = 0 then (some ((-103), z)) else
    (if (z.1 52) = (z.1 0) then (fX8_restore_b67 1000 0 ((upd (upd (upd z.1 1 (z.1 53)) 2 (z.1 54)) 6 (z.1 57)), z.2.1, (va_up (va_up z.2.2 4 (upd (z.2.2 4) (0 : Int32).toNatClampNeg (z.1 55))) 4 (upd (upd (z.2.2 4) (0 : Int32).toNatClampNeg (z.1 55)) (1 : Int32).toNatClampNeg (z.1 56))))) else
    (some ((-103), z)))
set_option maxRecDepth 100000 in
set_option maxHeartbeats 4000000 in
theorem tX8_restore {a q : Nat → Nat} {wf : SX8 → va_W} (L : LnX8 a q cI cB wf) {d : Nat} (hd : 1 ≤ d) {z : SX8} {q : Int32 × SX8} (h : fX8_restore z = some q) : Ct l yX8_restore cX8_restore 2 (some .int) d A g D [(cI, .int), (cB, .byte)] [.ref (a 0)] (wf z) (QI A D (wf q.2) q.1) := by
  refine mkM (by decide) (Nat.le_of_ble_eq_true rfl) ?_
  intro p e S m args below meth c B X ls hl
  have B : Bd RX8 cX8_restore 2 (some .int) d A g D [(cI, .int), (cB, .byte)] p (rmd d) S m args meth c := B
  have hx := B.1
  have hb := B.2.1
  have hd1 : 1 ≤ d := by omega
  have hl : lv_has ls 2 [(0, .ref (a 0))] := hl
  unfold fX8_restore at h
  refine lv_aload_n hx hb dX8_restore_0 rfl (lv_at hl 0 rfl) ?_
  refine fG B X (LnX8_g L z) 51 rfl inTX8 (by decide) kw898 rfl dX8_restore_1 ?_
  refine lv_if_eq (tgt := 18) hx hb dX8_restore_4 (by decide) (fun hc1 => ?_) (fun hc1 => ?_)
  · have h := it h hc1
    refine lv_bipush (v := (-103)) hx hb dX8_restore_18 (by decide) ?_
    exact rI B X (congrArg (fun q => wf q.2) (Option.some.inj h)) (congrArg (fun q => q.1) (Option.some.inj h)) dX8_restore_20
  · have h := ie h hc1
    refine lv_aload_n hx hb dX8_restore_7 rfl (lv_at hl 0 rfl) ?_
    refine fG B X (LnX8_g L z) 52 rfl inTX8 (by decide) kw899 rfl dX8_restore_8 ?_
    refine lv_aload_n hx hb dX8_restore_11 rfl (lv_at hl 0 rfl) ?_
    refine fG B X (LnX8_g L z) 0 rfl inTX8 (by decide) kw847 rfl dX8_restore_12 ?_
    refine lv_icmp_eq (tgt := 21) hx hb dX8_restore_15 (by decide) (fun hc2 => ?_) (fun hc2 => ?_)
    · have h := it h hc2
      refine lv_aload_n hx hb dX8_restore_21 rfl (lv_at hl 0 rfl) ?_
      refine lv_aload_n hx hb dX8_restore_22 rfl (lv_at hl 0 rfl) ?_
      refine fG B X (LnX8_g L z) 53 rfl inTX8 (by decide) kw900 rfl dX8_restore_23 ?_
      refine fP tyX8 B X (LnX8_g L z) 1 (LnX8_i1 L z _) rfl inTX8 tyX8_ok nmX8 (by decide) kw848 rfl rfl rfl rfl (Nat.le_of_ble_eq_true rfl) dX8_restore_26 (fun H locs X => ?_)
      have X : Hx A D S.heap (wf ((upd z.1 1 (z.1 53)), z.2.1, z.2.2)) H locs := X
      refine lv_aload_n hx hb dX8_restore_29 rfl (lv_at hl 0 rfl) ?_
      refine lv_aload_n hx hb dX8_restore_30 rfl (lv_at hl 0 rfl) ?_
      refine fG B X (LnX8_g L ((upd z.1 1 (z.1 53)), z.2.1, z.2.2)) 54 rfl inTX8 (by decide) kw901 rfl dX8_restore_31 ?_
      refine fP tyX8 B X (LnX8_g L ((upd z.1 1 (z.1 53)), z.2.1, z.2.2)) 2 (LnX8_i2 L ((upd z.1 1 (z.1 53)), z.2.1, z.2.2) _) rfl inTX8 tyX8_ok nmX8 (by decide) kw849 rfl rfl rfl rfl (Nat.le_of_ble_eq_true rfl) dX8_restore_34 (fun H locs X => ?_)
      have X : Hx A D S.heap (wf ((upd (upd z.1 1 (z.1 53)) 2 (z.1 54)), z.2.1, z.2.2)) H locs := X
      refine lv_aload_n hx hb dX8_restore_37 rfl (lv_at hl 0 rfl) ?_
      refine fG B X (LnX8_g L ((upd (upd z.1 1 (z.1 53)) 2 (z.1 54)), z.2.1, z.2.2)) 4 rfl inTX8 (by decide) kw851 rfl dX8_restore_38 ?_
      refine lv_iconst (v := 0) hx hb dX8_restore_41 (by decide) ?_
      refine lv_aload_n hx hb dX8_restore_42 rfl (lv_at hl 0 rfl) ?_
      refine fG B X (LnX8_g L ((upd (upd z.1 1 (z.1 53)) 2 (z.1 54)), z.2.1, z.2.2)) 55 rfl inTX8 (by decide) kw902 rfl dX8_restore_43 ?_
      refine aP B X (LnX8_a4 L ((upd (upd z.1 1 (z.1 53)) 2 (z.1 54)), z.2.1, z.2.2)) (LnX8_b4 L ((upd (upd z.1 1 (z.1 53)) 2 (z.1 54)), z.2.1, z.2.2) _) 0 rfl (by decide) dX8_restore_46 (fun H locs X => ?_)
      have X : Hx A D S.heap (wf ((upd (upd z.1 1 (z.1 53)) 2 (z.1 54)), z.2.1, (va_up z.2.2 4 (upd (z.2.2 4) (0 : Int32).toNatClampNeg (z.1 55))))) H locs := X
      refine lv_aload_n hx hb dX8_restore_47 rfl (lv_at hl 0 rfl) ?_
      refine fG B X (LnX8_g L ((upd (upd z.1 1 (z.1 53)) 2 (z.1 54)), z.2.1, (va_up z.2.2 4 (upd (z.2.2 4) (0 : Int32).toNatClampNeg (z.1 55))))) 4 rfl inTX8 (by decide) kw851 rfl dX8_restore_48 ?_
      refine lv_iconst (v := 1) hx hb dX8_restore_51 (by decide) ?_
      refine lv_aload_n hx hb dX8_restore_52 rfl (lv_at hl 0 rfl) ?_
      refine fG B X (LnX8_g L ((upd (upd z.1 1 (z.1 53)) 2 (z.1 54)), z.2.1, (va_up z.2.2 4 (upd (z.2.2 4) (0 : Int32).toNatClampNeg (z.1 55))))) 56 rfl inTX8 (by decide) kw903 rfl dX8_restore_53 ?_
      refine aP B X (LnX8_a4 L ((upd (upd z.1 1 (z.1 53)) 2 (z.1 54)), z.2.1, (va_up z.2.2 4 (upd (z.2.2 4) (0 : Int32).toNatClampNeg (z.1 55))))) (LnX8_b4 L ((upd (upd z.1 1 (z.1 53)) 2 (z.1 54)), z.2.1, (va_up z.2.2 4 (upd (z.2.2 4) (0 : Int32).toNatClampNeg (z.1 55)))) _) 0 rfl (by decide) dX8_restore_56 (fun H locs X => ?_)
      have X : Hx A D S.heap (wf ((upd (upd z.1 1 (z.1 53)) 2 (z.1 54)), z.2.1, (va_up (va_up z.2.2 4 (upd (z.2.2 4) (0 : Int32).toNatClampNeg (z.1 55))) 4 (upd (upd (z.2.2 4) (0 : Int32).toNatClampNeg (z.1 55)) (1 : Int32).toNatClampNeg (z.1 56))))) H locs := X
      refine lv_aload_n hx hb dX8_restore_57 rfl (lv_at hl 0 rfl) ?_
      refine lv_aload_n hx hb dX8_restore_58 rfl (lv_at hl 0 rfl) ?_
      refine fG B X (LnX8_g L ((upd (upd z.1 1 (z.1 53)) 2 (z.1 54)), z.2.1, (va_up (va_up z.2.2 4 (upd (z.2.2 4) (0 : Int32).toNatClampNeg (z.1 55))) 4 (upd (upd (z.2.2 4) (0 : Int32).toNatClampNeg (z.1 55)) (1 : Int32).toNatClampNeg (z.1 56))))) 57 rfl inTX8 (by decide) kw904 rfl dX8_restore_59 ?_
      refine fP tyX8 B X (LnX8_g L ((upd (upd z.1 1 (z.1 53)) 2 (z.1 54)), z.2.1, (va_up (va_up z.2.2 4 (upd (z.2.2 4) (0 : Int32).toNatClampNeg (z.1 55))) 4 (upd (upd (z.2.2 4) (0 : Int32).toNatClampNeg (z.1 55)) (1 : Int32).toNatClampNeg (z.1 56))))) 6 (LnX8_i6 L ((upd (upd z.1 1 (z.1 53)) 2 (z.1 54)), z.2.1, (va_up (va_up z.2.2 4 (upd (z.2.2 4) (0 : Int32).toNatClampNeg (z.1 55))) 4 (upd (upd (z.2.2 4) (0 : Int32).toNatClampNeg (z.1 55)) (1 : Int32).toNatClampNeg (z.1 56)))) _) rfl inTX8 tyX8_ok nmX8 (by decide) kw853 rfl rfl rfl rfl (Nat.le_of_ble_eq_true rfl) dX8_restore_62 (fun H locs X => ?_)
      have X : Hx A D S.heap (wf ((upd (upd (upd z.1 1 (z.1 53)) 2 (z.1 54)) 6 (z.1 57)), z.2.1, (va_up (va_up z.2.2 4 (upd (z.2.2 4) (0 : Int32).toNatClampNeg (z.1 55))) 4 (upd (upd (z.2.2 4) (0 : Int32).toNatClampNeg (z.1 55)) (1 : Int32).toNatClampNeg (z.1 56))))) H locs := X
      refine lv_iconst (v := 0) hx hb dX8_restore_65 (by decide) ?_
      refine lv_istore_n (lv' := [(1, .int 0), (0, .ref (a 0))]) hx hb dX8_restore_66 rfl hl (by decide) rfl (fun ls hl => ?_)
      exact tX8_restore_b67 L hd B 1000 0 ((upd (upd (upd z.1 1 (z.1 53)) 2 (z.1 54)) 6 (z.1 57)), z.2.1, (va_up (va_up z.2.2 4 (upd (z.2.2 4) (0 : Int32).toNatClampNeg (z.1 55))) 4 (upd (upd (z.2.2 4) (0 : Int32).toNatClampNeg (z.1 55)) (1 : Int32).toNatClampNeg (z.1 56)))) _ _ _ X (lv_sub hl [1, 0] rfl) h
    · have h := ie h hc2
      refine lv_bipush (v := (-103)) hx hb dX8_restore_18 (by decide) ?_
      exact rI B X (congrArg (fun q => wf q.2) (Option.some.inj h)) (congrArg (fun q => q.1) (Option.some.inj h)) dX8_restore_20
def fX8_keysOfAll_b11 (k4 : Int32 → Int32 → Option Int32) (z : SX8) : Nat → Int32 → Int32 → Int32 → Option Int32
  | 0, _, _, _ => none
  | n + 1, x1, x2, x3 =>
    if x2 < 0 ∨ 2 ≤ x2.toNatClampNeg then none else
    (if ((z.2.2 4) x2.toNatClampNeg) ≤ x3 then (k4 x1 (x2 + 1)) else
    ((fX8_keyAt z x2 x3).bind fun q3 =>
    if q3 = (-1) then (fX8_keysOfAll_b11 k4 z n (x1 ||| 0) x2 (x3 + 1)) else
    ((fX8_keyAt z x2 x3).bind fun q5 =>
    fX8_keysOfAll_b11 k4 z n (x1 ||| (1 <<< (q5 &&& 31))) x2 (x3 + 1))))
set_option maxRecDepth 100000 in
set_option maxHeartbeats 4000000 in
theorem tX8_keysOfAll_b11 {a q : Nat → Nat} {wf : SX8 → va_W} (L : LnX8 a q cI cB wf) {d : Nat} (hd : 2 ≤ d) {z : SX8} (B : Bd RX8 cX8_keysOfAll 4 (some .int) d A g D [(cI, .int), (cB, .byte)] p R S m args meth c) {q : Int32} {k4 : Int32 → Int32 → Option Int32} (hk4 : ∀ (x1 : Int32) (x2 : Int32) (H : Heap) (locs : List Loc) (ls : Array Slot), Hx A D S.heap (wf z) H locs → lv_has ls 4 [(0, .ref (a 0)), (1, .int x1), (2, .int x2)] → k4 x1 x2 = some q → W p l e R S m args below meth c H locs 0 0 (MQ below (QI A D (wf z) q) args S 0 0 A) (F0 m 4 ls [])) : ∀ (n : Nat) (x1 : Int32) (x2 : Int32) (x3 : Int32) (H : Heap) (locs : List Loc) (ls : Array Slot), Hx A D S.heap (wf z) H locs → lv_has ls 4 [(0, .ref (a 0)), (1, .int x1), (2, .int x2), (3, .int x3)] → fX8_keysOfAll_b11 k4 z n x1 x2 x3 = some q → W p l e R S m args below meth c H locs 0 0 (MQ below (QI A D (wf z) q) args S 0 0 A) (F0 m 11 ls []) := by
  have hx := B.1
  have hb := B.2.1
  have hd1 : 1 ≤ d := by omega
  intro n
  induction n with
  | zero =>
    intro x1 x2 x3 H locs ls X hl h
    cases h
  | succ n ih =>
    intro x1 x2 x3 H locs ls X hl h
    rw [fX8_keysOfAll_b11] at h
    refine lv_iload_n hx hb dX8_keysOfAll_11 rfl (lv_at hl 3 rfl) ?_
    refine lv_aload_n hx hb dX8_keysOfAll_12 rfl (lv_at hl 0 rfl) ?_
    refine fG B X (LnX8_g L z) 4 rfl inTX8 (by decide) kw851 rfl dX8_keysOfAll_13 ?_
    refine lv_iload_n hx hb dX8_keysOfAll_16 rfl (lv_at hl 2 rfl) ?_
    by_cases hc1 : (x2 < 0 ∨ 2 ≤ x2.toNatClampNeg)
    · cases it h hc1
    have h := ie h hc1
    refine aG B X (LnX8_a4 L z) 0 rfl hc1 dX8_keysOfAll_17 ?_
    refine lv_icmp_ge (tgt := 52) hx hb dX8_keysOfAll_18 (by decide) (fun hc2 => ?_) (fun hc2 => ?_)
    · have h := it h hc2
      refine lv_iinc (v := x2 + 1) (lv' := [(2, .int (x2 + 1)), (0, .ref (a 0)), (1, .int x1), (3, .int x3)]) hx hb dX8_keysOfAll_52 hl (k := 2) rfl rfl (by decide) rfl (fun ls hl => ?_)
      refine lv_goto (tgt := 4) hx hb dX8_keysOfAll_55 (by decide) ?_
      exact hk4 x1 (x2 + 1) _ _ _ X (lv_sub hl [1, 2, 0] rfl) h
    · have h := ie h hc2
      refine lv_iload_n hx hb dX8_keysOfAll_21 rfl (lv_at hl 1 rfl) ?_
      refine lv_aload_n hx hb dX8_keysOfAll_22 rfl (lv_at hl 0 rfl) ?_
      refine lv_iload_n hx hb dX8_keysOfAll_23 rfl (lv_at hl 2 rfl) ?_
      refine lv_iload_n hx hb dX8_keysOfAll_24 rfl (lv_at hl 3 rfl) ?_
      obtain ⟨q3, h3, h⟩ := bs h
      refine kI X (cV (As := [.int x2, .int x3]) (rest := [.int x1]) B X (tX8_keyAt (d := d - 1) L (by omega) h3) mfX8_keyAt kw1090 (by omega) (LnX8_g L z) rfl rfl (Nat.le_of_ble_eq_true rfl) hl.1 ⟨Nat.zero_le _, Nat.zero_le _⟩ dX8_keysOfAll_25) (fun H locs X => ?_)
      have X : Hx A D S.heap (wf z) H locs := X
      refine lv_iconst (v := (-1)) hx hb dX8_keysOfAll_28 (by decide) ?_
      refine lv_icmp_ne (tgt := 36) hx hb dX8_keysOfAll_29 (by decide) (fun hc4 => ?_) (fun hc4 => ?_)
      · have h := ie h hc4
        refine lv_iconst (v := 1) hx hb dX8_keysOfAll_36 (by decide) ?_
        refine lv_aload_n hx hb dX8_keysOfAll_37 rfl (lv_at hl 0 rfl) ?_
        refine lv_iload_n hx hb dX8_keysOfAll_38 rfl (lv_at hl 2 rfl) ?_
        refine lv_iload_n hx hb dX8_keysOfAll_39 rfl (lv_at hl 3 rfl) ?_
        obtain ⟨q5, h5, h⟩ := bs h
        refine kI X (cV (As := [.int x2, .int x3]) (rest := [.int 1, .int x1]) B X (tX8_keyAt (d := d - 1) L (by omega) h5) mfX8_keyAt kw1090 (by omega) (LnX8_g L z) rfl rfl (Nat.le_of_ble_eq_true rfl) hl.1 ⟨Nat.zero_le _, Nat.zero_le _⟩ dX8_keysOfAll_40) (fun H locs X => ?_)
        have X : Hx A D S.heap (wf z) H locs := X
        refine lv_ishl hx hb dX8_keysOfAll_43 ?_
        refine lv_ior hx hb dX8_keysOfAll_44 ?_
        refine lv_istore_n (lv' := [(1, .int (x1 ||| (1 <<< (q5 &&& 31)))), (0, .ref (a 0)), (2, .int x2), (3, .int x3)]) hx hb dX8_keysOfAll_45 rfl hl (by decide) rfl (fun ls hl => ?_)
        refine lv_iinc (v := x3 + 1) (lv' := [(3, .int (x3 + 1)), (1, .int (x1 ||| (1 <<< (q5 &&& 31)))), (0, .ref (a 0)), (2, .int x2)]) hx hb dX8_keysOfAll_46 hl (k := 3) rfl rfl (by decide) rfl (fun ls hl => ?_)
        refine lv_goto (tgt := 11) hx hb dX8_keysOfAll_49 (by decide) ?_
        exact ih (x1 ||| (1 <<< (q5 &&& 31))) x2 (x3 + 1) _ _ _ X (lv_sub hl [2, 1, 3, 0] rfl) h
      · have h := it h hc4
        refine lv_iconst (v := 0) hx hb dX8_keysOfAll_32 (by decide) ?_
        refine lv_goto (tgt := 44) hx hb dX8_keysOfAll_33 (by decide) ?_
        refine lv_ior hx hb dX8_keysOfAll_44 ?_
        refine lv_istore_n (lv' := [(1, .int (x1 ||| 0)), (0, .ref (a 0)), (2, .int x2), (3, .int x3)]) hx hb dX8_keysOfAll_45 rfl hl (by decide) rfl (fun ls hl => ?_)
        refine lv_iinc (v := x3 + 1) (lv' := [(3, .int (x3 + 1)), (1, .int (x1 ||| 0)), (0, .ref (a 0)), (2, .int x2)]) hx hb dX8_keysOfAll_46 hl (k := 3) rfl rfl (by decide) rfl (fun ls hl => ?_)
        refine lv_goto (tgt := 11) hx hb dX8_keysOfAll_49 (by decide) ?_
        exact ih (x1 ||| 0) x2 (x3 + 1) _ _ _ X (lv_sub hl [2, 1, 3, 0] rfl) h
def fX8_keysOfAll_b4 (z : SX8) : Nat → Int32 → Int32 → Option Int32
  | 0, _, _ => none
  | n + 1, x1, x2 =>
    if 2 ≤ x2 then ((fX8_size x1).bind fun q2 =>
    some q2) else
    (fX8_keysOfAll_b11 (fX8_keysOfAll_b4 z n) z 1000 x1 x2 0)
set_option maxRecDepth 100000 in
set_option maxHeartbeats 4000000 in
theorem tX8_keysOfAll_b4 {a q : Nat → Nat} {wf : SX8 → va_W} (L : LnX8 a q cI cB wf) {d : Nat} (hd : 2 ≤ d) {z : SX8} (B : Bd RX8 cX8_keysOfAll 4 (some .int) d A g D [(cI, .int), (cB, .byte)] p R S m args meth c) {q : Int32} : ∀ (n : Nat) (x1 : Int32) (x2 : Int32) (H : Heap) (locs : List Loc) (ls : Array Slot), Hx A D S.heap (wf z) H locs → lv_has ls 4 [(0, .ref (a 0)), (1, .int x1), (2, .int x2)] → fX8_keysOfAll_b4 z n x1 x2 = some q → W p l e R S m args below meth c H locs 0 0 (MQ below (QI A D (wf z) q) args S 0 0 A) (F0 m 4 ls []) := by
  have hx := B.1
  have hb := B.2.1
  have hd1 : 1 ≤ d := by omega
  intro n
  induction n with
  | zero =>
    intro x1 x2 H locs ls X hl h
    cases h
  | succ n ih =>
    intro x1 x2 H locs ls X hl h
    rw [fX8_keysOfAll_b4] at h
    refine lv_iload_n hx hb dX8_keysOfAll_4 rfl (lv_at hl 2 rfl) ?_
    refine lv_iconst (v := 2) hx hb dX8_keysOfAll_5 (by decide) ?_
    refine lv_icmp_ge (tgt := 58) hx hb dX8_keysOfAll_6 (by decide) (fun hc1 => ?_) (fun hc1 => ?_)
    · have h := it h hc1
      refine lv_iload_n hx hb dX8_keysOfAll_58 rfl (lv_at hl 1 rfl) ?_
      obtain ⟨q2, h2, h⟩ := bs h
      refine kI X (cS (As := [.int x1]) (rest := []) B X (tX8_size (d := d - 1) (by omega) h2) msX8_size kw1145 (by omega) rfl (Nat.le_of_ble_eq_true rfl) hl.1 ⟨Nat.zero_le _, Nat.zero_le _⟩ dX8_keysOfAll_59) (fun H locs X => ?_)
      have X : Hx A D S.heap (wf z) H locs := X
      exact rI B X rfl (Option.some.inj h) dX8_keysOfAll_62
    · have h := ie h hc1
      refine lv_iconst (v := 0) hx hb dX8_keysOfAll_9 (by decide) ?_
      refine lv_istore_n (lv' := [(3, .int 0), (0, .ref (a 0)), (1, .int x1), (2, .int x2)]) hx hb dX8_keysOfAll_10 rfl hl (by decide) rfl (fun ls hl => ?_)
      exact tX8_keysOfAll_b11 L hd B ih 1000 x1 x2 0 _ _ _ X (lv_sub hl [1, 2, 3, 0] rfl) h
def fX8_keysOfAll (z : SX8) : Option Int32 :=
    fX8_keysOfAll_b4 z 1000 0 0
set_option maxRecDepth 100000 in
set_option maxHeartbeats 4000000 in
theorem tX8_keysOfAll {a q : Nat → Nat} {wf : SX8 → va_W} (L : LnX8 a q cI cB wf) {d : Nat} (hd : 2 ≤ d) {z : SX8} {q : Int32} (h : fX8_keysOfAll z = some q) : Ct l yX8_keysOfAll cX8_keysOfAll 4 (some .int) d A g D [(cI, .int), (cB, .byte)] [.ref (a 0)] (wf z) (QI A D (wf z) q) := by
  refine mkM (by decide) (Nat.le_of_ble_eq_true rfl) ?_
  intro p e S m args below meth c B X ls hl
  have B : Bd RX8 cX8_keysOfAll 4 (some .int) d A g D [(cI, .int), (cB, .byte)] p (rmd d) S m args meth c := B
  have hx := B.1
  have hb := B.2.1
  have hd1 : 1 ≤ d := by omega
  have hl : lv_has ls 4 [(0, .ref (a 0))] := hl
  unfold fX8_keysOfAll at h
  refine lv_iconst (v := 0) hx hb dX8_keysOfAll_0 (by decide) ?_
  refine lv_istore_n (lv' := [(1, .int 0), (0, .ref (a 0))]) hx hb dX8_keysOfAll_1 rfl hl (by decide) rfl (fun ls hl => ?_)
  refine lv_iconst (v := 0) hx hb dX8_keysOfAll_2 (by decide) ?_
  refine lv_istore_n (lv' := [(2, .int 0), (1, .int 0), (0, .ref (a 0))]) hx hb dX8_keysOfAll_3 rfl hl (by decide) rfl (fun ls hl => ?_)
  exact tX8_keysOfAll_b4 L hd B 1000 0 0 _ _ _ X (lv_sub hl [2, 1, 0] rfl) h
def fX8_pairs_b4 (z : SX8) : Nat → Int32 → Int32 → Option Int32
  | 0, _, _ => none
  | n + 1, x1, x2 =>
    if ((z.2.2 4) (0 : Int32).toNatClampNeg) ≤ x2 then (some x1) else
    ((fX8_partnersOf z 0 x2).bind fun q3 =>
    fX8_pairs_b4 z n (x1 + q3) (x2 + 1))
set_option maxRecDepth 100000 in
set_option maxHeartbeats 4000000 in
theorem tX8_pairs_b4 {a q : Nat → Nat} {wf : SX8 → va_W} (L : LnX8 a q cI cB wf) {d : Nat} (hd : 3 ≤ d) {z : SX8} (B : Bd RX8 cX8_pairs 3 (some .int) d A g D [(cI, .int), (cB, .byte)] p R S m args meth c) {q : Int32} : ∀ (n : Nat) (x1 : Int32) (x2 : Int32) (H : Heap) (locs : List Loc) (ls : Array Slot), Hx A D S.heap (wf z) H locs → lv_has ls 3 [(0, .ref (a 0)), (1, .int x1), (2, .int x2)] → fX8_pairs_b4 z n x1 x2 = some q → W p l e R S m args below meth c H locs 0 0 (MQ below (QI A D (wf z) q) args S 0 0 A) (F0 m 4 ls []) := by
  have hx := B.1
  have hb := B.2.1
  have hd1 : 1 ≤ d := by omega
  intro n
  induction n with
  | zero =>
    intro x1 x2 H locs ls X hl h
    cases h
  | succ n ih =>
    intro x1 x2 H locs ls X hl h
    rw [fX8_pairs_b4] at h
    refine lv_iload_n hx hb dX8_pairs_4 rfl (lv_at hl 2 rfl) ?_
    refine lv_aload_n hx hb dX8_pairs_5 rfl (lv_at hl 0 rfl) ?_
    refine fG B X (LnX8_g L z) 4 rfl inTX8 (by decide) kw851 rfl dX8_pairs_6 ?_
    refine lv_iconst (v := 0) hx hb dX8_pairs_9 (by decide) ?_
    refine aG B X (LnX8_a4 L z) 0 rfl (by decide) dX8_pairs_10 ?_
    refine lv_icmp_ge (tgt := 29) hx hb dX8_pairs_11 (by decide) (fun hc2 => ?_) (fun hc2 => ?_)
    · have h := it h hc2
      refine lv_iload_n hx hb dX8_pairs_29 rfl (lv_at hl 1 rfl) ?_
      exact rI B X rfl (Option.some.inj h) dX8_pairs_30
    · have h := ie h hc2
      refine lv_iload_n hx hb dX8_pairs_14 rfl (lv_at hl 1 rfl) ?_
      refine lv_aload_n hx hb dX8_pairs_15 rfl (lv_at hl 0 rfl) ?_
      refine lv_iconst (v := 0) hx hb dX8_pairs_16 (by decide) ?_
      refine lv_iload_n hx hb dX8_pairs_17 rfl (lv_at hl 2 rfl) ?_
      obtain ⟨q3, h3, h⟩ := bs h
      refine kI X (cV (As := [.int 0, .int x2]) (rest := [.int x1]) B X (tX8_partnersOf (d := d - 1) L (by omega) h3) mfX8_partnersOf kw1094 (by omega) (LnX8_g L z) rfl rfl (Nat.le_of_ble_eq_true rfl) hl.1 ⟨Nat.zero_le _, Nat.zero_le _⟩ dX8_pairs_18) (fun H locs X => ?_)
      have X : Hx A D S.heap (wf z) H locs := X
      refine lv_iadd hx hb dX8_pairs_21 ?_
      refine lv_istore_n (lv' := [(1, .int (x1 + q3)), (0, .ref (a 0)), (2, .int x2)]) hx hb dX8_pairs_22 rfl hl (by decide) rfl (fun ls hl => ?_)
      refine lv_iinc (v := x2 + 1) (lv' := [(2, .int (x2 + 1)), (1, .int (x1 + q3)), (0, .ref (a 0))]) hx hb dX8_pairs_23 hl (k := 2) rfl rfl (by decide) rfl (fun ls hl => ?_)
      refine lv_goto (tgt := 4) hx hb dX8_pairs_26 (by decide) ?_
      exact ih (x1 + q3) (x2 + 1) _ _ _ X (lv_sub hl [2, 1, 0] rfl) h
def fX8_pairs (z : SX8) : Option Int32 :=
    fX8_pairs_b4 z 1000 0 0
set_option maxRecDepth 100000 in
set_option maxHeartbeats 4000000 in
theorem tX8_pairs {a q : Nat → Nat} {wf : SX8 → va_W} (L : LnX8 a q cI cB wf) {d : Nat} (hd : 3 ≤ d) {z : SX8} {q : Int32} (h : fX8_pairs z = some q) : Ct l yX8_pairs cX8_pairs 3 (some .int) d A g D [(cI, .int), (cB, .byte)] [.ref (a 0)] (wf z) (QI A D (wf z) q) := by
  refine mkM (by decide) (Nat.le_of_ble_eq_true rfl) ?_
  intro p e S m args below meth c B X ls hl
  have B : Bd RX8 cX8_pairs 3 (some .int) d A g D [(cI, .int), (cB, .byte)] p (rmd d) S m args meth c := B
  have hx := B.1
  have hb := B.2.1
  have hd1 : 1 ≤ d := by omega
  have hl : lv_has ls 3 [(0, .ref (a 0))] := hl
  unfold fX8_pairs at h
  refine lv_iconst (v := 0) hx hb dX8_pairs_0 (by decide) ?_
  refine lv_istore_n (lv' := [(1, .int 0), (0, .ref (a 0))]) hx hb dX8_pairs_1 rfl hl (by decide) rfl (fun ls hl => ?_)
  refine lv_iconst (v := 0) hx hb dX8_pairs_2 (by decide) ?_
  refine lv_istore_n (lv' := [(2, .int 0), (1, .int 0), (0, .ref (a 0))]) hx hb dX8_pairs_3 rfl hl (by decide) rfl (fun ls hl => ?_)
  exact tX8_pairs_b4 L hd B 1000 0 0 _ _ _ X (lv_sub hl [2, 1, 0] rfl) h
def fX8_howMany (z : SX8) (x1 : Int32) : Option Int32 :=
    if x1 = 0 then (if x1 < 0 ∨ 2 ≤ x1.toNatClampNeg then none else
    (some ((z.2.2 4) x1.toNatClampNeg))) else
    if x1 = 1 then (if x1 < 0 ∨ 2 ≤ x1.toNatClampNeg then none else
    (some ((z.2.2 4) x1.toNatClampNeg))) else
    if x1 = 2 then (some (z.1 1)) else
    if x1 = 3 then (some (z.1 2)) else
    if x1 = 4 then ((fX8_keysOfAll z).bind fun q8 =>
    some q8) else
    if x1 = 5 then ((fX8_pairs z).bind fun q10 =>
    some q10) else
    if x1 = 6 then (some (z.1 5)) else
    if x1 = 7 then (some (z.1 6)) else
    if x1 = 8 then (some (z.1 9)) else
    if x1 = 9 then (some (z.1 0)) else
    (some (-102))
set_option maxRecDepth 100000 in
set_option maxHeartbeats 4000000 in
theorem tX8_howMany {a q : Nat → Nat} {wf : SX8 → va_W} (L : LnX8 a q cI cB wf) {d : Nat} (hd : 4 ≤ d) {z : SX8} {x1 : Int32} {q : Int32} (h : fX8_howMany z x1 = some q) : Ct l yX8_howMany cX8_howMany 2 (some .int) d A g D [(cI, .int), (cB, .byte)] [.ref (a 0), .int x1] (wf z) (QI A D (wf z) q) := by
  refine mkM (by decide) (Nat.le_of_ble_eq_true rfl) ?_
  intro p e S m args below meth c B X ls hl
  have B : Bd RX8 cX8_howMany 2 (some .int) d A g D [(cI, .int), (cB, .byte)] p (rmd d) S m args meth c := B
  have hx := B.1
  have hb := B.2.1
  have hd1 : 1 ≤ d := by omega
  have hl : lv_has ls 2 [(0, .ref (a 0)), (1, .int x1)] := hl
  unfold fX8_howMany at h
  refine lv_iload_n hx hb dX8_howMany_0 rfl (lv_at hl 1 rfl) ?_
  by_cases hc1 : (x1 = 0)
  · have h := it h hc1
    refine lv_tableIn (off := 55) (tgt := 56) hx hb dX8_howMany_1 (by rw [hc1]; decide) (by rw [hc1]; decide) (by rw [hc1]; rfl) (by decide) ?_
    refine lv_aload_n hx hb dX8_howMany_56 rfl (lv_at hl 0 rfl) ?_
    refine fG B X (LnX8_g L z) 4 rfl inTX8 (by decide) kw851 rfl dX8_howMany_57 ?_
    refine lv_iload_n hx hb dX8_howMany_60 rfl (lv_at hl 1 rfl) ?_
    by_cases hc2 : (x1 < 0 ∨ 2 ≤ x1.toNatClampNeg)
    · cases it h hc2
    have h := ie h hc2
    refine aG B X (LnX8_a4 L z) 0 rfl hc2 dX8_howMany_61 ?_
    exact rI B X rfl (Option.some.inj h) dX8_howMany_62
  have h := ie h hc1
  by_cases hc3 : (x1 = 1)
  · have h := it h hc3
    refine lv_tableIn (off := 55) (tgt := 56) hx hb dX8_howMany_1 (by rw [hc3]; decide) (by rw [hc3]; decide) (by rw [hc3]; rfl) (by decide) ?_
    refine lv_aload_n hx hb dX8_howMany_56 rfl (lv_at hl 0 rfl) ?_
    refine fG B X (LnX8_g L z) 4 rfl inTX8 (by decide) kw851 rfl dX8_howMany_57 ?_
    refine lv_iload_n hx hb dX8_howMany_60 rfl (lv_at hl 1 rfl) ?_
    by_cases hc4 : (x1 < 0 ∨ 2 ≤ x1.toNatClampNeg)
    · cases it h hc4
    have h := ie h hc4
    refine aG B X (LnX8_a4 L z) 0 rfl hc4 dX8_howMany_61 ?_
    exact rI B X rfl (Option.some.inj h) dX8_howMany_62
  have h := ie h hc3
  by_cases hc5 : (x1 = 2)
  · have h := it h hc5
    refine lv_tableIn (off := 62) (tgt := 63) hx hb dX8_howMany_1 (by rw [hc5]; decide) (by rw [hc5]; decide) (by rw [hc5]; rfl) (by decide) ?_
    refine lv_aload_n hx hb dX8_howMany_63 rfl (lv_at hl 0 rfl) ?_
    refine fG B X (LnX8_g L z) 1 rfl inTX8 (by decide) kw848 rfl dX8_howMany_64 ?_
    exact rI B X rfl (Option.some.inj h) dX8_howMany_67
  have h := ie h hc5
  by_cases hc6 : (x1 = 3)
  · have h := it h hc6
    refine lv_tableIn (off := 67) (tgt := 68) hx hb dX8_howMany_1 (by rw [hc6]; decide) (by rw [hc6]; decide) (by rw [hc6]; rfl) (by decide) ?_
    refine lv_aload_n hx hb dX8_howMany_68 rfl (lv_at hl 0 rfl) ?_
    refine fG B X (LnX8_g L z) 2 rfl inTX8 (by decide) kw849 rfl dX8_howMany_69 ?_
    exact rI B X rfl (Option.some.inj h) dX8_howMany_72
  have h := ie h hc6
  by_cases hc7 : (x1 = 4)
  · have h := it h hc7
    refine lv_tableIn (off := 72) (tgt := 73) hx hb dX8_howMany_1 (by rw [hc7]; decide) (by rw [hc7]; decide) (by rw [hc7]; rfl) (by decide) ?_
    refine lv_aload_n hx hb dX8_howMany_73 rfl (lv_at hl 0 rfl) ?_
    obtain ⟨q8, h8, h⟩ := bs h
    refine kI X (cV (As := []) (rest := []) B X (tX8_keysOfAll (d := d - 1) L (by omega) h8) mfX8_keysOfAll kw1323 (by omega) (LnX8_g L z) rfl rfl (Nat.le_of_ble_eq_true rfl) hl.1 ⟨Nat.zero_le _, Nat.zero_le _⟩ dX8_howMany_74) (fun H locs X => ?_)
    have X : Hx A D S.heap (wf z) H locs := X
    exact rI B X rfl (Option.some.inj h) dX8_howMany_77
  have h := ie h hc7
  by_cases hc9 : (x1 = 5)
  · have h := it h hc9
    refine lv_tableIn (off := 77) (tgt := 78) hx hb dX8_howMany_1 (by rw [hc9]; decide) (by rw [hc9]; decide) (by rw [hc9]; rfl) (by decide) ?_
    refine lv_aload_n hx hb dX8_howMany_78 rfl (lv_at hl 0 rfl) ?_
    obtain ⟨q10, h10, h⟩ := bs h
    refine kI X (cV (As := []) (rest := []) B X (tX8_pairs (d := d - 1) L (by omega) h10) mfX8_pairs kw1327 (by omega) (LnX8_g L z) rfl rfl (Nat.le_of_ble_eq_true rfl) hl.1 ⟨Nat.zero_le _, Nat.zero_le _⟩ dX8_howMany_79) (fun H locs X => ?_)
    have X : Hx A D S.heap (wf z) H locs := X
    exact rI B X rfl (Option.some.inj h) dX8_howMany_82
  have h := ie h hc9
  by_cases hc11 : (x1 = 6)
  · have h := it h hc11
    refine lv_tableIn (off := 82) (tgt := 83) hx hb dX8_howMany_1 (by rw [hc11]; decide) (by rw [hc11]; decide) (by rw [hc11]; rfl) (by decide) ?_
    refine lv_aload_n hx hb dX8_howMany_83 rfl (lv_at hl 0 rfl) ?_
    refine fG B X (LnX8_g L z) 5 rfl inTX8 (by decide) kw852 rfl dX8_howMany_84 ?_
    exact rI B X rfl (Option.some.inj h) dX8_howMany_87
  have h := ie h hc11
  by_cases hc12 : (x1 = 7)
  · have h := it h hc12
    refine lv_tableIn (off := 87) (tgt := 88) hx hb dX8_howMany_1 (by rw [hc12]; decide) (by rw [hc12]; decide) (by rw [hc12]; rfl) (by decide) ?_
    refine lv_aload_n hx hb dX8_howMany_88 rfl (lv_at hl 0 rfl) ?_
    refine fG B X (LnX8_g L z) 6 rfl inTX8 (by decide) kw853 rfl dX8_howMany_89 ?_
    exact rI B X rfl (Option.some.inj h) dX8_howMany_92
  have h := ie h hc12
  by_cases hc13 : (x1 = 8)
  · have h := it h hc13
    refine lv_tableIn (off := 92) (tgt := 93) hx hb dX8_howMany_1 (by rw [hc13]; decide) (by rw [hc13]; decide) (by rw [hc13]; rfl) (by decide) ?_
    refine lv_aload_n hx hb dX8_howMany_93 rfl (lv_at hl 0 rfl) ?_
    refine fG B X (LnX8_g L z) 9 rfl inTX8 (by decide) kw856 rfl dX8_howMany_94 ?_
    exact rI B X rfl (Option.some.inj h) dX8_howMany_97
  have h := ie h hc13
  by_cases hc14 : (x1 = 9)
  · have h := it h hc14
    refine lv_tableIn (off := 97) (tgt := 98) hx hb dX8_howMany_1 (by rw [hc14]; decide) (by rw [hc14]; decide) (by rw [hc14]; rfl) (by decide) ?_
    refine lv_aload_n hx hb dX8_howMany_98 rfl (lv_at hl 0 rfl) ?_
    refine fG B X (LnX8_g L z) 0 rfl inTX8 (by decide) kw847 rfl dX8_howMany_99 ?_
    exact rI B X rfl (Option.some.inj h) dX8_howMany_102
  have h := ie h hc14
  refine lv_tableOut (tgt := 103) hx hb dX8_howMany_1 (sw_out 10 (by decide) (fun k hk => by
    have : k = 0 ∨ k = 1 ∨ k = 2 ∨ k = 3 ∨ k = 4 ∨ k = 5 ∨ k = 6 ∨ k = 7 ∨ k = 8 ∨ k = 9 := by omega
    rcases this with rfl | rfl | rfl | rfl | rfl | rfl | rfl | rfl | rfl | rfl
    · exact hc1 
    · exact hc3 
    · exact hc5 
    · exact hc6 
    · exact hc7 
    · exact hc9 
    · exact hc11 
    · exact hc12 
    · exact hc13 
    · exact hc14)) (by decide) ?_
  refine lv_bipush (v := (-102)) hx hb dX8_howMany_103 (by decide) ?_
  exact rI B X rfl (Option.some.inj h) dX8_howMany_105
def fX8_count (z : SX8) (x1 : Int32) : Option Int32 :=
    (fX8_howMany z x1).bind fun q1 =>
    some q1
set_option maxRecDepth 100000 in
set_option maxHeartbeats 4000000 in
theorem tX8_count {a q : Nat → Nat} {wf : SX8 → va_W} (L : LnX8 a q cI cB wf) {d : Nat} (hd : 5 ≤ d) {z : SX8} {x1 : Int32} {q : Int32} (h : fX8_count z x1 = some q) : Ct l yX8_count cX8_count 2 (some .int) d A g D [(cI, .int), (cB, .byte)] [.ref (a 0), .int x1] (wf z) (QI A D (wf z) q) := by
  refine mkM (by decide) (Nat.le_of_ble_eq_true rfl) ?_
  intro p e S m args below meth c B X ls hl
  have B : Bd RX8 cX8_count 2 (some .int) d A g D [(cI, .int), (cB, .byte)] p (rmd d) S m args meth c := B
  have hx := B.1
  have hb := B.2.1
  have hd1 : 1 ≤ d := by omega
  have hl : lv_has ls 2 [(0, .ref (a 0)), (1, .int x1)] := hl
  unfold fX8_count at h
  refine lv_aload_n hx hb dX8_count_0 rfl (lv_at hl 0 rfl) ?_
  refine lv_iload_n hx hb dX8_count_1 rfl (lv_at hl 1 rfl) ?_
  obtain ⟨q1, h1, h⟩ := bs h
  refine kI X (cV (As := [.int x1]) (rest := []) B X (tX8_howMany (d := d - 1) L (by omega) h1) mfX8_howMany kw1319 (by omega) (LnX8_g L z) rfl rfl (Nat.le_of_ble_eq_true rfl) hl.1 ⟨Nat.zero_le _, Nat.zero_le _⟩ dX8_count_2) (fun H locs X => ?_)
  have X : Hx A D S.heap (wf z) H locs := X
  exact rI B X rfl (Option.some.inj h) dX8_count_5
def fX8_mix (z : SX8) (x1 : Int64) : Option SX8 :=
    some (z.1, (va_up z.2.1 61 ((31 * (z.2.1 61)) + x1)), z.2.2)
set_option maxRecDepth 100000 in
set_option maxHeartbeats 4000000 in
theorem tX8_mix {a q : Nat → Nat} {wf : SX8 → va_W} (L : LnX8 a q cI cB wf) {d : Nat} (hd : 1 ≤ d) {z : SX8} {x1 : Int64} {q : SX8} (h : fX8_mix z x1 = some q) : Ct l yX8_mix cX8_mix 3 none d A g D [(cI, .int), (cB, .byte)] [.ref (a 0), .long x1] (wf z) (QV A D (wf q)) := by
  refine mkM (by decide) (Nat.le_of_ble_eq_true rfl) ?_
  intro p e S m args below meth c B X ls hl
  have B : Bd RX8 cX8_mix 3 none d A g D [(cI, .int), (cB, .byte)] p (rmd d) S m args meth c := B
  have hx := B.1
  have hb := B.2.1
  have hd1 : 1 ≤ d := by omega
  have hl : lv_has ls 3 [(0, .ref (a 0)), (1, .long x1)] := hl
  unfold fX8_mix at h
  refine lv_aload_n hx hb dX8_mix_0 rfl (lv_at hl 0 rfl) ?_
  refine lv_ldc2 hx hb B.2.2.2.1 (B.2.2.2.2.1 _ kw1344) dX8_mix_1 ?_
  refine lv_aload_n hx hb dX8_mix_4 rfl (lv_at hl 0 rfl) ?_
  refine fG B X (LnX8_g L z) 61 rfl inTX8 (by decide) kw908 rfl dX8_mix_5 ?_
  refine lv_lmul hx hb dX8_mix_8 ?_
  refine lv_lload_n hx hb dX8_mix_9 rfl (lv_at hl 1 rfl) ?_
  refine lv_ladd hx hb dX8_mix_10 ?_
  refine fP tyX8 B X (LnX8_g L z) 61 (LnX8_j61 L z _) rfl inTX8 tyX8_ok nmX8 (by decide) kw908 rfl rfl rfl rfl (Nat.le_of_ble_eq_true rfl) dX8_mix_11 (fun H locs X => ?_)
  have X : Hx A D S.heap (wf (z.1, (va_up z.2.1 61 ((31 * (z.2.1 61)) + x1)), z.2.2)) H locs := X
  exact rV B X (congrArg wf (Option.some.inj h)) dX8_mix_14
def fX8_mixRows_b9 (k2 : Int32 → SX8 → Option SX8) : Nat → Int32 → Int32 → SX8 → Option SX8
  | 0, _, _, _ => none
  | n + 1, x1, x2, z =>
    if x1 < 0 ∨ 2 ≤ x1.toNatClampNeg then none else
    (if ((z.2.2 4) x1.toNatClampNeg) ≤ x2 then (k2 (x1 + 1) z) else
    ((fX8_keyAt z x1 x2).bind fun q3 =>
    (fX8_mix z (q3.toInt64)).bind fun q4 =>
    (fX8_partnersOf q4 x1 x2).bind fun q5 =>
    (fX8_mix q4 (q5.toInt64)).bind fun q6 =>
    fX8_mixRows_b9 k2 n x1 (x2 + 1) q6))
set_option maxRecDepth 100000 in
set_option maxHeartbeats 4000000 in
theorem tX8_mixRows_b9 {a q : Nat → Nat} {wf : SX8 → va_W} (L : LnX8 a q cI cB wf) {d : Nat} (hd : 3 ≤ d) (B : Bd RX8 cX8_mixRows 3 none d A g D [(cI, .int), (cB, .byte)] p R S m args meth c) {q : SX8} {k2 : Int32 → SX8 → Option SX8} (hk2 : ∀ (x1 : Int32) (z : SX8) (H : Heap) (locs : List Loc) (ls : Array Slot), Hx A D S.heap (wf z) H locs → lv_has ls 3 [(0, .ref (a 0)), (1, .int x1)] → k2 x1 z = some q → W p l e R S m args below meth c H locs 0 0 (MQ below (QV A D (wf q)) args S 0 0 A) (F0 m 2 ls [])) : ∀ (n : Nat) (x1 : Int32) (x2 : Int32) (z : SX8) (H : Heap) (locs : List Loc) (ls : Array Slot), Hx A D S.heap (wf z) H locs → lv_has ls 3 [(0, .ref (a 0)), (1, .int x1), (2, .int x2)] → fX8_mixRows_b9 k2 n x1 x2 z = some q → W p l e R S m args below meth c H locs 0 0 (MQ below (QV A D (wf q)) args S 0 0 A) (F0 m 9 ls []) := by
  have hx := B.1
  have hb := B.2.1
  have hd1 : 1 ≤ d := by omega
  intro n
  induction n with
  | zero =>
    intro x1 x2 z H locs ls X hl h
    cases h
  | succ n ih =>
    intro x1 x2 z H locs ls X hl h
    rw [fX8_mixRows_b9] at h
    refine lv_iload_n hx hb dX8_mixRows_9 rfl (lv_at hl 2 rfl) ?_
    refine lv_aload_n hx hb dX8_mixRows_10 rfl (lv_at hl 0 rfl) ?_
    refine fG B X (LnX8_g L z) 4 rfl inTX8 (by decide) kw851 rfl dX8_mixRows_11 ?_
    refine lv_iload_n hx hb dX8_mixRows_14 rfl (lv_at hl 1 rfl) ?_
    by_cases hc1 : (x1 < 0 ∨ 2 ≤ x1.toNatClampNeg)
    · cases it h hc1
    have h := ie h hc1
    refine aG B X (LnX8_a4 L z) 0 rfl hc1 dX8_mixRows_15 ?_
    refine lv_icmp_ge (tgt := 47) hx hb dX8_mixRows_16 (by decide) (fun hc2 => ?_) (fun hc2 => ?_)
    · have h := it h hc2
      refine lv_iinc (v := x1 + 1) (lv' := [(1, .int (x1 + 1)), (0, .ref (a 0)), (2, .int x2)]) hx hb dX8_mixRows_47 hl (k := 1) rfl rfl (by decide) rfl (fun ls hl => ?_)
      refine lv_goto (tgt := 2) hx hb dX8_mixRows_50 (by decide) ?_
      exact hk2 (x1 + 1) z _ _ _ X (lv_sub hl [1, 0] rfl) h
    · have h := ie h hc2
      refine lv_aload_n hx hb dX8_mixRows_19 rfl (lv_at hl 0 rfl) ?_
      refine lv_aload_n hx hb dX8_mixRows_20 rfl (lv_at hl 0 rfl) ?_
      refine lv_iload_n hx hb dX8_mixRows_21 rfl (lv_at hl 1 rfl) ?_
      refine lv_iload_n hx hb dX8_mixRows_22 rfl (lv_at hl 2 rfl) ?_
      obtain ⟨q3, h3, h⟩ := bs h
      refine kI X (cV (As := [.int x1, .int x2]) (rest := [.ref (a 0)]) B X (tX8_keyAt (d := d - 1) L (by omega) h3) mfX8_keyAt kw1090 (by omega) (LnX8_g L z) rfl rfl (Nat.le_of_ble_eq_true rfl) hl.1 ⟨Nat.zero_le _, Nat.zero_le _⟩ dX8_mixRows_23) (fun H locs X => ?_)
      have X : Hx A D S.heap (wf z) H locs := X
      refine lv_i2l hx hb dX8_mixRows_26 rfl ?_
      obtain ⟨q4, h4, h⟩ := bs h
      refine kV X (cV (As := [.long (q3.toInt64)]) (rest := []) B X (tX8_mix (d := d - 1) L (by omega) h4) mfX8_mix kw1340 (by omega) (LnX8_g L z) rfl rfl (Nat.le_of_ble_eq_true rfl) hl.1 ⟨Nat.zero_le _, Nat.zero_le _⟩ dX8_mixRows_27) (fun H locs X => ?_)
      have X : Hx A D S.heap (wf q4) H locs := X
      refine lv_aload_n hx hb dX8_mixRows_30 rfl (lv_at hl 0 rfl) ?_
      refine lv_aload_n hx hb dX8_mixRows_31 rfl (lv_at hl 0 rfl) ?_
      refine lv_iload_n hx hb dX8_mixRows_32 rfl (lv_at hl 1 rfl) ?_
      refine lv_iload_n hx hb dX8_mixRows_33 rfl (lv_at hl 2 rfl) ?_
      obtain ⟨q5, h5, h⟩ := bs h
      refine kI X (cV (As := [.int x1, .int x2]) (rest := [.ref (a 0)]) B X (tX8_partnersOf (d := d - 1) L (by omega) h5) mfX8_partnersOf kw1094 (by omega) (LnX8_g L q4) rfl rfl (Nat.le_of_ble_eq_true rfl) hl.1 ⟨Nat.zero_le _, Nat.zero_le _⟩ dX8_mixRows_34) (fun H locs X => ?_)
      have X : Hx A D S.heap (wf q4) H locs := X
      refine lv_i2l hx hb dX8_mixRows_37 rfl ?_
      obtain ⟨q6, h6, h⟩ := bs h
      refine kV X (cV (As := [.long (q5.toInt64)]) (rest := []) B X (tX8_mix (d := d - 1) L (by omega) h6) mfX8_mix kw1340 (by omega) (LnX8_g L q4) rfl rfl (Nat.le_of_ble_eq_true rfl) hl.1 ⟨Nat.zero_le _, Nat.zero_le _⟩ dX8_mixRows_38) (fun H locs X => ?_)
      have X : Hx A D S.heap (wf q6) H locs := X
      refine lv_iinc (v := x2 + 1) (lv' := [(2, .int (x2 + 1)), (0, .ref (a 0)), (1, .int x1)]) hx hb dX8_mixRows_41 hl (k := 2) rfl rfl (by decide) rfl (fun ls hl => ?_)
      refine lv_goto (tgt := 9) hx hb dX8_mixRows_44 (by decide) ?_
      exact ih x1 (x2 + 1) q6 _ _ _ X (lv_sub hl [1, 2, 0] rfl) h
def fX8_mixRows_b2 : Nat → Int32 → SX8 → Option SX8
  | 0, _, _ => none
  | n + 1, x1, z =>
    if 2 ≤ x1 then (some z) else
    (fX8_mixRows_b9 (fX8_mixRows_b2 n) 1000 x1 0 z)
set_option maxRecDepth 100000 in
set_option maxHeartbeats 4000000 in
theorem tX8_mixRows_b2 {a q : Nat → Nat} {wf : SX8 → va_W} (L : LnX8 a q cI cB wf) {d : Nat} (hd : 3 ≤ d) (B : Bd RX8 cX8_mixRows 3 none d A g D [(cI, .int), (cB, .byte)] p R S m args meth c) {q : SX8} : ∀ (n : Nat) (x1 : Int32) (z : SX8) (H : Heap) (locs : List Loc) (ls : Array Slot), Hx A D S.heap (wf z) H locs → lv_has ls 3 [(0, .ref (a 0)), (1, .int x1)] → fX8_mixRows_b2 n x1 z = some q → W p l e R S m args below meth c H locs 0 0 (MQ below (QV A D (wf q)) args S 0 0 A) (F0 m 2 ls []) := by
  have hx := B.1
  have hb := B.2.1
  have hd1 : 1 ≤ d := by omega
  intro n
  induction n with
  | zero =>
    intro x1 z H locs ls X hl h
    cases h
  | succ n ih =>
    intro x1 z H locs ls X hl h
    rw [fX8_mixRows_b2] at h
    refine lv_iload_n hx hb dX8_mixRows_2 rfl (lv_at hl 1 rfl) ?_
    refine lv_iconst (v := 2) hx hb dX8_mixRows_3 (by decide) ?_
    refine lv_icmp_ge (tgt := 53) hx hb dX8_mixRows_4 (by decide) (fun hc1 => ?_) (fun hc1 => ?_)
    · have h := it h hc1
      exact rV B X (congrArg wf (Option.some.inj h)) dX8_mixRows_53
    · have h := ie h hc1
      refine lv_iconst (v := 0) hx hb dX8_mixRows_7 (by decide) ?_
      refine lv_istore_n (lv' := [(2, .int 0), (0, .ref (a 0)), (1, .int x1)]) hx hb dX8_mixRows_8 rfl hl (by decide) rfl (fun ls hl => ?_)
      exact tX8_mixRows_b9 L hd B ih 1000 x1 0 z _ _ _ X (lv_sub hl [1, 2, 0] rfl) h
def fX8_mixRows (z : SX8) : Option SX8 :=
    fX8_mixRows_b2 1000 0 z
set_option maxRecDepth 100000 in
set_option maxHeartbeats 4000000 in
theorem tX8_mixRows {a q : Nat → Nat} {wf : SX8 → va_W} (L : LnX8 a q cI cB wf) {d : Nat} (hd : 3 ≤ d) {z : SX8} {q : SX8} (h : fX8_mixRows z = some q) : Ct l yX8_mixRows cX8_mixRows 3 none d A g D [(cI, .int), (cB, .byte)] [.ref (a 0)] (wf z) (QV A D (wf q)) := by
  refine mkM (by decide) (Nat.le_of_ble_eq_true rfl) ?_
  intro p e S m args below meth c B X ls hl
  have B : Bd RX8 cX8_mixRows 3 none d A g D [(cI, .int), (cB, .byte)] p (rmd d) S m args meth c := B
  have hx := B.1
  have hb := B.2.1
  have hd1 : 1 ≤ d := by omega
  have hl : lv_has ls 3 [(0, .ref (a 0))] := hl
  unfold fX8_mixRows at h
  refine lv_iconst (v := 0) hx hb dX8_mixRows_0 (by decide) ?_
  refine lv_istore_n (lv' := [(1, .int 0), (0, .ref (a 0))]) hx hb dX8_mixRows_1 rfl hl (by decide) rfl (fun ls hl => ?_)
  exact tX8_mixRows_b2 L hd B 1000 0 z _ _ _ X (lv_sub hl [1, 0] rfl) h
def fX8_mixTold_b75 (k65 : Int32 → SX8 → Option SX8) : Nat → Int32 → Int32 → SX8 → Option SX8
  | 0, _, _, _ => none
  | n + 1, x1, x2, z =>
    if 3 ≤ x2 then (k65 (x1 + 1) z) else
    ((fX8_logNow z x1 x2).bind fun q2 =>
    (fX8_mix z (q2.toInt64)).bind fun q3 =>
    fX8_mixTold_b75 k65 n x1 (x2 + 1) q3)
set_option maxRecDepth 100000 in
set_option maxHeartbeats 4000000 in
theorem tX8_mixTold_b75 {a q : Nat → Nat} {wf : SX8 → va_W} (L : LnX8 a q cI cB wf) {d : Nat} (hd : 2 ≤ d) (B : Bd RX8 cX8_mixTold 3 none d A g D [(cI, .int), (cB, .byte)] p R S m args meth c) {q : SX8} {k65 : Int32 → SX8 → Option SX8} (hk65 : ∀ (x1 : Int32) (z : SX8) (H : Heap) (locs : List Loc) (ls : Array Slot), Hx A D S.heap (wf z) H locs → lv_has ls 3 [(0, .ref (a 0)), (1, .int x1)] → k65 x1 z = some q → W p l e R S m args below meth c H locs 0 0 (MQ below (QV A D (wf q)) args S 0 0 A) (F0 m 65 ls [])) : ∀ (n : Nat) (x1 : Int32) (x2 : Int32) (z : SX8) (H : Heap) (locs : List Loc) (ls : Array Slot), Hx A D S.heap (wf z) H locs → lv_has ls 3 [(0, .ref (a 0)), (1, .int x1), (2, .int x2)] → fX8_mixTold_b75 k65 n x1 x2 z = some q → W p l e R S m args below meth c H locs 0 0 (MQ below (QV A D (wf q)) args S 0 0 A) (F0 m 75 ls []) := by
  have hx := B.1
  have hb := B.2.1
  have hd1 : 1 ≤ d := by omega
  intro n
  induction n with
  | zero =>
    intro x1 x2 z H locs ls X hl h
    cases h
  | succ n ih =>
    intro x1 x2 z H locs ls X hl h
    rw [fX8_mixTold_b75] at h
    refine lv_iload_n hx hb dX8_mixTold_75 rfl (lv_at hl 2 rfl) ?_
    refine lv_iconst (v := 3) hx hb dX8_mixTold_76 (by decide) ?_
    refine lv_icmp_ge (tgt := 97) hx hb dX8_mixTold_77 (by decide) (fun hc1 => ?_) (fun hc1 => ?_)
    · have h := it h hc1
      refine lv_iinc (v := x1 + 1) (lv' := [(1, .int (x1 + 1)), (0, .ref (a 0)), (2, .int x2)]) hx hb dX8_mixTold_97 hl (k := 1) rfl rfl (by decide) rfl (fun ls hl => ?_)
      refine lv_goto (tgt := 65) hx hb dX8_mixTold_100 (by decide) ?_
      exact hk65 (x1 + 1) z _ _ _ X (lv_sub hl [1, 0] rfl) h
    · have h := ie h hc1
      refine lv_aload_n hx hb dX8_mixTold_80 rfl (lv_at hl 0 rfl) ?_
      refine lv_aload_n hx hb dX8_mixTold_81 rfl (lv_at hl 0 rfl) ?_
      refine lv_iload_n hx hb dX8_mixTold_82 rfl (lv_at hl 1 rfl) ?_
      refine lv_iload_n hx hb dX8_mixTold_83 rfl (lv_at hl 2 rfl) ?_
      obtain ⟨q2, h2, h⟩ := bs h
      refine kI X (cV (As := [.int x1, .int x2]) (rest := [.ref (a 0)]) B X (tX8_logNow (d := d - 1) L (by omega) h2) mfX8_logNow kw1251 (by omega) (LnX8_g L z) rfl rfl (Nat.le_of_ble_eq_true rfl) hl.1 ⟨Nat.zero_le _, Nat.zero_le _⟩ dX8_mixTold_84) (fun H locs X => ?_)
      have X : Hx A D S.heap (wf z) H locs := X
      refine lv_i2l hx hb dX8_mixTold_87 rfl ?_
      obtain ⟨q3, h3, h⟩ := bs h
      refine kV X (cV (As := [.long (q2.toInt64)]) (rest := []) B X (tX8_mix (d := d - 1) L (by omega) h3) mfX8_mix kw1340 (by omega) (LnX8_g L z) rfl rfl (Nat.le_of_ble_eq_true rfl) hl.1 ⟨Nat.zero_le _, Nat.zero_le _⟩ dX8_mixTold_88) (fun H locs X => ?_)
      have X : Hx A D S.heap (wf q3) H locs := X
      refine lv_iinc (v := x2 + 1) (lv' := [(2, .int (x2 + 1)), (0, .ref (a 0)), (1, .int x1)]) hx hb dX8_mixTold_91 hl (k := 2) rfl rfl (by decide) rfl (fun ls hl => ?_)
      refine lv_goto (tgt := 75) hx hb dX8_mixTold_94 (by decide) ?_
      exact ih x1 (x2 + 1) q3 _ _ _ X (lv_sub hl [1, 2, 0] rfl) h
def fX8_mixTold_b65 : Nat → Int32 → SX8 → Option SX8
  | 0, _, _ => none
  | n + 1, x1, z =>
    if (z.1 42) ≤ x1 then (some z) else
    (fX8_mixTold_b75 (fX8_mixTold_b65 n) 1000 x1 0 z)
set_option maxRecDepth 100000 in
set_option maxHeartbeats 4000000 in
theorem tX8_mixTold_b65 {a q : Nat → Nat} {wf : SX8 → va_W} (L : LnX8 a q cI cB wf) {d : Nat} (hd : 2 ≤ d) (B : Bd RX8 cX8_mixTold 3 none d A g D [(cI, .int), (cB, .byte)] p R S m args meth c) {q : SX8} : ∀ (n : Nat) (x1 : Int32) (z : SX8) (H : Heap) (locs : List Loc) (ls : Array Slot), Hx A D S.heap (wf z) H locs → lv_has ls 3 [(0, .ref (a 0)), (1, .int x1)] → fX8_mixTold_b65 n x1 z = some q → W p l e R S m args below meth c H locs 0 0 (MQ below (QV A D (wf q)) args S 0 0 A) (F0 m 65 ls []) := by
  have hx := B.1
  have hb := B.2.1
  have hd1 : 1 ≤ d := by omega
  intro n
  induction n with
  | zero =>
    intro x1 z H locs ls X hl h
    cases h
  | succ n ih =>
    intro x1 z H locs ls X hl h
    rw [fX8_mixTold_b65] at h
    refine lv_iload_n hx hb dX8_mixTold_65 rfl (lv_at hl 1 rfl) ?_
    refine lv_aload_n hx hb dX8_mixTold_66 rfl (lv_at hl 0 rfl) ?_
    refine fG B X (LnX8_g L z) 42 rfl inTX8 (by decide) kw889 rfl dX8_mixTold_67 ?_
    refine lv_icmp_ge (tgt := 103) hx hb dX8_mixTold_70 (by decide) (fun hc1 => ?_) (fun hc1 => ?_)
    · have h := it h hc1
      exact rV B X (congrArg wf (Option.some.inj h)) dX8_mixTold_103
    · have h := ie h hc1
      refine lv_iconst (v := 0) hx hb dX8_mixTold_73 (by decide) ?_
      refine lv_istore_n (lv' := [(2, .int 0), (0, .ref (a 0)), (1, .int x1)]) hx hb dX8_mixTold_74 rfl hl (by decide) rfl (fun ls hl => ?_)
      exact tX8_mixTold_b75 L hd B ih 1000 x1 0 z _ _ _ X (lv_sub hl [1, 2, 0] rfl) h
def fX8_mixTold_b27 : Nat → Int32 → SX8 → Option SX8
  | 0, _, _ => none
  | n + 1, x1, z =>
    if (z.1 41) ≤ x1 then (fX8_mixTold_b65 1000 0 z) else
    (if x1 < 0 ∨ 256 ≤ x1.toNatClampNeg then none else
    ((fX8_mix z (((z.2.2 44) x1.toNatClampNeg).toInt64)).bind fun q3 =>
    if x1 < 0 ∨ 256 ≤ x1.toNatClampNeg then none else
    ((fX8_mix q3 (((q3.2.2 45) x1.toNatClampNeg).toInt64)).bind fun q5 =>
    fX8_mixTold_b27 n (x1 + 1) q5)))
set_option maxRecDepth 100000 in
set_option maxHeartbeats 4000000 in
theorem tX8_mixTold_b27 {a q : Nat → Nat} {wf : SX8 → va_W} (L : LnX8 a q cI cB wf) {d : Nat} (hd : 2 ≤ d) (B : Bd RX8 cX8_mixTold 3 none d A g D [(cI, .int), (cB, .byte)] p R S m args meth c) {q : SX8} : ∀ (n : Nat) (x1 : Int32) (z : SX8) (H : Heap) (locs : List Loc) (ls : Array Slot), Hx A D S.heap (wf z) H locs → lv_has ls 3 [(0, .ref (a 0)), (1, .int x1)] → fX8_mixTold_b27 n x1 z = some q → W p l e R S m args below meth c H locs 0 0 (MQ below (QV A D (wf q)) args S 0 0 A) (F0 m 27 ls []) := by
  have hx := B.1
  have hb := B.2.1
  have hd1 : 1 ≤ d := by omega
  intro n
  induction n with
  | zero =>
    intro x1 z H locs ls X hl h
    cases h
  | succ n ih =>
    intro x1 z H locs ls X hl h
    rw [fX8_mixTold_b27] at h
    refine lv_iload_n hx hb dX8_mixTold_27 rfl (lv_at hl 1 rfl) ?_
    refine lv_aload_n hx hb dX8_mixTold_28 rfl (lv_at hl 0 rfl) ?_
    refine fG B X (LnX8_g L z) 41 rfl inTX8 (by decide) kw888 rfl dX8_mixTold_29 ?_
    refine lv_icmp_ge (tgt := 63) hx hb dX8_mixTold_32 (by decide) (fun hc1 => ?_) (fun hc1 => ?_)
    · have h := it h hc1
      refine lv_iconst (v := 0) hx hb dX8_mixTold_63 (by decide) ?_
      refine lv_istore_n (lv' := [(1, .int 0), (0, .ref (a 0))]) hx hb dX8_mixTold_64 rfl hl (by decide) rfl (fun ls hl => ?_)
      exact tX8_mixTold_b65 L hd B 1000 0 z _ _ _ X (lv_sub hl [1, 0] rfl) h
    · have h := ie h hc1
      refine lv_aload_n hx hb dX8_mixTold_35 rfl (lv_at hl 0 rfl) ?_
      refine lv_aload_n hx hb dX8_mixTold_36 rfl (lv_at hl 0 rfl) ?_
      refine fG B X (LnX8_g L z) 44 rfl inTX8 (by decide) kw891 rfl dX8_mixTold_37 ?_
      refine lv_iload_n hx hb dX8_mixTold_40 rfl (lv_at hl 1 rfl) ?_
      by_cases hc2 : (x1 < 0 ∨ 256 ≤ x1.toNatClampNeg)
      · cases it h hc2
      have h := ie h hc2
      refine aG B X (LnX8_a44 L z) 0 rfl hc2 dX8_mixTold_41 ?_
      refine lv_i2l hx hb dX8_mixTold_42 rfl ?_
      obtain ⟨q3, h3, h⟩ := bs h
      refine kV X (cV (As := [.long (((z.2.2 44) x1.toNatClampNeg).toInt64)]) (rest := []) B X (tX8_mix (d := d - 1) L (by omega) h3) mfX8_mix kw1340 (by omega) (LnX8_g L z) rfl rfl (Nat.le_of_ble_eq_true rfl) hl.1 ⟨Nat.zero_le _, Nat.zero_le _⟩ dX8_mixTold_43) (fun H locs X => ?_)
      have X : Hx A D S.heap (wf q3) H locs := X
      refine lv_aload_n hx hb dX8_mixTold_46 rfl (lv_at hl 0 rfl) ?_
      refine lv_aload_n hx hb dX8_mixTold_47 rfl (lv_at hl 0 rfl) ?_
      refine fG B X (LnX8_g L q3) 45 rfl inTX8 (by decide) kw892 rfl dX8_mixTold_48 ?_
      refine lv_iload_n hx hb dX8_mixTold_51 rfl (lv_at hl 1 rfl) ?_
      by_cases hc4 : (x1 < 0 ∨ 256 ≤ x1.toNatClampNeg)
      · cases it h hc4
      have h := ie h hc4
      refine aG B X (LnX8_a45 L q3) 0 rfl hc4 dX8_mixTold_52 ?_
      refine lv_i2l hx hb dX8_mixTold_53 rfl ?_
      obtain ⟨q5, h5, h⟩ := bs h
      refine kV X (cV (As := [.long (((q3.2.2 45) x1.toNatClampNeg).toInt64)]) (rest := []) B X (tX8_mix (d := d - 1) L (by omega) h5) mfX8_mix kw1340 (by omega) (LnX8_g L q3) rfl rfl (Nat.le_of_ble_eq_true rfl) hl.1 ⟨Nat.zero_le _, Nat.zero_le _⟩ dX8_mixTold_54) (fun H locs X => ?_)
      have X : Hx A D S.heap (wf q5) H locs := X
      refine lv_iinc (v := x1 + 1) (lv' := [(1, .int (x1 + 1)), (0, .ref (a 0))]) hx hb dX8_mixTold_57 hl (k := 1) rfl rfl (by decide) rfl (fun ls hl => ?_)
      refine lv_goto (tgt := 27) hx hb dX8_mixTold_60 (by decide) ?_
      exact ih (x1 + 1) q5 _ _ _ X (lv_sub hl [1, 0] rfl) h
def fX8_mixTold_b2 : Nat → Int32 → SX8 → Option SX8
  | 0, _, _ => none
  | n + 1, x1, z =>
    if 10 ≤ x1 then (fX8_mixTold_b27 1000 0 z) else
    (if x1 < 0 ∨ 10 ≤ x1.toNatClampNeg then none else
    ((fX8_mix z (((z.2.2 43) x1.toNatClampNeg).toInt64)).bind fun q3 =>
    fX8_mixTold_b2 n (x1 + 1) q3))
set_option maxRecDepth 100000 in
set_option maxHeartbeats 4000000 in
theorem tX8_mixTold_b2 {a q : Nat → Nat} {wf : SX8 → va_W} (L : LnX8 a q cI cB wf) {d : Nat} (hd : 2 ≤ d) (B : Bd RX8 cX8_mixTold 3 none d A g D [(cI, .int), (cB, .byte)] p R S m args meth c) {q : SX8} : ∀ (n : Nat) (x1 : Int32) (z : SX8) (H : Heap) (locs : List Loc) (ls : Array Slot), Hx A D S.heap (wf z) H locs → lv_has ls 3 [(0, .ref (a 0)), (1, .int x1)] → fX8_mixTold_b2 n x1 z = some q → W p l e R S m args below meth c H locs 0 0 (MQ below (QV A D (wf q)) args S 0 0 A) (F0 m 2 ls []) := by
  have hx := B.1
  have hb := B.2.1
  have hd1 : 1 ≤ d := by omega
  intro n
  induction n with
  | zero =>
    intro x1 z H locs ls X hl h
    cases h
  | succ n ih =>
    intro x1 z H locs ls X hl h
    rw [fX8_mixTold_b2] at h
    refine lv_iload_n hx hb dX8_mixTold_2 rfl (lv_at hl 1 rfl) ?_
    refine lv_bipush (v := 10) hx hb dX8_mixTold_3 (by decide) ?_
    refine lv_icmp_ge (tgt := 25) hx hb dX8_mixTold_5 (by decide) (fun hc1 => ?_) (fun hc1 => ?_)
    · have h := it h hc1
      refine lv_iconst (v := 0) hx hb dX8_mixTold_25 (by decide) ?_
      refine lv_istore_n (lv' := [(1, .int 0), (0, .ref (a 0))]) hx hb dX8_mixTold_26 rfl hl (by decide) rfl (fun ls hl => ?_)
      exact tX8_mixTold_b27 L hd B 1000 0 z _ _ _ X (lv_sub hl [1, 0] rfl) h
    · have h := ie h hc1
      refine lv_aload_n hx hb dX8_mixTold_8 rfl (lv_at hl 0 rfl) ?_
      refine lv_aload_n hx hb dX8_mixTold_9 rfl (lv_at hl 0 rfl) ?_
      refine fG B X (LnX8_g L z) 43 rfl inTX8 (by decide) kw890 rfl dX8_mixTold_10 ?_
      refine lv_iload_n hx hb dX8_mixTold_13 rfl (lv_at hl 1 rfl) ?_
      by_cases hc2 : (x1 < 0 ∨ 10 ≤ x1.toNatClampNeg)
      · cases it h hc2
      have h := ie h hc2
      refine aG B X (LnX8_a43 L z) 0 rfl hc2 dX8_mixTold_14 ?_
      refine lv_i2l hx hb dX8_mixTold_15 rfl ?_
      obtain ⟨q3, h3, h⟩ := bs h
      refine kV X (cV (As := [.long (((z.2.2 43) x1.toNatClampNeg).toInt64)]) (rest := []) B X (tX8_mix (d := d - 1) L (by omega) h3) mfX8_mix kw1340 (by omega) (LnX8_g L z) rfl rfl (Nat.le_of_ble_eq_true rfl) hl.1 ⟨Nat.zero_le _, Nat.zero_le _⟩ dX8_mixTold_16) (fun H locs X => ?_)
      have X : Hx A D S.heap (wf q3) H locs := X
      refine lv_iinc (v := x1 + 1) (lv' := [(1, .int (x1 + 1)), (0, .ref (a 0))]) hx hb dX8_mixTold_19 hl (k := 1) rfl rfl (by decide) rfl (fun ls hl => ?_)
      refine lv_goto (tgt := 2) hx hb dX8_mixTold_22 (by decide) ?_
      exact ih (x1 + 1) q3 _ _ _ X (lv_sub hl [1, 0] rfl) h
def fX8_mixTold (z : SX8) : Option SX8 :=
    fX8_mixTold_b2 1000 0 z
set_option maxRecDepth 100000 in
set_option maxHeartbeats 4000000 in
theorem tX8_mixTold {a q : Nat → Nat} {wf : SX8 → va_W} (L : LnX8 a q cI cB wf) {d : Nat} (hd : 2 ≤ d) {z : SX8} {q : SX8} (h : fX8_mixTold z = some q) : Ct l yX8_mixTold cX8_mixTold 3 none d A g D [(cI, .int), (cB, .byte)] [.ref (a 0)] (wf z) (QV A D (wf q)) := by
  refine mkM (by decide) (Nat.le_of_ble_eq_true rfl) ?_
  intro p e S m args below meth c B X ls hl
  have B : Bd RX8 cX8_mixTold 3 none d A g D [(cI, .int), (cB, .byte)] p (rmd d) S m args meth c := B
  have hx := B.1
  have hb := B.2.1
  have hd1 : 1 ≤ d := by omega
  have hl : lv_has ls 3 [(0, .ref (a 0))] := hl
  unfold fX8_mixTold at h
  refine lv_iconst (v := 0) hx hb dX8_mixTold_0 (by decide) ?_
  refine lv_istore_n (lv' := [(1, .int 0), (0, .ref (a 0))]) hx hb dX8_mixTold_1 rfl hl (by decide) rfl (fun ls hl => ?_)
  exact tX8_mixTold_b2 L hd B 1000 0 z _ _ _ X (lv_sub hl [1, 0] rfl) h
def fX8_digest_b78 : Nat → Int32 → SX8 → Option (Int64 × SX8)
  | 0, _, _ => none
  | n + 1, x1, z =>
    if 10 ≤ x1 then (some ((z.2.1 61), z)) else
    ((fX8_howMany z x1).bind fun q2 =>
    (fX8_mix z (q2.toInt64)).bind fun q3 =>
    fX8_digest_b78 n (x1 + 1) q3)
set_option maxRecDepth 100000 in
set_option maxHeartbeats 4000000 in
theorem tX8_digest_b78 {a q : Nat → Nat} {wf : SX8 → va_W} (L : LnX8 a q cI cB wf) {d : Nat} (hd : 10 ≤ d) (B : Bd RX8 cX8_digest 2 (some .long) d A g D [(cI, .int), (cB, .byte)] p R S m args meth c) {q : Int64 × SX8} : ∀ (n : Nat) (x1 : Int32) (z : SX8) (H : Heap) (locs : List Loc) (ls : Array Slot), Hx A D S.heap (wf z) H locs → lv_has ls 2 [(0, .ref (a 0)), (1, .int x1)] → fX8_digest_b78 n x1 z = some q → W p l e R S m args below meth c H locs 0 0 (MQ below (QJ A D (wf q.2) q.1) args S 0 0 A) (F0 m 78 ls []) := by
  have hx := B.1
  have hb := B.2.1
  have hd1 : 1 ≤ d := by omega
  intro n
  induction n with
  | zero =>
    intro x1 z H locs ls X hl h
    cases h
  | succ n ih =>
    intro x1 z H locs ls X hl h
    rw [fX8_digest_b78] at h
    refine lv_iload_n hx hb dX8_digest_78 rfl (lv_at hl 1 rfl) ?_
    refine lv_bipush (v := 10) hx hb dX8_digest_79 (by decide) ?_
    refine lv_icmp_ge (tgt := 100) hx hb dX8_digest_81 (by decide) (fun hc1 => ?_) (fun hc1 => ?_)
    · have h := it h hc1
      refine lv_aload_n hx hb dX8_digest_100 rfl (lv_at hl 0 rfl) ?_
      refine fG B X (LnX8_g L z) 61 rfl inTX8 (by decide) kw908 rfl dX8_digest_101 ?_
      exact rJ B X (congrArg (fun q => wf q.2) (Option.some.inj h)) (congrArg (fun q => q.1) (Option.some.inj h)) dX8_digest_104
    · have h := ie h hc1
      refine lv_aload_n hx hb dX8_digest_84 rfl (lv_at hl 0 rfl) ?_
      refine lv_aload_n hx hb dX8_digest_85 rfl (lv_at hl 0 rfl) ?_
      refine lv_iload_n hx hb dX8_digest_86 rfl (lv_at hl 1 rfl) ?_
      obtain ⟨q2, h2, h⟩ := bs h
      refine kI X (cV (As := [.int x1]) (rest := [.ref (a 0)]) B X (tX8_howMany (d := d - 1) L (by omega) h2) mfX8_howMany kw1319 (by omega) (LnX8_g L z) rfl rfl (Nat.le_of_ble_eq_true rfl) hl.1 ⟨Nat.zero_le _, Nat.zero_le _⟩ dX8_digest_87) (fun H locs X => ?_)
      have X : Hx A D S.heap (wf z) H locs := X
      refine lv_i2l hx hb dX8_digest_90 rfl ?_
      obtain ⟨q3, h3, h⟩ := bs h
      refine kV X (cV (As := [.long (q2.toInt64)]) (rest := []) B X (tX8_mix (d := d - 1) L (by omega) h3) mfX8_mix kw1340 (by omega) (LnX8_g L z) rfl rfl (Nat.le_of_ble_eq_true rfl) hl.1 ⟨Nat.zero_le _, Nat.zero_le _⟩ dX8_digest_91) (fun H locs X => ?_)
      have X : Hx A D S.heap (wf q3) H locs := X
      refine lv_iinc (v := x1 + 1) (lv' := [(1, .int (x1 + 1)), (0, .ref (a 0))]) hx hb dX8_digest_94 hl (k := 1) rfl rfl (by decide) rfl (fun ls hl => ?_)
      refine lv_goto (tgt := 78) hx hb dX8_digest_97 (by decide) ?_
      exact ih (x1 + 1) q3 _ _ _ X (lv_sub hl [1, 0] rfl) h
def fX8_digest_b51 : Nat → Int32 → SX8 → Option (Int64 × SX8)
  | 0, _, _ => none
  | n + 1, x1, z =>
    if (z.1 9) ≤ x1 then (fX8_digest_b78 1000 0 z) else
    (if x1 < 0 ∨ 36 ≤ x1.toNatClampNeg then none else
    ((fX8_mix z (((z.2.2 10) x1.toNatClampNeg).toInt64)).bind fun q3 =>
    fX8_digest_b51 n (x1 + 1) q3))
set_option maxRecDepth 100000 in
set_option maxHeartbeats 4000000 in
theorem tX8_digest_b51 {a q : Nat → Nat} {wf : SX8 → va_W} (L : LnX8 a q cI cB wf) {d : Nat} (hd : 10 ≤ d) (B : Bd RX8 cX8_digest 2 (some .long) d A g D [(cI, .int), (cB, .byte)] p R S m args meth c) {q : Int64 × SX8} : ∀ (n : Nat) (x1 : Int32) (z : SX8) (H : Heap) (locs : List Loc) (ls : Array Slot), Hx A D S.heap (wf z) H locs → lv_has ls 2 [(0, .ref (a 0)), (1, .int x1)] → fX8_digest_b51 n x1 z = some q → W p l e R S m args below meth c H locs 0 0 (MQ below (QJ A D (wf q.2) q.1) args S 0 0 A) (F0 m 51 ls []) := by
  have hx := B.1
  have hb := B.2.1
  have hd1 : 1 ≤ d := by omega
  intro n
  induction n with
  | zero =>
    intro x1 z H locs ls X hl h
    cases h
  | succ n ih =>
    intro x1 z H locs ls X hl h
    rw [fX8_digest_b51] at h
    refine lv_iload_n hx hb dX8_digest_51 rfl (lv_at hl 1 rfl) ?_
    refine lv_aload_n hx hb dX8_digest_52 rfl (lv_at hl 0 rfl) ?_
    refine fG B X (LnX8_g L z) 9 rfl inTX8 (by decide) kw856 rfl dX8_digest_53 ?_
    refine lv_icmp_ge (tgt := 76) hx hb dX8_digest_56 (by decide) (fun hc1 => ?_) (fun hc1 => ?_)
    · have h := it h hc1
      refine lv_iconst (v := 0) hx hb dX8_digest_76 (by decide) ?_
      refine lv_istore_n (lv' := [(1, .int 0), (0, .ref (a 0))]) hx hb dX8_digest_77 rfl hl (by decide) rfl (fun ls hl => ?_)
      exact tX8_digest_b78 L hd B 1000 0 z _ _ _ X (lv_sub hl [1, 0] rfl) h
    · have h := ie h hc1
      refine lv_aload_n hx hb dX8_digest_59 rfl (lv_at hl 0 rfl) ?_
      refine lv_aload_n hx hb dX8_digest_60 rfl (lv_at hl 0 rfl) ?_
      refine fG B X (LnX8_g L z) 10 rfl inTX8 (by decide) kw857 rfl dX8_digest_61 ?_
      refine lv_iload_n hx hb dX8_digest_64 rfl (lv_at hl 1 rfl) ?_
      by_cases hc2 : (x1 < 0 ∨ 36 ≤ x1.toNatClampNeg)
      · cases it h hc2
      have h := ie h hc2
      refine aGb B X (LnX8_a10 L z) 1 rfl hc2 dX8_digest_65 ?_
      refine lv_i2l hx hb dX8_digest_66 rfl ?_
      obtain ⟨q3, h3, h⟩ := bs h
      refine kV X (cV (As := [.long (((z.2.2 10) x1.toNatClampNeg).toInt64)]) (rest := []) B X (tX8_mix (d := d - 1) L (by omega) h3) mfX8_mix kw1340 (by omega) (LnX8_g L z) rfl rfl (Nat.le_of_ble_eq_true rfl) hl.1 ⟨Nat.zero_le _, Nat.zero_le _⟩ dX8_digest_67) (fun H locs X => ?_)
      have X : Hx A D S.heap (wf q3) H locs := X
      refine lv_iinc (v := x1 + 1) (lv' := [(1, .int (x1 + 1)), (0, .ref (a 0))]) hx hb dX8_digest_70 hl (k := 1) rfl rfl (by decide) rfl (fun ls hl => ?_)
      refine lv_goto (tgt := 51) hx hb dX8_digest_73 (by decide) ?_
      exact ih (x1 + 1) q3 _ _ _ X (lv_sub hl [1, 0] rfl) h
def fX8_digest_b31 (z : SX8) : Option (Int64 × SX8) :=
    (fX8_sortsNow z).bind fun q1 =>
    (fX8_mix z (q1.toInt64)).bind fun q2 =>
    (fX8_askNow q2).bind fun q3 =>
    (fX8_mix q2 (q3.toInt64)).bind fun q4 =>
    fX8_digest_b51 1000 0 q4
set_option maxRecDepth 100000 in
set_option maxHeartbeats 4000000 in
theorem tX8_digest_b31 {a q : Nat → Nat} {wf : SX8 → va_W} (L : LnX8 a q cI cB wf) {d : Nat} (hd : 10 ≤ d) (B : Bd RX8 cX8_digest 2 (some .long) d A g D [(cI, .int), (cB, .byte)] p R S m args meth c) {q : Int64 × SX8} : ∀  (z : SX8) (H : Heap) (locs : List Loc) (ls : Array Slot), Hx A D S.heap (wf z) H locs → lv_has ls 2 [(0, .ref (a 0))] → fX8_digest_b31 z = some q → W p l e R S m args below meth c H locs 0 0 (MQ below (QJ A D (wf q.2) q.1) args S 0 0 A) (F0 m 31 ls []) := by
  have hx := B.1
  have hb := B.2.1
  have hd1 : 1 ≤ d := by omega
  intro z H locs ls X hl h
  unfold fX8_digest_b31 at h
  refine lv_aload_n hx hb dX8_digest_31 rfl (lv_at hl 0 rfl) ?_
  refine lv_aload_n hx hb dX8_digest_32 rfl (lv_at hl 0 rfl) ?_
  obtain ⟨q1, h1, h⟩ := bs h
  refine kI X (cV (As := []) (rest := [.ref (a 0)]) B X (tX8_sortsNow (d := d - 1) L (by omega) h1) mfX8_sortsNow kw1280 (by omega) (LnX8_g L z) rfl rfl (Nat.le_of_ble_eq_true rfl) hl.1 ⟨Nat.zero_le _, Nat.zero_le _⟩ dX8_digest_33) (fun H locs X => ?_)
  have X : Hx A D S.heap (wf z) H locs := X
  refine lv_i2l hx hb dX8_digest_36 rfl ?_
  obtain ⟨q2, h2, h⟩ := bs h
  refine kV X (cV (As := [.long (q1.toInt64)]) (rest := []) B X (tX8_mix (d := d - 1) L (by omega) h2) mfX8_mix kw1340 (by omega) (LnX8_g L z) rfl rfl (Nat.le_of_ble_eq_true rfl) hl.1 ⟨Nat.zero_le _, Nat.zero_le _⟩ dX8_digest_37) (fun H locs X => ?_)
  have X : Hx A D S.heap (wf q2) H locs := X
  refine lv_aload_n hx hb dX8_digest_40 rfl (lv_at hl 0 rfl) ?_
  refine lv_aload_n hx hb dX8_digest_41 rfl (lv_at hl 0 rfl) ?_
  obtain ⟨q3, h3, h⟩ := bs h
  refine kI X (cV (As := []) (rest := [.ref (a 0)]) B X (tX8_askNow (d := d - 1) L (by omega) h3) mfX8_askNow kw1287 (by omega) (LnX8_g L q2) rfl rfl (Nat.le_of_ble_eq_true rfl) hl.1 ⟨Nat.zero_le _, Nat.zero_le _⟩ dX8_digest_42) (fun H locs X => ?_)
  have X : Hx A D S.heap (wf q2) H locs := X
  refine lv_i2l hx hb dX8_digest_45 rfl ?_
  obtain ⟨q4, h4, h⟩ := bs h
  refine kV X (cV (As := [.long (q3.toInt64)]) (rest := []) B X (tX8_mix (d := d - 1) L (by omega) h4) mfX8_mix kw1340 (by omega) (LnX8_g L q2) rfl rfl (Nat.le_of_ble_eq_true rfl) hl.1 ⟨Nat.zero_le _, Nat.zero_le _⟩ dX8_digest_46) (fun H locs X => ?_)
  have X : Hx A D S.heap (wf q4) H locs := X
  refine lv_iconst (v := 0) hx hb dX8_digest_49 (by decide) ?_
  refine lv_istore_n (lv' := [(1, .int 0), (0, .ref (a 0))]) hx hb dX8_digest_50 rfl hl (by decide) rfl (fun ls hl => ?_)
  exact tX8_digest_b51 L hd B 1000 0 q4 _ _ _ X (lv_sub hl [1, 0] rfl) h
def fX8_digest (z : SX8) : Option (Int64 × SX8) :=
    (fX8_mixRows (z.1, (va_up z.2.1 61 1373), z.2.2)).bind fun q1 =>
    (fX8_mixTold q1).bind fun q2 =>
    if (q2.1 0) ≤ 0 then (fX8_digest_b31 q2) else
    ((fX8_spareNow q2).bind fun q4 =>
    (fX8_mix q4.2 (q4.1.toInt64)).bind fun q5 =>
    fX8_digest_b31 q5)
set_option maxRecDepth 100000 in
set_option maxHeartbeats 4000000 in
theorem tX8_digest {a q : Nat → Nat} {wf : SX8 → va_W} (L : LnX8 a q cI cB wf) {d : Nat} (hd : 10 ≤ d) {z : SX8} {q : Int64 × SX8} (h : fX8_digest z = some q) : Ct l yX8_digest cX8_digest 2 (some .long) d A g D [(cI, .int), (cB, .byte)] [.ref (a 0)] (wf z) (QJ A D (wf q.2) q.1) := by
  refine mkM (by decide) (Nat.le_of_ble_eq_true rfl) ?_
  intro p e S m args below meth c B X ls hl
  have B : Bd RX8 cX8_digest 2 (some .long) d A g D [(cI, .int), (cB, .byte)] p (rmd d) S m args meth c := B
  have hx := B.1
  have hb := B.2.1
  have hd1 : 1 ≤ d := by omega
  have hl : lv_has ls 2 [(0, .ref (a 0))] := hl
  unfold fX8_digest at h
  refine lv_aload_n hx hb dX8_digest_0 rfl (lv_at hl 0 rfl) ?_
  refine lv_ldc2 hx hb B.2.2.2.1 (B.2.2.2.2.1 _ kw1335) dX8_digest_1 ?_
  refine fP tyX8 B X (LnX8_g L z) 61 (LnX8_j61 L z _) rfl inTX8 tyX8_ok nmX8 (by decide) kw908 rfl rfl rfl rfl (Nat.le_of_ble_eq_true rfl) dX8_digest_4 (fun H locs X => ?_)
  have X : Hx A D S.heap (wf (z.1, (va_up z.2.1 61 1373), z.2.2)) H locs := X
  refine lv_aload_n hx hb dX8_digest_7 rfl (lv_at hl 0 rfl) ?_
  obtain ⟨q1, h1, h⟩ := bs h
  refine kV X (cV (As := []) (rest := []) B X (tX8_mixRows (d := d - 1) L (by omega) h1) mfX8_mixRows kw1336 (by omega) (LnX8_g L (z.1, (va_up z.2.1 61 1373), z.2.2)) rfl rfl (Nat.le_of_ble_eq_true rfl) hl.1 ⟨Nat.zero_le _, Nat.zero_le _⟩ dX8_digest_8) (fun H locs X => ?_)
  have X : Hx A D S.heap (wf q1) H locs := X
  refine lv_aload_n hx hb dX8_digest_11 rfl (lv_at hl 0 rfl) ?_
  obtain ⟨q2, h2, h⟩ := bs h
  refine kV X (cV (As := []) (rest := []) B X (tX8_mixTold (d := d - 1) L (by omega) h2) mfX8_mixTold kw1345 (by omega) (LnX8_g L q1) rfl rfl (Nat.le_of_ble_eq_true rfl) hl.1 ⟨Nat.zero_le _, Nat.zero_le _⟩ dX8_digest_12) (fun H locs X => ?_)
  have X : Hx A D S.heap (wf q2) H locs := X
  refine lv_aload_n hx hb dX8_digest_15 rfl (lv_at hl 0 rfl) ?_
  refine fG B X (LnX8_g L q2) 0 rfl inTX8 (by decide) kw847 rfl dX8_digest_16 ?_
  refine lv_if_le (tgt := 31) hx hb dX8_digest_19 (by decide) (fun hc3 => ?_) (fun hc3 => ?_)
  · have h := it h hc3
    exact tX8_digest_b31 L hd B q2 _ _ _ X (lv_sub hl [0] rfl) h
  · have h := ie h hc3
    refine lv_aload_n hx hb dX8_digest_22 rfl (lv_at hl 0 rfl) ?_
    refine lv_aload_n hx hb dX8_digest_23 rfl (lv_at hl 0 rfl) ?_
    obtain ⟨q4, h4, h⟩ := bs h
    refine kI X (cV (As := []) (rest := [.ref (a 0)]) B X (tX8_spareNow (d := d - 1) L (by omega) h4) mfX8_spareNow kw1263 (by omega) (LnX8_g L q2) rfl rfl (Nat.le_of_ble_eq_true rfl) hl.1 ⟨Nat.zero_le _, Nat.zero_le _⟩ dX8_digest_24) (fun H locs X => ?_)
    have X : Hx A D S.heap (wf q4.2) H locs := X
    refine lv_i2l hx hb dX8_digest_27 rfl ?_
    obtain ⟨q5, h5, h⟩ := bs h
    refine kV X (cV (As := [.long (q4.1.toInt64)]) (rest := []) B X (tX8_mix (d := d - 1) L (by omega) h5) mfX8_mix kw1340 (by omega) (LnX8_g L q4.2) rfl rfl (Nat.le_of_ble_eq_true rfl) hl.1 ⟨Nat.zero_le _, Nat.zero_le _⟩ dX8_digest_28) (fun H locs X => ?_)
    have X : Hx A D S.heap (wf q5) H locs := X
    exact tX8_digest_b31 L hd B q5 _ _ _ X (lv_sub hl [0] rfl) h
end
