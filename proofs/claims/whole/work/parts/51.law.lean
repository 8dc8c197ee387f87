section
variable {l : Launch} {p : Program} {e : Env} {s : State} {m : MethodId} {below : List Frame} {meth : Method} {c : Code} {A : Nat → Prop} {g : Nat → Nat} {D : va_G} {cI cB : ClassId} {ax am : Nat → Nat} {b L : Nat} {xs : Nat → Int32} {Q : State → Prop} {Rel : Nat → SX7 → SX8 → Prop}
theorem law_ix {L k j : Nat} (hk : 4 * k + 4 ≤ L) (hL : L ≤ 2048) (hj : j < 4) : vp_in (nI (4 * k) + nI j) L := by
  rw [nI_add]
  exact vp_in_nI (by omega) (by omega)
theorem lg_cmp_self (x : Int64) : lg_cmp x x = 0 := by simp [lg_cmp]
set_option maxRecDepth 100000 in
set_option maxHeartbeats 4000000 in
theorem law_0 {k : Nat} {x : SX7} {z : SX8} (B : Bd RL cL_law 4 (some .boolean) 2000 A g D [(cI, .int), (cB, .byte)] p room_1 s m #[Value.ref b] meth c) (hX : va_X b L xs s s.heap) (hbl : b < s.heap.size) (hbA : ¬ A b) (hL : L ≤ 2048) (hk : 4 * k + 4 ≤ L) (hS : Sm_letter Rel) (hR : Rel k x z) {H : Heap} {locs : List Loc} {ls : Array Slot} (X : Hx A D s.heap (clX7 ax cI x ++ clX8 am cI cB z) H locs) (hl : lv_has ls 4 [(0, .ref b), (1, .ref (ax 0)), (2, .ref (am 0)), (3, .int (nI (4 * k)))])
    (hn : ∀ (x : SX7) (z : SX8) (H : Heap) (locs : List Loc), Hx A D s.heap (clX7 ax cI x ++ clX8 am cI cB z) H locs → Rel (k + 1) x z → W p l e room_1 s m #[Value.ref b] below meth c H locs 70 7008 Q (F0 m 743 ls [])) : W p l e room_1 s m #[Value.ref b] below meth c H locs 70 7008 Q (F0 m 144 ls []) := by
  have hx := B.1
  have hb := B.2.1
  have hcs : 70 ≤ room_1.cells ∧ 7008 ≤ room_1.slots := ⟨Nat.le_of_ble_eq_true rfl, Nat.le_of_ble_eq_true rfl⟩
  obtain ⟨q, r, h1, h2, hq, hR2⟩ := hS k x z (xs (nI (4 * k) + 1).toNatClampNeg) (by omega) hR
  refine lv_aload_n hx hb dL_law_144 rfl (lv_at hl 1 rfl) ?_
  refine lv_aload_n hx hb dL_law_145 rfl (lv_at hl 0 rfl) ?_
  refine lv_iload_n hx hb dL_law_146 rfl (lv_at hl 3 rfl) ?_
  refine lv_iconst (v := 1) hx hb dL_law_147 (by decide) ?_
  refine lv_iadd hx hb dL_law_148 ?_
  refine va_sld hx hb hX hbl hbA X.2.2 (law_ix (j := 1) hk hL (by decide)) dL_law_149 ?_
  refine kI X (cV (As := [.int (xs (nI (4 * k) + 1).toNatClampNeg)]) (rest := []) B X (tX7_letter (d := 1999) (lensX (clX8 am cI cB z) ax cI) (by decide) h1) mfX7_letter kw322 (by decide) (LnX7_g (lensX (clX8 am cI cB z) ax cI) x) rfl rfl (Nat.le_of_ble_eq_true rfl) hl.1 hcs dL_law_150) (fun H locs X => ?_)
  have X : Hx A D s.heap (clX7 ax cI q.2 ++ clX8 am cI cB z) H locs := X
  refine lv_aload_n hx hb dL_law_153 rfl (lv_at hl 2 rfl) ?_
  refine lv_aload_n hx hb dL_law_154 rfl (lv_at hl 0 rfl) ?_
  refine lv_iload_n hx hb dL_law_155 rfl (lv_at hl 3 rfl) ?_
  refine lv_iconst (v := 1) hx hb dL_law_156 (by decide) ?_
  refine lv_iadd hx hb dL_law_157 ?_
  refine va_sld hx hb hX hbl hbA X.2.2 (law_ix (j := 1) hk hL (by decide)) dL_law_158 ?_
  refine kI X (cV (As := [.int (xs (nI (4 * k) + 1).toNatClampNeg)]) (rest := [.int q.1]) B X (tX8_letter (d := 1999) (lensM (clX7 ax cI q.2) am cI cB) (by decide) h2) mfX8_letter kw1034 (by decide) (LnX8_g (lensM (clX7 ax cI q.2) am cI cB) z) rfl rfl (Nat.le_of_ble_eq_true rfl) hl.1 hcs dL_law_159) (fun H locs X => ?_)
  have X : Hx A D s.heap (clX7 ax cI q.2 ++ clX8 am cI cB r.2) H locs := X
  refine lv_icmp_eq (tgt := 743) hx hb dL_law_162 (by decide) (fun _ => ?_) (fun hc => absurd hq hc)
  exact hn _ _ _ _ X hR2
set_option maxRecDepth 100000 in
set_option maxHeartbeats 4000000 in
theorem law_1 {k : Nat} {x : SX7} {z : SX8} (B : Bd RL cL_law 4 (some .boolean) 2000 A g D [(cI, .int), (cB, .byte)] p room_1 s m #[Value.ref b] meth c) (hX : va_X b L xs s s.heap) (hbl : b < s.heap.size) (hbA : ¬ A b) (hL : L ≤ 2048) (hk : 4 * k + 4 ≤ L) (hS : Sm_blank Rel) (hR : Rel k x z) {H : Heap} {locs : List Loc} {ls : Array Slot} (X : Hx A D s.heap (clX7 ax cI x ++ clX8 am cI cB z) H locs) (hl : lv_has ls 4 [(0, .ref b), (1, .ref (ax 0)), (2, .ref (am 0)), (3, .int (nI (4 * k)))])
    (hn : ∀ (x : SX7) (z : SX8) (H : Heap) (locs : List Loc), Hx A D s.heap (clX7 ax cI x ++ clX8 am cI cB z) H locs → Rel (k + 1) x z → W p l e room_1 s m #[Value.ref b] below meth c H locs 70 7008 Q (F0 m 743 ls [])) : W p l e room_1 s m #[Value.ref b] below meth c H locs 70 7008 Q (F0 m 167 ls []) := by
  have hx := B.1
  have hb := B.2.1
  have hcs : 70 ≤ room_1.cells ∧ 7008 ≤ room_1.slots := ⟨Nat.le_of_ble_eq_true rfl, Nat.le_of_ble_eq_true rfl⟩
  obtain ⟨q, r, h1, h2, hq, hR2⟩ := hS k x z  (by omega) hR
  refine lv_aload_n hx hb dL_law_167 rfl (lv_at hl 1 rfl) ?_
  refine kI X (cV (As := []) (rest := []) B X (tX7_blank (d := 1999) (lensX (clX8 am cI cB z) ax cI) (by decide) h1) mfX7_blank kw334 (by decide) (LnX7_g (lensX (clX8 am cI cB z) ax cI) x) rfl rfl (Nat.le_of_ble_eq_true rfl) hl.1 hcs dL_law_168) (fun H locs X => ?_)
  have X : Hx A D s.heap (clX7 ax cI q.2 ++ clX8 am cI cB z) H locs := X
  refine lv_aload_n hx hb dL_law_171 rfl (lv_at hl 2 rfl) ?_
  refine kI X (cV (As := []) (rest := [.int q.1]) B X (tX8_blank (d := 1999) (lensM (clX7 ax cI q.2) am cI cB) (by decide) h2) mfX8_blank kw1041 (by decide) (LnX8_g (lensM (clX7 ax cI q.2) am cI cB) z) rfl rfl (Nat.le_of_ble_eq_true rfl) hl.1 hcs dL_law_172) (fun H locs X => ?_)
  have X : Hx A D s.heap (clX7 ax cI q.2 ++ clX8 am cI cB r.2) H locs := X
  refine lv_icmp_eq (tgt := 743) hx hb dL_law_175 (by decide) (fun _ => ?_) (fun hc => absurd hq hc)
  exact hn _ _ _ _ X hR2
set_option maxRecDepth 100000 in
set_option maxHeartbeats 4000000 in
theorem law_2 {k : Nat} {x : SX7} {z : SX8} (B : Bd RL cL_law 4 (some .boolean) 2000 A g D [(cI, .int), (cB, .byte)] p room_1 s m #[Value.ref b] meth c) (hX : va_X b L xs s s.heap) (hbl : b < s.heap.size) (hbA : ¬ A b) (hL : L ≤ 2048) (hk : 4 * k + 4 ≤ L) (hS : Sm_fault Rel) (hR : Rel k x z) {H : Heap} {locs : List Loc} {ls : Array Slot} (X : Hx A D s.heap (clX7 ax cI x ++ clX8 am cI cB z) H locs) (hl : lv_has ls 4 [(0, .ref b), (1, .ref (ax 0)), (2, .ref (am 0)), (3, .int (nI (4 * k)))])
    (hn : ∀ (x : SX7) (z : SX8) (H : Heap) (locs : List Loc), Hx A D s.heap (clX7 ax cI x ++ clX8 am cI cB z) H locs → Rel (k + 1) x z → W p l e room_1 s m #[Value.ref b] below meth c H locs 70 7008 Q (F0 m 743 ls [])) : W p l e room_1 s m #[Value.ref b] below meth c H locs 70 7008 Q (F0 m 180 ls []) := by
  have hx := B.1
  have hb := B.2.1
  have hcs : 70 ≤ room_1.cells ∧ 7008 ≤ room_1.slots := ⟨Nat.le_of_ble_eq_true rfl, Nat.le_of_ble_eq_true rfl⟩
  obtain ⟨q, r, h1, h2, hq, hR2⟩ := hS k x z  (by omega) hR
  refine lv_aload_n hx hb dL_law_180 rfl (lv_at hl 1 rfl) ?_
  refine kI X (cV (As := []) (rest := []) B X (tX7_fault (d := 1999) (lensX (clX8 am cI cB z) ax cI) (by decide) h1) mfX7_fault kw342 (by decide) (LnX7_g (lensX (clX8 am cI cB z) ax cI) x) rfl rfl (Nat.le_of_ble_eq_true rfl) hl.1 hcs dL_law_181) (fun H locs X => ?_)
  have X : Hx A D s.heap (clX7 ax cI x ++ clX8 am cI cB z) H locs := X
  refine lv_aload_n hx hb dL_law_184 rfl (lv_at hl 2 rfl) ?_
  refine kI X (cV (As := []) (rest := [.int q]) B X (tX8_fault (d := 1999) (lensM (clX7 ax cI x) am cI cB) (by decide) h2) mfX8_fault kw1045 (by decide) (LnX8_g (lensM (clX7 ax cI x) am cI cB) z) rfl rfl (Nat.le_of_ble_eq_true rfl) hl.1 hcs dL_law_185) (fun H locs X => ?_)
  have X : Hx A D s.heap (clX7 ax cI x ++ clX8 am cI cB r.2) H locs := X
  refine lv_icmp_eq (tgt := 743) hx hb dL_law_188 (by decide) (fun _ => ?_) (fun hc => absurd hq hc)
  exact hn _ _ _ _ X hR2
set_option maxRecDepth 100000 in
set_option maxHeartbeats 4000000 in
theorem law_3 {k : Nat} {x : SX7} {z : SX8} (B : Bd RL cL_law 4 (some .boolean) 2000 A g D [(cI, .int), (cB, .byte)] p room_1 s m #[Value.ref b] meth c) (hX : va_X b L xs s s.heap) (hbl : b < s.heap.size) (hbA : ¬ A b) (hL : L ≤ 2048) (hk : 4 * k + 4 ≤ L) (hS : Sm_tables Rel) (hR : Rel k x z) {H : Heap} {locs : List Loc} {ls : Array Slot} (X : Hx A D s.heap (clX7 ax cI x ++ clX8 am cI cB z) H locs) (hl : lv_has ls 4 [(0, .ref b), (1, .ref (ax 0)), (2, .ref (am 0)), (3, .int (nI (4 * k)))])
    (hn : ∀ (x : SX7) (z : SX8) (H : Heap) (locs : List Loc), Hx A D s.heap (clX7 ax cI x ++ clX8 am cI cB z) H locs → Rel (k + 1) x z → W p l e room_1 s m #[Value.ref b] below meth c H locs 70 7008 Q (F0 m 743 ls [])) : W p l e room_1 s m #[Value.ref b] below meth c H locs 70 7008 Q (F0 m 193 ls []) := by
  have hx := B.1
  have hb := B.2.1
  have hcs : 70 ≤ room_1.cells ∧ 7008 ≤ room_1.slots := ⟨Nat.le_of_ble_eq_true rfl, Nat.le_of_ble_eq_true rfl⟩
  obtain ⟨q, r, h1, h2, hq, hR2⟩ := hS k x z  (by omega) hR
  refine lv_aload_n hx hb dL_law_193 rfl (lv_at hl 1 rfl) ?_
  refine kI X (cV (As := []) (rest := []) B X (tX7_tables (d := 1999) (lensX (clX8 am cI cB z) ax cI) (by decide) h1) mfX7_tables kw451 (by decide) (LnX7_g (lensX (clX8 am cI cB z) ax cI) x) rfl rfl (Nat.le_of_ble_eq_true rfl) hl.1 hcs dL_law_194) (fun H locs X => ?_)
  have X : Hx A D s.heap (clX7 ax cI q.2 ++ clX8 am cI cB z) H locs := X
  refine lv_aload_n hx hb dL_law_197 rfl (lv_at hl 2 rfl) ?_
  refine kI X (cV (As := []) (rest := [.int q.1]) B X (tX8_tables (d := 1999) (lensM (clX7 ax cI q.2) am cI cB) (by decide) h2) mfX8_tables kw1068 (by decide) (LnX8_g (lensM (clX7 ax cI q.2) am cI cB) z) rfl rfl (Nat.le_of_ble_eq_true rfl) hl.1 hcs dL_law_198) (fun H locs X => ?_)
  have X : Hx A D s.heap (clX7 ax cI q.2 ++ clX8 am cI cB r.2) H locs := X
  refine lv_icmp_eq (tgt := 743) hx hb dL_law_201 (by decide) (fun _ => ?_) (fun hc => absurd hq hc)
  exact hn _ _ _ _ X hR2
set_option maxRecDepth 100000 in
set_option maxHeartbeats 4000000 in
theorem law_4 {k : Nat} {x : SX7} {z : SX8} (B : Bd RL cL_law 4 (some .boolean) 2000 A g D [(cI, .int), (cB, .byte)] p room_1 s m #[Value.ref b] meth c) (hX : va_X b L xs s s.heap) (hbl : b < s.heap.size) (hbA : ¬ A b) (hL : L ≤ 2048) (hk : 4 * k + 4 ≤ L) (hS : Sm_row Rel) (hR : Rel k x z) {H : Heap} {locs : List Loc} {ls : Array Slot} (X : Hx A D s.heap (clX7 ax cI x ++ clX8 am cI cB z) H locs) (hl : lv_has ls 4 [(0, .ref b), (1, .ref (ax 0)), (2, .ref (am 0)), (3, .int (nI (4 * k)))])
    (hn : ∀ (x : SX7) (z : SX8) (H : Heap) (locs : List Loc), Hx A D s.heap (clX7 ax cI x ++ clX8 am cI cB z) H locs → Rel (k + 1) x z → W p l e room_1 s m #[Value.ref b] below meth c H locs 70 7008 Q (F0 m 743 ls [])) : W p l e room_1 s m #[Value.ref b] below meth c H locs 70 7008 Q (F0 m 206 ls []) := by
  have hx := B.1
  have hb := B.2.1
  have hcs : 70 ≤ room_1.cells ∧ 7008 ≤ room_1.slots := ⟨Nat.le_of_ble_eq_true rfl, Nat.le_of_ble_eq_true rfl⟩
  obtain ⟨q, r, h1, h2, hq, hR2⟩ := hS k x z (xs (nI (4 * k) + 1).toNatClampNeg) (xs (nI (4 * k) + 2).toNatClampNeg) (xs (nI (4 * k) + 3).toNatClampNeg) (by omega) hR
  refine lv_aload_n hx hb dL_law_206 rfl (lv_at hl 1 rfl) ?_
  refine lv_aload_n hx hb dL_law_207 rfl (lv_at hl 0 rfl) ?_
  refine lv_iload_n hx hb dL_law_208 rfl (lv_at hl 3 rfl) ?_
  refine lv_iconst (v := 1) hx hb dL_law_209 (by decide) ?_
  refine lv_iadd hx hb dL_law_210 ?_
  refine va_sld hx hb hX hbl hbA X.2.2 (law_ix (j := 1) hk hL (by decide)) dL_law_211 ?_
  refine lv_aload_n hx hb dL_law_212 rfl (lv_at hl 0 rfl) ?_
  refine lv_iload_n hx hb dL_law_213 rfl (lv_at hl 3 rfl) ?_
  refine lv_iconst (v := 2) hx hb dL_law_214 (by decide) ?_
  refine lv_iadd hx hb dL_law_215 ?_
  refine va_sld hx hb hX hbl hbA X.2.2 (law_ix (j := 2) hk hL (by decide)) dL_law_216 ?_
  refine lv_aload_n hx hb dL_law_217 rfl (lv_at hl 0 rfl) ?_
  refine lv_iload_n hx hb dL_law_218 rfl (lv_at hl 3 rfl) ?_
  refine lv_iconst (v := 3) hx hb dL_law_219 (by decide) ?_
  refine lv_iadd hx hb dL_law_220 ?_
  refine va_sld hx hb hX hbl hbA X.2.2 (law_ix (j := 3) hk hL (by decide)) dL_law_221 ?_
  refine kI X (cV (As := [.int (xs (nI (4 * k) + 1).toNatClampNeg), .int (xs (nI (4 * k) + 2).toNatClampNeg), .int (xs (nI (4 * k) + 3).toNatClampNeg)]) (rest := []) B X (tX7_row (d := 1999) (lensX (clX8 am cI cB z) ax cI) (by decide) h1) mfX7_row kw502 (by decide) (LnX7_g (lensX (clX8 am cI cB z) ax cI) x) rfl rfl (Nat.le_of_ble_eq_true rfl) hl.1 hcs dL_law_222) (fun H locs X => ?_)
  have X : Hx A D s.heap (clX7 ax cI x ++ clX8 am cI cB z) H locs := X
  refine lv_aload_n hx hb dL_law_225 rfl (lv_at hl 2 rfl) ?_
  refine lv_aload_n hx hb dL_law_226 rfl (lv_at hl 0 rfl) ?_
  refine lv_iload_n hx hb dL_law_227 rfl (lv_at hl 3 rfl) ?_
  refine lv_iconst (v := 1) hx hb dL_law_228 (by decide) ?_
  refine lv_iadd hx hb dL_law_229 ?_
  refine va_sld hx hb hX hbl hbA X.2.2 (law_ix (j := 1) hk hL (by decide)) dL_law_230 ?_
  refine lv_aload_n hx hb dL_law_231 rfl (lv_at hl 0 rfl) ?_
  refine lv_iload_n hx hb dL_law_232 rfl (lv_at hl 3 rfl) ?_
  refine lv_iconst (v := 2) hx hb dL_law_233 (by decide) ?_
  refine lv_iadd hx hb dL_law_234 ?_
  refine va_sld hx hb hX hbl hbA X.2.2 (law_ix (j := 2) hk hL (by decide)) dL_law_235 ?_
  refine lv_aload_n hx hb dL_law_236 rfl (lv_at hl 0 rfl) ?_
  refine lv_iload_n hx hb dL_law_237 rfl (lv_at hl 3 rfl) ?_
  refine lv_iconst (v := 3) hx hb dL_law_238 (by decide) ?_
  refine lv_iadd hx hb dL_law_239 ?_
  refine va_sld hx hb hX hbl hbA X.2.2 (law_ix (j := 3) hk hL (by decide)) dL_law_240 ?_
  refine kI X (cV (As := [.int (xs (nI (4 * k) + 1).toNatClampNeg), .int (xs (nI (4 * k) + 2).toNatClampNeg), .int (xs (nI (4 * k) + 3).toNatClampNeg)]) (rest := [.int q]) B X (tX8_row (d := 1999) (lensM (clX7 ax cI x) am cI cB) (by decide) h2) mfX8_row kw1075 (by decide) (LnX8_g (lensM (clX7 ax cI x) am cI cB) z) rfl rfl (Nat.le_of_ble_eq_true rfl) hl.1 hcs dL_law_241) (fun H locs X => ?_)
  have X : Hx A D s.heap (clX7 ax cI x ++ clX8 am cI cB z) H locs := X
  refine lv_icmp_eq (tgt := 743) hx hb dL_law_244 (by decide) (fun _ => ?_) (fun hc => absurd hq hc)
  exact hn _ _ _ _ X hR2
set_option maxRecDepth 100000 in
set_option maxHeartbeats 4000000 in
theorem law_5 {k : Nat} {x : SX7} {z : SX8} (B : Bd RL cL_law 4 (some .boolean) 2000 A g D [(cI, .int), (cB, .byte)] p room_1 s m #[Value.ref b] meth c) (hX : va_X b L xs s s.heap) (hbl : b < s.heap.size) (hbA : ¬ A b) (hL : L ≤ 2048) (hk : 4 * k + 4 ≤ L) (hS : Sm_as Rel) (hR : Rel k x z) {H : Heap} {locs : List Loc} {ls : Array Slot} (X : Hx A D s.heap (clX7 ax cI x ++ clX8 am cI cB z) H locs) (hl : lv_has ls 4 [(0, .ref b), (1, .ref (ax 0)), (2, .ref (am 0)), (3, .int (nI (4 * k)))])
    (hn : ∀ (x : SX7) (z : SX8) (H : Heap) (locs : List Loc), Hx A D s.heap (clX7 ax cI x ++ clX8 am cI cB z) H locs → Rel (k + 1) x z → W p l e room_1 s m #[Value.ref b] below meth c H locs 70 7008 Q (F0 m 743 ls [])) : W p l e room_1 s m #[Value.ref b] below meth c H locs 70 7008 Q (F0 m 249 ls []) := by
  have hx := B.1
  have hb := B.2.1
  have hcs : 70 ≤ room_1.cells ∧ 7008 ≤ room_1.slots := ⟨Nat.le_of_ble_eq_true rfl, Nat.le_of_ble_eq_true rfl⟩
  obtain ⟨q, r, h1, h2, hq, hR2⟩ := hS k x z (xs (nI (4 * k) + 1).toNatClampNeg) (by omega) hR
  refine lv_aload_n hx hb dL_law_249 rfl (lv_at hl 1 rfl) ?_
  refine lv_aload_n hx hb dL_law_250 rfl (lv_at hl 0 rfl) ?_
  refine lv_iload_n hx hb dL_law_251 rfl (lv_at hl 3 rfl) ?_
  refine lv_iconst (v := 1) hx hb dL_law_252 (by decide) ?_
  refine lv_iadd hx hb dL_law_253 ?_
  refine va_sld hx hb hX hbl hbA X.2.2 (law_ix (j := 1) hk hL (by decide)) dL_law_254 ?_
  refine kI X (cV (As := [.int (xs (nI (4 * k) + 1).toNatClampNeg)]) (rest := []) B X (tX7_as (d := 1999) (lensX (clX8 am cI cB z) ax cI) (by decide) h1) mfX7_as kw544 (by decide) (LnX7_g (lensX (clX8 am cI cB z) ax cI) x) rfl rfl (Nat.le_of_ble_eq_true rfl) hl.1 hcs dL_law_255) (fun H locs X => ?_)
  have X : Hx A D s.heap (clX7 ax cI x ++ clX8 am cI cB z) H locs := X
  refine lv_aload_n hx hb dL_law_258 rfl (lv_at hl 2 rfl) ?_
  refine lv_aload_n hx hb dL_law_259 rfl (lv_at hl 0 rfl) ?_
  refine lv_iload_n hx hb dL_law_260 rfl (lv_at hl 3 rfl) ?_
  refine lv_iconst (v := 1) hx hb dL_law_261 (by decide) ?_
  refine lv_iadd hx hb dL_law_262 ?_
  refine va_sld hx hb hX hbl hbA X.2.2 (law_ix (j := 1) hk hL (by decide)) dL_law_263 ?_
  refine kI X (cV (As := [.int (xs (nI (4 * k) + 1).toNatClampNeg)]) (rest := [.int q]) B X (tX8_as (d := 1999) (lensM (clX7 ax cI x) am cI cB) (by decide) h2) mfX8_as kw1098 (by decide) (LnX8_g (lensM (clX7 ax cI x) am cI cB) z) rfl rfl (Nat.le_of_ble_eq_true rfl) hl.1 hcs dL_law_264) (fun H locs X => ?_)
  have X : Hx A D s.heap (clX7 ax cI x ++ clX8 am cI cB z) H locs := X
  refine lv_icmp_eq (tgt := 743) hx hb dL_law_267 (by decide) (fun _ => ?_) (fun hc => absurd hq hc)
  exact hn _ _ _ _ X hR2
set_option maxRecDepth 100000 in
set_option maxHeartbeats 4000000 in
theorem law_6 {k : Nat} {x : SX7} {z : SX8} (B : Bd RL cL_law 4 (some .boolean) 2000 A g D [(cI, .int), (cB, .byte)] p room_1 s m #[Value.ref b] meth c) (hX : va_X b L xs s s.heap) (hbl : b < s.heap.size) (hbA : ¬ A b) (hL : L ≤ 2048) (hk : 4 * k + 4 ≤ L) (hS : Sm_put Rel) (hR : Rel k x z) {H : Heap} {locs : List Loc} {ls : Array Slot} (X : Hx A D s.heap (clX7 ax cI x ++ clX8 am cI cB z) H locs) (hl : lv_has ls 4 [(0, .ref b), (1, .ref (ax 0)), (2, .ref (am 0)), (3, .int (nI (4 * k)))])
    (hn : ∀ (x : SX7) (z : SX8) (H : Heap) (locs : List Loc), Hx A D s.heap (clX7 ax cI x ++ clX8 am cI cB z) H locs → Rel (k + 1) x z → W p l e room_1 s m #[Value.ref b] below meth c H locs 70 7008 Q (F0 m 743 ls [])) : W p l e room_1 s m #[Value.ref b] below meth c H locs 70 7008 Q (F0 m 272 ls []) := by
  have hx := B.1
  have hb := B.2.1
  have hcs : 70 ≤ room_1.cells ∧ 7008 ≤ room_1.slots := ⟨Nat.le_of_ble_eq_true rfl, Nat.le_of_ble_eq_true rfl⟩
  obtain ⟨q, r, h1, h2, hq, hR2⟩ := hS k x z (xs (nI (4 * k) + 1).toNatClampNeg) (xs (nI (4 * k) + 2).toNatClampNeg) (by omega) hR
  refine lv_aload_n hx hb dL_law_272 rfl (lv_at hl 1 rfl) ?_
  refine lv_aload_n hx hb dL_law_273 rfl (lv_at hl 0 rfl) ?_
  refine lv_iload_n hx hb dL_law_274 rfl (lv_at hl 3 rfl) ?_
  refine lv_iconst (v := 1) hx hb dL_law_275 (by decide) ?_
  refine lv_iadd hx hb dL_law_276 ?_
  refine va_sld hx hb hX hbl hbA X.2.2 (law_ix (j := 1) hk hL (by decide)) dL_law_277 ?_
  refine lv_aload_n hx hb dL_law_278 rfl (lv_at hl 0 rfl) ?_
  refine lv_iload_n hx hb dL_law_279 rfl (lv_at hl 3 rfl) ?_
  refine lv_iconst (v := 2) hx hb dL_law_280 (by decide) ?_
  refine lv_iadd hx hb dL_law_281 ?_
  refine va_sld hx hb hX hbl hbA X.2.2 (law_ix (j := 2) hk hL (by decide)) dL_law_282 ?_
  refine kI X (cV (As := [.int (xs (nI (4 * k) + 1).toNatClampNeg), .int (xs (nI (4 * k) + 2).toNatClampNeg)]) (rest := []) B X (tX7_put (d := 1999) (lensX (clX8 am cI cB z) ax cI) (by decide) h1) mfX7_put kw555 (by decide) (LnX7_g (lensX (clX8 am cI cB z) ax cI) x) rfl rfl (Nat.le_of_ble_eq_true rfl) hl.1 hcs dL_law_283) (fun H locs X => ?_)
  have X : Hx A D s.heap (clX7 ax cI q.2 ++ clX8 am cI cB z) H locs := X
  refine lv_aload_n hx hb dL_law_286 rfl (lv_at hl 2 rfl) ?_
  refine lv_aload_n hx hb dL_law_287 rfl (lv_at hl 0 rfl) ?_
  refine lv_iload_n hx hb dL_law_288 rfl (lv_at hl 3 rfl) ?_
  refine lv_iconst (v := 1) hx hb dL_law_289 (by decide) ?_
  refine lv_iadd hx hb dL_law_290 ?_
  refine va_sld hx hb hX hbl hbA X.2.2 (law_ix (j := 1) hk hL (by decide)) dL_law_291 ?_
  refine lv_aload_n hx hb dL_law_292 rfl (lv_at hl 0 rfl) ?_
  refine lv_iload_n hx hb dL_law_293 rfl (lv_at hl 3 rfl) ?_
  refine lv_iconst (v := 2) hx hb dL_law_294 (by decide) ?_
  refine lv_iadd hx hb dL_law_295 ?_
  refine va_sld hx hb hX hbl hbA X.2.2 (law_ix (j := 2) hk hL (by decide)) dL_law_296 ?_
  refine kI X (cV (As := [.int (xs (nI (4 * k) + 1).toNatClampNeg), .int (xs (nI (4 * k) + 2).toNatClampNeg)]) (rest := [.int q.1]) B X (tX8_put (d := 1999) (lensM (clX7 ax cI q.2) am cI cB) (by decide) h2) mfX8_put kw1102 (by decide) (LnX8_g (lensM (clX7 ax cI q.2) am cI cB) z) rfl rfl (Nat.le_of_ble_eq_true rfl) hl.1 hcs dL_law_297) (fun H locs X => ?_)
  have X : Hx A D s.heap (clX7 ax cI q.2 ++ clX8 am cI cB r.2) H locs := X
  refine lv_icmp_eq (tgt := 743) hx hb dL_law_300 (by decide) (fun _ => ?_) (fun hc => absurd hq hc)
  exact hn _ _ _ _ X hR2
set_option maxRecDepth 100000 in
set_option maxHeartbeats 4000000 in
theorem law_7 {k : Nat} {x : SX7} {z : SX8} (B : Bd RL cL_law 4 (some .boolean) 2000 A g D [(cI, .int), (cB, .byte)] p room_1 s m #[Value.ref b] meth c) (hX : va_X b L xs s s.heap) (hbl : b < s.heap.size) (hbA : ¬ A b) (hL : L ≤ 2048) (hk : 4 * k + 4 ≤ L) (hS : Sm_take Rel) (hR : Rel k x z) {H : Heap} {locs : List Loc} {ls : Array Slot} (X : Hx A D s.heap (clX7 ax cI x ++ clX8 am cI cB z) H locs) (hl : lv_has ls 4 [(0, .ref b), (1, .ref (ax 0)), (2, .ref (am 0)), (3, .int (nI (4 * k)))])
    (hn : ∀ (x : SX7) (z : SX8) (H : Heap) (locs : List Loc), Hx A D s.heap (clX7 ax cI x ++ clX8 am cI cB z) H locs → Rel (k + 1) x z → W p l e room_1 s m #[Value.ref b] below meth c H locs 70 7008 Q (F0 m 743 ls [])) : W p l e room_1 s m #[Value.ref b] below meth c H locs 70 7008 Q (F0 m 305 ls []) := by
  have hx := B.1
  have hb := B.2.1
  have hcs : 70 ≤ room_1.cells ∧ 7008 ≤ room_1.slots := ⟨Nat.le_of_ble_eq_true rfl, Nat.le_of_ble_eq_true rfl⟩
  obtain ⟨q, r, h1, h2, hq, hR2⟩ := hS k x z (xs (nI (4 * k) + 1).toNatClampNeg) (xs (nI (4 * k) + 2).toNatClampNeg) (by omega) hR
  refine lv_aload_n hx hb dL_law_305 rfl (lv_at hl 1 rfl) ?_
  refine lv_aload_n hx hb dL_law_306 rfl (lv_at hl 0 rfl) ?_
  refine lv_iload_n hx hb dL_law_307 rfl (lv_at hl 3 rfl) ?_
  refine lv_iconst (v := 1) hx hb dL_law_308 (by decide) ?_
  refine lv_iadd hx hb dL_law_309 ?_
  refine va_sld hx hb hX hbl hbA X.2.2 (law_ix (j := 1) hk hL (by decide)) dL_law_310 ?_
  refine lv_aload_n hx hb dL_law_311 rfl (lv_at hl 0 rfl) ?_
  refine lv_iload_n hx hb dL_law_312 rfl (lv_at hl 3 rfl) ?_
  refine lv_iconst (v := 2) hx hb dL_law_313 (by decide) ?_
  refine lv_iadd hx hb dL_law_314 ?_
  refine va_sld hx hb hX hbl hbA X.2.2 (law_ix (j := 2) hk hL (by decide)) dL_law_315 ?_
  refine kI X (cV (As := [.int (xs (nI (4 * k) + 1).toNatClampNeg), .int (xs (nI (4 * k) + 2).toNatClampNeg)]) (rest := []) B X (tX7_take (d := 1999) (lensX (clX8 am cI cB z) ax cI) (by decide) h1) mfX7_take kw564 (by decide) (LnX7_g (lensX (clX8 am cI cB z) ax cI) x) rfl rfl (Nat.le_of_ble_eq_true rfl) hl.1 hcs dL_law_316) (fun H locs X => ?_)
  have X : Hx A D s.heap (clX7 ax cI q.2 ++ clX8 am cI cB z) H locs := X
  refine lv_aload_n hx hb dL_law_319 rfl (lv_at hl 2 rfl) ?_
  refine lv_aload_n hx hb dL_law_320 rfl (lv_at hl 0 rfl) ?_
  refine lv_iload_n hx hb dL_law_321 rfl (lv_at hl 3 rfl) ?_
  refine lv_iconst (v := 1) hx hb dL_law_322 (by decide) ?_
  refine lv_iadd hx hb dL_law_323 ?_
  refine va_sld hx hb hX hbl hbA X.2.2 (law_ix (j := 1) hk hL (by decide)) dL_law_324 ?_
  refine lv_aload_n hx hb dL_law_325 rfl (lv_at hl 0 rfl) ?_
  refine lv_iload_n hx hb dL_law_326 rfl (lv_at hl 3 rfl) ?_
  refine lv_iconst (v := 2) hx hb dL_law_327 (by decide) ?_
  refine lv_iadd hx hb dL_law_328 ?_
  refine va_sld hx hb hX hbl hbA X.2.2 (law_ix (j := 2) hk hL (by decide)) dL_law_329 ?_
  refine kI X (cV (As := [.int (xs (nI (4 * k) + 1).toNatClampNeg), .int (xs (nI (4 * k) + 2).toNatClampNeg)]) (rest := [.int q.1]) B X (tX8_take (d := 1999) (lensM (clX7 ax cI q.2) am cI cB) (by decide) h2) mfX8_take kw1109 (by decide) (LnX8_g (lensM (clX7 ax cI q.2) am cI cB) z) rfl rfl (Nat.le_of_ble_eq_true rfl) hl.1 hcs dL_law_330) (fun H locs X => ?_)
  have X : Hx A D s.heap (clX7 ax cI q.2 ++ clX8 am cI cB r.2) H locs := X
  refine lv_icmp_eq (tgt := 743) hx hb dL_law_333 (by decide) (fun _ => ?_) (fun hc => absurd hq hc)
  exact hn _ _ _ _ X hR2
set_option maxRecDepth 100000 in
set_option maxHeartbeats 4000000 in
theorem law_8 {k : Nat} {x : SX7} {z : SX8} (B : Bd RL cL_law 4 (some .boolean) 2000 A g D [(cI, .int), (cB, .byte)] p room_1 s m #[Value.ref b] meth c) (hX : va_X b L xs s s.heap) (hbl : b < s.heap.size) (hbA : ¬ A b) (hL : L ≤ 2048) (hk : 4 * k + 4 ≤ L) (hS : Sm_key Rel) (hR : Rel k x z) {H : Heap} {locs : List Loc} {ls : Array Slot} (X : Hx A D s.heap (clX7 ax cI x ++ clX8 am cI cB z) H locs) (hl : lv_has ls 4 [(0, .ref b), (1, .ref (ax 0)), (2, .ref (am 0)), (3, .int (nI (4 * k)))])
    (hn : ∀ (x : SX7) (z : SX8) (H : Heap) (locs : List Loc), Hx A D s.heap (clX7 ax cI x ++ clX8 am cI cB z) H locs → Rel (k + 1) x z → W p l e room_1 s m #[Value.ref b] below meth c H locs 70 7008 Q (F0 m 743 ls [])) : W p l e room_1 s m #[Value.ref b] below meth c H locs 70 7008 Q (F0 m 338 ls []) := by
  have hx := B.1
  have hb := B.2.1
  have hcs : 70 ≤ room_1.cells ∧ 7008 ≤ room_1.slots := ⟨Nat.le_of_ble_eq_true rfl, Nat.le_of_ble_eq_true rfl⟩
  obtain ⟨q, r, h1, h2, hq, hR2⟩ := hS k x z (xs (nI (4 * k) + 1).toNatClampNeg) (xs (nI (4 * k) + 2).toNatClampNeg) (xs (nI (4 * k) + 3).toNatClampNeg) (by omega) hR
  refine lv_aload_n hx hb dL_law_338 rfl (lv_at hl 1 rfl) ?_
  refine lv_aload_n hx hb dL_law_339 rfl (lv_at hl 0 rfl) ?_
  refine lv_iload_n hx hb dL_law_340 rfl (lv_at hl 3 rfl) ?_
  refine lv_iconst (v := 1) hx hb dL_law_341 (by decide) ?_
  refine lv_iadd hx hb dL_law_342 ?_
  refine va_sld hx hb hX hbl hbA X.2.2 (law_ix (j := 1) hk hL (by decide)) dL_law_343 ?_
  refine lv_aload_n hx hb dL_law_344 rfl (lv_at hl 0 rfl) ?_
  refine lv_iload_n hx hb dL_law_345 rfl (lv_at hl 3 rfl) ?_
  refine lv_iconst (v := 2) hx hb dL_law_346 (by decide) ?_
  refine lv_iadd hx hb dL_law_347 ?_
  refine va_sld hx hb hX hbl hbA X.2.2 (law_ix (j := 2) hk hL (by decide)) dL_law_348 ?_
  refine lv_aload_n hx hb dL_law_349 rfl (lv_at hl 0 rfl) ?_
  refine lv_iload_n hx hb dL_law_350 rfl (lv_at hl 3 rfl) ?_
  refine lv_iconst (v := 3) hx hb dL_law_351 (by decide) ?_
  refine lv_iadd hx hb dL_law_352 ?_
  refine va_sld hx hb hX hbl hbA X.2.2 (law_ix (j := 3) hk hL (by decide)) dL_law_353 ?_
  refine kI X (cV (As := [.int (xs (nI (4 * k) + 1).toNatClampNeg), .int (xs (nI (4 * k) + 2).toNatClampNeg), .int (xs (nI (4 * k) + 3).toNatClampNeg)]) (rest := []) B X (tX7_key (d := 1999) (lensX (clX8 am cI cB z) ax cI) (by decide) h1) mfX7_key kw578 (by decide) (LnX7_g (lensX (clX8 am cI cB z) ax cI) x) rfl rfl (Nat.le_of_ble_eq_true rfl) hl.1 hcs dL_law_354) (fun H locs X => ?_)
  have X : Hx A D s.heap (clX7 ax cI q.2 ++ clX8 am cI cB z) H locs := X
  refine lv_aload_n hx hb dL_law_357 rfl (lv_at hl 2 rfl) ?_
  refine lv_aload_n hx hb dL_law_358 rfl (lv_at hl 0 rfl) ?_
  refine lv_iload_n hx hb dL_law_359 rfl (lv_at hl 3 rfl) ?_
  refine lv_iconst (v := 1) hx hb dL_law_360 (by decide) ?_
  refine lv_iadd hx hb dL_law_361 ?_
  refine va_sld hx hb hX hbl hbA X.2.2 (law_ix (j := 1) hk hL (by decide)) dL_law_362 ?_
  refine lv_aload_n hx hb dL_law_363 rfl (lv_at hl 0 rfl) ?_
  refine lv_iload_n hx hb dL_law_364 rfl (lv_at hl 3 rfl) ?_
  refine lv_iconst (v := 2) hx hb dL_law_365 (by decide) ?_
  refine lv_iadd hx hb dL_law_366 ?_
  refine va_sld hx hb hX hbl hbA X.2.2 (law_ix (j := 2) hk hL (by decide)) dL_law_367 ?_
  refine lv_aload_n hx hb dL_law_368 rfl (lv_at hl 0 rfl) ?_
  refine lv_iload_n hx hb dL_law_369 rfl (lv_at hl 3 rfl) ?_
  refine lv_iconst (v := 3) hx hb dL_law_370 (by decide) ?_
  refine lv_iadd hx hb dL_law_371 ?_
  refine va_sld hx hb hX hbl hbA X.2.2 (law_ix (j := 3) hk hL (by decide)) dL_law_372 ?_
  refine kI X (cV (As := [.int (xs (nI (4 * k) + 1).toNatClampNeg), .int (xs (nI (4 * k) + 2).toNatClampNeg), .int (xs (nI (4 * k) + 3).toNatClampNeg)]) (rest := [.int q.1]) B X (tX8_key (d := 1999) (lensM (clX7 ax cI q.2) am cI cB) (by decide) h2) mfX8_key kw1113 (by decide) (LnX8_g (lensM (clX7 ax cI q.2) am cI cB) z) rfl rfl (Nat.le_of_ble_eq_true rfl) hl.1 hcs dL_law_373) (fun H locs X => ?_)
  have X : Hx A D s.heap (clX7 ax cI q.2 ++ clX8 am cI cB r.2) H locs := X
  refine lv_icmp_eq (tgt := 743) hx hb dL_law_376 (by decide) (fun _ => ?_) (fun hc => absurd hq hc)
  exact hn _ _ _ _ X hR2
set_option maxRecDepth 100000 in
set_option maxHeartbeats 4000000 in
theorem law_9 {k : Nat} {x : SX7} {z : SX8} (B : Bd RL cL_law 4 (some .boolean) 2000 A g D [(cI, .int), (cB, .byte)] p room_1 s m #[Value.ref b] meth c) (hX : va_X b L xs s s.heap) (hbl : b < s.heap.size) (hbA : ¬ A b) (hL : L ≤ 2048) (hk : 4 * k + 4 ≤ L) (hS : Sm_memory Rel) (hR : Rel k x z) {H : Heap} {locs : List Loc} {ls : Array Slot} (X : Hx A D s.heap (clX7 ax cI x ++ clX8 am cI cB z) H locs) (hl : lv_has ls 4 [(0, .ref b), (1, .ref (ax 0)), (2, .ref (am 0)), (3, .int (nI (4 * k)))])
    (hn : ∀ (x : SX7) (z : SX8) (H : Heap) (locs : List Loc), Hx A D s.heap (clX7 ax cI x ++ clX8 am cI cB z) H locs → Rel (k + 1) x z → W p l e room_1 s m #[Value.ref b] below meth c H locs 70 7008 Q (F0 m 743 ls [])) : W p l e room_1 s m #[Value.ref b] below meth c H locs 70 7008 Q (F0 m 381 ls []) := by
  have hx := B.1
  have hb := B.2.1
  have hcs : 70 ≤ room_1.cells ∧ 7008 ≤ room_1.slots := ⟨Nat.le_of_ble_eq_true rfl, Nat.le_of_ble_eq_true rfl⟩
  obtain ⟨q, r, h1, h2, hq, hR2⟩ := hS k x z (xs (nI (4 * k) + 1).toNatClampNeg) (by omega) hR
  refine lv_aload_n hx hb dL_law_381 rfl (lv_at hl 1 rfl) ?_
  refine lv_aload_n hx hb dL_law_382 rfl (lv_at hl 0 rfl) ?_
  refine lv_iload_n hx hb dL_law_383 rfl (lv_at hl 3 rfl) ?_
  refine lv_iconst (v := 1) hx hb dL_law_384 (by decide) ?_
  refine lv_iadd hx hb dL_law_385 ?_
  refine va_sld hx hb hX hbl hbA X.2.2 (law_ix (j := 1) hk hL (by decide)) dL_law_386 ?_
  refine kI X (cV (As := [.int (xs (nI (4 * k) + 1).toNatClampNeg)]) (rest := []) B X (tX7_memory (d := 1999) (lensX (clX8 am cI cB z) ax cI) (by decide) h1) mfX7_memory kw583 (by decide) (LnX7_g (lensX (clX8 am cI cB z) ax cI) x) rfl rfl (Nat.le_of_ble_eq_true rfl) hl.1 hcs dL_law_387) (fun H locs X => ?_)
  have X : Hx A D s.heap (clX7 ax cI q.2 ++ clX8 am cI cB z) H locs := X
  refine lv_aload_n hx hb dL_law_390 rfl (lv_at hl 2 rfl) ?_
  refine lv_aload_n hx hb dL_law_391 rfl (lv_at hl 0 rfl) ?_
  refine lv_iload_n hx hb dL_law_392 rfl (lv_at hl 3 rfl) ?_
  refine lv_iconst (v := 1) hx hb dL_law_393 (by decide) ?_
  refine lv_iadd hx hb dL_law_394 ?_
  refine va_sld hx hb hX hbl hbA X.2.2 (law_ix (j := 1) hk hL (by decide)) dL_law_395 ?_
  refine kI X (cV (As := [.int (xs (nI (4 * k) + 1).toNatClampNeg)]) (rest := [.int q.1]) B X (tX8_memory (d := 1999) (lensM (clX7 ax cI q.2) am cI cB) (by decide) h2) mfX8_memory kw1117 (by decide) (LnX8_g (lensM (clX7 ax cI q.2) am cI cB) z) rfl rfl (Nat.le_of_ble_eq_true rfl) hl.1 hcs dL_law_396) (fun H locs X => ?_)
  have X : Hx A D s.heap (clX7 ax cI q.2 ++ clX8 am cI cB r.2) H locs := X
  refine lv_icmp_eq (tgt := 743) hx hb dL_law_399 (by decide) (fun _ => ?_) (fun hc => absurd hq hc)
  exact hn _ _ _ _ X hR2
set_option maxRecDepth 100000 in
set_option maxHeartbeats 4000000 in
theorem law_10 {k : Nat} {x : SX7} {z : SX8} (B : Bd RL cL_law 4 (some .boolean) 2000 A g D [(cI, .int), (cB, .byte)] p room_1 s m #[Value.ref b] meth c) (hX : va_X b L xs s s.heap) (hbl : b < s.heap.size) (hbA : ¬ A b) (hL : L ≤ 2048) (hk : 4 * k + 4 ≤ L) (hS : Sm_be Rel) (hR : Rel k x z) {H : Heap} {locs : List Loc} {ls : Array Slot} (X : Hx A D s.heap (clX7 ax cI x ++ clX8 am cI cB z) H locs) (hl : lv_has ls 4 [(0, .ref b), (1, .ref (ax 0)), (2, .ref (am 0)), (3, .int (nI (4 * k)))])
    (hn : ∀ (x : SX7) (z : SX8) (H : Heap) (locs : List Loc), Hx A D s.heap (clX7 ax cI x ++ clX8 am cI cB z) H locs → Rel (k + 1) x z → W p l e room_1 s m #[Value.ref b] below meth c H locs 70 7008 Q (F0 m 743 ls [])) : W p l e room_1 s m #[Value.ref b] below meth c H locs 70 7008 Q (F0 m 404 ls []) := by
  have hx := B.1
  have hb := B.2.1
  have hcs : 70 ≤ room_1.cells ∧ 7008 ≤ room_1.slots := ⟨Nat.le_of_ble_eq_true rfl, Nat.le_of_ble_eq_true rfl⟩
  obtain ⟨q, r, h1, h2, hq, hR2⟩ := hS k x z (xs (nI (4 * k) + 1).toNatClampNeg) (by omega) hR
  refine lv_aload_n hx hb dL_law_404 rfl (lv_at hl 1 rfl) ?_
  refine lv_aload_n hx hb dL_law_405 rfl (lv_at hl 0 rfl) ?_
  refine lv_iload_n hx hb dL_law_406 rfl (lv_at hl 3 rfl) ?_
  refine lv_iconst (v := 1) hx hb dL_law_407 (by decide) ?_
  refine lv_iadd hx hb dL_law_408 ?_
  refine va_sld hx hb hX hbl hbA X.2.2 (law_ix (j := 1) hk hL (by decide)) dL_law_409 ?_
  refine kI X (cV (As := [.int (xs (nI (4 * k) + 1).toNatClampNeg)]) (rest := []) B X (tX7_be (d := 1999) (lensX (clX8 am cI cB z) ax cI) (by decide) h1) mfX7_be kw587 (by decide) (LnX7_g (lensX (clX8 am cI cB z) ax cI) x) rfl rfl (Nat.le_of_ble_eq_true rfl) hl.1 hcs dL_law_410) (fun H locs X => ?_)
  have X : Hx A D s.heap (clX7 ax cI q.2 ++ clX8 am cI cB z) H locs := X
  refine lv_aload_n hx hb dL_law_413 rfl (lv_at hl 2 rfl) ?_
  refine lv_aload_n hx hb dL_law_414 rfl (lv_at hl 0 rfl) ?_
  refine lv_iload_n hx hb dL_law_415 rfl (lv_at hl 3 rfl) ?_
  refine lv_iconst (v := 1) hx hb dL_law_416 (by decide) ?_
  refine lv_iadd hx hb dL_law_417 ?_
  refine va_sld hx hb hX hbl hbA X.2.2 (law_ix (j := 1) hk hL (by decide)) dL_law_418 ?_
  refine kI X (cV (As := [.int (xs (nI (4 * k) + 1).toNatClampNeg)]) (rest := [.int q.1]) B X (tX8_be (d := 1999) (lensM (clX7 ax cI q.2) am cI cB) (by decide) h2) mfX8_be kw1121 (by decide) (LnX8_g (lensM (clX7 ax cI q.2) am cI cB) z) rfl rfl (Nat.le_of_ble_eq_true rfl) hl.1 hcs dL_law_419) (fun H locs X => ?_)
  have X : Hx A D s.heap (clX7 ax cI q.2 ++ clX8 am cI cB r.2) H locs := X
  refine lv_icmp_eq (tgt := 743) hx hb dL_law_422 (by decide) (fun _ => ?_) (fun hc => absurd hq hc)
  exact hn _ _ _ _ X hR2
set_option maxRecDepth 100000 in
set_option maxHeartbeats 4000000 in
theorem law_11 {k : Nat} {x : SX7} {z : SX8} (B : Bd RL cL_law 4 (some .boolean) 2000 A g D [(cI, .int), (cB, .byte)] p room_1 s m #[Value.ref b] meth c) (hX : va_X b L xs s s.heap) (hbl : b < s.heap.size) (hbA : ¬ A b) (hL : L ≤ 2048) (hk : 4 * k + 4 ≤ L) (hS : Sm_run Rel) (hR : Rel k x z) {H : Heap} {locs : List Loc} {ls : Array Slot} (X : Hx A D s.heap (clX7 ax cI x ++ clX8 am cI cB z) H locs) (hl : lv_has ls 4 [(0, .ref b), (1, .ref (ax 0)), (2, .ref (am 0)), (3, .int (nI (4 * k)))])
    (hn : ∀ (x : SX7) (z : SX8) (H : Heap) (locs : List Loc), Hx A D s.heap (clX7 ax cI x ++ clX8 am cI cB z) H locs → Rel (k + 1) x z → W p l e room_1 s m #[Value.ref b] below meth c H locs 70 7008 Q (F0 m 743 ls [])) : W p l e room_1 s m #[Value.ref b] below meth c H locs 70 7008 Q (F0 m 427 ls []) := by
  have hx := B.1
  have hb := B.2.1
  have hcs : 70 ≤ room_1.cells ∧ 7008 ≤ room_1.slots := ⟨Nat.le_of_ble_eq_true rfl, Nat.le_of_ble_eq_true rfl⟩
  obtain ⟨q, r, h1, h2, hq, hR2⟩ := hS k x z (xs (nI (4 * k) + 1).toNatClampNeg) (by omega) hR
  refine lv_aload_n hx hb dL_law_427 rfl (lv_at hl 1 rfl) ?_
  refine lv_aload_n hx hb dL_law_428 rfl (lv_at hl 0 rfl) ?_
  refine lv_iload_n hx hb dL_law_429 rfl (lv_at hl 3 rfl) ?_
  refine lv_iconst (v := 1) hx hb dL_law_430 (by decide) ?_
  refine lv_iadd hx hb dL_law_431 ?_
  refine va_sld hx hb hX hbl hbA X.2.2 (law_ix (j := 1) hk hL (by decide)) dL_law_432 ?_
  refine kI X (cV (As := [.int (xs (nI (4 * k) + 1).toNatClampNeg)]) (rest := []) B X (tX7_run (d := 1999) (lensX (clX8 am cI cB z) ax cI) (by decide) h1) mfX7_run kw591 (by decide) (LnX7_g (lensX (clX8 am cI cB z) ax cI) x) rfl rfl (Nat.le_of_ble_eq_true rfl) hl.1 hcs dL_law_433) (fun H locs X => ?_)
  have X : Hx A D s.heap (clX7 ax cI q.2 ++ clX8 am cI cB z) H locs := X
  refine lv_aload_n hx hb dL_law_436 rfl (lv_at hl 2 rfl) ?_
  refine lv_aload_n hx hb dL_law_437 rfl (lv_at hl 0 rfl) ?_
  refine lv_iload_n hx hb dL_law_438 rfl (lv_at hl 3 rfl) ?_
  refine lv_iconst (v := 1) hx hb dL_law_439 (by decide) ?_
  refine lv_iadd hx hb dL_law_440 ?_
  refine va_sld hx hb hX hbl hbA X.2.2 (law_ix (j := 1) hk hL (by decide)) dL_law_441 ?_
  refine kI X (cV (As := [.int (xs (nI (4 * k) + 1).toNatClampNeg)]) (rest := [.int q.1]) B X (tX8_run (d := 1999) (lensM (clX7 ax cI q.2) am cI cB) (by decide) h2) mfX8_run kw1125 (by decide) (LnX8_g (lensM (clX7 ax cI q.2) am cI cB) z) rfl rfl (Nat.le_of_ble_eq_true rfl) hl.1 hcs dL_law_442) (fun H locs X => ?_)
  have X : Hx A D s.heap (clX7 ax cI q.2 ++ clX8 am cI cB r.2) H locs := X
  refine lv_icmp_eq (tgt := 743) hx hb dL_law_445 (by decide) (fun _ => ?_) (fun hc => absurd hq hc)
  exact hn _ _ _ _ X hR2
set_option maxRecDepth 100000 in
set_option maxHeartbeats 4000000 in
theorem law_12 {k : Nat} {x : SX7} {z : SX8} (B : Bd RL cL_law 4 (some .boolean) 2000 A g D [(cI, .int), (cB, .byte)] p room_1 s m #[Value.ref b] meth c) (hX : va_X b L xs s s.heap) (hbl : b < s.heap.size) (hbA : ¬ A b) (hL : L ≤ 2048) (hk : 4 * k + 4 ≤ L) (hS : Sm_out Rel) (hR : Rel k x z) {H : Heap} {locs : List Loc} {ls : Array Slot} (X : Hx A D s.heap (clX7 ax cI x ++ clX8 am cI cB z) H locs) (hl : lv_has ls 4 [(0, .ref b), (1, .ref (ax 0)), (2, .ref (am 0)), (3, .int (nI (4 * k)))])
    (hn : ∀ (x : SX7) (z : SX8) (H : Heap) (locs : List Loc), Hx A D s.heap (clX7 ax cI x ++ clX8 am cI cB z) H locs → Rel (k + 1) x z → W p l e room_1 s m #[Value.ref b] below meth c H locs 70 7008 Q (F0 m 743 ls [])) : W p l e room_1 s m #[Value.ref b] below meth c H locs 70 7008 Q (F0 m 450 ls []) := by
  have hx := B.1
  have hb := B.2.1
  have hcs : 70 ≤ room_1.cells ∧ 7008 ≤ room_1.slots := ⟨Nat.le_of_ble_eq_true rfl, Nat.le_of_ble_eq_true rfl⟩
  obtain ⟨q, r, h1, h2, hq, hR2⟩ := hS k x z (xs (nI (4 * k) + 1).toNatClampNeg) (xs (nI (4 * k) + 2).toNatClampNeg) (by omega) hR
  refine lv_aload_n hx hb dL_law_450 rfl (lv_at hl 1 rfl) ?_
  refine lv_aload_n hx hb dL_law_451 rfl (lv_at hl 0 rfl) ?_
  refine lv_iload_n hx hb dL_law_452 rfl (lv_at hl 3 rfl) ?_
  refine lv_iconst (v := 1) hx hb dL_law_453 (by decide) ?_
  refine lv_iadd hx hb dL_law_454 ?_
  refine va_sld hx hb hX hbl hbA X.2.2 (law_ix (j := 1) hk hL (by decide)) dL_law_455 ?_
  refine lv_aload_n hx hb dL_law_456 rfl (lv_at hl 0 rfl) ?_
  refine lv_iload_n hx hb dL_law_457 rfl (lv_at hl 3 rfl) ?_
  refine lv_iconst (v := 2) hx hb dL_law_458 (by decide) ?_
  refine lv_iadd hx hb dL_law_459 ?_
  refine va_sld hx hb hX hbl hbA X.2.2 (law_ix (j := 2) hk hL (by decide)) dL_law_460 ?_
  refine kI X (cV (As := [.int (xs (nI (4 * k) + 1).toNatClampNeg), .int (xs (nI (4 * k) + 2).toNatClampNeg)]) (rest := []) B X (tX7_out (d := 1999) (lensX (clX8 am cI cB z) ax cI) (by decide) h1) mfX7_out kw711 (by decide) (LnX7_g (lensX (clX8 am cI cB z) ax cI) x) rfl rfl (Nat.le_of_ble_eq_true rfl) hl.1 hcs dL_law_461) (fun H locs X => ?_)
  have X : Hx A D s.heap (clX7 ax cI x ++ clX8 am cI cB z) H locs := X
  refine lv_aload_n hx hb dL_law_464 rfl (lv_at hl 2 rfl) ?_
  refine lv_aload_n hx hb dL_law_465 rfl (lv_at hl 0 rfl) ?_
  refine lv_iload_n hx hb dL_law_466 rfl (lv_at hl 3 rfl) ?_
  refine lv_iconst (v := 1) hx hb dL_law_467 (by decide) ?_
  refine lv_iadd hx hb dL_law_468 ?_
  refine va_sld hx hb hX hbl hbA X.2.2 (law_ix (j := 1) hk hL (by decide)) dL_law_469 ?_
  refine lv_aload_n hx hb dL_law_470 rfl (lv_at hl 0 rfl) ?_
  refine lv_iload_n hx hb dL_law_471 rfl (lv_at hl 3 rfl) ?_
  refine lv_iconst (v := 2) hx hb dL_law_472 (by decide) ?_
  refine lv_iadd hx hb dL_law_473 ?_
  refine va_sld hx hb hX hbl hbA X.2.2 (law_ix (j := 2) hk hL (by decide)) dL_law_474 ?_
  refine kI X (cV (As := [.int (xs (nI (4 * k) + 1).toNatClampNeg), .int (xs (nI (4 * k) + 2).toNatClampNeg)]) (rest := [.int q]) B X (tX8_out (d := 1999) (lensM (clX7 ax cI x) am cI cB) (by decide) h2) mfX8_out kw1239 (by decide) (LnX8_g (lensM (clX7 ax cI x) am cI cB) z) rfl rfl (Nat.le_of_ble_eq_true rfl) hl.1 hcs dL_law_475) (fun H locs X => ?_)
  have X : Hx A D s.heap (clX7 ax cI x ++ clX8 am cI cB z) H locs := X
  refine lv_icmp_eq (tgt := 743) hx hb dL_law_478 (by decide) (fun _ => ?_) (fun hc => absurd hq hc)
  exact hn _ _ _ _ X hR2
set_option maxRecDepth 100000 in
set_option maxHeartbeats 4000000 in
theorem law_13 {k : Nat} {x : SX7} {z : SX8} (B : Bd RL cL_law 4 (some .boolean) 2000 A g D [(cI, .int), (cB, .byte)] p room_1 s m #[Value.ref b] meth c) (hX : va_X b L xs s s.heap) (hbl : b < s.heap.size) (hbA : ¬ A b) (hL : L ≤ 2048) (hk : 4 * k + 4 ≤ L) (hS : Sm_log Rel) (hR : Rel k x z) {H : Heap} {locs : List Loc} {ls : Array Slot} (X : Hx A D s.heap (clX7 ax cI x ++ clX8 am cI cB z) H locs) (hl : lv_has ls 4 [(0, .ref b), (1, .ref (ax 0)), (2, .ref (am 0)), (3, .int (nI (4 * k)))])
    (hn : ∀ (x : SX7) (z : SX8) (H : Heap) (locs : List Loc), Hx A D s.heap (clX7 ax cI x ++ clX8 am cI cB z) H locs → Rel (k + 1) x z → W p l e room_1 s m #[Value.ref b] below meth c H locs 70 7008 Q (F0 m 743 ls [])) : W p l e room_1 s m #[Value.ref b] below meth c H locs 70 7008 Q (F0 m 483 ls []) := by
  have hx := B.1
  have hb := B.2.1
  have hcs : 70 ≤ room_1.cells ∧ 7008 ≤ room_1.slots := ⟨Nat.le_of_ble_eq_true rfl, Nat.le_of_ble_eq_true rfl⟩
  obtain ⟨q, r, h1, h2, hq, hR2⟩ := hS k x z (xs (nI (4 * k) + 1).toNatClampNeg) (xs (nI (4 * k) + 2).toNatClampNeg) (by omega) hR
  refine lv_aload_n hx hb dL_law_483 rfl (lv_at hl 1 rfl) ?_
  refine lv_aload_n hx hb dL_law_484 rfl (lv_at hl 0 rfl) ?_
  refine lv_iload_n hx hb dL_law_485 rfl (lv_at hl 3 rfl) ?_
  refine lv_iconst (v := 1) hx hb dL_law_486 (by decide) ?_
  refine lv_iadd hx hb dL_law_487 ?_
  refine va_sld hx hb hX hbl hbA X.2.2 (law_ix (j := 1) hk hL (by decide)) dL_law_488 ?_
  refine lv_aload_n hx hb dL_law_489 rfl (lv_at hl 0 rfl) ?_
  refine lv_iload_n hx hb dL_law_490 rfl (lv_at hl 3 rfl) ?_
  refine lv_iconst (v := 2) hx hb dL_law_491 (by decide) ?_
  refine lv_iadd hx hb dL_law_492 ?_
  refine va_sld hx hb hX hbl hbA X.2.2 (law_ix (j := 2) hk hL (by decide)) dL_law_493 ?_
  refine kI X (cV (As := [.int (xs (nI (4 * k) + 1).toNatClampNeg), .int (xs (nI (4 * k) + 2).toNatClampNeg)]) (rest := []) B X (tX7_log (d := 1999) (lensX (clX8 am cI cB z) ax cI) (by decide) h1) mfX7_log kw719 (by decide) (LnX7_g (lensX (clX8 am cI cB z) ax cI) x) rfl rfl (Nat.le_of_ble_eq_true rfl) hl.1 hcs dL_law_494) (fun H locs X => ?_)
  have X : Hx A D s.heap (clX7 ax cI x ++ clX8 am cI cB z) H locs := X
  refine lv_aload_n hx hb dL_law_497 rfl (lv_at hl 2 rfl) ?_
  refine lv_aload_n hx hb dL_law_498 rfl (lv_at hl 0 rfl) ?_
  refine lv_iload_n hx hb dL_law_499 rfl (lv_at hl 3 rfl) ?_
  refine lv_iconst (v := 1) hx hb dL_law_500 (by decide) ?_
  refine lv_iadd hx hb dL_law_501 ?_
  refine va_sld hx hb hX hbl hbA X.2.2 (law_ix (j := 1) hk hL (by decide)) dL_law_502 ?_
  refine lv_aload_n hx hb dL_law_503 rfl (lv_at hl 0 rfl) ?_
  refine lv_iload_n hx hb dL_law_504 rfl (lv_at hl 3 rfl) ?_
  refine lv_iconst (v := 2) hx hb dL_law_505 (by decide) ?_
  refine lv_iadd hx hb dL_law_506 ?_
  refine va_sld hx hb hX hbl hbA X.2.2 (law_ix (j := 2) hk hL (by decide)) dL_law_507 ?_
  refine kI X (cV (As := [.int (xs (nI (4 * k) + 1).toNatClampNeg), .int (xs (nI (4 * k) + 2).toNatClampNeg)]) (rest := [.int q]) B X (tX8_log (d := 1999) (lensM (clX7 ax cI x) am cI cB) (by decide) h2) mfX8_log kw1247 (by decide) (LnX8_g (lensM (clX7 ax cI x) am cI cB) z) rfl rfl (Nat.le_of_ble_eq_true rfl) hl.1 hcs dL_law_508) (fun H locs X => ?_)
  have X : Hx A D s.heap (clX7 ax cI x ++ clX8 am cI cB z) H locs := X
  refine lv_icmp_eq (tgt := 743) hx hb dL_law_511 (by decide) (fun _ => ?_) (fun hc => absurd hq hc)
  exact hn _ _ _ _ X hR2
set_option maxRecDepth 100000 in
set_option maxHeartbeats 4000000 in
theorem law_14 {k : Nat} {x : SX7} {z : SX8} (B : Bd RL cL_law 4 (some .boolean) 2000 A g D [(cI, .int), (cB, .byte)] p room_1 s m #[Value.ref b] meth c) (hX : va_X b L xs s s.heap) (hbl : b < s.heap.size) (hbA : ¬ A b) (hL : L ≤ 2048) (hk : 4 * k + 4 ≤ L) (hS : Sm_ledger Rel) (hR : Rel k x z) {H : Heap} {locs : List Loc} {ls : Array Slot} (X : Hx A D s.heap (clX7 ax cI x ++ clX8 am cI cB z) H locs) (hl : lv_has ls 4 [(0, .ref b), (1, .ref (ax 0)), (2, .ref (am 0)), (3, .int (nI (4 * k)))])
    (hn : ∀ (x : SX7) (z : SX8) (H : Heap) (locs : List Loc), Hx A D s.heap (clX7 ax cI x ++ clX8 am cI cB z) H locs → Rel (k + 1) x z → W p l e room_1 s m #[Value.ref b] below meth c H locs 70 7008 Q (F0 m 743 ls [])) : W p l e room_1 s m #[Value.ref b] below meth c H locs 70 7008 Q (F0 m 516 ls []) := by
  have hx := B.1
  have hb := B.2.1
  have hcs : 70 ≤ room_1.cells ∧ 7008 ≤ room_1.slots := ⟨Nat.le_of_ble_eq_true rfl, Nat.le_of_ble_eq_true rfl⟩
  obtain ⟨q, r, h1, h2, hq, hR2⟩ := hS k x z (xs (nI (4 * k) + 1).toNatClampNeg) (by omega) hR
  refine lv_aload_n hx hb dL_law_516 rfl (lv_at hl 1 rfl) ?_
  refine lv_aload_n hx hb dL_law_517 rfl (lv_at hl 0 rfl) ?_
  refine lv_iload_n hx hb dL_law_518 rfl (lv_at hl 3 rfl) ?_
  refine lv_iconst (v := 1) hx hb dL_law_519 (by decide) ?_
  refine lv_iadd hx hb dL_law_520 ?_
  refine va_sld hx hb hX hbl hbA X.2.2 (law_ix (j := 1) hk hL (by decide)) dL_law_521 ?_
  refine kI X (cV (As := [.int (xs (nI (4 * k) + 1).toNatClampNeg)]) (rest := []) B X (tX7_ledger (d := 1999) (lensX (clX8 am cI cB z) ax cI) (by decide) h1) mfX7_ledger kw727 (by decide) (LnX7_g (lensX (clX8 am cI cB z) ax cI) x) rfl rfl (Nat.le_of_ble_eq_true rfl) hl.1 hcs dL_law_522) (fun H locs X => ?_)
  have X : Hx A D s.heap (clX7 ax cI x ++ clX8 am cI cB z) H locs := X
  refine lv_aload_n hx hb dL_law_525 rfl (lv_at hl 2 rfl) ?_
  refine lv_aload_n hx hb dL_law_526 rfl (lv_at hl 0 rfl) ?_
  refine lv_iload_n hx hb dL_law_527 rfl (lv_at hl 3 rfl) ?_
  refine lv_iconst (v := 1) hx hb dL_law_528 (by decide) ?_
  refine lv_iadd hx hb dL_law_529 ?_
  refine va_sld hx hb hX hbl hbA X.2.2 (law_ix (j := 1) hk hL (by decide)) dL_law_530 ?_
  refine kI X (cV (As := [.int (xs (nI (4 * k) + 1).toNatClampNeg)]) (rest := [.int q]) B X (tX8_ledger (d := 1999) (lensM (clX7 ax cI x) am cI cB) (by decide) h2) mfX8_ledger kw1255 (by decide) (LnX8_g (lensM (clX7 ax cI x) am cI cB) z) rfl rfl (Nat.le_of_ble_eq_true rfl) hl.1 hcs dL_law_531) (fun H locs X => ?_)
  have X : Hx A D s.heap (clX7 ax cI x ++ clX8 am cI cB z) H locs := X
  refine lv_icmp_eq (tgt := 743) hx hb dL_law_534 (by decide) (fun _ => ?_) (fun hc => absurd hq hc)
  exact hn _ _ _ _ X hR2
set_option maxRecDepth 100000 in
set_option maxHeartbeats 4000000 in
theorem law_15 {k : Nat} {x : SX7} {z : SX8} (B : Bd RL cL_law 4 (some .boolean) 2000 A g D [(cI, .int), (cB, .byte)] p room_1 s m #[Value.ref b] meth c) (hX : va_X b L xs s s.heap) (hbl : b < s.heap.size) (hbA : ¬ A b) (hL : L ≤ 2048) (hk : 4 * k + 4 ≤ L) (hS : Sm_spare Rel) (hR : Rel k x z) {H : Heap} {locs : List Loc} {ls : Array Slot} (X : Hx A D s.heap (clX7 ax cI x ++ clX8 am cI cB z) H locs) (hl : lv_has ls 4 [(0, .ref b), (1, .ref (ax 0)), (2, .ref (am 0)), (3, .int (nI (4 * k)))])
    (hn : ∀ (x : SX7) (z : SX8) (H : Heap) (locs : List Loc), Hx A D s.heap (clX7 ax cI x ++ clX8 am cI cB z) H locs → Rel (k + 1) x z → W p l e room_1 s m #[Value.ref b] below meth c H locs 70 7008 Q (F0 m 743 ls [])) : W p l e room_1 s m #[Value.ref b] below meth c H locs 70 7008 Q (F0 m 539 ls []) := by
  have hx := B.1
  have hb := B.2.1
  have hcs : 70 ≤ room_1.cells ∧ 7008 ≤ room_1.slots := ⟨Nat.le_of_ble_eq_true rfl, Nat.le_of_ble_eq_true rfl⟩
  obtain ⟨q, r, h1, h2, hq, hR2⟩ := hS k x z  (by omega) hR
  refine lv_aload_n hx hb dL_law_539 rfl (lv_at hl 1 rfl) ?_
  refine kI X (cV (As := []) (rest := []) B X (tX7_spare (d := 1999) (lensX (clX8 am cI cB z) ax cI) (by decide) h1) mfX7_spare kw735 (by decide) (LnX7_g (lensX (clX8 am cI cB z) ax cI) x) rfl rfl (Nat.le_of_ble_eq_true rfl) hl.1 hcs dL_law_540) (fun H locs X => ?_)
  have X : Hx A D s.heap (clX7 ax cI x ++ clX8 am cI cB z) H locs := X
  refine lv_aload_n hx hb dL_law_543 rfl (lv_at hl 2 rfl) ?_
  refine kI X (cV (As := []) (rest := [.int q]) B X (tX8_spare (d := 1999) (lensM (clX7 ax cI x) am cI cB) (by decide) h2) mfX8_spare kw1259 (by decide) (LnX8_g (lensM (clX7 ax cI x) am cI cB) z) rfl rfl (Nat.le_of_ble_eq_true rfl) hl.1 hcs dL_law_544) (fun H locs X => ?_)
  have X : Hx A D s.heap (clX7 ax cI x ++ clX8 am cI cB r.2) H locs := X
  refine lv_icmp_eq (tgt := 743) hx hb dL_law_547 (by decide) (fun _ => ?_) (fun hc => absurd hq hc)
  exact hn _ _ _ _ X hR2
set_option maxRecDepth 100000 in
set_option maxHeartbeats 4000000 in
theorem law_16 {k : Nat} {x : SX7} {z : SX8} (B : Bd RL cL_law 4 (some .boolean) 2000 A g D [(cI, .int), (cB, .byte)] p room_1 s m #[Value.ref b] meth c) (hX : va_X b L xs s s.heap) (hbl : b < s.heap.size) (hbA : ¬ A b) (hL : L ≤ 2048) (hk : 4 * k + 4 ≤ L) (hS : Sm_see Rel) (hR : Rel k x z) {H : Heap} {locs : List Loc} {ls : Array Slot} (X : Hx A D s.heap (clX7 ax cI x ++ clX8 am cI cB z) H locs) (hl : lv_has ls 4 [(0, .ref b), (1, .ref (ax 0)), (2, .ref (am 0)), (3, .int (nI (4 * k)))])
    (hn : ∀ (x : SX7) (z : SX8) (H : Heap) (locs : List Loc), Hx A D s.heap (clX7 ax cI x ++ clX8 am cI cB z) H locs → Rel (k + 1) x z → W p l e room_1 s m #[Value.ref b] below meth c H locs 70 7008 Q (F0 m 743 ls [])) : W p l e room_1 s m #[Value.ref b] below meth c H locs 70 7008 Q (F0 m 552 ls []) := by
  have hx := B.1
  have hb := B.2.1
  have hcs : 70 ≤ room_1.cells ∧ 7008 ≤ room_1.slots := ⟨Nat.le_of_ble_eq_true rfl, Nat.le_of_ble_eq_true rfl⟩
  by_cases hz : xs (nI (4 * k) + 2).toNatClampNeg = 0
  · obtain ⟨q, r, h1, h2, hq, hR2⟩ := hS k x z (xs (nI (4 * k) + 1).toNatClampNeg) 0 (by omega) (by decide) hR
    refine lv_aload_n hx hb dL_law_552 rfl (lv_at hl 1 rfl) ?_
    refine lv_aload_n hx hb dL_law_553 rfl (lv_at hl 0 rfl) ?_
    refine lv_iload_n hx hb dL_law_554 rfl (lv_at hl 3 rfl) ?_
    refine lv_iconst (v := 1) hx hb dL_law_555 (by decide) ?_
    refine lv_iadd hx hb dL_law_556 ?_
    refine va_sld hx hb hX hbl hbA X.2.2 (law_ix (j := 1) hk hL (by decide)) dL_law_557 ?_
    refine lv_aload_n hx hb dL_law_558 rfl (lv_at hl 0 rfl) ?_
    refine lv_iload_n hx hb dL_law_559 rfl (lv_at hl 3 rfl) ?_
    refine lv_iconst (v := 2) hx hb dL_law_560 (by decide) ?_
    refine lv_iadd hx hb dL_law_561 ?_
    refine va_sld hx hb hX hbl hbA X.2.2 (law_ix (j := 2) hk hL (by decide)) dL_law_562 ?_
    refine lv_if_eq (tgt := 570) hx hb dL_law_563 (by decide) (fun _ => ?_) (fun hc => absurd hz hc)
    refine lv_iconst (v := 0) hx hb dL_law_570 (by decide) ?_
    refine kI X (cV (As := [.int (xs (nI (4 * k) + 1).toNatClampNeg), .int 0]) (rest := []) B X (tX7_see (d := 1999) (lensX (clX8 am cI cB z) ax cI) (by decide) h1) mfX7_see kw743 (by decide) (LnX7_g (lensX (clX8 am cI cB z) ax cI) x) rfl rfl (Nat.le_of_ble_eq_true rfl) hl.1 hcs dL_law_571) (fun H locs X => ?_)
    have X : Hx A D s.heap (clX7 ax cI q.2 ++ clX8 am cI cB z) H locs := X
    refine lv_aload_n hx hb dL_law_574 rfl (lv_at hl 2 rfl) ?_
    refine lv_aload_n hx hb dL_law_575 rfl (lv_at hl 0 rfl) ?_
    refine lv_iload_n hx hb dL_law_576 rfl (lv_at hl 3 rfl) ?_
    refine lv_iconst (v := 1) hx hb dL_law_577 (by decide) ?_
    refine lv_iadd hx hb dL_law_578 ?_
    refine va_sld hx hb hX hbl hbA X.2.2 (law_ix (j := 1) hk hL (by decide)) dL_law_579 ?_
    refine lv_aload_n hx hb dL_law_580 rfl (lv_at hl 0 rfl) ?_
    refine lv_iload_n hx hb dL_law_581 rfl (lv_at hl 3 rfl) ?_
    refine lv_iconst (v := 2) hx hb dL_law_582 (by decide) ?_
    refine lv_iadd hx hb dL_law_583 ?_
    refine va_sld hx hb hX hbl hbA X.2.2 (law_ix (j := 2) hk hL (by decide)) dL_law_584 ?_
    refine lv_if_eq (tgt := 592) hx hb dL_law_585 (by decide) (fun _ => ?_) (fun hc => absurd hz hc)
    refine lv_iconst (v := 0) hx hb dL_law_592 (by decide) ?_
    refine kI X (cV (As := [.int (xs (nI (4 * k) + 1).toNatClampNeg), .int 0]) (rest := [.int q.1]) B X (tX8_see (d := 1999) (lensM (clX7 ax cI q.2) am cI cB) (by decide) h2) mfX8_see kw1268 (by decide) (LnX8_g (lensM (clX7 ax cI q.2) am cI cB) z) rfl rfl (Nat.le_of_ble_eq_true rfl) hl.1 hcs dL_law_593) (fun H locs X => ?_)
    have X : Hx A D s.heap (clX7 ax cI q.2 ++ clX8 am cI cB r.2) H locs := X
    refine lv_icmp_eq (tgt := 743) hx hb dL_law_596 (by decide) (fun _ => ?_) (fun hc => absurd hq hc)
    exact hn _ _ _ _ X hR2
  · obtain ⟨q, r, h1, h2, hq, hR2⟩ := hS k x z (xs (nI (4 * k) + 1).toNatClampNeg) 1 (by omega) (by decide) hR
    refine lv_aload_n hx hb dL_law_552 rfl (lv_at hl 1 rfl) ?_
    refine lv_aload_n hx hb dL_law_553 rfl (lv_at hl 0 rfl) ?_
    refine lv_iload_n hx hb dL_law_554 rfl (lv_at hl 3 rfl) ?_
    refine lv_iconst (v := 1) hx hb dL_law_555 (by decide) ?_
    refine lv_iadd hx hb dL_law_556 ?_
    refine va_sld hx hb hX hbl hbA X.2.2 (law_ix (j := 1) hk hL (by decide)) dL_law_557 ?_
    refine lv_aload_n hx hb dL_law_558 rfl (lv_at hl 0 rfl) ?_
    refine lv_iload_n hx hb dL_law_559 rfl (lv_at hl 3 rfl) ?_
    refine lv_iconst (v := 2) hx hb dL_law_560 (by decide) ?_
    refine lv_iadd hx hb dL_law_561 ?_
    refine va_sld hx hb hX hbl hbA X.2.2 (law_ix (j := 2) hk hL (by decide)) dL_law_562 ?_
    refine lv_if_eq (tgt := 570) hx hb dL_law_563 (by decide) (fun hc => absurd hc hz) (fun _ => ?_)
    refine lv_iconst (v := 1) hx hb dL_law_566 (by decide) ?_
    refine lv_goto (tgt := 571) hx hb dL_law_567 (by decide) ?_
    refine kI X (cV (As := [.int (xs (nI (4 * k) + 1).toNatClampNeg), .int 1]) (rest := []) B X (tX7_see (d := 1999) (lensX (clX8 am cI cB z) ax cI) (by decide) h1) mfX7_see kw743 (by decide) (LnX7_g (lensX (clX8 am cI cB z) ax cI) x) rfl rfl (Nat.le_of_ble_eq_true rfl) hl.1 hcs dL_law_571) (fun H locs X => ?_)
    have X : Hx A D s.heap (clX7 ax cI q.2 ++ clX8 am cI cB z) H locs := X
    refine lv_aload_n hx hb dL_law_574 rfl (lv_at hl 2 rfl) ?_
    refine lv_aload_n hx hb dL_law_575 rfl (lv_at hl 0 rfl) ?_
    refine lv_iload_n hx hb dL_law_576 rfl (lv_at hl 3 rfl) ?_
    refine lv_iconst (v := 1) hx hb dL_law_577 (by decide) ?_
    refine lv_iadd hx hb dL_law_578 ?_
    refine va_sld hx hb hX hbl hbA X.2.2 (law_ix (j := 1) hk hL (by decide)) dL_law_579 ?_
    refine lv_aload_n hx hb dL_law_580 rfl (lv_at hl 0 rfl) ?_
    refine lv_iload_n hx hb dL_law_581 rfl (lv_at hl 3 rfl) ?_
    refine lv_iconst (v := 2) hx hb dL_law_582 (by decide) ?_
    refine lv_iadd hx hb dL_law_583 ?_
    refine va_sld hx hb hX hbl hbA X.2.2 (law_ix (j := 2) hk hL (by decide)) dL_law_584 ?_
    refine lv_if_eq (tgt := 592) hx hb dL_law_585 (by decide) (fun hc => absurd hc hz) (fun _ => ?_)
    refine lv_iconst (v := 1) hx hb dL_law_588 (by decide) ?_
    refine lv_goto (tgt := 593) hx hb dL_law_589 (by decide) ?_
    refine kI X (cV (As := [.int (xs (nI (4 * k) + 1).toNatClampNeg), .int 1]) (rest := [.int q.1]) B X (tX8_see (d := 1999) (lensM (clX7 ax cI q.2) am cI cB) (by decide) h2) mfX8_see kw1268 (by decide) (LnX8_g (lensM (clX7 ax cI q.2) am cI cB) z) rfl rfl (Nat.le_of_ble_eq_true rfl) hl.1 hcs dL_law_593) (fun H locs X => ?_)
    have X : Hx A D s.heap (clX7 ax cI q.2 ++ clX8 am cI cB r.2) H locs := X
    refine lv_icmp_eq (tgt := 743) hx hb dL_law_596 (by decide) (fun _ => ?_) (fun hc => absurd hq hc)
    exact hn _ _ _ _ X hR2
set_option maxRecDepth 100000 in
set_option maxHeartbeats 4000000 in
theorem law_17 {k : Nat} {x : SX7} {z : SX8} (B : Bd RL cL_law 4 (some .boolean) 2000 A g D [(cI, .int), (cB, .byte)] p room_1 s m #[Value.ref b] meth c) (hX : va_X b L xs s s.heap) (hbl : b < s.heap.size) (hbA : ¬ A b) (hL : L ≤ 2048) (hk : 4 * k + 4 ≤ L) (hS : Sm_forget Rel) (hR : Rel k x z) {H : Heap} {locs : List Loc} {ls : Array Slot} (X : Hx A D s.heap (clX7 ax cI x ++ clX8 am cI cB z) H locs) (hl : lv_has ls 4 [(0, .ref b), (1, .ref (ax 0)), (2, .ref (am 0)), (3, .int (nI (4 * k)))])
    (hn : ∀ (x : SX7) (z : SX8) (H : Heap) (locs : List Loc), Hx A D s.heap (clX7 ax cI x ++ clX8 am cI cB z) H locs → Rel (k + 1) x z → W p l e room_1 s m #[Value.ref b] below meth c H locs 70 7008 Q (F0 m 743 ls [])) : W p l e room_1 s m #[Value.ref b] below meth c H locs 70 7008 Q (F0 m 601 ls []) := by
  have hx := B.1
  have hb := B.2.1
  have hcs : 70 ≤ room_1.cells ∧ 7008 ≤ room_1.slots := ⟨Nat.le_of_ble_eq_true rfl, Nat.le_of_ble_eq_true rfl⟩
  obtain ⟨q, r, h1, h2, hq, hR2⟩ := hS k x z  (by omega) hR
  refine lv_aload_n hx hb dL_law_601 rfl (lv_at hl 1 rfl) ?_
  refine kI X (cV (As := []) (rest := []) B X (tX7_forget (d := 1999) (lensX (clX8 am cI cB z) ax cI) (by decide) h1) mfX7_forget kw755 (by decide) (LnX7_g (lensX (clX8 am cI cB z) ax cI) x) rfl rfl (Nat.le_of_ble_eq_true rfl) hl.1 hcs dL_law_602) (fun H locs X => ?_)
  have X : Hx A D s.heap (clX7 ax cI q.2 ++ clX8 am cI cB z) H locs := X
  refine lv_aload_n hx hb dL_law_605 rfl (lv_at hl 2 rfl) ?_
  refine kI X (cV (As := []) (rest := [.int q.1]) B X (tX8_forget (d := 1999) (lensM (clX7 ax cI q.2) am cI cB) (by decide) h2) mfX8_forget kw1272 (by decide) (LnX8_g (lensM (clX7 ax cI q.2) am cI cB) z) rfl rfl (Nat.le_of_ble_eq_true rfl) hl.1 hcs dL_law_606) (fun H locs X => ?_)
  have X : Hx A D s.heap (clX7 ax cI q.2 ++ clX8 am cI cB r.2) H locs := X
  refine lv_icmp_eq (tgt := 743) hx hb dL_law_609 (by decide) (fun _ => ?_) (fun hc => absurd hq hc)
  exact hn _ _ _ _ X hR2
set_option maxRecDepth 100000 in
set_option maxHeartbeats 4000000 in
theorem law_18 {k : Nat} {x : SX7} {z : SX8} (B : Bd RL cL_law 4 (some .boolean) 2000 A g D [(cI, .int), (cB, .byte)] p room_1 s m #[Value.ref b] meth c) (hX : va_X b L xs s s.heap) (hbl : b < s.heap.size) (hbA : ¬ A b) (hL : L ≤ 2048) (hk : 4 * k + 4 ≤ L) (hS : Sm_sorts Rel) (hR : Rel k x z) {H : Heap} {locs : List Loc} {ls : Array Slot} (X : Hx A D s.heap (clX7 ax cI x ++ clX8 am cI cB z) H locs) (hl : lv_has ls 4 [(0, .ref b), (1, .ref (ax 0)), (2, .ref (am 0)), (3, .int (nI (4 * k)))])
    (hn : ∀ (x : SX7) (z : SX8) (H : Heap) (locs : List Loc), Hx A D s.heap (clX7 ax cI x ++ clX8 am cI cB z) H locs → Rel (k + 1) x z → W p l e room_1 s m #[Value.ref b] below meth c H locs 70 7008 Q (F0 m 743 ls [])) : W p l e room_1 s m #[Value.ref b] below meth c H locs 70 7008 Q (F0 m 614 ls []) := by
  have hx := B.1
  have hb := B.2.1
  have hcs : 70 ≤ room_1.cells ∧ 7008 ≤ room_1.slots := ⟨Nat.le_of_ble_eq_true rfl, Nat.le_of_ble_eq_true rfl⟩
  obtain ⟨q, r, h1, h2, hq, hR2⟩ := hS k x z (xs (nI (4 * k) + 1).toNatClampNeg) (by omega) hR
  refine lv_aload_n hx hb dL_law_614 rfl (lv_at hl 1 rfl) ?_
  refine lv_aload_n hx hb dL_law_615 rfl (lv_at hl 0 rfl) ?_
  refine lv_iload_n hx hb dL_law_616 rfl (lv_at hl 3 rfl) ?_
  refine lv_iconst (v := 1) hx hb dL_law_617 (by decide) ?_
  refine lv_iadd hx hb dL_law_618 ?_
  refine va_sld hx hb hX hbl hbA X.2.2 (law_ix (j := 1) hk hL (by decide)) dL_law_619 ?_
  refine kI X (cV (As := [.int (xs (nI (4 * k) + 1).toNatClampNeg)]) (rest := []) B X (tX7_sorts (d := 1999) (lensX (clX8 am cI cB z) ax cI) (by decide) h1) mfX7_sorts kw759 (by decide) (LnX7_g (lensX (clX8 am cI cB z) ax cI) x) rfl rfl (Nat.le_of_ble_eq_true rfl) hl.1 hcs dL_law_620) (fun H locs X => ?_)
  have X : Hx A D s.heap (clX7 ax cI x ++ clX8 am cI cB z) H locs := X
  refine lv_aload_n hx hb dL_law_623 rfl (lv_at hl 2 rfl) ?_
  refine lv_aload_n hx hb dL_law_624 rfl (lv_at hl 0 rfl) ?_
  refine lv_iload_n hx hb dL_law_625 rfl (lv_at hl 3 rfl) ?_
  refine lv_iconst (v := 1) hx hb dL_law_626 (by decide) ?_
  refine lv_iadd hx hb dL_law_627 ?_
  refine va_sld hx hb hX hbl hbA X.2.2 (law_ix (j := 1) hk hL (by decide)) dL_law_628 ?_
  refine kI X (cV (As := [.int (xs (nI (4 * k) + 1).toNatClampNeg)]) (rest := [.int q]) B X (tX8_sorts (d := 1999) (lensM (clX7 ax cI x) am cI cB) (by decide) h2) mfX8_sorts kw1276 (by decide) (LnX8_g (lensM (clX7 ax cI x) am cI cB) z) rfl rfl (Nat.le_of_ble_eq_true rfl) hl.1 hcs dL_law_629) (fun H locs X => ?_)
  have X : Hx A D s.heap (clX7 ax cI x ++ clX8 am cI cB z) H locs := X
  refine lv_icmp_eq (tgt := 743) hx hb dL_law_632 (by decide) (fun _ => ?_) (fun hc => absurd hq hc)
  exact hn _ _ _ _ X hR2
set_option maxRecDepth 100000 in
set_option maxHeartbeats 4000000 in
theorem law_19 {k : Nat} {x : SX7} {z : SX8} (B : Bd RL cL_law 4 (some .boolean) 2000 A g D [(cI, .int), (cB, .byte)] p room_1 s m #[Value.ref b] meth c) (hX : va_X b L xs s s.heap) (hbl : b < s.heap.size) (hbA : ¬ A b) (hL : L ≤ 2048) (hk : 4 * k + 4 ≤ L) (hS : Sm_drawn Rel) (hR : Rel k x z) {H : Heap} {locs : List Loc} {ls : Array Slot} (X : Hx A D s.heap (clX7 ax cI x ++ clX8 am cI cB z) H locs) (hl : lv_has ls 4 [(0, .ref b), (1, .ref (ax 0)), (2, .ref (am 0)), (3, .int (nI (4 * k)))])
    (hn : ∀ (x : SX7) (z : SX8) (H : Heap) (locs : List Loc), Hx A D s.heap (clX7 ax cI x ++ clX8 am cI cB z) H locs → Rel (k + 1) x z → W p l e room_1 s m #[Value.ref b] below meth c H locs 70 7008 Q (F0 m 743 ls [])) : W p l e room_1 s m #[Value.ref b] below meth c H locs 70 7008 Q (F0 m 637 ls []) := by
  have hx := B.1
  have hb := B.2.1
  have hcs : 70 ≤ room_1.cells ∧ 7008 ≤ room_1.slots := ⟨Nat.le_of_ble_eq_true rfl, Nat.le_of_ble_eq_true rfl⟩
  obtain ⟨q, r, h1, h2, hq, hR2⟩ := hS k x z (xs (nI (4 * k) + 1).toNatClampNeg) (xs (nI (4 * k) + 2).toNatClampNeg) (xs (nI (4 * k) + 3).toNatClampNeg) (by omega) hR
  refine lv_aload_n hx hb dL_law_637 rfl (lv_at hl 1 rfl) ?_
  refine lv_aload_n hx hb dL_law_638 rfl (lv_at hl 0 rfl) ?_
  refine lv_iload_n hx hb dL_law_639 rfl (lv_at hl 3 rfl) ?_
  refine lv_iconst (v := 1) hx hb dL_law_640 (by decide) ?_
  refine lv_iadd hx hb dL_law_641 ?_
  refine va_sld hx hb hX hbl hbA X.2.2 (law_ix (j := 1) hk hL (by decide)) dL_law_642 ?_
  refine lv_aload_n hx hb dL_law_643 rfl (lv_at hl 0 rfl) ?_
  refine lv_iload_n hx hb dL_law_644 rfl (lv_at hl 3 rfl) ?_
  refine lv_iconst (v := 2) hx hb dL_law_645 (by decide) ?_
  refine lv_iadd hx hb dL_law_646 ?_
  refine va_sld hx hb hX hbl hbA X.2.2 (law_ix (j := 2) hk hL (by decide)) dL_law_647 ?_
  refine lv_aload_n hx hb dL_law_648 rfl (lv_at hl 0 rfl) ?_
  refine lv_iload_n hx hb dL_law_649 rfl (lv_at hl 3 rfl) ?_
  refine lv_iconst (v := 3) hx hb dL_law_650 (by decide) ?_
  refine lv_iadd hx hb dL_law_651 ?_
  refine va_sld hx hb hX hbl hbA X.2.2 (law_ix (j := 3) hk hL (by decide)) dL_law_652 ?_
  refine kI X (cV (As := [.int (xs (nI (4 * k) + 1).toNatClampNeg), .int (xs (nI (4 * k) + 2).toNatClampNeg), .int (xs (nI (4 * k) + 3).toNatClampNeg)]) (rest := []) B X (tX7_drawn (d := 1999) (lensX (clX8 am cI cB z) ax cI) (by decide) h1) mfX7_drawn kw769 (by decide) (LnX7_g (lensX (clX8 am cI cB z) ax cI) x) rfl rfl (Nat.le_of_ble_eq_true rfl) hl.1 hcs dL_law_653) (fun H locs X => ?_)
  have X : Hx A D s.heap (clX7 ax cI q.2 ++ clX8 am cI cB z) H locs := X
  refine lv_aload_n hx hb dL_law_656 rfl (lv_at hl 2 rfl) ?_
  refine lv_aload_n hx hb dL_law_657 rfl (lv_at hl 0 rfl) ?_
  refine lv_iload_n hx hb dL_law_658 rfl (lv_at hl 3 rfl) ?_
  refine lv_iconst (v := 1) hx hb dL_law_659 (by decide) ?_
  refine lv_iadd hx hb dL_law_660 ?_
  refine va_sld hx hb hX hbl hbA X.2.2 (law_ix (j := 1) hk hL (by decide)) dL_law_661 ?_
  refine lv_aload_n hx hb dL_law_662 rfl (lv_at hl 0 rfl) ?_
  refine lv_iload_n hx hb dL_law_663 rfl (lv_at hl 3 rfl) ?_
  refine lv_iconst (v := 2) hx hb dL_law_664 (by decide) ?_
  refine lv_iadd hx hb dL_law_665 ?_
  refine va_sld hx hb hX hbl hbA X.2.2 (law_ix (j := 2) hk hL (by decide)) dL_law_666 ?_
  refine lv_aload_n hx hb dL_law_667 rfl (lv_at hl 0 rfl) ?_
  refine lv_iload_n hx hb dL_law_668 rfl (lv_at hl 3 rfl) ?_
  refine lv_iconst (v := 3) hx hb dL_law_669 (by decide) ?_
  refine lv_iadd hx hb dL_law_670 ?_
  refine va_sld hx hb hX hbl hbA X.2.2 (law_ix (j := 3) hk hL (by decide)) dL_law_671 ?_
  refine kI X (cV (As := [.int (xs (nI (4 * k) + 1).toNatClampNeg), .int (xs (nI (4 * k) + 2).toNatClampNeg), .int (xs (nI (4 * k) + 3).toNatClampNeg)]) (rest := [.int q.1]) B X (tX8_drawn (d := 1999) (lensM (clX7 ax cI q.2) am cI cB) (by decide) h2) mfX8_drawn kw1291 (by decide) (LnX8_g (lensM (clX7 ax cI q.2) am cI cB) z) rfl rfl (Nat.le_of_ble_eq_true rfl) hl.1 hcs dL_law_672) (fun H locs X => ?_)
  have X : Hx A D s.heap (clX7 ax cI q.2 ++ clX8 am cI cB r.2) H locs := X
  refine lv_icmp_eq (tgt := 743) hx hb dL_law_675 (by decide) (fun _ => ?_) (fun hc => absurd hq hc)
  exact hn _ _ _ _ X hR2
set_option maxRecDepth 100000 in
set_option maxHeartbeats 4000000 in
theorem law_20 {k : Nat} {x : SX7} {z : SX8} (B : Bd RL cL_law 4 (some .boolean) 2000 A g D [(cI, .int), (cB, .byte)] p room_1 s m #[Value.ref b] meth c) (hX : va_X b L xs s s.heap) (hbl : b < s.heap.size) (hbA : ¬ A b) (hL : L ≤ 2048) (hk : 4 * k + 4 ≤ L) (hS : Sm_image Rel) (hR : Rel k x z) {H : Heap} {locs : List Loc} {ls : Array Slot} (X : Hx A D s.heap (clX7 ax cI x ++ clX8 am cI cB z) H locs) (hl : lv_has ls 4 [(0, .ref b), (1, .ref (ax 0)), (2, .ref (am 0)), (3, .int (nI (4 * k)))])
    (hn : ∀ (x : SX7) (z : SX8) (H : Heap) (locs : List Loc), Hx A D s.heap (clX7 ax cI x ++ clX8 am cI cB z) H locs → Rel (k + 1) x z → W p l e room_1 s m #[Value.ref b] below meth c H locs 70 7008 Q (F0 m 743 ls [])) : W p l e room_1 s m #[Value.ref b] below meth c H locs 70 7008 Q (F0 m 680 ls []) := by
  have hx := B.1
  have hb := B.2.1
  have hcs : 70 ≤ room_1.cells ∧ 7008 ≤ room_1.slots := ⟨Nat.le_of_ble_eq_true rfl, Nat.le_of_ble_eq_true rfl⟩
  obtain ⟨q, r, h1, h2, hq, hR2⟩ := hS k x z  (by omega) hR
  refine lv_aload_n hx hb dL_law_680 rfl (lv_at hl 1 rfl) ?_
  refine kI X (cV (As := []) (rest := []) B X (tX7_image (d := 1999) (lensX (clX8 am cI cB z) ax cI) (by decide) h1) mfX7_image kw782 (by decide) (LnX7_g (lensX (clX8 am cI cB z) ax cI) x) rfl rfl (Nat.le_of_ble_eq_true rfl) hl.1 hcs dL_law_681) (fun H locs X => ?_)
  have X : Hx A D s.heap (clX7 ax cI q.2 ++ clX8 am cI cB z) H locs := X
  refine lv_aload_n hx hb dL_law_684 rfl (lv_at hl 2 rfl) ?_
  refine kI X (cV (As := []) (rest := [.int q.1]) B X (tX8_image (d := 1999) (lensM (clX7 ax cI q.2) am cI cB) (by decide) h2) mfX8_image kw1307 (by decide) (LnX8_g (lensM (clX7 ax cI q.2) am cI cB) z) rfl rfl (Nat.le_of_ble_eq_true rfl) hl.1 hcs dL_law_685) (fun H locs X => ?_)
  have X : Hx A D s.heap (clX7 ax cI q.2 ++ clX8 am cI cB r.2) H locs := X
  refine lv_icmp_eq (tgt := 743) hx hb dL_law_688 (by decide) (fun _ => ?_) (fun hc => absurd hq hc)
  exact hn _ _ _ _ X hR2
set_option maxRecDepth 100000 in
set_option maxHeartbeats 4000000 in
theorem law_21 {k : Nat} {x : SX7} {z : SX8} (B : Bd RL cL_law 4 (some .boolean) 2000 A g D [(cI, .int), (cB, .byte)] p room_1 s m #[Value.ref b] meth c) (hX : va_X b L xs s s.heap) (hbl : b < s.heap.size) (hbA : ¬ A b) (hL : L ≤ 2048) (hk : 4 * k + 4 ≤ L) (hS : Sm_restore Rel) (hR : Rel k x z) {H : Heap} {locs : List Loc} {ls : Array Slot} (X : Hx A D s.heap (clX7 ax cI x ++ clX8 am cI cB z) H locs) (hl : lv_has ls 4 [(0, .ref b), (1, .ref (ax 0)), (2, .ref (am 0)), (3, .int (nI (4 * k)))])
    (hn : ∀ (x : SX7) (z : SX8) (H : Heap) (locs : List Loc), Hx A D s.heap (clX7 ax cI x ++ clX8 am cI cB z) H locs → Rel (k + 1) x z → W p l e room_1 s m #[Value.ref b] below meth c H locs 70 7008 Q (F0 m 743 ls [])) : W p l e room_1 s m #[Value.ref b] below meth c H locs 70 7008 Q (F0 m 693 ls []) := by
  have hx := B.1
  have hb := B.2.1
  have hcs : 70 ≤ room_1.cells ∧ 7008 ≤ room_1.slots := ⟨Nat.le_of_ble_eq_true rfl, Nat.le_of_ble_eq_true rfl⟩
  obtain ⟨q, r, h1, h2, hq, hR2⟩ := hS k x z  (by omega) hR
  refine lv_aload_n hx hb dL_law_693 rfl (lv_at hl 1 rfl) ?_
  refine kI X (cV (As := []) (rest := []) B X (tX7_restore (d := 1999) (lensX (clX8 am cI cB z) ax cI) (by decide) h1) mfX7_restore kw800 (by decide) (LnX7_g (lensX (clX8 am cI cB z) ax cI) x) rfl rfl (Nat.le_of_ble_eq_true rfl) hl.1 hcs dL_law_694) (fun H locs X => ?_)
  have X : Hx A D s.heap (clX7 ax cI q.2 ++ clX8 am cI cB z) H locs := X
  refine lv_aload_n hx hb dL_law_697 rfl (lv_at hl 2 rfl) ?_
  refine kI X (cV (As := []) (rest := [.int q.1]) B X (tX8_restore (d := 1999) (lensM (clX7 ax cI q.2) am cI cB) (by decide) h2) mfX8_restore kw1311 (by decide) (LnX8_g (lensM (clX7 ax cI q.2) am cI cB) z) rfl rfl (Nat.le_of_ble_eq_true rfl) hl.1 hcs dL_law_698) (fun H locs X => ?_)
  have X : Hx A D s.heap (clX7 ax cI q.2 ++ clX8 am cI cB r.2) H locs := X
  refine lv_icmp_eq (tgt := 743) hx hb dL_law_701 (by decide) (fun _ => ?_) (fun hc => absurd hq hc)
  exact hn _ _ _ _ X hR2
set_option maxRecDepth 100000 in
set_option maxHeartbeats 4000000 in
theorem law_22 {k : Nat} {x : SX7} {z : SX8} (B : Bd RL cL_law 4 (some .boolean) 2000 A g D [(cI, .int), (cB, .byte)] p room_1 s m #[Value.ref b] meth c) (hX : va_X b L xs s s.heap) (hbl : b < s.heap.size) (hbA : ¬ A b) (hL : L ≤ 2048) (hk : 4 * k + 4 ≤ L) (hS : Sm_count Rel) (hR : Rel k x z) {H : Heap} {locs : List Loc} {ls : Array Slot} (X : Hx A D s.heap (clX7 ax cI x ++ clX8 am cI cB z) H locs) (hl : lv_has ls 4 [(0, .ref b), (1, .ref (ax 0)), (2, .ref (am 0)), (3, .int (nI (4 * k)))])
    (hn : ∀ (x : SX7) (z : SX8) (H : Heap) (locs : List Loc), Hx A D s.heap (clX7 ax cI x ++ clX8 am cI cB z) H locs → Rel (k + 1) x z → W p l e room_1 s m #[Value.ref b] below meth c H locs 70 7008 Q (F0 m 743 ls [])) : W p l e room_1 s m #[Value.ref b] below meth c H locs 70 7008 Q (F0 m 706 ls []) := by
  have hx := B.1
  have hb := B.2.1
  have hcs : 70 ≤ room_1.cells ∧ 7008 ≤ room_1.slots := ⟨Nat.le_of_ble_eq_true rfl, Nat.le_of_ble_eq_true rfl⟩
  obtain ⟨q, r, h1, h2, hq, hR2⟩ := hS k x z (xs (nI (4 * k) + 1).toNatClampNeg) (by omega) hR
  refine lv_aload_n hx hb dL_law_706 rfl (lv_at hl 1 rfl) ?_
  refine lv_aload_n hx hb dL_law_707 rfl (lv_at hl 0 rfl) ?_
  refine lv_iload_n hx hb dL_law_708 rfl (lv_at hl 3 rfl) ?_
  refine lv_iconst (v := 1) hx hb dL_law_709 (by decide) ?_
  refine lv_iadd hx hb dL_law_710 ?_
  refine va_sld hx hb hX hbl hbA X.2.2 (law_ix (j := 1) hk hL (by decide)) dL_law_711 ?_
  refine kI X (cV (As := [.int (xs (nI (4 * k) + 1).toNatClampNeg)]) (rest := []) B X (tX7_count (d := 1999) (lensX (clX8 am cI cB z) ax cI) (by decide) h1) mfX7_count kw804 (by decide) (LnX7_g (lensX (clX8 am cI cB z) ax cI) x) rfl rfl (Nat.le_of_ble_eq_true rfl) hl.1 hcs dL_law_712) (fun H locs X => ?_)
  have X : Hx A D s.heap (clX7 ax cI x ++ clX8 am cI cB z) H locs := X
  refine lv_aload_n hx hb dL_law_715 rfl (lv_at hl 2 rfl) ?_
  refine lv_aload_n hx hb dL_law_716 rfl (lv_at hl 0 rfl) ?_
  refine lv_iload_n hx hb dL_law_717 rfl (lv_at hl 3 rfl) ?_
  refine lv_iconst (v := 1) hx hb dL_law_718 (by decide) ?_
  refine lv_iadd hx hb dL_law_719 ?_
  refine va_sld hx hb hX hbl hbA X.2.2 (law_ix (j := 1) hk hL (by decide)) dL_law_720 ?_
  refine kI X (cV (As := [.int (xs (nI (4 * k) + 1).toNatClampNeg)]) (rest := [.int q]) B X (tX8_count (d := 1999) (lensM (clX7 ax cI x) am cI cB) (by decide) h2) mfX8_count kw1315 (by decide) (LnX8_g (lensM (clX7 ax cI x) am cI cB) z) rfl rfl (Nat.le_of_ble_eq_true rfl) hl.1 hcs dL_law_721) (fun H locs X => ?_)
  have X : Hx A D s.heap (clX7 ax cI x ++ clX8 am cI cB z) H locs := X
  refine lv_icmp_eq (tgt := 743) hx hb dL_law_724 (by decide) (fun _ => ?_) (fun hc => absurd hq hc)
  exact hn _ _ _ _ X hR2
set_option maxRecDepth 100000 in
set_option maxHeartbeats 4000000 in
theorem law_23 {k : Nat} {x : SX7} {z : SX8} (B : Bd RL cL_law 4 (some .boolean) 2000 A g D [(cI, .int), (cB, .byte)] p room_1 s m #[Value.ref b] meth c) (hX : va_X b L xs s s.heap) (hbl : b < s.heap.size) (hbA : ¬ A b) (hL : L ≤ 2048) (hk : 4 * k + 4 ≤ L) (hS : Sm_digest Rel) (hR : Rel k x z) {H : Heap} {locs : List Loc} {ls : Array Slot} (X : Hx A D s.heap (clX7 ax cI x ++ clX8 am cI cB z) H locs) (hl : lv_has ls 4 [(0, .ref b), (1, .ref (ax 0)), (2, .ref (am 0)), (3, .int (nI (4 * k)))])
    (hn : ∀ (x : SX7) (z : SX8) (H : Heap) (locs : List Loc), Hx A D s.heap (clX7 ax cI x ++ clX8 am cI cB z) H locs → Rel (k + 1) x z → W p l e room_1 s m #[Value.ref b] below meth c H locs 70 7008 Q (F0 m 743 ls [])) : W p l e room_1 s m #[Value.ref b] below meth c H locs 70 7008 Q (F0 m 729 ls []) := by
  have hx := B.1
  have hb := B.2.1
  have hcs : 70 ≤ room_1.cells ∧ 7008 ≤ room_1.slots := ⟨Nat.le_of_ble_eq_true rfl, Nat.le_of_ble_eq_true rfl⟩
  obtain ⟨q, r, h1, h2, hq, hR2⟩ := hS k x z  (by omega) hR
  refine lv_aload_n hx hb dL_law_729 rfl (lv_at hl 1 rfl) ?_
  refine kJ X (cV (As := []) (rest := []) B X (tX7_digest (d := 1999) (lensX (clX8 am cI cB z) ax cI) (by decide) h1) mfX7_digest kw817 (by decide) (LnX7_g (lensX (clX8 am cI cB z) ax cI) x) rfl rfl (Nat.le_of_ble_eq_true rfl) hl.1 hcs dL_law_730) (fun H locs X => ?_)
  have X : Hx A D s.heap (clX7 ax cI x ++ clX8 am cI cB z) H locs := X
  refine lv_aload_n hx hb dL_law_733 rfl (lv_at hl 2 rfl) ?_
  refine kJ X (cV (As := []) (rest := [.long q]) B X (tX8_digest (d := 1999) (lensM (clX7 ax cI x) am cI cB) (by decide) h2) mfX8_digest kw1331 (by decide) (LnX8_g (lensM (clX7 ax cI x) am cI cB) z) rfl rfl (Nat.le_of_ble_eq_true rfl) hl.1 hcs dL_law_734) (fun H locs X => ?_)
  have X : Hx A D s.heap (clX7 ax cI x ++ clX8 am cI cB r.2) H locs := X
  refine W.lcmp hx hb dL_law_737 ?_
  refine lv_if_eq (tgt := 743) hx hb dL_law_738 (by decide) (fun _ => ?_) (fun hc => ?_)
  · exact hn _ _ _ _ X hR2
  · exact absurd (by rw [hq]; exact lg_cmp_self _) hc
theorem law_le {L k : Nat} (hL : L ≤ 2048) (hk : 4 * k ≤ L + 3) (h : ¬ (nI L - 4 < nI (4 * k))) : 4 * k + 4 ≤ L := by
  have e1 : (nI L - nI 4).toInt = (L : Int) - 4 := pk_sub_toInt (by omega) (by omega)
  have e2 : (nI (4 * k)).toInt = ((4 * k : Nat) : Int) := nI_toInt (by omega)
  have h2 : ¬ (nI L - nI 4).toInt < (nI (4 * k)).toInt := fun q => h (Int32.lt_iff_toInt_lt.mpr q)
  rw [e1, e2] at h2
  omega
set_option maxRecDepth 100000 in
set_option maxHeartbeats 4000000 in
theorem law_loop (B : Bd RL cL_law 4 (some .boolean) 2000 A g D [(cI, .int), (cB, .byte)] p room_1 s m #[Value.ref b] meth c) (hX : va_X b L xs s s.heap) (hbl : b < s.heap.size) (hbA : ¬ A b) (hA : ∀ q, A q → s.heap.size ≤ q) (hL : L ≤ 2048) (hS : Sm Rel) (hr : meth.sig.returnType = ret) (hlocks : meth.locks = false) :
    ∀ (n k : Nat) (x : SX7) (z : SX8) (H : Heap) (locs : List Loc) (ls : Array Slot), k + n = 600 → 4 * k ≤ L + 3 → Rel k x z → Hx A D s.heap (clX7 ax cI x ++ clX8 am cI cB z) H locs → lv_has ls 4 [(0, .ref b), (1, .ref (ax 0)), (2, .ref (am 0)), (3, .int (nI (4 * k)))] → W p l e room_1 s m #[Value.ref b] below meth c H locs 70 7008 (lw_Z below #[Value.ref b] s) (F0 m 18 ls []) := by
  have hx := B.1
  have hb := B.2.1
  obtain ⟨hN, s0, s1, s2, s3, s4, s5, s6, s7, s8, s9, s10, s11, s12, s13, s14, s15, s16, s17, s18, s19, s20, s21, s22, s23⟩ := hS
  intro n
  induction n with
  | zero =>
    intro k x z H locs ls h1 h2
    omega
  | succ n ih =>
    intro k x z H locs ls hkn hk4 hR X hl
    refine lv_iload_n hx hb dL_law_18 rfl (lv_at hl 3 rfl) ?_
    refine lv_aload_n hx hb dL_law_19 rfl (lv_at hl 0 rfl) ?_
    refine va_slen hx hb hX hbl hbA X.2.2 dL_law_20 ?_
    refine lv_iconst (v := 4) hx hb dL_law_21 (by decide) ?_
    refine lv_isub hx hb dL_law_22 ?_
    refine lv_icmp_gt (tgt := 749) hx hb dL_law_23 (by decide) (fun hc => ?_) (fun hc => ?_)
    · refine lv_iconst (v := 1) hx hb dL_law_749 (by decide) ?_
      refine va_forget (fun q hq => hA _ (X.2.2.2.2 q hq)) ?_
      refine W.widen (k := 600000) (n := 7302250) (Nat.le_of_ble_eq_true rfl) (Nat.le_of_ble_eq_true rfl) ?_
      exact lw_ret hx hb hr hlocks dL_law_750
    · have hk : 4 * k + 4 ≤ L := law_le hL hk4 hc
      have hn : ∀ (x : SX7) (z : SX8) (H : Heap) (locs : List Loc), Hx A D s.heap (clX7 ax cI x ++ clX8 am cI cB z) H locs → Rel (k + 1) x z → W p l e room_1 s m #[Value.ref b] below meth c H locs 70 7008 (lw_Z below #[Value.ref b] s) (F0 m 743 ls []) := by
        intro x z H locs X hR
        refine lv_iinc (v := nI (4 * (k + 1))) (lv' := [(3, .int (nI (4 * (k + 1)))), (0, .ref b), (1, .ref (ax 0)), (2, .ref (am 0))]) hx hb dL_law_743 hl (k := 3) rfl (nI_add (4 * k) 4) (by decide) rfl (fun ls hl => ?_)
        refine lv_goto (tgt := 18) hx hb dL_law_746 (by decide) ?_
        exact ih (k + 1) x z H locs ls (by omega) (by omega) hR X (lv_sub hl [1, 2, 3, 0] rfl)
      refine lv_aload_n hx hb dL_law_26 rfl (lv_at hl 0 rfl) ?_
      refine lv_iload_n hx hb dL_law_27 rfl (lv_at hl 3 rfl) ?_
      refine va_sld hx hb hX hbl hbA X.2.2 (vp_in_nI (by omega) (by omega)) dL_law_28 ?_
      refine lv_bipush (v := 31) hx hb dL_law_29 (by decide) ?_
      refine lv_iand hx hb dL_law_31 ?_
      refine lv_topi (fun y ey => ?_)
      by_cases c0 : y = 0
      · refine lv_tableIn (off := 112) (tgt := 144) hx hb dL_law_32 (by rw [c0]; decide) (by rw [c0]; decide) (by rw [c0]; rfl) (by decide) ?_
        exact law_0 B hX hbl hbA hL hk s0 hR X hl hn
      by_cases c1 : y = 1
      · refine lv_tableIn (off := 135) (tgt := 167) hx hb dL_law_32 (by rw [c1]; decide) (by rw [c1]; decide) (by rw [c1]; rfl) (by decide) ?_
        exact law_1 B hX hbl hbA hL hk s1 hR X hl hn
      by_cases c2 : y = 2
      · refine lv_tableIn (off := 148) (tgt := 180) hx hb dL_law_32 (by rw [c2]; decide) (by rw [c2]; decide) (by rw [c2]; rfl) (by decide) ?_
        exact law_2 B hX hbl hbA hL hk s2 hR X hl hn
      by_cases c3 : y = 3
      · refine lv_tableIn (off := 161) (tgt := 193) hx hb dL_law_32 (by rw [c3]; decide) (by rw [c3]; decide) (by rw [c3]; rfl) (by decide) ?_
        exact law_3 B hX hbl hbA hL hk s3 hR X hl hn
      by_cases c4 : y = 4
      · refine lv_tableIn (off := 174) (tgt := 206) hx hb dL_law_32 (by rw [c4]; decide) (by rw [c4]; decide) (by rw [c4]; rfl) (by decide) ?_
        exact law_4 B hX hbl hbA hL hk s4 hR X hl hn
      by_cases c5 : y = 5
      · refine lv_tableIn (off := 217) (tgt := 249) hx hb dL_law_32 (by rw [c5]; decide) (by rw [c5]; decide) (by rw [c5]; rfl) (by decide) ?_
        exact law_5 B hX hbl hbA hL hk s5 hR X hl hn
      by_cases c6 : y = 6
      · refine lv_tableIn (off := 240) (tgt := 272) hx hb dL_law_32 (by rw [c6]; decide) (by rw [c6]; decide) (by rw [c6]; rfl) (by decide) ?_
        exact law_6 B hX hbl hbA hL hk s6 hR X hl hn
      by_cases c7 : y = 7
      · refine lv_tableIn (off := 273) (tgt := 305) hx hb dL_law_32 (by rw [c7]; decide) (by rw [c7]; decide) (by rw [c7]; rfl) (by decide) ?_
        exact law_7 B hX hbl hbA hL hk s7 hR X hl hn
      by_cases c8 : y = 8
      · refine lv_tableIn (off := 306) (tgt := 338) hx hb dL_law_32 (by rw [c8]; decide) (by rw [c8]; decide) (by rw [c8]; rfl) (by decide) ?_
        exact law_8 B hX hbl hbA hL hk s8 hR X hl hn
      by_cases c9 : y = 9
      · refine lv_tableIn (off := 349) (tgt := 381) hx hb dL_law_32 (by rw [c9]; decide) (by rw [c9]; decide) (by rw [c9]; rfl) (by decide) ?_
        exact law_9 B hX hbl hbA hL hk s9 hR X hl hn
      by_cases c10 : y = 10
      · refine lv_tableIn (off := 372) (tgt := 404) hx hb dL_law_32 (by rw [c10]; decide) (by rw [c10]; decide) (by rw [c10]; rfl) (by decide) ?_
        exact law_10 B hX hbl hbA hL hk s10 hR X hl hn
      by_cases c11 : y = 11
      · refine lv_tableIn (off := 395) (tgt := 427) hx hb dL_law_32 (by rw [c11]; decide) (by rw [c11]; decide) (by rw [c11]; rfl) (by decide) ?_
        exact law_11 B hX hbl hbA hL hk s11 hR X hl hn
      by_cases c12 : y = 12
      · refine lv_tableIn (off := 418) (tgt := 450) hx hb dL_law_32 (by rw [c12]; decide) (by rw [c12]; decide) (by rw [c12]; rfl) (by decide) ?_
        exact law_12 B hX hbl hbA hL hk s12 hR X hl hn
      by_cases c13 : y = 13
      · refine lv_tableIn (off := 451) (tgt := 483) hx hb dL_law_32 (by rw [c13]; decide) (by rw [c13]; decide) (by rw [c13]; rfl) (by decide) ?_
        exact law_13 B hX hbl hbA hL hk s13 hR X hl hn
      by_cases c14 : y = 14
      · refine lv_tableIn (off := 484) (tgt := 516) hx hb dL_law_32 (by rw [c14]; decide) (by rw [c14]; decide) (by rw [c14]; rfl) (by decide) ?_
        exact law_14 B hX hbl hbA hL hk s14 hR X hl hn
      by_cases c15 : y = 15
      · refine lv_tableIn (off := 507) (tgt := 539) hx hb dL_law_32 (by rw [c15]; decide) (by rw [c15]; decide) (by rw [c15]; rfl) (by decide) ?_
        exact law_15 B hX hbl hbA hL hk s15 hR X hl hn
      by_cases c16 : y = 16
      · refine lv_tableIn (off := 520) (tgt := 552) hx hb dL_law_32 (by rw [c16]; decide) (by rw [c16]; decide) (by rw [c16]; rfl) (by decide) ?_
        exact law_16 B hX hbl hbA hL hk s16 hR X hl hn
      by_cases c17 : y = 17
      · refine lv_tableIn (off := 569) (tgt := 601) hx hb dL_law_32 (by rw [c17]; decide) (by rw [c17]; decide) (by rw [c17]; rfl) (by decide) ?_
        exact law_17 B hX hbl hbA hL hk s17 hR X hl hn
      by_cases c18 : y = 18
      · refine lv_tableIn (off := 582) (tgt := 614) hx hb dL_law_32 (by rw [c18]; decide) (by rw [c18]; decide) (by rw [c18]; rfl) (by decide) ?_
        exact law_18 B hX hbl hbA hL hk s18 hR X hl hn
      by_cases c19 : y = 19
      · refine lv_tableIn (off := 605) (tgt := 637) hx hb dL_law_32 (by rw [c19]; decide) (by rw [c19]; decide) (by rw [c19]; rfl) (by decide) ?_
        exact law_19 B hX hbl hbA hL hk s19 hR X hl hn
      by_cases c20 : y = 20
      · refine lv_tableIn (off := 648) (tgt := 680) hx hb dL_law_32 (by rw [c20]; decide) (by rw [c20]; decide) (by rw [c20]; rfl) (by decide) ?_
        exact law_20 B hX hbl hbA hL hk s20 hR X hl hn
      by_cases c21 : y = 21
      · refine lv_tableIn (off := 661) (tgt := 693) hx hb dL_law_32 (by rw [c21]; decide) (by rw [c21]; decide) (by rw [c21]; rfl) (by decide) ?_
        exact law_21 B hX hbl hbA hL hk s21 hR X hl hn
      by_cases c22 : y = 22
      · refine lv_tableIn (off := 674) (tgt := 706) hx hb dL_law_32 (by rw [c22]; decide) (by rw [c22]; decide) (by rw [c22]; rfl) (by decide) ?_
        exact law_22 B hX hbl hbA hL hk s22 hR X hl hn
      by_cases c23 : y = 23
      · refine lv_tableIn (off := 697) (tgt := 729) hx hb dL_law_32 (by rw [c23]; decide) (by rw [c23]; decide) (by rw [c23]; rfl) (by decide) ?_
        exact law_23 B hX hbl hbA hL hk s23 hR X hl hn
      refine lv_tableOut (tgt := 743) hx hb dL_law_32 (sw_out 24 (by decide) (fun k hk => by
        have : k = 0 ∨ k = 1 ∨ k = 2 ∨ k = 3 ∨ k = 4 ∨ k = 5 ∨ k = 6 ∨ k = 7 ∨ k = 8 ∨ k = 9 ∨ k = 10 ∨ k = 11 ∨ k = 12 ∨ k = 13 ∨ k = 14 ∨ k = 15 ∨ k = 16 ∨ k = 17 ∨ k = 18 ∨ k = 19 ∨ k = 20 ∨ k = 21 ∨ k = 22 ∨ k = 23 := by omega
        rcases this with rfl | rfl | rfl | rfl | rfl | rfl | rfl | rfl | rfl | rfl | rfl | rfl | rfl | rfl | rfl | rfl | rfl | rfl | rfl | rfl | rfl | rfl | rfl | rfl
        · exact c0
        · exact c1
        · exact c2
        · exact c3
        · exact c4
        · exact c5
        · exact c6
        · exact c7
        · exact c8
        · exact c9
        · exact c10
        · exact c11
        · exact c12
        · exact c13
        · exact c14
        · exact c15
        · exact c16
        · exact c17
        · exact c18
        · exact c19
        · exact c20
        · exact c21
        · exact c22
        · exact c23)) (by decide) ?_
      exact hn x z H locs X (hN k x z hR)
end
