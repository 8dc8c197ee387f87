/-! bitCount over sets of keys -/
theorem bd_eq {a : Nat} (h : a < 65536) : fJ6_bitCount_0f7a4 (nI a) = some (nI (bcN a)) := by
  have h1 : a / 2 &&& 1431655765 ≤ a / 2 := Nat.and_le_left
  have e1 : nI a - (((nI a).toUInt32 >>> (((1 : Int32)).toUInt32 &&& Int32.toUInt32 31)).toInt32 &&& 1431655765) = nI (a - (a / 2 &&& 1431655765)) := by
    rw [ush1 (by omega)]
    show nI a - (nI (a / 2) &&& nI 1431655765) = _
    rw [fa_and, pk_sub (by omega)]
  unfold fJ6_bitCount_0f7a4
  rw [e1]
  generalize hb : a - (a / 2 &&& 1431655765) = b
  have hb1 : b < 65536 := by omega
  have hbb : bcN a = bc5 (bc4 (bc3 (bc2 b))) &&& 63 := by rw [bcN, hb]
  rw [hbb]
  clear hb hbb e1 h1
  unfold fJ6_bitCount_0f7a4_b10
  have e2 : (nI b &&& 858993459) + (((nI b).toUInt32 >>> (((2 : Int32)).toUInt32 &&& Int32.toUInt32 31)).toInt32 &&& 858993459) = nI (bc2 b) := by
    rw [ush2 (by omega)]
    show (nI b &&& nI 858993459) + (nI (b / 4) &&& nI 858993459) = _
    rw [fa_and, fa_and, nI_add]
    rfl
  rw [e2]
  have hc : bc2 b < 131072 := by
    have q1 : b &&& 858993459 ≤ b := Nat.and_le_left
    have q2 : b / 4 &&& 858993459 ≤ b / 4 := Nat.and_le_left
    unfold bc2
    omega
  generalize bc2 b = c at hc
  unfold fJ6_bitCount_0f7a4_b24
  have e3 : (nI c + ((nI c).toUInt32 >>> (((4 : Int32)).toUInt32 &&& Int32.toUInt32 31)).toInt32) &&& 252645135 = nI (bc3 c) := by
    rw [ush4 (by omega), nI_add]
    show nI (c + c / 16) &&& nI 252645135 = _
    rw [fa_and]
    rfl
  rw [e3]
  have hd : bc3 c < 262144 := by
    have q1 : (c + c / 16) &&& 252645135 ≤ c + c / 16 := Nat.and_le_left
    unfold bc3
    omega
  generalize bc3 c = d at hd
  unfold fJ6_bitCount_0f7a4_b34
  have e4 : nI d + ((nI d).toUInt32 >>> (((8 : Int32)).toUInt32 &&& Int32.toUInt32 31)).toInt32 = nI (bc4 d) := by
    rw [ush8 (by omega), nI_add]
    rfl
  rw [e4]
  have he : bc4 d < 524288 := by unfold bc4; omega
  generalize bc4 d = e at he
  unfold fJ6_bitCount_0f7a4_b41
  have e5 : nI e + ((nI e).toUInt32 >>> (((16 : Int32)).toUInt32 &&& Int32.toUInt32 31)).toInt32 = nI (bc5 e) := by
    rw [ush16 (by omega), nI_add]
    rfl
  rw [e5]
  unfold fJ6_bitCount_0f7a4_b48
  show some (nI (bc5 e) &&& nI 63) = _
  rw [fa_and]
theorem okA_16 : (List.range 512).all okA = true := by decide +kernel
theorem bdN_eq {a : Nat} (h : a < 65536) : bcN a = cnt a := by
  rw [cntF_eq]
  have h1 := List.all_eq_true.mp okA_16 (a / 128) (List.mem_range.mpr (by omega))
  have h2 := List.all_eq_true.mp h1 (a % 128) (List.mem_range.mpr (by omega))
  have h3 := Nat.eq_of_beq_eq_true h2
  rw [show 128 * (a / 128) + a % 128 = a by omega] at h3
  exact h3
theorem bitCount_16 {a : Nat} (h : a < 65536) : fJ6_bitCount_0f7a4 (nI a) = some (nI (cnt a)) := by rw [bd_eq h, bdN_eq h]
theorem size_16 {a : Nat} (ha : a < 65536) : fX8_size (nI a) = some (nI (cnt a)) := by
  unfold fX8_size
  obtain ⟨r, r1, r2⟩ := upE (fun m j (c : Int32) => fX8_size_b4 m (nI a) c (nI j)) (fun j c => c = nI (cntB a j)) (fun r => r = nI (cnt a)) 16 (by
    intro m j c hj hI
    refine Or.inl ⟨nI (cntB a (j + 1)), rfl, ?_⟩
    show fX8_size_b4 (m + 1) (nI a) c (nI j) = fX8_size_b4 m (nI a) (nI (cntB a (j + 1))) (nI (j + 1))
    rw [fX8_size_b4, if_neg (cl 16 hj (by omega)), hI, shr_bit (by omega) (by omega), nI_add, nI1, cntB]) (by
    intro m c hI
    refine ⟨c, ?_, hI⟩
    show fX8_size_b4 (m + 1) (nI a) c (nI 16) = some c
    rw [fX8_size_b4, if_pos (show (16 : Int32) ≤ nI 16 by decide)]) 1000 0 0 (by omega) (by omega) rfl
  rw [r2] at r1
  exact r1
