/-! Integer.bitCount and numberOfTrailingZeros over sets of rows -/
theorem ush1 {n : Nat} (h : n < 2 ^ 32) : ((nI n).toUInt32 >>> (((1 : Int32)).toUInt32 &&& Int32.toUInt32 31)).toInt32 = nI (n / 2) := pk_ushrN h 1 1 (by decide)
theorem ush2 {n : Nat} (h : n < 2 ^ 32) : ((nI n).toUInt32 >>> (((2 : Int32)).toUInt32 &&& Int32.toUInt32 31)).toInt32 = nI (n / 4) := pk_ushrN h 2 2 (by decide)
theorem ush4 {n : Nat} (h : n < 2 ^ 32) : ((nI n).toUInt32 >>> (((4 : Int32)).toUInt32 &&& Int32.toUInt32 31)).toInt32 = nI (n / 16) := pk_ushrN h 4 4 (by decide)
theorem ush8 {n : Nat} (h : n < 2 ^ 32) : ((nI n).toUInt32 >>> (((8 : Int32)).toUInt32 &&& Int32.toUInt32 31)).toInt32 = nI (n / 256) := pk_ushrN h 8 8 (by decide)
theorem ush16 {n : Nat} (h : n < 2 ^ 32) : ((nI n).toUInt32 >>> (((16 : Int32)).toUInt32 &&& Int32.toUInt32 31)).toInt32 = nI (n / 65536) := pk_ushrN h 16 16 (by decide)
def bc2 (a : Nat) : Nat := (a &&& 858993459) + (a / 4 &&& 858993459)
def bc3 (a : Nat) : Nat := (a + a / 16) &&& 252645135
def bc4 (a : Nat) : Nat := a + a / 256
def bc5 (a : Nat) : Nat := a + a / 65536
def bcN (a : Nat) : Nat := bc5 (bc4 (bc3 (bc2 (a - (a / 2 &&& 1431655765))))) &&& 63
theorem bc_eq {a : Nat} (h : a < 16384) : fJ6_bitCount_0f7a4 (nI a) = some (nI (bcN a)) := by
  have h1 : a / 2 &&& 1431655765 ≤ a / 2 := Nat.and_le_left
  have e1 : nI a - (((nI a).toUInt32 >>> (((1 : Int32)).toUInt32 &&& Int32.toUInt32 31)).toInt32 &&& 1431655765) = nI (a - (a / 2 &&& 1431655765)) := by
    rw [ush1 (by omega)]
    show nI a - (nI (a / 2) &&& nI 1431655765) = _
    rw [fa_and, pk_sub (by omega)]
  unfold fJ6_bitCount_0f7a4
  rw [e1]
  generalize hb : a - (a / 2 &&& 1431655765) = b
  have hb1 : b < 16384 := by omega
  have hbb : bcN a = bc5 (bc4 (bc3 (bc2 b))) &&& 63 := by rw [bcN, hb]
  rw [hbb]
  clear hb hbb e1 h1
  unfold fJ6_bitCount_0f7a4_b10
  have e2 : (nI b &&& 858993459) + (((nI b).toUInt32 >>> (((2 : Int32)).toUInt32 &&& Int32.toUInt32 31)).toInt32 &&& 858993459) = nI (bc2 b) := by
    rw [ush2 (by omega)]
    show (nI b &&& nI 858993459) + (nI (b / 4) &&& nI 858993459) = _
    rw [fa_and, fa_and, nI_add]
    rfl
  rw [e2]
  have hc : bc2 b < 32768 := by
    have q1 : b &&& 858993459 ≤ b := Nat.and_le_left
    have q2 : b / 4 &&& 858993459 ≤ b / 4 := Nat.and_le_left
    unfold bc2
    omega
  generalize bc2 b = c at hc
  unfold fJ6_bitCount_0f7a4_b24
  have e3 : (nI c + ((nI c).toUInt32 >>> (((4 : Int32)).toUInt32 &&& Int32.toUInt32 31)).toInt32) &&& 252645135 = nI (bc3 c) := by
    rw [ush4 (by omega), nI_add]
    show nI (c + c / 16) &&& nI 252645135 = _
    rw [fa_and]
    rfl
  rw [e3]
  have hd : bc3 c < 65536 := by
    have q1 : (c + c / 16) &&& 252645135 ≤ c + c / 16 := Nat.and_le_left
    unfold bc3
    omega
  generalize bc3 c = d at hd
  unfold fJ6_bitCount_0f7a4_b34
  have e4 : nI d + ((nI d).toUInt32 >>> (((8 : Int32)).toUInt32 &&& Int32.toUInt32 31)).toInt32 = nI (bc4 d) := by
    rw [ush8 (by omega), nI_add]
    rfl
  rw [e4]
  have he : bc4 d < 131072 := by unfold bc4; omega
  generalize bc4 d = e at he
  unfold fJ6_bitCount_0f7a4_b41
  have e5 : nI e + ((nI e).toUInt32 >>> (((16 : Int32)).toUInt32 &&& Int32.toUInt32 31)).toInt32 = nI (bc5 e) := by
    rw [ush16 (by omega), nI_add]
    rfl
  rw [e5]
  unfold fJ6_bitCount_0f7a4_b48
  show some (nI (bc5 e) &&& nI 63) = _
  rw [fa_and]
/-- by count, over all of them -/
def cntF (a : Nat) : Nat := a % 2 + a / 2 % 2 + a / 4 % 2 + a / 8 % 2 + a / 16 % 2 + a / 32 % 2 + a / 64 % 2 + a / 128 % 2 + a / 256 % 2 + a / 512 % 2 + a / 1024 % 2 + a / 2048 % 2 + a / 4096 % 2 + a / 8192 % 2 + a / 16384 % 2 + a / 32768 % 2
theorem cntF_eq (a : Nat) : cnt a = cntF a := by
  have q : ∀ n, (if a.testBit n then 1 else 0) = a / 2 ^ n % 2 := by
    intro n
    rw [Nat.testBit_eq_decide_div_mod_eq]
    rcases Nat.mod_two_eq_zero_or_one (a / 2 ^ n) with e | e <;> simp [e]
  simp only [cnt, cntB, q, cntF]
  simp
def okA (k : Nat) : Bool := (List.range 128).all fun j => Nat.beq (bcN (128 * k + j)) (cntF (128 * k + j))
theorem okA_all : (List.range 128).all okA = true := by decide +kernel
theorem bcN_eq {a : Nat} (h : a < 16384) : bcN a = cnt a := by
  rw [cntF_eq]
  have h1 := List.all_eq_true.mp okA_all (a / 128) (List.mem_range.mpr (by omega))
  have h2 := List.all_eq_true.mp h1 (a % 128) (List.mem_range.mpr (by omega))
  have h3 := Nat.eq_of_beq_eq_true h2
  rw [show 128 * (a / 128) + a % 128 = a by omega] at h3
  exact h3
theorem bitCount_eq {a : Nat} (h : a < 16384) : fJ6_bitCount_0f7a4 (nI a) = some (nI (cnt a)) := by rw [bc_eq h, bcN_eq h]
/-- the lowest of a set -/
def tzF : Nat → Nat → Nat
  | _, 0 => 0
  | a, n + 1 => if a % 2 = 1 then 0 else tzF (a / 2) n + 1
abbrev tz (a : Nat) : Nat := tzF a 14
def okB (k : Nat) : Bool := (List.range 128).all fun j => Nat.beq (128 * k + j) 0 || (Nat.blt (tz (128 * k + j)) 14 && (128 * k + j).testBit (tz (128 * k + j)) && Nat.beq ((128 * k + j - 1) &&& ((128 * k + j - 1) ^^^ ((128 * k + j - 1) &&& (128 * k + j)))) (2 ^ tz (128 * k + j) - 1))
theorem okB_all : (List.range 128).all okB = true := by decide +kernel
theorem tz_ok {a : Nat} (h : a < 16384) (h0 : a ≠ 0) : tz a < 14 ∧ a.testBit (tz a) = true ∧ (a - 1) &&& ((a - 1) ^^^ ((a - 1) &&& a)) = 2 ^ tz a - 1 := by
  have h1 := List.all_eq_true.mp okB_all (a / 128) (List.mem_range.mpr (by omega))
  have h2 := List.all_eq_true.mp h1 (a % 128) (List.mem_range.mpr (by omega))
  rw [show 128 * (a / 128) + a % 128 = a by omega] at h2
  simp only [Bool.or_eq_true, Bool.and_eq_true] at h2
  rcases h2 with h2 | ⟨⟨h2, h3⟩, h4⟩
  · exact absurd (Nat.eq_of_beq_eq_true h2) h0
  · exact ⟨Nat.lt_of_le_of_lt (show tz a ≤ 13 by simpa [Nat.blt] using h2) (by omega), h3, Nat.eq_of_beq_eq_true h4⟩
theorem tz_fin : ∀ t, t < 14 → (if (0 : Int32) < nI (2 ^ t - 1) then (if nI (2 ^ t - 1) ≤ 65536 then (fJ6_numberOfTrailingZeros_0f7a4_b34 (nI (2 ^ t - 1)) 1) else (fJ6_numberOfTrailingZeros_0f7a4_b34 (((nI (2 ^ t - 1)).toUInt32 >>> (((16 : Int32)).toUInt32 &&& Int32.toUInt32 31)).toInt32) (1 + 16))) else (some (nI (2 ^ t - 1) &&& 32))) = some (nI t) := by decide +kernel
theorem ntz_eq {a : Nat} (h : a < 16384) (h0 : a ≠ 0) : fJ6_numberOfTrailingZeros_0f7a4 (nI a) = some (nI (tz a)) := by
  obtain ⟨h1, h2, h3⟩ := tz_ok h h0
  have e : (nI a ^^^ (-1)) &&& (nI a - 1) = nI (2 ^ tz a - 1) := by
    rw [Int32.and_comm, show nI a - 1 = nI (a - 1) from pk_sub (b := 1) (by omega), fa_andn _ _ (by omega), h3]
  unfold fJ6_numberOfTrailingZeros_0f7a4
  rw [e]
  exact tz_fin _ h1
theorem ntz_0 : fJ6_numberOfTrailingZeros_0f7a4 (nI 0) = some (nI 32) := by decide +kernel
