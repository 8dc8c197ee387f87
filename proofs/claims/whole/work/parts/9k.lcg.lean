/-! numbers that are drawn -/
def nL (n : Nat) : Int64 := Int64.ofNat n
theorem nL_toInt {a : Nat} (h : a < 2 ^ 63) : (nL a).toInt = (a : Int) := Int64.toInt_ofNat_of_lt h
theorem nL_add (a b : Nat) : nL a + nL b = nL (a + b) := (Int64.ofNat_add a b).symm
theorem nL_mul (a b : Nat) : nL a * nL b = nL (a * b) := (Int64.ofNat_mul a b).symm
theorem nL_sub {a b : Nat} (h : b ≤ a) : nL a - nL b = nL (a - b) := by
  have e : nL a = nL (a - b) + nL b := by rw [nL_add, show a - b + b = a by omega]
  rw [e, Int64.add_sub_cancel]
theorem nL_and (a b : Nat) : nL a &&& nL b = nL (a &&& b) := by
  apply Int64.toBitVec_inj.1
  show BitVec.ofNat 64 a &&& BitVec.ofNat 64 b = BitVec.ofNat 64 (a &&& b)
  apply BitVec.eq_of_getLsbD_eq
  intro i hi
  simp [hi]
theorem nL_div {a b : Nat} (ha : a < 2 ^ 63) (hb : b < 2 ^ 63) : nL a / nL b = nL (a / b) := by
  apply Int64.toInt_inj.mp
  have hne : nL b ≠ -1 := by
    intro e
    have h1 := nL_toInt hb
    rw [e, show (-1 : Int64).toInt = -1 by decide] at h1
    omega
  rw [Int64.toInt_div_of_ne_right _ _ hne, nL_toInt ha, nL_toInt hb, nL_toInt (Nat.lt_of_le_of_lt (Nat.div_le_self a b) ha), ← Int.ofNat_tdiv]
theorem nL_32 (a : Nat) : (nL a).toInt32 = nI a := Int64.toInt32_ofNat'
theorem nI_64 {a : Nat} (h : a < 2 ^ 31) : (nI a).toInt64 = nL a := by
  apply Int64.toInt_inj.mp
  rw [Int32.toInt_toInt64, nI_toInt h, nL_toInt (by omega)]
def lc (s : Nat) : Nat := (1103515245 * s + 12345) % 2147483648
def dv (s : Nat) : Nat := lc s / 65536 % 17
theorem lc_lt (s : Nat) : lc s < 2147483648 := Nat.mod_lt _ (by omega)
theorem dv_lt (s : Nat) : dv s < 17 := Nat.mod_lt _ (by omega)
theorem lc_X {s : Nat} (h : s < 2147483648) : ((1103515245 * nL s) + 12345) - ((1103515245 * nL s) + 12345) / 2147483648 * 2147483648 = nL (lc s) := by
  have e : (1103515245 * nL s) + 12345 = nL (1103515245 * s + 12345) := by
    show nL 1103515245 * nL s + nL 12345 = _
    rw [nL_mul, nL_add]
  rw [e]
  show nL (1103515245 * s + 12345) - nL (1103515245 * s + 12345) / nL 2147483648 * nL 2147483648 = _
  unfold lc
  generalize ht : 1103515245 * s + 12345 = t
  have h63 : t < 2 ^ 63 := by omega
  rw [nL_div h63 (by omega), nL_mul, nL_sub (by omega)]
  congr 1
  omega
theorem lc_M (s : Nat) : ((1103515245 * nL s) + 12345) &&& 2147483647 = nL (lc s) := by
  have e : (1103515245 * nL s) + 12345 = nL (1103515245 * s + 12345) := by
    show nL 1103515245 * nL s + nL 12345 = _
    rw [nL_mul, nL_add]
  rw [e]
  show nL (1103515245 * s + 12345) &&& nL 2147483647 = _
  unfold lc
  generalize 1103515245 * s + 12345 = t
  have q : t &&& 2147483647 = t % 2147483648 := Nat.and_two_pow_sub_one_eq_mod t 31
  rw [nL_and, q]
theorem dv_L (s : Nat) : (nL (lc s) / 65536 - nL (lc s) / 65536 / 17 * 17).toInt32 = nI (dv s) := by
  have h := lc_lt s
  show (nL (lc s) / nL 65536 - nL (lc s) / nL 65536 / nL 17 * nL 17).toInt32 = nI (dv s)
  unfold dv
  generalize lc s = t at *
  rw [nL_div (by omega) (by omega), nL_div (by omega) (by omega), nL_mul, nL_sub (by omega), nL_32]
  congr 1
  omega
/-- the key that is drawn -/
def kv (s : Nat) : Int32 := if dv s ≤ 15 then nI (dv s) else -1
theorem kv_ok (s : Nat) : kOk (kv s) := by
  unfold kv
  split
  · exact Or.inr ⟨dv s, by omega, rfl⟩
  · exact Or.inl rfl
def sq (s : Nat) : Nat → Nat
  | 0 => s
  | j + 1 => lc (sq s j)
theorem sq_lt {s : Nat} (h : s < 2147483648) : ∀ j, sq s j < 2147483648 := by
  intro j
  cases j with
  | zero => exact h
  | succ j => exact lc_lt _
theorem sq_add (s : Nat) (a : Nat) : ∀ j, sq (sq s a) j = sq s (a + j) := by
  intro j
  induction j with
  | zero => rfl
  | succ j ih => rw [sq, ih, Nat.add_succ, sq]
theorem drawRows_X {s : Nat} (hs : s < 2147483648) (z : SX5) : ∃ q, fX7_drawRows z (nI s) = some q ∧ q.1 = nI (sq s 8) ∧ SdR q.2 8 (fun j => kv (sq s j)) := by
  unfold fX7_drawRows fX5_clear
  rw [Option.bind_some, nI_64 (by omega)]
  refine upE (fun w j (y : SX5) => fX7_drawRows_b10 w (nL (sq s j)) (nI j) y) (fun j y => SdR y j (fun j => kv (sq s j))) (fun q => q.1 = nI (sq s 8) ∧ SdR q.2 8 (fun j => kv (sq s j))) 8 ?_ ?_ 1000 0 (z.1, 0) (by omega) (by omega) ⟨rfl, by omega, fun i hi => absurd hi (Nat.not_lt_zero i)⟩
  · intro w j y hj hI
    left
    obtain ⟨y', y1, y2⟩ := add_X hI (show j < 14 by omega) (v := kv (sq s j)) rfl
    refine ⟨y', y2, ?_⟩
    show fX7_drawRows_b10 (w + 1) (nL (sq s j)) (nI j) y = fX7_drawRows_b10 w (nL (sq s (j + 1))) (nI (j + 1)) y'
    rw [fX7_drawRows_b10, if_neg (cl 8 hj (by omega)), lc_X (sq_lt hs j), dv_L, nI1]
    have hd := dv_lt (sq s j)
    unfold kv at y1
    by_cases c : dv (sq s j) ≤ 15
    · rw [if_pos c] at y1
      rw [if_pos (show nI (dv (sq s j)) ≤ 15 from nI_le (b := 15) c (by omega)), y1]
      rfl
    · rw [if_neg c] at y1
      rw [if_neg (show ¬ nI (dv (sq s j)) ≤ 15 from (nI_ge (show 15 < dv (sq s j) by omega) (by omega) : ¬ nI (dv (sq s j)) ≤ nI 15)), y1]
      rfl
  · intro w y hI
    refine ⟨((nL (sq s 8)).toInt32, y), ?_, nL_32 _, hI⟩
    show fX7_drawRows_b10 (w + 1) (nL (sq s 8)) (nI 8) y = _
    rw [fX7_drawRows_b10, if_pos (show (8 : Int32) ≤ nI 8 by decide)]
