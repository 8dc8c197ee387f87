/-! THE SIDES of the class, as numbers of rows and keys -/
theorem cl (k : Nat) {i : Nat} (h : i < k) (hk : k < 2 ^ 31) : ¬ (OfNat.ofNat k : Int32) ≤ nI i := nI_ge h hk
theorem cle (k : Nat) {i : Nat} (h : k ≤ i) (hi : i < 2 ^ 31) : (OfNat.ofNat k : Int32) ≤ nI i := nI_le h hi
theorem nI1 (j : Nat) : nI j + 1 = nI (j + 1) := nI_1 j
/-- a side: n rows, of which row i has the key f i -/
def SdR (z : SX5) (n : Nat) (f : Nat → Int32) : Prop := z.2 = nI n ∧ n ≤ 14 ∧ ∀ i, i < n → z.1 i = f i
theorem has_X {z : SX5} {n : Nat} {f : Nat → Int32} (h : SdR z n f) {i : Nat} (hi : i < n) : fX5_has z (nI i) = some 1 := by
  obtain ⟨h1, h2, h3⟩ := h
  unfold fX5_has
  rw [if_neg (nI_pos (by omega)), h1, if_neg (nI_ge hi (by omega)), if_neg (cl 14 (by omega) (by omega))]
theorem has_Xn {z : SX5} {n : Nat} {f : Nat → Int32} (h : SdR z n f) {x : Int32} (hx : ¬ ∃ i, i < n ∧ x = nI i) : fX5_has z x = some 0 := by
  obtain ⟨h1, h2, h3⟩ := h
  unfold fX5_has
  rw [h1]
  by_cases c1 : x < 0
  · rw [if_pos c1]
  · rw [if_neg c1]
    by_cases c2 : nI n ≤ x
    · rw [if_pos c2]
    · rcases pk_ix x (n := n) (by omega) with q | q | q
      · exact absurd q c1
      · exact absurd q c2
      · exact absurd q hx
theorem keyAt_X {z : SX5} {n : Nat} {f : Nat → Int32} (h : SdR z n f) {i : Nat} (hi : i < n) : fX5_keyAt z (nI i) = some (f i) := by
  obtain ⟨h1, h2, h3⟩ := h
  unfold fX5_keyAt
  rw [if_neg (nI_pos (by omega)), h1, if_neg (nI_ge hi (by omega)), if_neg (cl 14 (by omega) (by omega)), if_neg (nI_in (by omega) (by omega)), nI_clamp (by omega), h3 i hi]
theorem or_bit (a j : Nat) (h : j < 31) : nI a ||| ((1 : Int32) <<< (nI j &&& 31)) = nI (a ||| 2 ^ j) := by rw [one_shl h, fa_or]
theorem rowsWithKey_X {z : SX5} {n : Nat} {f : Nat → Int32} (h : SdR z n f) : fX5_rowsWithKey z = some (nI (mkm (fun i => decide (f i ≠ -1)) n)) := by
  obtain ⟨h1, h2, h3⟩ := h
  refine upL (fun k j => fX5_rowsWithKey_b4 z k (nI (mkm (fun i => decide (f i ≠ -1)) j)) (nI j)) n _ ?_ ?_ 1000 0 (by omega) (by omega)
  · intro k j hj
    show fX5_rowsWithKey_b4 z (k + 1) _ _ = fX5_rowsWithKey_b4 z k _ _
    rw [fX5_rowsWithKey_b4, h1, if_neg (nI_ge hj (by omega)), if_neg (cl 14 (by omega) (by omega)), if_neg (nI_in (by omega) (by omega)), nI_clamp (by omega), h3 j hj, nI1, or_bit _ _ (by omega)]
    by_cases c : f j = -1
    · rw [if_pos c, mkm, if_neg (by simp [c])]
    · rw [if_neg c, mkm, if_pos (by simp [c])]
  · intro k
    show fX5_rowsWithKey_b4 z (k + 1) _ _ = _
    rw [fX5_rowsWithKey_b4, h1, if_pos (nI_le (Nat.le_refl n) (by omega))]
theorem rowsOfKey_X {z : SX5} {n : Nat} {f : Nat → Int32} (h : SdR z n f) (v : Int32) : fX5_rowsOfKey z v = some (nI (mkm (fun i => decide (f i = v)) n)) := by
  obtain ⟨h1, h2, h3⟩ := h
  refine upL (fun k j => fX5_rowsOfKey_b4 z k v (nI (mkm (fun i => decide (f i = v)) j)) (nI j)) n _ ?_ ?_ 1000 0 (by omega) (by omega)
  · intro k j hj
    show fX5_rowsOfKey_b4 z (k + 1) _ _ _ = fX5_rowsOfKey_b4 z k _ _ _
    rw [fX5_rowsOfKey_b4, h1, if_neg (nI_ge hj (by omega)), if_neg (cl 14 (by omega) (by omega)), if_neg (nI_in (by omega) (by omega)), nI_clamp (by omega), h3 j hj, nI1, or_bit _ _ (by omega)]
    by_cases c : f j = v
    · rw [if_pos c, mkm, if_pos (by simp [c])]
    · rw [if_neg c, mkm, if_neg (by simp [c])]
  · intro k
    show fX5_rowsOfKey_b4 z (k + 1) _ _ _ = _
    rw [fX5_rowsOfKey_b4, h1, if_pos (nI_le (Nat.le_refl n) (by omega))]
/-- a key, or none -/
def kOk (v : Int32) : Prop := v = -1 ∨ ∃ k, k < 16 ∧ v = nI k
/-- bit b of a key is 1 -/
def kB (b : Nat) (v : Int32) : Bool := decide ((v >>> (nI b &&& 31)) &&& 1 = 1)
theorem rowsWithBit_X {z : SX5} {n : Nat} {f : Nat → Int32} (h : SdR z n f) (b : Nat) : fX5_rowsWithBit z (nI b) = some (nI (mkm (fun i => decide (f i ≠ -1) && kB b (f i)) n)) := by
  obtain ⟨h1, h2, h3⟩ := h
  refine upL (fun k j => fX5_rowsWithBit_b4 z k (nI b) (nI (mkm (fun i => decide (f i ≠ -1) && kB b (f i)) j)) (nI j)) n _ ?_ ?_ 1000 0 (by omega) (by omega)
  · intro k j hj
    show fX5_rowsWithBit_b4 z (k + 1) _ _ _ = fX5_rowsWithBit_b4 z k _ _ _
    rw [fX5_rowsWithBit_b4, h1, if_neg (nI_ge hj (by omega)), if_neg (cl 14 (by omega) (by omega)), if_neg (nI_in (by omega) (by omega)), if_neg (nI_in (by omega) (by omega)), nI_clamp (by omega), h3 j hj, nI1, or_bit _ _ (by omega)]
    by_cases c : f j = -1
    · rw [if_pos c, mkm, if_neg (by simp [c])]
    · rw [if_neg c, mkm]
      by_cases c2 : (f j >>> (nI b &&& 31)) &&& 1 = 1
      · rw [if_pos c2, if_pos (by simp [c, kB, c2])]
      · rw [if_neg c2, if_neg (by simp [c, kB, c2])]
  · intro k
    show fX5_rowsWithBit_b4 z (k + 1) _ _ _ = _
    rw [fX5_rowsWithBit_b4, h1, if_pos (nI_le (Nat.le_refl n) (by omega))]
