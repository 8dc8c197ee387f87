/-! the page -/
theorem ch_of {x : Int32} (h1 : ¬ x < 32) (h2 : x ≤ 126) : ∃ c, 32 ≤ c ∧ c ≤ 126 ∧ x = nI c := by
  have a1 : (32 : Int32).toInt ≤ x.toInt := Int32.le_iff_toInt_le.mp (Int32.not_lt.mp h1)
  have a2 : x.toInt ≤ (126 : Int32).toInt := Int32.le_iff_toInt_le.mp h2
  have b1 : (32 : Int32).toInt = 32 := by decide
  have b2 : (126 : Int32).toInt = 126 := by decide
  rw [b1] at a1
  rw [b2] at a2
  refine ⟨x.toInt.toNat, by omega, by omega, ?_⟩
  apply Int32.toInt_inj.mp
  rw [nI_toInt (by omega)]
  omega
theorem ch_b : ∀ c, c < 127 → vp_nar .byte ((nI c).toInt8.toInt32) = nI c := by decide +kernel
theorem within_M (x a b : Int32) : fX8_within x a b = some (if x < a then 0 else if b < x then 0 else 1) := by
  unfold fX8_within
  split
  · rfl
  · split <;> rfl
/-- both pages hold the same letters -/
def PG (p : SX2) (m : SX8) : Prop := ∃ L, L ≤ 36 ∧ p.2 = nI L ∧ m.1 9 = nI L ∧ ∀ i, i < L → p.1 i = m.2.2 10 i ∧ ∃ c, 32 ≤ c ∧ c ≤ 126 ∧ p.1 i = nI c
