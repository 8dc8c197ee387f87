/-! nothing is told -/
theorem b12_M (z : SX8) : ∃ q, fX8_clearTold_b12 1000 0 z = some q ∧ q.1 = z.1 ∧ q.2.1 = z.2.1 ∧ (∀ i, i ≠ 43 → q.2.2 i = z.2.2 i) ∧ ∀ i, i < 10 → q.2.2 43 i = if i = 4 then -1 else 0 := by
  refine upE (fun w j y => fX8_clearTold_b12 w (nI j) y) (fun j y => y.1 = z.1 ∧ y.2.1 = z.2.1 ∧ (∀ i, i ≠ 43 → y.2.2 i = z.2.2 i) ∧ ∀ i, i < j → y.2.2 43 i = if i = 4 then -1 else 0) (fun q => q.1 = z.1 ∧ q.2.1 = z.2.1 ∧ (∀ i, i ≠ 43 → q.2.2 i = z.2.2 i) ∧ ∀ i, i < 10 → q.2.2 43 i = if i = 4 then -1 else 0) 10 ?_ ?_ 1000 0 z (by omega) (by omega) ⟨rfl, rfl, fun i _ => rfl, fun i hi => by omega⟩
  · intro w j y hj hI
    obtain ⟨i1, i2, i3, i4⟩ := hI
    have hin : ¬ (nI j < 0 ∨ 10 ≤ (nI j).toNatClampNeg) := nI_in (show j < 10 by omega) (by omega)
    refine Or.inl ⟨(y.1, y.2.1, va_up y.2.2 43 (upd (y.2.2 43) j (if j = 4 then -1 else 0))), ⟨i1, i2, ?_, ?_⟩, ?_⟩
    · intro i hi
      exact (if_neg hi).trans (i3 i hi)
    · intro i hi
      show upd (y.2.2 43) j (if j = 4 then -1 else 0) i = _
      unfold upd
      by_cases c : i = j
      · rw [if_pos c, c]
      · rw [if_neg c]
        exact i4 i (by omega)
    · show fX8_clearTold_b12 (w + 1) (nI j) y = fX8_clearTold_b12 w (nI (j + 1)) _
      rw [fX8_clearTold_b12, if_neg (cl 10 hj (by omega)), if_neg hin, if_neg hin, nI_clamp (by omega), nI1]
      by_cases c : j = 4
      · rw [if_pos (show nI j = 4 by rw [c]; rfl), if_pos c]
      · rw [if_neg (show ¬ nI j = 4 from fun e => c ((nI_eq (b := 4) (by omega) (by omega)).mp e)), if_neg c]
  · intro w y hI
    refine ⟨y, ?_, hI⟩
    show fX8_clearTold_b12 (w + 1) (nI 10) y = some y
    rw [fX8_clearTold_b12, if_pos (show (10 : Int32) ≤ nI 10 by decide)]
theorem clearTold_M (m : SX8) : ∃ q, fX8_clearTold m = some q ∧ TM q R0 ∧ (∀ i, i ≠ 41 → i ≠ 42 → q.1 i = m.1 i) ∧ q.2.1 = m.2.1 ∧ ∀ i, i ≠ 43 → q.2.2 i = m.2.2 i := by
  obtain ⟨q, q1, q2, q3, q4, q5⟩ := b12_M (upd (upd m.1 41 0) 42 0, m.2.1, m.2.2)
  refine ⟨q, q1, ⟨?_, ?_, fun i hi => absurd hi (Nat.not_lt_zero i), fun i hi => absurd hi (Nat.not_lt_zero i), ?_, ?_, ?_⟩, ?_, q3, q4⟩
  · rw [q2]; rfl
  · rw [q2]; rfl
  · rw [q5 0 (by omega)]; rfl
  · intro j h1 h8
    rw [q5 j (by omega)]
    rfl
  · rw [q5 9 (by omega)]; rfl
  · intro i h1 h2
    rw [q2]
    show upd (upd m.1 41 0) 42 0 i = m.1 i
    unfold upd
    rw [if_neg h2, if_neg h1]
