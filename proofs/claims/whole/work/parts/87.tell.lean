/-! what a run is told as -/
theorem b58_M {z : SX8} {L : Nat} (hL : L ≤ 400) (e26 : z.1 26 = nI L) : ∃ q, fX8_tell_b58 1000 0 z = some q ∧ q.1 = z.1 ∧ q.2.1 = z.2.1 ∧ (∀ i, (i < 43 ∨ i = 44 ∨ i = 45 ∨ 48 < i) → q.2.2 i = z.2.2 i) ∧ (∀ i, i < L → q.2.2 46 i = z.2.2 33 i ∧ q.2.2 47 i = z.2.2 34 i ∧ q.2.2 48 i = z.2.2 35 i) ∧ ∀ j, j ≤ 9 → q.2.2 43 j = z.1 (17 + j) := by
  refine upE (fun w j y => fX8_tell_b58 w (nI j) y) (fun j y => y.1 = z.1 ∧ y.2.1 = z.2.1 ∧ (∀ i, (i < 46 ∨ 48 < i) → y.2.2 i = z.2.2 i) ∧ ∀ i, i < j → y.2.2 46 i = z.2.2 33 i ∧ y.2.2 47 i = z.2.2 34 i ∧ y.2.2 48 i = z.2.2 35 i) (fun q => q.1 = z.1 ∧ q.2.1 = z.2.1 ∧ (∀ i, (i < 43 ∨ i = 44 ∨ i = 45 ∨ 48 < i) → q.2.2 i = z.2.2 i) ∧ (∀ i, i < L → q.2.2 46 i = z.2.2 33 i ∧ q.2.2 47 i = z.2.2 34 i ∧ q.2.2 48 i = z.2.2 35 i) ∧ ∀ j, j ≤ 9 → q.2.2 43 j = z.1 (17 + j)) L ?_ ?_ 1000 0 z (by omega) (by omega) ⟨rfl, rfl, fun i _ => rfl, fun i hi => by omega⟩
  · intro w j y hj hI
    obtain ⟨i1, i2, i3, i4⟩ := hI
    have e : y.1 26 = nI L := by rw [i1]; exact e26
    refine Or.inl ⟨(y.1, y.2.1, va_up (va_up (va_up y.2.2 46 (upd (y.2.2 46) j (y.2.2 33 j))) 47 (upd (y.2.2 47) j (y.2.2 34 j))) 48 (upd (y.2.2 48) j (y.2.2 35 j))), ⟨i1, i2, ?_, ?_⟩, ?_⟩
    · intro i hi
      show va_up (va_up (va_up y.2.2 46 _) 47 _) 48 _ i = _
      unfold va_up
      rw [if_neg (show ¬ i = 48 by omega), if_neg (show ¬ i = 47 by omega), if_neg (show ¬ i = 46 by omega)]
      exact i3 i hi
    · intro i hi
      show upd (y.2.2 46) j (y.2.2 33 j) i = _ ∧ upd (y.2.2 47) j (y.2.2 34 j) i = _ ∧ upd (y.2.2 48) j (y.2.2 35 j) i = _
      rw [i3 33 (by omega), i3 34 (by omega), i3 35 (by omega)]
      unfold upd
      by_cases c : i = j
      · rw [if_pos c, if_pos c, if_pos c, c]
        exact ⟨rfl, rfl, rfl⟩
      · rw [if_neg c, if_neg c, if_neg c]
        exact i4 i (by omega)
    · show fX8_tell_b58 (w + 1) (nI j) y = fX8_tell_b58 w (nI (j + 1)) _
      have hin : ¬ (nI j < 0 ∨ 512 ≤ (nI j).toNatClampNeg) := nI_in (show j < 512 by omega) (by omega)
      rw [fX8_tell_b58, e, if_neg (nI_ge hj (by omega)), if_neg hin, if_neg hin, if_neg hin, if_neg hin, if_neg hin, if_neg hin, nI_clamp (by omega), nI1]
  · intro w y hI
    obtain ⟨i1, i2, i3, i4⟩ := hI
    have e : y.1 26 = nI L := by rw [i1]; exact e26
    have e0 := fX8_tell_b58.eq_2 (nI L) y w
    rw [if_pos (show y.1 26 ≤ nI L by rw [e]; exact nI_le (Nat.le_refl _) (by omega))] at e0
    refine ⟨_, e0, i1, i2, ?_, ?_, ?_⟩
    · intro i hi
      have h43 : ¬ i = 43 := by omega
      simp only [va_up, if_neg h43]
      exact i3 i (by omega)
    · intro i hi
      exact i4 i hi
    · intro j hj
      rw [← i1]
      rcases (show j = 0 ∨ j = 1 ∨ j = 2 ∨ j = 3 ∨ j = 4 ∨ j = 5 ∨ j = 6 ∨ j = 7 ∨ j = 8 ∨ j = 9 by omega) with rfl | rfl | rfl | rfl | rfl | rfl | rfl | rfl | rfl | rfl <;> rfl
