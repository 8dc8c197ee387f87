/-- what the reference tells of the latest run is R -/
def TM (m : SX8) (R : RS) : Prop := m.1 41 = nI (R.1 0) ∧ m.1 42 = nI (R.1 1) ∧ (∀ i, i < R.1 0 → m.2.2 44 i = R.2.1 0 i ∧ m.2.2 45 i = R.2.1 1 i) ∧ (∀ i, i < R.1 1 → m.2.2 46 i = R.2.1 2 i ∧ m.2.2 47 i = R.2.1 3 i ∧ m.2.2 48 i = R.2.1 4 i) ∧ m.2.2 43 0 = nI (R.1 0) ∧ (∀ j, 1 ≤ j → j ≤ 8 → m.2.2 43 j = R.2.2.1 j) ∧ m.2.2 43 9 = nI (R.1 1)
theorem b18_M {z : SX8} {K L : Nat} (hK : K ≤ 250) (hL : L ≤ 400) (e17 : z.1 17 = nI K) (e26 : z.1 26 = nI L) : ∃ q, fX8_tell_b18 1000 0 z = some q ∧ q.1 = z.1 ∧ q.2.1 = z.2.1 ∧ (∀ i, (i < 43 ∨ 48 < i) → q.2.2 i = z.2.2 i) ∧ (∀ i, i < K → q.2.2 44 i = z.2.2 31 i ∧ q.2.2 45 i = z.2.2 32 i) ∧ (∀ i, i < L → q.2.2 46 i = z.2.2 33 i ∧ q.2.2 47 i = z.2.2 34 i ∧ q.2.2 48 i = z.2.2 35 i) ∧ ∀ j, j ≤ 9 → q.2.2 43 j = z.1 (17 + j) := by
  refine upE (fun w j y => fX8_tell_b18 w (nI j) y) (fun j y => y.1 = z.1 ∧ y.2.1 = z.2.1 ∧ (∀ i, (i < 44 ∨ 45 < i) → y.2.2 i = z.2.2 i) ∧ ∀ i, i < j → y.2.2 44 i = z.2.2 31 i ∧ y.2.2 45 i = z.2.2 32 i) (fun q => q.1 = z.1 ∧ q.2.1 = z.2.1 ∧ (∀ i, (i < 43 ∨ 48 < i) → q.2.2 i = z.2.2 i) ∧ (∀ i, i < K → q.2.2 44 i = z.2.2 31 i ∧ q.2.2 45 i = z.2.2 32 i) ∧ (∀ i, i < L → q.2.2 46 i = z.2.2 33 i ∧ q.2.2 47 i = z.2.2 34 i ∧ q.2.2 48 i = z.2.2 35 i) ∧ ∀ j, j ≤ 9 → q.2.2 43 j = z.1 (17 + j)) K ?_ ?_ 1000 0 z (by omega) (by omega) ⟨rfl, rfl, fun i _ => rfl, fun i hi => by omega⟩
  · intro w j y hj hI
    obtain ⟨i1, i2, i3, i4⟩ := hI
    have e : y.1 17 = nI K := by rw [i1]; exact e17
    refine Or.inl ⟨(y.1, y.2.1, va_up (va_up y.2.2 44 (upd (y.2.2 44) j (y.2.2 31 j))) 45 (upd (y.2.2 45) j (y.2.2 32 j))), ⟨i1, i2, ?_, ?_⟩, ?_⟩
    · intro i hi
      show va_up (va_up y.2.2 44 _) 45 _ i = _
      unfold va_up
      rw [if_neg (show ¬ i = 45 by omega), if_neg (show ¬ i = 44 by omega)]
      exact i3 i hi
    · intro i hi
      show upd (y.2.2 44) j (y.2.2 31 j) i = _ ∧ upd (y.2.2 45) j (y.2.2 32 j) i = _
      rw [i3 31 (by omega), i3 32 (by omega)]
      unfold upd
      by_cases c : i = j
      · rw [if_pos c, if_pos c, c]
        exact ⟨rfl, rfl⟩
      · rw [if_neg c, if_neg c]
        exact i4 i (by omega)
    · show fX8_tell_b18 (w + 1) (nI j) y = fX8_tell_b18 w (nI (j + 1)) _
      have hin : ¬ (nI j < 0 ∨ 256 ≤ (nI j).toNatClampNeg) := nI_in (show j < 256 by omega) (by omega)
      rw [fX8_tell_b18, e, if_neg (nI_ge hj (by omega)), if_neg hin, if_neg hin, if_neg hin, if_neg hin, nI_clamp (by omega), nI1]
  · intro w y hI
    obtain ⟨i1, i2, i3, i4⟩ := hI
    have e : y.1 17 = nI K := by rw [i1]; exact e17
    obtain ⟨q, q1, q2, q3, q4, q5, q6⟩ := b58_M (z := y) hL (by rw [i1]; exact e26)
    refine ⟨q, ?_, q2.trans i1, q3.trans i2, ?_, ?_, ?_, ?_⟩
    · show fX8_tell_b18 (w + 1) (nI K) y = some q
      rw [fX8_tell_b18, e, if_pos (nI_le (Nat.le_refl _) (by omega))]
      exact q1
    · intro i hi
      exact (q4 i (by omega)).trans (i3 i (by omega))
    · intro i hi
      rw [q4 44 (by omega), q4 45 (by omega)]
      exact i4 i hi
    · intro i hi
      rw [← i3 33 (by omega), ← i3 34 (by omega), ← i3 35 (by omega)]
      exact q5 i hi
    · intro j hj
      rw [← i1]
      exact q6 j hj
theorem tell_M {m0 m : SX8} {A : Nat → Nat → Int32} {lim : Nat} {R : RS} (h : MR m0 A lim m R) (hK : R.1 0 ≤ 250) (hL : R.1 1 ≤ 400) : ∃ q, fX8_tell m = some q ∧ TM q R ∧ (∀ i, i ≠ 41 → i ≠ 42 → q.1 i = m.1 i) ∧ q.2.1 = m.2.1 ∧ ∀ i, (i < 43 ∨ 48 < i) → q.2.2 i = m.2.2 i := by
  obtain ⟨t0, p0, e14, e15, e16, e17, cc, e26, e27, e28, d1, o1, l1, s2⟩ := h
  obtain ⟨q, q1, q2, q3, q4, q5, q6, q7⟩ := b18_M (z := (upd (upd m.1 41 (m.1 17)) 42 (m.1 26), m.2.1, m.2.2)) hK hL e17 e26
  refine ⟨q, q1, ⟨?_, ?_, ?_, ?_, ?_, ?_, ?_⟩, ?_, q3, q4⟩
  · rw [q2]
    exact e17
  · rw [q2]
    exact e26
  · intro i hi
    rw [(q5 i hi).1, (q5 i hi).2]
    exact o1 i hi
  · intro i hi
    rw [(q6 i hi).1, (q6 i hi).2.1, (q6 i hi).2.2]
    exact l1 i hi
  · rw [q7 0 (by omega)]
    exact e17
  · intro j h1 h8
    rw [q7 j (by omega), ← cc j h1 h8]
    show upd (upd m.1 41 (m.1 17)) 42 (m.1 26) (17 + j) = m.1 (17 + j)
    unfold upd
    rw [if_neg (show ¬ 17 + j = 42 by omega), if_neg (show ¬ 17 + j = 41 by omega)]
  · rw [q7 9 (by omega)]
    exact e26
  · intro i h1 h2
    rw [q2]
    show upd (upd m.1 41 (m.1 17)) 42 (m.1 26) i = m.1 i
    unfold upd
    rw [if_neg h2, if_neg h1]
