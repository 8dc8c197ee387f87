/-! tables -/
def ky (c : Nat) : Int32 := if c = 45 then -1 else nI c - 97
theorem ky_M : ∀ c, c < 127 → fX8_keyBy (nI c) = some (ky c) := by decide +kernel
theorem ky_ok : ∀ c, c < 127 → isR c = true → ky c = -1 ∨ ∃ k, k < 16 ∧ ky c = nI k := by decide +kernel
theorem add_X {z : SX5} {n : Nat} {f : Nat → Int32} {v : Int32} (h : SdR z n f) (hn : n < 14) (e : f n = v) : ∃ z', fX5_add z v = some z' ∧ SdR z' (n + 1) f := by
  obtain ⟨h1, h2, h3⟩ := h
  unfold fX5_add
  rw [h1, if_neg (nI_pos (n := n) (by omega)), if_neg (cl 14 hn (by omega)), if_neg (nI_in hn (by omega)), nI_clamp (by omega)]
  refine ⟨_, rfl, nI_1 n, by omega, fun i hi => ?_⟩
  show upd z.1 n v i = f i
  unfold upd
  by_cases c : i = n
  · rw [if_pos c, c, e]
  · rw [if_neg c]
    exact h3 i (by omega)
theorem readRows_L {p : SX2} {m : SX8} {L : Nat} {g : Nat → Nat} (h : PL p m L g) (z : SX5) {a r : Nat} (hr : r ≤ 14) (ha : a + r ≤ L) : ∃ q, fX2_readRows (p, z) (nI a) (nI (a + r)) = some q ∧ q.1 = p ∧ SdR q.2 r (fun i => ky (g (a + i))) := by
  have h36 := h.1
  unfold fX2_readRows fX5_clear
  rw [Option.bind_some]
  refine upE (fun w j (s : SX5) => fX2_readRows_b7 w (nI (a + r)) (nI (a + j)) (p, s)) (fun j s => SdR s j (fun i => ky (g (a + i)))) (fun q => q.1 = p ∧ SdR q.2 r (fun i => ky (g (a + i)))) r ?_ ?_ 1000 0 (z.1, 0) (by omega) (by omega) ⟨rfl, by omega, fun i hi => absurd hi (Nat.not_lt_zero i)⟩
  · intro w j s hj hI
    left
    have hL : a + j < L := by omega
    have hg := (h.2.2.2 (a + j) hL).2.2.2
    obtain ⟨s', s1, s2⟩ := add_X hI (show j < 14 by omega) (v := ky (g (a + j))) rfl
    refine ⟨s', s2, ?_⟩
    show fX2_readRows_b7 (w + 1) (nI (a + r)) (nI (a + j)) (p, s) = fX2_readRows_b7 w (nI (a + r)) (nI (a + (j + 1))) (p, s')
    rw [fX2_readRows_b7, if_neg (nI_ge (show a + j < a + r by omega) (by omega)), codeAt_L h hL, Option.bind_some, nI1]
    unfold ky at s1
    by_cases c : g (a + j) = 45
    · rw [if_pos c] at s1
      rw [if_pos (show nI (g (a + j)) = 45 by rw [c]; rfl), s1]
      rfl
    · rw [if_neg c] at s1
      rw [if_neg (show ¬ nI (g (a + j)) = 45 from fun e => c ((nI_eq (b := 45) (by omega) (by omega)).mp e)), s1]
      rfl
  · intro w s hI
    refine ⟨(p, s), ?_, rfl, hI⟩
    show fX2_readRows_b7 (w + 1) (nI (a + r)) (nI (a + r)) (p, s) = _
    rw [fX2_readRows_b7, if_pos (nI_le (Nat.le_refl _) (by omega))]
theorem clear_T (x : SX3) (v : Int32) : ∃ q, fX3_clear x v = some q ∧ q.1 = x.1 ∧ TX q R0 := by
  obtain ⟨u, u1, u2⟩ := fill_X x.2.2.2.1 0
  unfold fX3_clear fX1_clear fX0_clear
  rw [Option.bind_some, Option.bind_some, u1, Option.bind_some]
  refine ⟨_, rfl, rfl, rfl, fun i hi => absurd hi (Nat.not_lt_zero i), rfl, fun i hi => absurd hi (Nat.not_lt_zero i), ?_, ?_, ?_, Nat.zero_le _, Nat.zero_le _⟩
  · exact u2 0 (by omega)
  · intro j j1 j8
    show upd u (4 : Int32).toNatClampNeg (-1) j = upd (fun _ => 0) 4 (-1) j
    rw [show (4 : Int32).toNatClampNeg = 4 by decide]
    unfold upd
    by_cases c : j = 4
    · rw [if_pos c, if_pos c]
    · rw [if_neg c, if_neg c]
      exact u2 j (by omega)
  · exact u2 9 (by omega)
theorem b96_M {y : SX8} {g : Nat → Nat} {r1 r2 : Nat} (h1 : r1 ≤ 14) (h2 : r2 ≤ 14) (e12 : y.1 12 = nI r1) (e13 : y.1 13 = nI r2) (hg : ∀ i, i < r2 → y.2.2 10 (4 + r1 + i) = nI (g (4 + r1 + i)) ∧ g (4 + r1 + i) ≤ 126) :
    ∃ r, fX8_tables_b96 1000 0 y = some r ∧ r.1 = y.2.2 4 0 + y.2.2 4 1 ∧ TM r.2 R0 ∧ r.2.1 0 = y.1 0 + 1 ∧ r.2.1 5 = 0 ∧ r.2.1 6 = 0 ∧ r.2.1 9 = 0 ∧ (∀ i, i ≠ 0 → i ≠ 5 → i ≠ 6 → i ≠ 9 → i ≠ 41 → i ≠ 42 → r.2.1 i = y.1 i) ∧ (∀ i, i ≠ 3 → i ≠ 43 → r.2.2.2 i = y.2.2 i) ∧ (∀ i, i < 14 → r.2.2.2 3 i = y.2.2 3 i) ∧ ∀ i, i < r2 → r.2.2.2 3 (14 + i) = ky (g (4 + r1 + i)) := by
  refine upE (fun w j (s : SX8) => fX8_tables_b96 w (nI j) s) (fun j s => s.1 = y.1 ∧ (∀ i, i ≠ 3 → s.2.2 i = y.2.2 i) ∧ (∀ i, i < 14 → s.2.2 3 i = y.2.2 3 i) ∧ ∀ i, i < j → s.2.2 3 (14 + i) = ky (g (4 + r1 + i))) (fun r => r.1 = y.2.2 4 0 + y.2.2 4 1 ∧ TM r.2 R0 ∧ r.2.1 0 = y.1 0 + 1 ∧ r.2.1 5 = 0 ∧ r.2.1 6 = 0 ∧ r.2.1 9 = 0 ∧ (∀ i, i ≠ 0 → i ≠ 5 → i ≠ 6 → i ≠ 9 → i ≠ 41 → i ≠ 42 → r.2.1 i = y.1 i) ∧ (∀ i, i ≠ 3 → i ≠ 43 → r.2.2.2 i = y.2.2 i) ∧ (∀ i, i < 14 → r.2.2.2 3 i = y.2.2 3 i) ∧ ∀ i, i < r2 → r.2.2.2 3 (14 + i) = ky (g (4 + r1 + i))) r2 ?_ ?_ 1000 0 y (by omega) (by omega) ⟨rfl, fun _ _ => rfl, fun _ _ => rfl, fun i hi => absurd hi (Nat.not_lt_zero i)⟩
  · intro w j s hj hI
    left
    obtain ⟨i1, i2, i3, i4⟩ := hI
    refine ⟨(s.1, s.2.1, va_up s.2.2 3 (upd (s.2.2 3) (14 + j) (ky (g (4 + r1 + j))))), ⟨i1, fun i hi => (if_neg hi).trans (i2 i hi), ?_, ?_⟩, ?_⟩
    · intro i hi
      show upd (s.2.2 3) (14 + j) (ky (g (4 + r1 + j))) i = _
      unfold upd
      rw [if_neg (show ¬ i = 14 + j by omega)]
      exact i3 i hi
    · intro i hi
      show upd (s.2.2 3) (14 + j) (ky (g (4 + r1 + j))) (14 + i) = _
      unfold upd
      by_cases c : i = j
      · rw [c, if_pos rfl]
      · rw [if_neg (show ¬ 14 + i = 14 + j by omega)]
        exact i4 i (by omega)
    · show fX8_tables_b96 (w + 1) (nI j) s = fX8_tables_b96 w (nI (j + 1)) _
      rw [fX8_tables_b96, i1, e13, e12, if_neg (nI_ge hj (by omega)), show (4 : Int32) + nI r1 = nI (4 + r1) from nI_add 4 r1, nI_add, if_neg (nI_in (show 4 + r1 + j < 36 by omega) (by omega)), nI_clamp (by omega), i2 10 (by omega), (hg j hj).1, ky_M _ (by have := (hg j hj).2; omega), Option.bind_some, show (14 : Int32) + nI j = nI (14 + j) from nI_add 14 j, if_neg (nI_in (show 14 + j < 28 by omega) (by omega)), nI_clamp (by omega), nI1]
  · intro w s hI
    obtain ⟨i1, i2, i3, i4⟩ := hI
    show ∃ r, fX8_tables_b96 (w + 1) (nI r2) s = some r ∧ _
    rw [fX8_tables_b96, i1, e13, if_pos (nI_le (Nat.le_refl r2) (by omega))]
    obtain ⟨q, q1, q2, q3, q4, q5⟩ := clearTold_M (upd y.1 5 0, s.2.1, s.2.2)
    rw [q1, Option.bind_some]
    refine ⟨_, rfl, ?_, ?_, ?_, ?_, rfl, rfl, ?_, ?_, ?_, ?_⟩
    · show q.2.2 4 0 + q.2.2 4 1 = _
      rw [q5 4 (by omega)]
      show s.2.2 4 0 + s.2.2 4 1 = _
      rw [i2 4 (by omega)]
    · exact q2.fr rfl rfl (fun _ _ _ => rfl)
    · show q.1 0 + 1 = _
      rw [q3 0 (by omega) (by omega)]
      rfl
    · show q.1 5 = _
      rw [q3 5 (by omega) (by omega)]
      rfl
    · intro i n0 n5 n6 n9 n41 n42
      refine (if_neg n9).trans ((if_neg n6).trans ((if_neg n0).trans ?_))
      rw [q3 i n41 n42]
      exact if_neg n5
    · intro i n3 n43
      exact (q5 i n43).trans (i2 i n3)
    · intro i hi
      show q.2.2 3 i = _
      rw [q5 3 (by omega)]
      exact i3 i hi
    · intro i hi
      show q.2.2 3 (14 + i) = _
      rw [q5 3 (by omega)]
      exact i4 i hi
theorem b63_M {y : SX8} {g : Nat → Nat} {r1 r2 : Nat} (h1 : r1 ≤ 14) (h2 : r2 ≤ 14) (e12 : y.1 12 = nI r1) (e13 : y.1 13 = nI r2) (hg1 : ∀ i, i < r1 → y.2.2 10 (3 + i) = nI (g (3 + i)) ∧ g (3 + i) ≤ 126) (hg : ∀ i, i < r2 → y.2.2 10 (4 + r1 + i) = nI (g (4 + r1 + i)) ∧ g (4 + r1 + i) ≤ 126) :
    ∃ r, fX8_tables_b63 1000 0 y = some r ∧ r.1 = y.2.2 4 0 + y.2.2 4 1 ∧ TM r.2 R0 ∧ r.2.1 0 = y.1 0 + 1 ∧ r.2.1 5 = 0 ∧ r.2.1 6 = 0 ∧ r.2.1 9 = 0 ∧ (∀ i, i ≠ 0 → i ≠ 5 → i ≠ 6 → i ≠ 9 → i ≠ 41 → i ≠ 42 → r.2.1 i = y.1 i) ∧ (∀ i, i ≠ 3 → i ≠ 43 → r.2.2.2 i = y.2.2 i) ∧ (∀ i, i < r1 → r.2.2.2 3 i = ky (g (3 + i))) ∧ ∀ i, i < r2 → r.2.2.2 3 (14 + i) = ky (g (4 + r1 + i)) := by
  refine upE (fun w j (s : SX8) => fX8_tables_b63 w (nI j) s) (fun j s => s.1 = y.1 ∧ (∀ i, i ≠ 3 → s.2.2 i = y.2.2 i) ∧ ∀ i, i < j → s.2.2 3 i = ky (g (3 + i))) (fun r => r.1 = y.2.2 4 0 + y.2.2 4 1 ∧ TM r.2 R0 ∧ r.2.1 0 = y.1 0 + 1 ∧ r.2.1 5 = 0 ∧ r.2.1 6 = 0 ∧ r.2.1 9 = 0 ∧ (∀ i, i ≠ 0 → i ≠ 5 → i ≠ 6 → i ≠ 9 → i ≠ 41 → i ≠ 42 → r.2.1 i = y.1 i) ∧ (∀ i, i ≠ 3 → i ≠ 43 → r.2.2.2 i = y.2.2 i) ∧ (∀ i, i < r1 → r.2.2.2 3 i = ky (g (3 + i))) ∧ ∀ i, i < r2 → r.2.2.2 3 (14 + i) = ky (g (4 + r1 + i))) r1 ?_ ?_ 1000 0 y (by omega) (by omega) ⟨rfl, fun _ _ => rfl, fun i hi => absurd hi (Nat.not_lt_zero i)⟩
  · intro w j s hj hI
    left
    obtain ⟨i1, i2, i4⟩ := hI
    refine ⟨(s.1, s.2.1, va_up s.2.2 3 (upd (s.2.2 3) j (ky (g (3 + j))))), ⟨i1, fun i hi => (if_neg hi).trans (i2 i hi), ?_⟩, ?_⟩
    · intro i hi
      show upd (s.2.2 3) j (ky (g (3 + j))) i = _
      unfold upd
      by_cases c : i = j
      · rw [c, if_pos rfl]
      · rw [if_neg c]
        exact i4 i (by omega)
    · show fX8_tables_b63 (w + 1) (nI j) s = fX8_tables_b63 w (nI (j + 1)) _
      rw [fX8_tables_b63, i1, e12, if_neg (nI_ge hj (by omega)), show (3 : Int32) + nI j = nI (3 + j) from nI_add 3 j, if_neg (nI_in (show 3 + j < 36 by omega) (by omega)), nI_clamp (by omega), i2 10 (by omega), (hg1 j hj).1, ky_M _ (by have := (hg1 j hj).2; omega), Option.bind_some, if_neg (nI_in (show j < 28 by omega) (by omega)), nI_clamp (by omega), nI1]
  · intro w s hI
    obtain ⟨i1, i2, i4⟩ := hI
    show ∃ r, fX8_tables_b63 (w + 1) (nI r1) s = some r ∧ _
    rw [fX8_tables_b63, i1, e12, if_pos (nI_le (Nat.le_refl r1) (by omega))]
    obtain ⟨r, a1, a2, a3, a4, a5, a6, a7, a8, a9, a10, a11⟩ := b96_M (y := s) (g := g) h1 h2 (by rw [i1, e12]) (by rw [i1, e13]) (fun i hi => by rw [i2 10 (by omega)]; exact hg i hi)
    refine ⟨r, a1, ?_, a3, ?_, a5, a6, a7, ?_, ?_, ?_, a11⟩
    · rw [a2, i2 4 (by omega)]
    · rw [a4, i1]
    · intro i n0 n5 n6 n9 n41 n42
      rw [a8 i n0 n5 n6 n9 n41 n42, i1]
    · intro i n3 n43
      rw [a9 i n3 n43, i2 i n3]
    · intro i hi
      rw [a10 i (by omega), i4 i hi]
