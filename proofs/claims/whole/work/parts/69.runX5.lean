theorem upK {σ τ : Type} (F : Nat → Nat → σ → Option τ) (I : Nat → σ → Prop) (K : σ → Option τ) (J : σ → Prop) (N : Nat) (hs : ∀ n j s, j < N → I j s → (∃ s', I (j + 1) s' ∧ F (n + 1) j s = F n (j + 1) s') ∨ ∃ s', J s' ∧ F (n + 1) j s = K s') (he : ∀ n s, I N s → ∃ s', J s' ∧ F (n + 1) N s = K s') :
    ∀ n j s, j ≤ N → N - j < n → I j s → ∃ s', J s' ∧ F n j s = K s' := by
  intro n
  induction n with
  | zero => intro j s h1 h2; omega
  | succ n ih =>
    intro j s h1 h2 hI
    rcases Nat.lt_or_ge j N with h | h
    · rcases hs n j s h hI with ⟨s', q1, q2⟩ | q
      · rw [q2]
        exact ih (j + 1) s' h (by omega) q1
      · exact q
    · have e : j = N := by omega
      subst e
      exact he n s hI
theorem and_2p (a j : Nat) : a &&& 2 ^ j = if a.testBit j then 2 ^ j else 0 := by
  apply Nat.eq_of_testBit_eq
  intro i
  rw [Nat.testBit_and, Nat.testBit_two_pow]
  by_cases e : j = i
  · subst e
    cases h : a.testBit j
    · simp
    · rw [if_pos rfl, Nat.testBit_two_pow]
      simp
  · rw [decide_eq_false e, Bool.and_false]
    split
    · rw [Nat.testBit_two_pow, decide_eq_false e]
    · rw [Nat.zero_testBit]
theorem sdf_bit (a b i : Nat) : (sdf a b).testBit i = (a.testBit i && !b.testBit i) := by
  unfold sdf
  rw [Nat.testBit_and, Nat.testBit_xor, Nat.testBit_and]
  cases a.testBit i <;> cases b.testBit i <;> rfl
theorem sdf_lt {a b : Nat} (h : a < 16384) : sdf a b < 16384 := and_lt h
theorem cntB_add {x y z : Nat} : ∀ m, (∀ k, k < m → x.testBit k = (y.testBit k || z.testBit k) ∧ (y.testBit k && z.testBit k) = false) → cntB x m = cntB y m + cntB z m := by
  intro m
  induction m with
  | zero => intro _; rfl
  | succ m ih =>
    intro h
    obtain ⟨h1, h2⟩ := h m (by omega)
    rw [cntB, cntB, cntB, ih (fun k hk => h k (by omega)), h1]
    cases p : y.testBit m <;> cases q : z.testBit m
    · simp
    · simp; omega
    · simp; omega
    · rw [p, q] at h2; simp at h2
theorem cntB_zero {a : Nat} : ∀ m, (∀ k, k < m → a.testBit k = false) → cntB a m = 0 := by
  intro m
  induction m with
  | zero => intro _; rfl
  | succ m ih =>
    intro h
    rw [cntB, ih (fun k hk => h k (by omega)), h m (by omega)]
    rfl
theorem cntB_pos {a k m : Nat} (hk : k < m) (h : a.testBit k = true) : 1 ≤ cntB a m := by
  have := cntB_mono a (show k + 1 ≤ m by omega)
  rw [cntB, if_pos h] at this
  omega
theorem bit_lt {a k : Nat} (h : a < 16384) (hb : a.testBit k = true) : k < 14 := by
  rcases Nat.lt_or_ge k 14 with q | q
  · exact q
  · have e : a.testBit k = false := Nat.testBit_lt_two_pow (Nat.lt_of_lt_of_le h (Nat.pow_le_pow_right (n := 2) (by omega) q))
    rw [e] at hb
    cases hb
theorem cnt_z {a : Nat} (h : a < 16384) (hc : cnt a = 0) : a = 0 := by
  apply Nat.eq_of_testBit_eq
  intro i
  rw [Nat.zero_testBit]
  cases q : a.testBit i
  · rfl
  · have := cntB_pos (m := 16) (by have := bit_lt h q; omega) q
    have hc : cntB a 16 = 0 := hc
    omega
theorem cnt_sdf {a b : Nat} (hb : ∀ k, b.testBit k = true → a.testBit k = true) : cnt a = cnt b + cnt (sdf a b) := by
  refine cntB_add 16 (fun k _ => ?_)
  rw [sdf_bit]
  cases p : b.testBit k
  · cases a.testBit k <;> simp
  · rw [hb k p]
    simp
theorem fst_sub (a m : Nat) : ∀ k i, (fst a m k).testBit i = true → a.testBit i = true ∧ i < k := by
  intro k
  induction k with
  | zero => intro i h; rw [fst, Nat.zero_testBit] at h; cases h
  | succ k ih =>
    intro i h
    rw [fst] at h
    split at h
    · rename_i c
      rw [Nat.testBit_or, Nat.testBit_two_pow] at h
      by_cases e : k = i
      · subst e
        rw [Bool.and_eq_true] at c
        exact ⟨c.1, by omega⟩
      · rw [decide_eq_false e, Bool.or_false] at h
        exact ⟨(ih i h).1, by have := (ih i h).2; omega⟩
    · exact ⟨(ih i h).1, by have := (ih i h).2; omega⟩
theorem fst_lt (a m : Nat) : ∀ k, fst a m k < 2 ^ k := by
  intro k
  induction k with
  | zero => simp [fst]
  | succ k ih =>
    rw [fst]
    have h2 : 2 ^ k < 2 ^ (k + 1) := Nat.pow_lt_pow_right (by omega) (by omega)
    split
    · exact Nat.or_lt_two_pow (Nat.lt_trans ih h2) h2
    · exact Nat.lt_trans ih h2
theorem cnt_le (a : Nat) : cnt a ≤ 16 := cntB_le a 16
theorem fst14 (a m : Nat) : fst a m 14 < 16384 := fst_lt a m 14
theorem fst_le (a m : Nat) : ∀ k, k ≤ 14 → fst a m k < 16384 := fun k hk => Nat.lt_of_lt_of_le (fst_lt a m k) (Nat.pow_le_pow_right (by omega) hk)
theorem fst_more {a m j : Nat} (h : m ≤ cnt (fst a m j)) : ∀ k, j ≤ k → fst a m k = fst a m j := by
  intro k
  induction k with
  | zero => intro hj; rw [show j = 0 by omega]
  | succ k ih =>
    intro hj
    rcases Nat.lt_or_ge k j with q | q
    · rw [show j = k + 1 by omega]
    · rw [fst, ih q, if_neg (by rw [decide_eq_false (by omega), Bool.and_false]; decide)]
theorem fst_pos {a m : Nat} (ha : a < 16384) (h0 : a ≠ 0) (hm : 1 ≤ m) : 1 ≤ cnt (fst a m 14) := by
  rcases Nat.eq_zero_or_pos (cnt (fst a m 14)) with q | q
  · exfalso
    have z : ∀ k, k ≤ 14 → fst a m k = 0 := by
      intro k hk
      have hz : fst a m 14 = 0 := cnt_z (fst14 a m) q
      apply Nat.eq_of_testBit_eq
      intro i
      rw [Nat.zero_testBit]
      cases e : (fst a m k).testBit i
      · rfl
      · have : ∀ j, k ≤ j → (fst a m j).testBit i = true := by
          intro j
          induction j with
          | zero => intro hj; rw [show 0 = k by omega]; exact e
          | succ j ih =>
            intro hj
            rcases Nat.lt_or_ge j k with w | w
            · rw [show j + 1 = k by omega]; exact e
            · rw [fst]
              split
              · rw [Nat.testBit_or, ih w, Bool.true_or]
              · exact ih w
        have := this 14 hk
        rw [hz, Nat.zero_testBit] at this
        cases this
    obtain ⟨t1, t2, -⟩ := tz_ok ha h0
    have w := z (tz a + 1) (by omega)
    rw [fst, z (tz a) (by omega), t2, Bool.true_and, if_pos (by
      apply decide_eq_true
      show cntB 0 16 < m
      rw [cntB_zero 16 (fun k _ => Nat.zero_testBit k)]
      omega), Nat.zero_or] at w
    have := Nat.two_pow_pos (tz a)
    omega
  · exact q
theorem firstOf_X {a m : Nat} (ha : a < 16384) (hm : m < 2 ^ 31) : fX3_firstOf (nI a) (nI m) = some (nI (fst a m 14)) := by
  have hF : fX3_firstOf (nI a) (nI m) = fX3_firstOf_b4 1000 (nI a) (nI m) (nI (fst a m 0)) (nI 0) := rfl
  rw [hF]
  obtain ⟨r, r1, r2⟩ := upE (fun k j (_ : Unit) => fX3_firstOf_b4 k (nI a) (nI m) (nI (fst a m j)) (nI j)) (fun _ _ => True) (fun r => r = nI (fst a m 14)) 14 (fun k j _ hj _ => by
    have hl := fst_le a m j (by omega)
    by_cases c : m ≤ cnt (fst a m j)
    · refine Or.inr ⟨nI (fst a m j), ?_, by rw [fst_more c 14 (by omega)]⟩
      show fX3_firstOf_b4 (k + 1) (nI a) (nI m) (nI (fst a m j)) (nI j) = _
      rw [fX3_firstOf_b4, if_neg (cl 14 (by omega) (by omega)), bitCount_eq hl, Option.bind_some, if_pos (nI_le c (by have := cnt_le (fst a m j); omega))]
    · refine Or.inl ⟨(), trivial, ?_⟩
      show fX3_firstOf_b4 (k + 1) (nI a) (nI m) (nI (fst a m j)) (nI j) = fX3_firstOf_b4 k (nI a) (nI m) (nI (fst a m (j + 1))) (nI (j + 1))
      rw [fX3_firstOf_b4, if_neg (cl 14 (by omega) (by omega)), bitCount_eq hl, Option.bind_some, if_neg (nI_ge (by omega) hm), one_shl (by omega), fa_and, fa_or, nI1, and_2p, fst, decide_eq_true (show cnt (fst a m j) < m by omega), Bool.and_true]
      by_cases b : a.testBit j = true
      · rw [if_pos b, if_pos b]
      · rw [if_neg b, if_neg b, Nat.or_zero]) (fun k _ _ => ⟨nI (fst a m 14), by
        show fX3_firstOf_b4 (k + 1) (nI a) (nI m) (nI (fst a m 14)) (nI 14) = _
        rw [fX3_firstOf_b4, if_pos (show (14 : Int32) ≤ nI 14 by decide)], rfl⟩) 1000 0 () (by omega) (by omega) trivial
  rw [r2] at r1
  exact r1
