theorem letter_P {x : SX7} {m : SX8} {b0 : Int32} (h : PG x.1 m) : ∃ q r, fX7_letter x b0 = some q ∧ fX8_letter m b0 = some r ∧ q.1 = r.1 ∧ PG q.2.1 r.2 ∧ q.2.2 = x.2 ∧ (∀ i, i ≠ 9 → r.2.1 i = m.1 i) ∧ r.2.2.1 = m.2.1 ∧ ∀ i, i ≠ 10 → r.2.2.2 i = m.2.2 i := by
  have h' := h
  obtain ⟨L, hL, e1, e2, e3⟩ := h
  have same : ∀ v : Int32, ∃ q r, (some (v, x) : Option (Int32 × SX7)) = some q ∧ (some (v, m) : Option (Int32 × SX8)) = some r ∧ q.1 = r.1 ∧ PG q.2.1 r.2 ∧ q.2.2 = x.2 ∧ (∀ i, i ≠ 9 → r.2.1 i = m.1 i) ∧ r.2.2.1 = m.2.1 ∧ ∀ i, i ≠ 10 → r.2.2.2 i = m.2.2 i :=
    fun v => ⟨_, _, rfl, rfl, rfl, h', rfl, fun _ _ => rfl, rfl, fun _ _ => rfl⟩
  unfold fX7_letter fX8_letter
  rw [within_M, Option.bind_some]
  by_cases a : b0 < 32
  · rw [if_pos a, if_pos a, if_pos (show (0 : Int32) = 0 from rfl)]
    exact same (-102)
  · rw [if_neg a, if_neg a]
    by_cases b : b0 ≤ 126
    · rw [if_pos b, if_neg (Int32.not_lt.mpr b), if_neg (show ¬ (1 : Int32) = 0 by decide)]
      unfold fX2_isFull
      rw [e1, e2]
      by_cases c : L = 36
      · rw [c, if_neg (show ¬ nI 36 < 36 by decide), Option.bind_some, if_neg (show ¬ (1 : Int32) = 0 by decide), if_pos (show nI 36 = 36 from rfl)]
        exact same (-104)
      · obtain ⟨k, k1, k2, k3⟩ := ch_of a b
        have hin : ¬ (nI L < 0 ∨ 36 ≤ (nI L).toNatClampNeg) := nI_in (show L < 36 by omega) (by omega)
        rw [if_pos (show nI L < 36 from nI_lt (b := 36) (by omega) (by omega)), Option.bind_some, if_pos (show (0 : Int32) = 0 from rfl), if_neg (show ¬ nI L = 36 from fun e => c ((nI_eq (b := 36) (by omega) (by omega)).mp e)), if_neg hin]
        unfold fX2_add
        rw [e1, if_neg (nI_pos (n := L) (by omega)), if_neg (cl 36 (show L < 36 by omega) (by omega)), if_neg hin, Option.bind_some, nI_clamp (by omega), k3, ch_b k (by omega)]
        refine ⟨_, _, rfl, rfl, rfl, ⟨L + 1, by omega, nI_1 L, nI_1 L, ?_⟩, rfl, ?_, rfl, ?_⟩
        · intro i hi
          show upd x.1.1 L (nI k) i = upd (m.2.2 10) L (nI k) i ∧ ∃ c, 32 ≤ c ∧ c ≤ 126 ∧ upd x.1.1 L (nI k) i = nI c
          unfold upd
          by_cases d : i = L
          · rw [if_pos d, if_pos d]
            exact ⟨rfl, k, k1, k2, rfl⟩
          · rw [if_neg d, if_neg d]
            exact e3 i (by omega)
        · intro i hi
          exact if_neg hi
        · intro i hi
          exact if_neg hi
    · rw [if_neg b, if_pos (Int32.not_le.mp b), if_pos (show (0 : Int32) = 0 from rfl)]
      exact same (-102)
theorem blank_P {x : SX7} {m : SX8} (h : PG x.1 m) : ∃ q r, fX7_blank x = some q ∧ fX8_blank m = some r ∧ q.1 = r.1 ∧ PG q.2.1 r.2 ∧ q.2.2 = x.2 ∧ (∀ i, i ≠ 9 → r.2.1 i = m.1 i) ∧ r.2.2.1 = m.2.1 ∧ ∀ i, i ≠ 10 → r.2.2.2 i = m.2.2 i := by
  obtain ⟨L, hL, e1, e2, e3⟩ := h
  unfold fX7_blank fX8_blank fX2_clear
  rw [Option.bind_some]
  exact ⟨_, _, rfl, rfl, e1.trans e2.symm, ⟨0, by omega, rfl, rfl, fun i hi => absurd hi (Nat.not_lt_zero i)⟩, rfl, fun i hi => if_neg hi, rfl, fun _ _ => rfl⟩
