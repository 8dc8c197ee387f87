theorem log_P {x : SX7} {m : SX8} {R : RS} {a b : Int32} (h : TX x.2.1 R) (g : TM m R) : ∃ q, fX7_log x a b = some q ∧ fX8_log m a b = some q := by
  obtain ⟨-, -, x0, xo, -, -, -, -, hK⟩ := h
  obtain ⟨-, g0, -, go, -, -, -⟩ := g
  unfold fX7_log fX8_log
  rw [within_M, Option.bind_some, x0, g0]
  by_cases c1 : a < 0
  · rw [if_pos c1, if_pos c1, if_pos (show (0 : Int32) = 0 from rfl)]
    exact ⟨_, rfl, rfl⟩
  · rw [if_neg c1, if_neg c1]
    by_cases c2 : a < nI (R.1 1)
    · obtain ⟨i, i1, i2⟩ := lt_of (by omega) c1 c2
      have hin : ¬ (nI i < 0 ∨ 200 ≤ (nI i).toNatClampNeg) := nI_in (show i < 200 by omega) (by omega)
      have hin2 : ¬ (nI i < 0 ∨ 512 ≤ (nI i).toNatClampNeg) := nI_in (show i < 512 by omega) (by omega)
      rw [if_pos c2, if_neg (fun q => (sub1_of (by omega) c1).mp q c2), if_neg (show ¬ (1 : Int32) = 0 by decide), within_M, Option.bind_some]
      by_cases c3 : b < 0
      · rw [if_pos c3, if_pos c3, if_pos (show (0 : Int32) = 0 from rfl)]
        exact ⟨_, rfl, rfl⟩
      · rw [if_neg c3, if_neg c3]
        by_cases c4 : b ≤ 2
        · unfold fX0_at fX8_logNow
          rw [if_pos c4, if_neg (Int32.not_lt.mpr c4), if_neg (show ¬ (1 : Int32) = 0 by decide), i2, if_neg hin, if_neg hin, if_neg hin, if_neg hin2, if_neg hin2, if_neg hin2, if_neg (nI_pos (n := i) (by omega)), x0, if_neg (nI_ge i1 (by omega)), if_pos (show nI i < 200 from nI_lt (b := 200) (by omega) (by omega)), nI_clamp (by omega), (xo i i1).1, (xo i i1).2.1, (xo i i1).2.2, (go i i1).1, (go i i1).2.1, (go i i1).2.2]
          by_cases c5 : b = 0
          · rw [if_pos c5]
            exact ⟨_, rfl, rfl⟩
          · rw [if_neg c5]
            by_cases c6 : b = 1
            · rw [if_pos c6]
              exact ⟨_, rfl, rfl⟩
            · rw [if_neg c6]
              exact ⟨_, rfl, rfl⟩
        · rw [if_neg c4, if_pos (Int32.not_le.mp c4), if_pos (show (0 : Int32) = 0 from rfl)]
          exact ⟨_, rfl, rfl⟩
    · rw [if_neg c2, if_pos ((sub1_of (by omega) c1).mpr c2), if_pos (show (0 : Int32) = 0 from rfl)]
      exact ⟨_, rfl, rfl⟩
