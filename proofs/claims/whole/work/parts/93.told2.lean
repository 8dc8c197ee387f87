theorem sub1_of {x : Int32} {K : Nat} (hK : K < 1000) (h1 : ¬ x < 0) : (nI K - 1 < x) ↔ ¬ x < nI K := by
  have e : (nI K - nI 1).toInt = (K : Int) - 1 := pk_sub_toInt (by omega) (by omega)
  have e2 : (nI K).toInt = (K : Int) := nI_toInt (by omega)
  constructor
  · intro h q
    have a1 : (nI K - nI 1).toInt < x.toInt := Int32.lt_iff_toInt_lt.mp h
    have a2 := Int32.lt_iff_toInt_lt.mp q
    rw [e] at a1
    rw [e2] at a2
    omega
  · intro h
    have a2 := Int32.le_iff_toInt_le.mp (Int32.not_lt.mp h)
    rw [e2] at a2
    refine Int32.lt_iff_toInt_lt.mpr ?_
    show (nI K - nI 1).toInt < x.toInt
    rw [e]
    omega
theorem out_P {x : SX7} {m : SX8} {R : RS} {a b : Int32} (h : TX x.2.1 R) (g : TM m R) : ∃ q, fX7_out x a b = some q ∧ fX8_out m a b = some q := by
  obtain ⟨x0, xo, -, -, -, -, -, hK, -⟩ := h
  obtain ⟨g0, -, go, -, -, -, -⟩ := g
  unfold fX7_out fX8_out
  rw [within_M, Option.bind_some, x0, g0]
  by_cases c1 : a < 0
  · rw [if_pos c1, if_pos c1, if_pos (show (0 : Int32) = 0 from rfl)]
    exact ⟨_, rfl, rfl⟩
  · rw [if_neg c1, if_neg c1]
    by_cases c2 : a < nI (R.1 0)
    · obtain ⟨i, i1, i2⟩ := lt_of (by omega) c1 c2
      have hin : ¬ (nI i < 0 ∨ 250 ≤ (nI i).toNatClampNeg) := nI_in (show i < 250 by omega) (by omega)
      have hin2 : ¬ (nI i < 0 ∨ 256 ≤ (nI i).toNatClampNeg) := nI_in (show i < 256 by omega) (by omega)
      rw [if_pos c2, if_neg (fun q => (sub1_of (by omega) c1).mp q c2), if_neg (show ¬ (1 : Int32) = 0 by decide), within_M, Option.bind_some]
      by_cases c3 : b < 0
      · rw [if_pos c3, if_pos c3, if_pos (show (0 : Int32) = 0 from rfl)]
        exact ⟨_, rfl, rfl⟩
      · rw [if_neg c3, if_neg c3]
        by_cases c4 : b ≤ 1
        · unfold fX1_at fX8_outNow
          rw [if_pos c4, if_neg (Int32.not_lt.mpr c4), if_neg (show ¬ (1 : Int32) = 0 by decide), i2, if_neg hin, if_neg hin, if_neg hin2, if_neg hin2, if_neg (nI_pos (n := i) (by omega)), x0, if_neg (nI_ge i1 (by omega)), if_pos (show nI i < 250 from nI_lt (b := 250) (by omega) (by omega)), nI_clamp (by omega), (xo i i1).1, (xo i i1).2, (go i i1).1, (go i i1).2]
          by_cases c5 : b = 0
          · rw [if_pos c5]
            exact ⟨_, rfl, rfl⟩
          · rw [if_neg c5]
            exact ⟨_, rfl, rfl⟩
        · rw [if_neg c4, if_pos (Int32.not_le.mp c4), if_pos (show (0 : Int32) = 0 from rfl)]
          exact ⟨_, rfl, rfl⟩
    · rw [if_neg c2, if_pos ((sub1_of (by omega) c1).mpr c2), if_pos (show (0 : Int32) = 0 from rfl)]
      exact ⟨_, rfl, rfl⟩
