/-- what the class tells of the latest run is R -/
def TX (y : SX3) (R : RS) : Prop := y.2.1.2.2.1 = nI (R.1 0) ∧ (∀ i, i < R.1 0 → y.2.1.1 i = R.2.1 0 i ∧ y.2.1.2.1 i = R.2.1 1 i) ∧ y.2.2.1.2.2.2.1 = nI (R.1 1) ∧ (∀ i, i < R.1 1 → y.2.2.1.1 i = R.2.1 2 i ∧ y.2.2.1.2.1 i = R.2.1 3 i ∧ y.2.2.1.2.2.1 i = R.2.1 4 i) ∧ y.2.2.2.1 0 = nI (R.1 0) ∧ (∀ j, 1 ≤ j → j ≤ 8 → y.2.2.2.1 j = R.2.2.1 j) ∧ y.2.2.2.1 9 = nI (R.1 1) ∧ R.1 0 ≤ 250 ∧ R.1 1 ≤ 200
theorem lt_of {x : Int32} {K : Nat} (hK : K < 2 ^ 31) (h1 : ¬ x < 0) (h2 : x < nI K) : ∃ i, i < K ∧ x = nI i := by
  have a1 : (0 : Int32).toInt ≤ x.toInt := Int32.le_iff_toInt_le.mp (Int32.not_lt.mp h1)
  have a2 : x.toInt < (nI K).toInt := Int32.lt_iff_toInt_lt.mp h2
  have b1 : (0 : Int32).toInt = 0 := by decide
  rw [b1] at a1
  rw [nI_toInt hK] at a2
  refine ⟨x.toInt.toNat, by omega, ?_⟩
  apply Int32.toInt_inj.mp
  rw [nI_toInt (by omega)]
  omega
theorem ledger_P {x : SX7} {m : SX8} {R : RS} {b0 : Int32} (h : TX x.2.1 R) (g : TM m R) : ∃ q, fX7_ledger x b0 = some q ∧ fX8_ledger m b0 = some q := by
  obtain ⟨-, -, -, -, x0, xc, x9, -, -⟩ := h
  obtain ⟨-, -, -, -, m0, mc, m9⟩ := g
  unfold fX7_ledger fX8_ledger
  rw [within_M, Option.bind_some]
  by_cases a : b0 < 0
  · rw [if_pos a, if_pos a, if_pos (show (0 : Int32) = 0 from rfl)]
    exact ⟨_, rfl, rfl⟩
  · rw [if_neg a, if_neg a]
    by_cases b : b0 < 10
    · obtain ⟨i, i1, i2⟩ := lt_of (K := 10) (by omega) a b
      have h9 : ¬ (9 : Int32) < nI i := nI_nlt (a := 9) (b := i) (by omega) (by omega)
      have hin : ¬ (nI i < 0 ∨ 10 ≤ (nI i).toNatClampNeg) := nI_in i1 (by omega)
      unfold fX3_lineAt
      rw [if_pos b, i2, if_neg h9, if_neg (show ¬ (1 : Int32) = 0 by decide), if_neg hin, if_neg (nI_pos (n := i) (by omega)), if_neg (cl 10 i1 (by omega)), if_neg hin, Option.bind_some, nI_clamp (by omega)]
      refine ⟨_, rfl, ?_⟩
      congr 1
      rcases (show i = 0 ∨ i = 9 ∨ (1 ≤ i ∧ i ≤ 8) by omega) with rfl | rfl | ⟨c1, c2⟩
      · rw [x0, m0]
      · rw [x9, m9]
      · rw [xc i c1 c2, mc i c1 c2]
    · have h9 : (9 : Int32) < b0 := by
        refine Int32.not_le.mp (fun e => b ?_)
        have a1 := Int32.le_iff_toInt_le.mp e
        refine Int32.lt_iff_toInt_lt.mpr ?_
        have c1 : (9 : Int32).toInt = 9 := by decide
        have c2 : (10 : Int32).toInt = 10 := by decide
        rw [c1] at a1
        rw [c2]
        omega
      rw [if_neg b, if_pos h9, if_pos (show (0 : Int32) = 0 from rfl)]
      exact ⟨_, rfl, rfl⟩
