/-! rows -/
def SB (t : SX6) (m : SX8) (n : Nat → Nat) (f : Nat → Nat → Int32) : Prop := SdR t.1 (n 0) (f 0) ∧ SdR t.2.1 (n 1) (f 1) ∧ (∀ s, s < 2 → m.2.2 4 s = nI (n s) ∧ n s ≤ 14) ∧ ∀ s i, s < 2 → i < n s → kOk (f s i) ∧ m.2.2 3 (14 * s + i) = f s i ∧ fX8_keyAt m (nI s) (nI i) = some (f s i) ∧ fX8_partnersOf m (nI s) (nI i) = some (nI (cnt (ptn n f s i))) ∧ fX6_partners t (nI s) (nI i) = some (nI (ptn n f s i))
theorem SB.of {t : SX6} {m : SX8} {n : Nat → Nat} {f : Nat → Nat → Int32} {mem kd : Nat} (h1 : XT t n f mem kd) (h2 : MT n f mem kd m) (h3 : ∀ s i, s < 2 → i < n s → kOk (f s i)) : SB t m n f :=
  ⟨h1.1, h1.2.1, fun s hs => ⟨h2.1 s hs, h2.2.2.2.2.1 s hs⟩, fun s i hs hi => ⟨h3 s i hs hi, h2.2.1 s i hs hi, keyAt_M h2 hs hi, partnersOf_M h2 hs hi, partners_X h1 hs hi⟩⟩
theorem TB.sb {c : Nat} {t : SX6} {m : SX8} (h : TB c t m) : ∃ n f, SB t m n f := by
  rcases h with ⟨-, a1, a2, -, -, -, -, a3, a4⟩ | ⟨-, n, f, mem, kd, -, -, a1, a2, a3⟩
  · refine ⟨fun _ => 0, fun _ _ => 0, ⟨a1, Nat.zero_le _, fun i hi => absurd hi (Nat.not_lt_zero i)⟩, ⟨a2, Nat.zero_le _, fun i hi => absurd hi (Nat.not_lt_zero i)⟩, fun s hs => ⟨?_, Nat.zero_le _⟩, fun s i _ hi => absurd hi (Nat.not_lt_zero i)⟩
    rcases (show s = 0 ∨ s = 1 by omega) with rfl | rfl
    · exact a3
    · exact a4
  · exact ⟨n, f, SB.of a1 a2 a3⟩
theorem one_of {x : Int32} (h0 : ¬ x < 0) (h1 : ¬ 1 < x) : x = 0 ∨ x = 1 := by
  have a1 : (0 : Int32).toInt ≤ x.toInt := Int32.le_iff_toInt_le.mp (Int32.not_lt.mp h0)
  have a2 : x.toInt ≤ (1 : Int32).toInt := Int32.le_iff_toInt_le.mp (Int32.not_lt.mp h1)
  have b1 : (0 : Int32).toInt = 0 := by decide
  have b2 : (1 : Int32).toInt = 1 := by decide
  rcases (show x.toInt = 0 ∨ x.toInt = 1 by omega) with e | e
  · exact Or.inl (Int32.toInt_inj.mp (by rw [e, b1]))
  · exact Or.inr (Int32.toInt_inj.mp (by rw [e, b2]))
theorem side_c (x : Int32) : (fX7_isSide x = some 0 ∧ fX8_isSide x = some 0) ∨ ∃ s, s < 2 ∧ x = nI s ∧ fX7_isSide x = some 1 ∧ fX8_isSide x = some 1 := by
  by_cases e0 : x = 0
  · exact Or.inr ⟨0, by omega, e0, by rw [e0]; decide, by rw [e0]; decide⟩
  · by_cases e1 : x = 1
    · exact Or.inr ⟨1, by omega, e1, by rw [e1]; decide, by rw [e1]; decide⟩
    · left
      unfold fX7_isSide fX8_isSide
      rw [if_neg e0, if_neg e1, within_M, Option.bind_some]
      refine ⟨rfl, ?_⟩
      by_cases c1 : x < 0
      · rw [if_pos c1]; rfl
      · rw [if_neg c1]
        by_cases c2 : 1 < x
        · rw [if_pos c2]; rfl
        · rcases one_of c1 c2 with e | e
          · exact absurd e e0
          · exact absurd e e1
theorem row_c {t : SX6} {m : SX8} {n : Nat → Nat} {f : Nat → Nat → Int32} (h : SB t m n f) (b0 b1 : Int32) : (fX6_hasRow t b0 b1 = some 0 ∧ fX8_isRow m b0 b1 = some 0) ∨ ∃ s i, s < 2 ∧ i < n s ∧ b0 = nI s ∧ b1 = nI i ∧ fX6_hasRow t b0 b1 = some 1 ∧ fX8_isRow m b0 b1 = some 1 := by
  obtain ⟨h1, h2, h3, h4⟩ := h
  unfold fX6_hasRow fX8_isRow
  rcases side_c b0 with ⟨a1, a2⟩ | ⟨s, hs, e, a1, a2⟩
  · left
    rw [a1, a2]
    exact ⟨rfl, rfl⟩
  · rw [a1, a2, Option.bind_some, Option.bind_some, if_neg (show ¬ (1 : Int32) = 0 by decide), if_neg (show ¬ (1 : Int32) = 0 by decide), e, if_neg (nI_in (show s < 2 by omega) (by omega)), nI_clamp (by omega), (h3 s hs).1, within_M, Option.bind_some]
    have hx : SdR (if s = 0 then t.1 else t.2.1) (n s) (f s) := by
      rcases (show s = 0 ∨ s = 1 by omega) with rfl | rfl
      · exact h1
      · exact h2
    have e2 : (if nI s = 0 then (fX5_has t.1 b1).bind fun q4 => if q4 = 0 then some 0 else some 1 else (fX5_has t.2.1 b1).bind fun q6 => if q6 = 0 then some 0 else some 1) = (fX5_has (if s = 0 then t.1 else t.2.1) b1).bind fun q4 => if q4 = 0 then some (0 : Int32) else some 1 := by
      rcases (show s = 0 ∨ s = 1 by omega) with rfl | rfl
      · rw [if_pos (show nI 0 = 0 from rfl), if_pos rfl]
      · rw [if_neg (show ¬ nI 1 = 0 by decide), if_neg (show ¬ (1 : Nat) = 0 by decide)]
    rw [e2]
    have hn := (h3 s hs).2
    by_cases c1 : b1 < 0
    · left
      rw [has_Xn hx (fun ⟨i, i1, i2⟩ => by rw [i2] at c1; exact nI_pos (n := i) (by omega) c1), if_pos c1]
      exact ⟨rfl, rfl⟩
    · rw [if_neg c1]
      by_cases c2 : b1 < nI (n s)
      · obtain ⟨i, i1, i2⟩ := lt_of (by omega) c1 c2
        right
        rw [if_neg (fun q => (sub1_of (by omega) c1).mp q c2), i2, has_X hx i1]
        exact ⟨s, i, hs, i1, rfl, rfl, rfl, rfl⟩
      · left
        rw [if_pos ((sub1_of (by omega) c1).mpr c2), has_Xn hx (fun ⟨i, i1, i2⟩ => c2 (by rw [i2]; exact nI_lt i1 (by omega)))]
        exact ⟨rfl, rfl⟩
theorem row_P {x : SX7} {m : SX8} {n : Nat → Nat} {f : Nat → Nat → Int32} (h : SB x.2.1.1 m n f) (b0 b1 b2 : Int32) : ∃ q, fX7_row x b0 b1 b2 = some q ∧ fX8_row m b0 b1 b2 = some q := by
  unfold fX7_row fX8_row
  rcases row_c h b0 b1 with ⟨a1, a2⟩ | ⟨s, i, hs, hi, e0, e1, a1, a2⟩
  · rw [a1, a2]
    exact ⟨_, rfl, rfl⟩
  · rw [a1, a2, Option.bind_some, Option.bind_some, if_neg (show ¬ (1 : Int32) = 0 by decide), if_neg (show ¬ (1 : Int32) = 0 by decide), within_M, Option.bind_some]
    by_cases c1 : b2 < 0
    · rw [if_pos c1, if_pos c1]
      exact ⟨_, rfl, rfl⟩
    · rw [if_neg c1, if_neg c1]
      by_cases c2 : 1 < b2
      · rw [if_pos c2, if_neg (Int32.not_le.mpr c2)]
        exact ⟨_, rfl, rfl⟩
      · obtain ⟨h1, h2, h3, h4⟩ := h
        obtain ⟨k1, k2, k3, k4, k5⟩ := h4 s i hs hi
        rw [if_neg c2, if_pos (Int32.not_lt.mp c2), if_neg (show ¬ (1 : Int32) = 0 by decide), e0, e1]
        unfold fX8_rowNow
        rw [k3, k4, k5]
        rcases one_of c1 c2 with e | e
        · rw [if_pos e, if_pos e, Option.bind_some, Option.bind_some]
          rcases (show s = 0 ∨ s = 1 by omega) with rfl | rfl
          · rw [if_pos (show nI 0 = 0 from rfl), keyAt_X h1 hi]
            exact ⟨_, rfl, rfl⟩
          · rw [if_neg (show ¬ nI 1 = 0 by decide), keyAt_X h2 hi]
            exact ⟨_, rfl, rfl⟩
        · rw [if_neg (show ¬ b2 = 0 by rw [e]; decide), if_neg (show ¬ b2 = 0 by rw [e]; decide), Option.bind_some, Option.bind_some, bitCount_eq (ptn_lt (h3 (1 - s) (by omega)).2)]
          exact ⟨_, rfl, rfl⟩
theorem sm_row : Sm_row Rel := by
  intro k x m b0 b1 b2 hk h
  obtain ⟨c, -, -, -, h5, -⟩ := h.2.1
  obtain ⟨n, f, hs⟩ := h5.sb
  obtain ⟨q, q1, q2⟩ := row_P hs b0 b1 b2
  exact ⟨q, q, q1, q2, rfl, h.up⟩
/-- whether tables are there -/
theorem there_c {c k : Nat} {t : SX6} {m : SX8} (hk : k < 512) (hc : c ≤ k) (h0 : m.1 0 = nI c) (h : TB c t m) : (c = 0 ∧ fX6_areThere t = some 0 ∧ m.1 0 = 0) ∨ (1 ≤ c ∧ fX6_areThere t = some 1 ∧ ¬ m.1 0 = 0 ∧ ∃ n f mem kd, 1 ≤ mem ∧ mem ≤ 9 ∧ XT t n f mem kd ∧ MT n f mem kd m ∧ ∀ s i, s < 2 → i < n s → kOk (f s i)) := by
  unfold fX6_areThere
  rcases h with ⟨a0, a1, a2, a3, a4, -, -, -, -⟩ | ⟨a0, n, f, mem, kd, b1, b2, b3, b4, b5⟩
  · left
    rw [if_pos a3, h0, a0]
    exact ⟨rfl, rfl, rfl⟩
  · right
    rw [b3.2.2.1, if_neg (fun e => by have := (nI_eq (b := 0) (by omega) (by omega)).mp e; omega), h0]
    exact ⟨a0, rfl, fun e => by have := (nI_eq (b := 0) (by omega) (by omega)).mp e; omega, n, f, mem, kd, b1, b2, b3, b4, b5⟩
theorem four_c (x : Int32) : fX7_isKind x = some (if x < 0 then 0 else if 4 < x then 0 else 1) ∧ (¬ x < 0 → ¬ 4 < x → ∃ j, j < 5 ∧ x = nI j) := by
  have q : (5 : Int32) ≤ x ↔ 4 < x := by
    rw [Int32.le_iff_toInt_le, Int32.lt_iff_toInt_lt, show (5 : Int32).toInt = 5 by decide, show (4 : Int32).toInt = 4 by decide]
    omega
  constructor
  · unfold fX7_isKind
    by_cases c1 : x < 0
    · rw [if_pos c1, if_pos c1]
    · rw [if_neg c1, if_neg c1]
      by_cases c2 : 4 < x
      · rw [if_pos (q.mpr c2), if_pos c2]
      · rw [if_neg (fun e => c2 (q.mp e)), if_neg c2]
  · intro c1 c2
    exact lt_of (K := 5) (by omega) c1 (Int32.not_le.mp (fun e => c2 (q.mp e)))
theorem sm_as : Sm_as Rel := by
  intro k x m b0 hk h
  obtain ⟨c, h2, h3, h4, h5, h6⟩ := h.2.1
  obtain ⟨f1, f2⟩ := four_c b0
  unfold fX7_as fX8_as
  rw [f1, within_M, Option.bind_some, Option.bind_some]
  by_cases c1 : b0 < 0
  · rw [if_pos c1]
    exact ⟨_, _, rfl, rfl, rfl, h.up⟩
  · rw [if_neg c1]
    by_cases c2 : 4 < b0
    · rw [if_pos c2]
      exact ⟨_, _, rfl, rfl, rfl, h.up⟩
    · rw [if_neg c2, if_neg (show ¬ (1 : Int32) = 0 by decide), if_neg (show ¬ (1 : Int32) = 0 by decide)]
      rcases there_c hk h2 h3 h5 with ⟨-, a2, a3⟩ | ⟨-, a2, a3, n, f, mem, kd, b1, b2, b3, b4, b5⟩
      · rw [a2, Option.bind_some, if_pos (show (0 : Int32) = 0 from rfl), if_pos a3]
        exact ⟨_, _, rfl, rfl, rfl, h.up⟩
      · unfold fX7_as_b54 fX7_as_b58
        rw [a2, Option.bind_some, if_neg (show ¬ (1 : Int32) = 0 by decide), if_neg a3, b3.2.2.2.1, b4.2.2.2.1]
        repeat' split
        all_goals exact ⟨_, _, rfl, rfl, rfl, h.up⟩
