section
variable {p : SX2} {m : SX8} {L : Nat} {g : Nat → Nat}
theorem ff_step (h : PL p m L g) {i : Nat} (hi : i < 3) (hL : i < L) (k : Nat) (x y : Int32) : fX2_firstFault_b6 p (k + 1) x y (nI i) = (fX2_isHead (nI i) (nI (g i))).bind fun q6 => if q6 = 0 then some (nI i) else fX2_firstFault_b6 p k x y (nI (i + 1)) := by
  have h36 := h.1
  rw [fX2_firstFault_b6, h.2.1, if_neg (nI_ge hL (by omega)), codeAt_L h hL, Option.bind_some, if_neg (cl 3 hi (by omega)), nI1]
theorem ff_stop (h : PL p m L g) {i : Nat} (hL : L ≤ i) (h2 : i < 1000) (k : Nat) (x y : Int32) : fX2_firstFault_b6 p (k + 1) x y (nI i) = some (nI L) := by
  rw [fX2_firstFault_b6, h.2.1, if_pos (nI_le hL (by omega))]
theorem whole_no (h : PL p m L g) {P : Nat} (e : fX2_firstFault p = some (nI P)) (hP : P < L) : fX2_isWhole p = some 0 := by
  have h36 := h.1
  unfold fX2_isWhole
  rw [e, Option.bind_some, h.2.1, if_neg (show ¬ nI P = nI L from fun q => by have := (nI_eq (by omega) (by omega)).mp q; omega)]
theorem whole_no2 (h : PL p m L g) (e : fX2_firstFault p = some (nI L)) (e2 : fX2_secondMark p = some (-1)) : fX2_isWhole p = some 0 := by
  unfold fX2_isWhole
  rw [e, Option.bind_some, h.2.1, if_pos rfl, e2, Option.bind_some, if_pos rfl]
theorem whole_yes (h : PL p m L g) {q : Nat} (hq : q < 1000) (e : fX2_firstFault p = some (nI L)) (e2 : fX2_secondMark p = some (nI q)) : fX2_isWhole p = some 1 := by
  unfold fX2_isWhole
  rw [e, Option.bind_some, h.2.1, if_pos rfl, e2, Option.bind_some, if_neg (show ¬ nI q = -1 from fun e => by
    have h1 : (nI q).toInt = (-1 : Int32).toInt := by rw [e]
    rw [nI_toInt (by omega)] at h1
    have h2 : (-1 : Int32).toInt = -1 := by decide
    omega)]
theorem sm_rows (h : PL p m L g) {r : Nat} (h2 : RF g L 3 r) : fX2_secondMark p = fX2_secondMark_b2 p (1000 - r) (nI (3 + r)) := by
  have h36 := h.1
  have q := stp (fun k j => fX2_secondMark_b2 p k (nI (3 + j))) r (fun k j hj => by
    obtain ⟨b1, b2⟩ := h2.2.1 j hj
    have hg := (h.2.2.2 (3 + j) b1).2.2.2
    show fX2_secondMark_b2 p (k + 1) (nI (3 + j)) = fX2_secondMark_b2 p k (nI (3 + (j + 1)))
    rw [fX2_secondMark_b2, h.2.1, if_neg (nI_ge b1 (by omega)), codeAt_L h b1, Option.bind_some, if_neg (show ¬ nI (g (3 + j)) = 59 from fun e => isR_59 b2 ((nI_eq (b := 59) (by omega) (by omega)).mp e)), nI1]
    rfl) r (1000 - r) 0 (by omega)
  have hr := h2.1
  rw [show 1000 - r + r = 1000 by omega] at q
  show fX2_secondMark_b2 p 1000 (nI (3 + 0)) = _
  rw [show fX2_secondMark_b2 p 1000 (nI (3 + 0)) = _ from q, Nat.zero_add]
theorem sm_small (h : PL p m L g) (h3 : L ≤ 3) : fX2_secondMark p = some (-1) := by
  show fX2_secondMark_b2 p (999 + 1) (nI 3) = _
  rw [fX2_secondMark_b2, h.2.1, if_pos (nI_le h3 (by omega))]
/-- what reading finds -/
def RD (p : SX2) (m : SX8) (L : Nat) (g : Nat → Nat) (P : Nat) (q : SX8) : Prop := P ≤ 36 ∧ q.2 = m.2 ∧ (∀ i, i ≠ 11 → i ≠ 12 → i ≠ 13 → q.1 i = m.1 i) ∧
  ((q.1 11 = 0 ∧ fX2_isWhole p = some 0) ∨ (q.1 11 = 1 ∧ fX2_isWhole p = some 1 ∧ ∃ r1 r2, fX2_secondMark p = some (nI (3 + r1)) ∧ q.1 12 = nI r1 ∧ q.1 13 = nI r2 ∧ r1 ≤ 14 ∧ r2 ≤ 14 ∧ L = 4 + r1 + r2 ∧ (∀ i, i < r1 → isR (g (3 + i)) = true) ∧ (∀ i, i < r2 → isR (g (4 + r1 + i)) = true) ∧ 49 ≤ g 0 ∧ g 0 ≤ 57 ∧ kdN (g 1) < 5))
theorem read_P (h : PL p m L g) : ∃ P q, fX2_firstFault p = some (nI P) ∧ fX8_read m = some (nI P, q) ∧ RD p m L g P q := by
  have h36 := h.1
  have hz1 : PL p (upd m.1 11 0, m.2.1, m.2.2) L g := ⟨h.1, h.2.1, h.2.2.1, h.2.2.2⟩
  have k1 : ∀ i, i ≠ 11 → i ≠ 12 → i ≠ 13 → upd m.1 11 0 i = m.1 i := fun i h1 _ _ => if_neg h1
  have hf : fX2_firstFault p = fX2_firstFault_b6 p (999 + 1) 0 0 (nI 0) := rfl
  unfold fX8_read
  rcases Nat.eq_zero_or_pos L with l0 | l0
  · have e : fX2_firstFault p = some (nI L) := by rw [hf, ff_stop h (by omega) (by omega)]
    rw [show fX8_at (upd m.1 11 0, m.2.1, m.2.2) 0 = some 0 from at_E hz1 (i := 0) (by omega) (by omega), Option.bind_some, show fX8_within ((0 : Int32) - 48) 1 9 = some 0 by decide, Option.bind_some, if_pos rfl]
    exact ⟨0, _, by rw [e, l0], rfl, by omega, rfl, k1, Or.inl ⟨rfl, whole_no2 h e (sm_small h (by omega))⟩⟩
  · have g0 := (h.2.2.2 0 l0).2.2.2
    rw [show fX8_at (upd m.1 11 0, m.2.1, m.2.2) 0 = some (nI (g 0)) from at_L hz1 (i := 0) l0, Option.bind_some, mem_c _ (by omega), Option.bind_some]
    rw [ff_step h (by omega) l0, head0_c _ (by omega), Option.bind_some] at hf
    by_cases c0 : 49 ≤ g 0 ∧ g 0 ≤ 57
    · rw [if_pos c0, if_neg (show ¬ (1 : Int32) = 0 by decide)] at hf
      rw [if_pos c0, if_neg (show ¬ (1 : Int32) = 0 by decide)]
      rcases Nat.lt_or_ge 1 L with l1 | l1
      · have g1 := (h.2.2.2 1 l1).2.2.2
        rw [show fX8_at (upd m.1 11 0, m.2.1, m.2.2) 1 = some (nI (g 1)) from at_L hz1 (i := 1) l1, Option.bind_some, kindM_c _ (by omega), Option.bind_some]
        rw [show fX2_firstFault_b6 p 999 0 0 (nI (0 + 1)) = _ from ff_step h (i := 1) (by omega) l1 998 0 0, head1_c _ (by omega), Option.bind_some] at hf
        by_cases c1 : kdN (g 1) = 5
        · rw [if_pos c1, if_pos (show (0 : Int32) = 0 from rfl)] at hf
          rw [if_pos c1, if_pos rfl]
          exact ⟨1, _, hf, rfl, by omega, rfl, k1, Or.inl ⟨rfl, whole_no h hf l1⟩⟩
        · have c1' : kdN (g 1) < 5 := by have := kdN_le (g 1); omega
          rw [if_neg c1, if_neg (show ¬ (1 : Int32) = 0 by decide)] at hf
          rw [if_neg c1, if_neg (show ¬ nI (kdN (g 1)) = -1 from fun e => by
            have q1 : (nI (kdN (g 1))).toInt = (-1 : Int32).toInt := by rw [e]
            rw [nI_toInt (by omega)] at q1
            have q2 : (-1 : Int32).toInt = -1 := by decide
            omega)]
          rcases Nat.lt_or_ge 2 L with l2 | l2
          · have g2 := (h.2.2.2 2 l2).2.2.2
            rw [show fX8_at (upd m.1 11 0, m.2.1, m.2.2) 2 = some (nI (g 2)) from at_L hz1 (i := 2) l2, Option.bind_some]
            rw [show fX2_firstFault_b6 p 998 0 0 (nI (1 + 1)) = _ from ff_step h (i := 2) (by omega) l2 997 0 0, head2_c _ (by omega), Option.bind_some] at hf
            by_cases c2 : g 2 = 59
            · rw [if_pos c2, if_neg (show ¬ (1 : Int32) = 0 by decide)] at hf
              rw [if_pos (show nI (g 2) = 59 by rw [c2]; rfl)]
              obtain ⟨r1, R1, R2⟩ := rowsFrom_L hz1 (a := 3) (by omega)
              have r14 := R1.1
              have hle : 3 + r1 ≤ L := by
                rcases Nat.eq_zero_or_pos r1 with e | e
                · omega
                · have := (R1.2.1 (r1 - 1) (by omega)).1
                  omega
              have hs := sm_rows h R1
              rw [show fX8_rowsFrom (upd m.1 11 0, m.2.1, m.2.2) 3 = some (nI r1) from R2, Option.bind_some]
              rw [show fX2_firstFault_b6 p 997 0 0 (nI (2 + 1)) = fX2_firstFault_b6 p (997 - r1) 0 (nI (0 + r1)) (nI (3 + (0 + r1))) by
                have q := ff_rows h (a := 3) (by omega) R1 0 r1 (997 - r1) 0 (by omega)
                rw [show 997 - r1 + r1 = 997 by omega] at q
                exact q, Nat.zero_add] at hf
              have hz2 : PL p (upd (upd m.1 11 0) 12 (nI r1), m.2.1, m.2.2) L g := ⟨h.1, h.2.1, h.2.2.1, h.2.2.2⟩
              have k2 : ∀ i, i ≠ 11 → i ≠ 12 → i ≠ 13 → upd (upd m.1 11 0) 12 (nI r1) i = m.1 i := fun i h1 h2 _ => (if_neg h2).trans (if_neg h1)
              rw [show (3 : Int32) + nI r1 = nI (3 + r1) from nI_add 3 r1]
              rcases Nat.lt_or_ge (3 + r1) L with l3 | l3
              · have g3 := (h.2.2.2 (3 + r1) l3).2.2.2
                rw [at_L hz2 l3, Option.bind_some]
                by_cases c3 : g (3 + r1) = 59
                · rw [if_pos (show nI (g (3 + r1)) = 59 by rw [c3]; rfl)]
                  obtain ⟨r2, S1, S2⟩ := rowsFrom_L hz2 (a := 3 + r1 + 1) (by omega)
                  have s14 := S1.1
                  have hle2 : 3 + r1 + 1 + r2 ≤ L := by
                    rcases Nat.eq_zero_or_pos r2 with e | e
                    · omega
                    · have := (S1.2.1 (r2 - 1) (by omega)).1
                      omega
                  rw [show nI (3 + r1) + 1 = nI (3 + r1 + 1) from nI_1 _, S2, Option.bind_some, show (1 : Int32) + nI r2 = nI (1 + r2) from nI_add 1 r2, nI_add, h.2.2.1]
                  have hf2 : fX2_firstFault p = some (nI (3 + r1 + 1 + r2)) := by
                    rw [hf, show 997 - r1 = (996 - r1) + 1 by omega, fX2_firstFault_b6, h.2.1, if_neg (nI_ge l3 (by omega)), codeAt_L h l3, Option.bind_some, if_pos (cle 3 (show 3 ≤ 3 + r1 by omega) (by omega)), if_pos (show nI (g (3 + r1)) = 59 by rw [c3]; rfl), if_pos (show (0 : Int32) = 0 from rfl), nI1]
                    have q := ff_rows h (a := 3 + r1 + 1) (by omega) S1 1 r2 (996 - r1 - r2) 0 (by omega)
                    rw [show 996 - r1 - r2 + r2 = 996 - r1 by omega, Nat.zero_add, show 996 - r1 - r2 = (995 - r1 - r2) + 1 by omega, ff_end2 h (by omega) (by omega) S1] at q
                    exact q
                  have e4 : 3 + r1 + (1 + r2) = 3 + r1 + 1 + r2 := by omega
                  by_cases c4 : 3 + r1 + 1 + r2 = L
                  · rw [if_pos (show nI (3 + r1 + (1 + r2)) = nI L by rw [e4, c4])]
                    have hs2 : fX2_secondMark p = some (nI (3 + r1)) := by
                      rw [hs, show 1000 - r1 = (999 - r1) + 1 by omega, fX2_secondMark_b2, h.2.1, if_neg (nI_ge l3 (by omega)), codeAt_L h l3, Option.bind_some, if_pos (show nI (g (3 + r1)) = 59 by rw [c3]; rfl)]
                    rw [e4]
                    refine ⟨3 + r1 + 1 + r2, _, hf2, rfl, by omega, rfl, ?_, Or.inr ⟨rfl, whole_yes h (q := 3 + r1) (by omega) (by rw [hf2, c4]) hs2, r1, r2, hs2, rfl, rfl, r14, s14, by omega, fun i hi => (R1.2.1 i hi).2, ?_, c0.1, c0.2, c1'⟩⟩
                    · intro i h1 h2 h3
                      exact (if_neg h1).trans ((if_neg h3).trans (k2 i h1 h2 h3))
                    · intro i hi
                      have := (S1.2.1 i hi).2
                      rw [show 4 + r1 + i = 3 + r1 + 1 + i by omega]
                      exact this
                  · rw [if_neg (show ¬ nI (3 + r1 + (1 + r2)) = nI L from fun e => c4 (by have := (nI_eq (by omega) (by omega)).mp e; omega))]
                    rw [e4]
                    refine ⟨3 + r1 + 1 + r2, _, hf2, rfl, by omega, rfl, ?_, Or.inl ⟨rfl, whole_no h hf2 (by omega)⟩⟩
                    intro i h1 h2 h3
                    exact (if_neg h1).trans ((if_neg h3).trans (k2 i h1 h2 h3))
                · rw [if_neg (show ¬ nI (g (3 + r1)) = 59 from fun e => c3 ((nI_eq (b := 59) (by omega) (by omega)).mp e))]
                  have hf2 : fX2_firstFault p = some (nI (3 + r1)) := by
                    rw [hf, show 997 - r1 = (996 - r1) + 1 by omega, fX2_firstFault_b6, h.2.1, if_neg (nI_ge l3 (by omega)), codeAt_L h l3, Option.bind_some, if_pos (cle 3 (show 3 ≤ 3 + r1 by omega) (by omega)), if_neg (show ¬ nI (g (3 + r1)) = 59 from fun e => c3 ((nI_eq (b := 59) (by omega) (by omega)).mp e))]
                    unfold fX2_firstFault_b55
                    rw [isRow_c _ (by omega), Option.bind_some]
                    by_cases d : isR (g (3 + r1)) = true
                    · have e14 : r1 = 14 := by
                        rcases R1.2.2 with q | q | q
                        · exact q
                        · omega
                        · rw [q.2] at d; exact absurd d (by decide)
                      rw [if_pos d, if_neg (show ¬ (1 : Int32) = 0 by decide), if_pos (show (14 : Int32) ≤ nI r1 by rw [e14]; decide)]
                    · rw [if_neg d, if_pos (show (0 : Int32) = 0 from rfl)]
                  exact ⟨3 + r1, _, hf2, rfl, by omega, rfl, k2, Or.inl ⟨rfl, whole_no h hf2 l3⟩⟩
              · have eL : L = 3 + r1 := by omega
                rw [at_E hz2 l3 (by omega), Option.bind_some, if_neg (show ¬ (0 : Int32) = 59 by decide)]
                have hf2 : fX2_firstFault p = some (nI L) := by
                  rw [hf, show 997 - r1 = (996 - r1) + 1 by omega, ff_stop h l3 (by omega)]
                have hs2 : fX2_secondMark p = some (-1) := by
                  rw [hs, show 1000 - r1 = (999 - r1) + 1 by omega, fX2_secondMark_b2, h.2.1, if_pos (nI_le l3 (by omega))]
                exact ⟨3 + r1, _, by rw [hf2, eL], rfl, by omega, rfl, k2, Or.inl ⟨rfl, whole_no2 h hf2 hs2⟩⟩
            · rw [if_neg c2, if_pos (show (0 : Int32) = 0 from rfl)] at hf
              rw [if_neg (show ¬ nI (g 2) = 59 from fun e => c2 ((nI_eq (b := 59) (by omega) (by omega)).mp e))]
              exact ⟨2, _, hf, rfl, by omega, rfl, k1, Or.inl ⟨rfl, whole_no h hf l2⟩⟩
          · have e : fX2_firstFault p = some (nI L) := by
              rw [hf, show fX2_firstFault_b6 p 998 0 0 (nI (1 + 1)) = _ from ff_stop h (i := 2) (by omega) (by omega) 997 0 0]
            rw [show fX8_at (upd m.1 11 0, m.2.1, m.2.2) 2 = some 0 from at_E hz1 (i := 2) (by omega) (by omega), Option.bind_some, if_neg (show ¬ (0 : Int32) = 59 by decide)]
            exact ⟨2, _, by rw [e, show L = 2 by omega], rfl, by omega, rfl, k1, Or.inl ⟨rfl, whole_no2 h e (sm_small h (by omega))⟩⟩
      · have e : fX2_firstFault p = some (nI L) := by
          rw [hf, show fX2_firstFault_b6 p 999 0 0 (nI (0 + 1)) = _ from ff_stop h (i := 1) (by omega) (by omega) 998 0 0]
        rw [show fX8_at (upd m.1 11 0, m.2.1, m.2.2) 1 = some 0 from at_E hz1 (i := 1) (by omega) (by omega), Option.bind_some, show fX8_kindBy 0 = some (-1) by decide, Option.bind_some, if_pos rfl]
        exact ⟨1, _, by rw [e, show L = 1 by omega], rfl, by omega, rfl, k1, Or.inl ⟨rfl, whole_no2 h e (sm_small h (by omega))⟩⟩
    · rw [if_neg c0, if_pos (show (0 : Int32) = 0 from rfl)] at hf
      rw [if_neg c0, if_pos (show (0 : Int32) = 0 from rfl)]
      exact ⟨0, _, hf, rfl, by omega, rfl, k1, Or.inl ⟨rfl, whole_no h hf l0⟩⟩
end
