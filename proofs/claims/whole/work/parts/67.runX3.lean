abbrev aoG (n : Nat → Nat) (f : Nat → Nat → Int32) (kd lim s set : Nat) : Nat → RS → RS := fun k R => if set.testBit k && nPt n f s k then al kd lim s k R else R
theorem aoG_Gr {n : Nat → Nat} {f : Nat → Nat → Int32} {kd lim s set : Nat} : ∀ k, k < 14 → Gr lim (if set.testBit k then 1 else 0) (aoG n f kd lim s set k) := by
  intro k hk
  by_cases hb : set.testBit k = true
  · rw [if_pos hb]
    exact Gr.ite al_Gr (Gr.rf 1)
  · have hb : set.testBit k = false := by simpa using hb
    intro R
    have e : aoG n f kd lim s set k R = R := if_neg (by rw [hb, Bool.false_and]; decide)
    rw [e, hb]
    exact Gr.rf 0 R
theorem aoG_off {n : Nat → Nat} {f : Nat → Nat → Int32} {kd lim s set : Nat} (k : Nat) : Off (aoG n f kd lim s set k) := if_off al_off
theorem al_y {kd lim s i : Nat} {R : RS} (h : kd = 4 ∨ (s = 0 ∧ (kd = 1 ∨ kd = 2))) : al kd lim s i R = (if s = 0 then co lim (nI i) (-1) R else co lim (-1) (nI i) R) := if_pos h
theorem al_n {kd lim s i : Nat} {R : RS} (h : ¬ (kd = 4 ∨ (s = 0 ∧ (kd = 1 ∨ kd = 2)))) : al kd lim s i R = R := if_neg h
theorem ao_n {n : Nat → Nat} {f : Nat → Nat → Int32} {kd lim s set : Nat} {R : RS} (h : ¬ (kd = 4 ∨ (s = 0 ∧ (kd = 1 ∨ kd = 2)))) : ao n f kd lim s set R = R :=
  fo_id (fun k Q _ => by
    show (if _ then al kd lim s k Q else Q) = Q
    rw [al_n h, ite_self])
theorem nI_z {a : Nat} (h : a < 2 ^ 31) : nI a = 0 ↔ a = 0 := nI_eq (b := 0) h (by omega)
theorem aoL_X {T : SX6} {n : Nat → Nat} {f : Nat → Nat → Int32} {mem kd lim : Nat} {x : SX3} {R : RS} {s set : Nat} (hT : XT T n f mem kd) (h : XR T lim x R) (hs : s < 2) (ha : kd = 4 ∨ (s = 0 ∧ (kd = 1 ∨ kd = 2))) (hset : ∀ k, set.testBit k = true → k < n s) (hsl : set < 16384) (hc : CO lim (cnt set) R) :
    ∃ q, fX3_comeOutAlone_b25 1000 (nI s) (nI set) (nI 0) x = some q ∧ XR T lim q (ao n f kd lim s set R) := by
  have hn1 : n (1 - s) ≤ 14 := hT.le (by omega)
  refine upE (fun m j y => fX3_comeOutAlone_b25 m (nI s) (nI set) (nI j) y) (fun j y => XR T lim y (fo (aoG n f kd lim s set) j R)) (fun q => XR T lim q (ao n f kd lim s set R)) 14 ?_ ?_ 1000 0 x (by omega) (by omega) h
  · intro m j y hj hI
    have hI0 := hI
    obtain ⟨t0, o1, o2, o3, o4, -⟩ := hI
    show (∃ s', XR T lim s' (fo (aoG n f kd lim s set) (j + 1) R) ∧ fX3_comeOutAlone_b25 (m + 1) (nI s) (nI set) (nI j) y = fX3_comeOutAlone_b25 m (nI s) (nI set) (nI (j + 1)) s') ∨ ∃ r, fX3_comeOutAlone_b25 (m + 1) (nI s) (nI set) (nI j) y = some r ∧ XR T lim r (ao n f kd lim s set R)
    by_cases off : (fo (aoG n f kd lim s set) j R).2.2.2 = true
    · refine Or.inr ⟨y, ?_, ?_⟩
      · rw [fX3_comeOutAlone_b25, if_neg (cl 14 (by omega) (by omega)), o4, if_pos off, if_neg (by decide)]
      · have e : ao n f kd lim s set R = fo (aoG n f kd lim s set) j R := fo_more (fun k => aoG_off k _ off) 14 (by omega)
        rw [e]
        exact hI0
    · have off : (fo (aoG n f kd lim s set) j R).2.2.2 = false := by simpa using off
      have e4 : y.2.1.2.2.2.2 = 0 := by rw [o4, if_neg (by rw [off]; decide)]
      by_cases b : set.testBit j = true
      · have hj2 := hset j b
        have hp := partners_X hT hs hj2
        have hpl := ptn_lt (n := n) (f := f) (s := s) (i := j) hn1
        by_cases np : nPt n f s j = true
        · have z : ptn n f s j = 0 := ptn_zero.mpr np
          have hC1 : CO lim 1 (fo (aoG n f kd lim s set) j R) := fo_CO (d := 0) aoG_Gr (by simpa using hc) hj b
          have hg : ∀ Q : RS, aoG n f kd lim s set j Q = (if s = 0 then co lim (nI j) (-1) Q else co lim (-1) (nI j) Q) := fun Q => by
            show (if _ then al kd lim s j Q else Q) = _
            rw [if_pos (by rw [b, np]; decide), al_y ha]
          rcases (show s = 0 ∨ s = 1 by omega) with rfl | rfl
          · obtain ⟨q, q1, q2⟩ := co_X (a := nI j) (b := -1) hI0 hC1 off
            refine Or.inl ⟨(T, q, y.2.2.1, y.2.2.2.1, y.2.2.2.2), ?_, ?_⟩
            rotate_left
            · rw [fX3_comeOutAlone_b25, if_neg (cl 14 (by omega) (by omega)), if_pos e4, isIn_X hsl (by omega), Option.bind_some, b, if_neg (by decide), t0, hp, Option.bind_some, if_pos (show nI (ptn n f 0 j) = 0 by rw [z]; rfl), if_pos (show nI 0 = 0 from rfl), if_pos (show nI 0 = 0 from rfl), q1, Option.bind_some, nI1]
            · rw [fo, hg, if_pos rfl]
              rw [t0] at q2
              exact q2
          · obtain ⟨q, q1, q2⟩ := co_X (a := -1) (b := nI j) hI0 hC1 off
            refine Or.inl ⟨(T, q, y.2.2.1, y.2.2.2.1, y.2.2.2.2), ?_, ?_⟩
            rotate_left
            · rw [fX3_comeOutAlone_b25, if_neg (cl 14 (by omega) (by omega)), if_pos e4, isIn_X hsl (by omega), Option.bind_some, b, if_neg (by decide), t0, hp, Option.bind_some, if_pos (show nI (ptn n f 1 j) = 0 by rw [z]; rfl), if_neg (show ¬ nI 1 = 0 by decide), if_neg (show ¬ nI 1 = 0 by decide), q1, Option.bind_some, nI1]
            · rw [fo, hg, if_neg (by decide)]
              rw [t0] at q2
              exact q2
        · refine Or.inl ⟨y, ?_, ?_⟩
          · rw [fo]
            have hg : aoG n f kd lim s set j (fo (aoG n f kd lim s set) j R) = fo (aoG n f kd lim s set) j R := if_neg (by rw [b, Bool.true_and]; exact np)
            rw [hg]
            exact hI0
          · have z : ¬ nI (ptn n f s j) = 0 := fun e => np (ptn_zero.mp ((nI_z (by omega)).mp e))
            rw [fX3_comeOutAlone_b25, if_neg (cl 14 (by omega) (by omega)), if_pos e4, isIn_X hsl (by omega), Option.bind_some, b, if_neg (by decide), t0, hp, Option.bind_some, if_neg z, nI1]
      · have b : set.testBit j = false := by simpa using b
        refine Or.inl ⟨y, ?_, ?_⟩
        · rw [fo]
          have hg : aoG n f kd lim s set j (fo (aoG n f kd lim s set) j R) = fo (aoG n f kd lim s set) j R := if_neg (by rw [b, Bool.false_and]; decide)
          rw [hg]
          exact hI0
        · rw [fX3_comeOutAlone_b25, if_neg (cl 14 (by omega) (by omega)), if_pos e4, isIn_X hsl (by omega), Option.bind_some, b, if_pos (by decide), nI1]
  · intro m y hI
    refine ⟨y, ?_, hI⟩
    show fX3_comeOutAlone_b25 (m + 1) (nI s) (nI set) (nI 14) y = some y
    rw [fX3_comeOutAlone_b25, if_pos (show (14 : Int32) ≤ nI 14 by decide)]
theorem ao_X {T : SX6} {n : Nat → Nat} {f : Nat → Nat → Int32} {mem kd lim : Nat} {x : SX3} {R : RS} {s set : Nat} (hT : XT T n f mem kd) (h : XR T lim x R) (hs : s < 2) (hset : ∀ k, set.testBit k = true → k < n s) (hsl : set < 16384) (hc : CO lim (cnt set) R) :
    ∃ q, fX3_comeOutAlone x (nI s) (nI set) = some q ∧ XR T lim q (ao n f kd lim s set R) := by
  have hk : x.1.2.2.2 = nI kd := by rw [h.1]; exact hT.2.2.2.1
  have hk5 := hT.2.2.2.2
  have e1 := cob_all kd hk5 1 (by omega)
  have e2 := cob_all kd hk5 2 (by omega)
  unfold fX3_comeOutAlone
  by_cases ha : kd = 4 ∨ (s = 0 ∧ (kd = 1 ∨ kd = 2))
  · obtain ⟨q, q1, q2⟩ := aoL_X hT h hs ha hset hsl hc
    refine ⟨q, ?_, q2⟩
    rcases (show s = 0 ∨ s = 1 by omega) with rfl | rfl
    · rw [if_pos (show nI 0 = 0 from rfl), hk, show fX7_comesOutBy (nI kd) 1 = _ from e1, Option.bind_some, if_neg (by rcases (show kd = 1 ∨ kd = 2 ∨ kd = 4 by omega) with rfl | rfl | rfl <;> decide)]
      exact q1
    · rw [if_neg (show ¬ nI 1 = 0 by decide), hk, show fX7_comesOutBy (nI kd) 2 = _ from e2, Option.bind_some, if_neg (by rcases (show kd = 4 by omega) with rfl; decide)]
      exact q1
  · refine ⟨x, ?_, by rw [ao_n ha]; exact h⟩
    rcases (show s = 0 ∨ s = 1 by omega) with rfl | rfl
    · rw [if_pos (show nI 0 = 0 from rfl), hk, show fX7_comesOutBy (nI kd) 1 = _ from e1, Option.bind_some, if_pos (by rcases (show kd = 0 ∨ kd = 3 by omega) with rfl | rfl <;> decide)]
    · rw [if_neg (show ¬ nI 1 = 0 by decide), hk, show fX7_comesOutBy (nI kd) 2 = _ from e2, Option.bind_some, if_pos (by rcases (show kd = 0 ∨ kd = 1 ∨ kd = 2 ∨ kd = 3 by omega) with rfl | rfl | rfl | rfl <;> decide)]
