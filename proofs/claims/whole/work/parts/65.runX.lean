/-! THE CLASS'S RUN does what the spec says -/
def xlm (lim : Nat) : Nat := if lim ≤ 250 then lim else 250
/-- the class's run is at R -/
def XR (T : SX6) (lim : Nat) (x : SX3) (R : RS) : Prop :=
  x.1 = T ∧ x.2.1.2.2.1 = nI (R.1 0) ∧ (∀ i, i < R.1 0 → x.2.1.1 i = R.2.1 0 i ∧ x.2.1.2.1 i = R.2.1 1 i) ∧ x.2.1.2.2.2.1 = nI (xlm lim) ∧ x.2.1.2.2.2.2 = (if R.2.2.2 = true then 1 else 0) ∧
  x.2.2.1.2.2.2.1 = nI (R.1 1) ∧ (∀ i, i < R.1 1 → x.2.2.1.1 i = R.2.1 2 i ∧ x.2.2.1.2.1 i = R.2.1 3 i ∧ x.2.2.1.2.2.1 i = R.2.1 4 i) ∧
  x.2.2.1.2.2.2.2.2.2.1 = nI (R.1 2) ∧ (∀ i, i < R.1 2 → x.2.2.1.2.2.2.2.1 i = R.2.1 5 i ∧ x.2.2.1.2.2.2.2.2.1 i = R.2.1 6 i) ∧ x.2.2.1.2.2.2.2.2.2.2 = nI (R.1 3) ∧
  (∀ j, 1 ≤ j → j ≤ 8 → x.2.2.2.1 j = R.2.2.1 j) ∧ (R.2.2.2 = false → x.2.2.2.2 = nI (R.1 4)) ∧ R.1 4 < 16384
/-- there is room for a more -/
def CO (lim a : Nat) (R : RS) : Prop := R.1 0 ≤ lim ∧ (250 < lim → R.1 0 + a ≤ 250)
theorem CO.le {lim a b : Nat} {R : RS} (h : CO lim b R) (hab : a ≤ b) : CO lim a R := ⟨h.1, fun z => by have := h.2 z; omega⟩
theorem CO.af {lim a b : Nat} {R : RS} {g : RS → RS} (h : CO lim (a + b) R) (hg : Gr lim a g) : CO lim b (g R) := ⟨(hg R).2.1 h.1, fun z => by have q1 := h.2 z; have q2 := (hg R).1; omega⟩
theorem upd_ag {a b : Nat → Int32} {m : Nat} (h : ∀ i, i < m → a i = b i) (v : Int32) : ∀ i, i < m + 1 → upd a m v i = upd b m v i := by
  intro i hi
  unfold upd
  split
  · rfl
  · exact h i (by omega)
theorem co_at {lim : Nat} {R : RS} {a b : Int32} (ho : R.2.2.2 = false) (e : R.1 0 = lim) : co lim a b R = (R.1, R.2.1, R.2.2.1, true) := by
  unfold co
  rw [if_neg (show ¬ R.2.2.2 = true by rw [ho]; decide), if_pos e]
theorem co_ne {lim : Nat} {R : RS} {a b : Int32} (ho : R.2.2.2 = false) (e : ¬ R.1 0 = lim) : co lim a b R = (va_up R.1 0 (R.1 0 + 1), va_up (va_up R.2.1 0 (upd (R.2.1 0) (R.1 0) a)) 1 (upd (R.2.1 1) (R.1 0) b), R.2.2.1, R.2.2.2) := by
  unfold co
  rw [if_neg (show ¬ R.2.2.2 = true by rw [ho]; decide), if_neg e]
theorem co_X {T : SX6} {lim : Nat} {x : SX3} {R : RS} {a b : Int32} (h : XR T lim x R) (hc : CO lim 1 R) (ho : R.2.2.2 = false) : ∃ q, fX1_add x.2.1 a b = some q ∧ XR T lim (x.1, q, x.2.2) (co lim a b R) := by
  obtain ⟨t0, o1, o2, o3, o4, l1, l2, d1, d2, d3, c1, s1, s2⟩ := h
  have hn : R.1 0 ≤ 250 := by
    rcases Nat.lt_or_ge 250 lim with q | q
    · have := hc.2 q; omega
    · have := hc.1; omega
  by_cases e : R.1 0 = lim
  · have hl : lim ≤ 250 := by omega
    have e1 : fX1_add x.2.1 a b = some (x.2.1.1, x.2.1.2.1, nI (R.1 0), nI (xlm lim), 1) := by
      unfold fX1_add
      rw [o1, o3, if_neg (nI_pos (n := R.1 0) (by omega)), if_pos (show nI (xlm lim) ≤ nI (R.1 0) by rw [xlm, if_pos hl, e]; exact nI_le (Nat.le_refl _) (by omega))]
    rw [co_at ho e, e1]
    refine ⟨_, rfl, t0, rfl, o2, rfl, rfl, l1, l2, d1, d2, d3, c1, fun z => ?_, s2⟩
    cases z
  · have hlt : R.1 0 < xlm lim := by
      unfold xlm
      split
      · have := hc.1; omega
      · have := hc.2 (by omega); omega
    have h250 : R.1 0 < 250 := by
      rcases Nat.lt_or_ge 250 lim with q | q
      · have := hc.2 q; omega
      · have := hc.1; omega
    have hx : xlm lim < 2 ^ 31 := by unfold xlm; split <;> omega
    have e1 : fX1_add x.2.1 a b = some (upd x.2.1.1 (R.1 0) a, upd x.2.1.2.1 (R.1 0) b, nI (R.1 0) + 1, nI (xlm lim), x.2.1.2.2.2.2) := by
      unfold fX1_add
      rw [o1, o3, if_neg (nI_pos (n := R.1 0) (by omega)), if_neg (nI_ge hlt hx), if_pos (show nI (R.1 0) < 250 from nI_lt (b := 250) h250 (by omega)), if_neg (nI_in h250 (by omega)), if_neg (nI_in h250 (by omega)), nI_clamp (by omega)]
    rw [co_ne ho e, e1]
    refine ⟨_, rfl, t0, nI_1 _, ?_, rfl, o4, l1, l2, d1, d2, d3, c1, s1, s2⟩
    intro i hi
    exact ⟨upd_ag (fun i hi => (o2 i hi).1) a i hi, upd_ag (fun i hi => (o2 i hi).2) b i hi⟩
theorem cob_all : ∀ kd, kd < 5 → ∀ w, w < 4 → fX7_comesOutBy (nI kd) (nI w) = some (if ([1, 3, 2, 8, 7].getD kd 0).testBit w then 1 else 0) := by decide +kernel
theorem isIn_X {a j : Nat} (ha : a < 16384) (hj : j < 31) : fX7_isIn (nI a) (nI j) = some (if a.testBit j then 1 else 0) := by
  unfold fX7_isIn
  rw [shr_bit (by omega) (by omega)]
  cases a.testBit j
  · rfl
  · rfl
theorem mt_3y {lim l r : Nat} {R : RS} (hb : (R.1 4).testBit l = true) : mt 3 lim l r R = R := by
  unfold mt
  split
  · rfl
  · simp [hb]
theorem mt_3n {lim l r : Nat} {R : RS} (ho : R.2.2.2 = false) (hb : (R.1 4).testBit l = false) : mt 3 lim l r R = co lim (nI l) (-1) (va_up R.1 4 (R.1 4 ||| 2 ^ l), R.2) := by
  unfold mt
  rw [if_neg (show ¬ R.2.2.2 = true by rw [ho]; decide), if_pos rfl, if_neg (by rw [hb]; decide)]
theorem mt_2 {lim l r : Nat} {R : RS} : mt 2 lim l r R = R := by
  unfold mt
  split
  · rfl
  · rw [if_neg (by decide), if_pos rfl]
theorem mt_o {kd lim l r : Nat} {R : RS} (ho : R.2.2.2 = false) (h3 : ¬ kd = 3) (h2 : ¬ kd = 2) : mt kd lim l r R = co lim (nI l) (nI r) R := by
  unfold mt
  rw [if_neg (show ¬ R.2.2.2 = true by rw [ho]; decide), if_neg h3, if_neg h2]
theorem mt_X {T : SX6} {lim kd : Nat} {x : SX3} {R : RS} {l r : Nat} (h : XR T lim x R) (hk : T.2.2.2 = nI kd) (hkd : kd < 5) (hl : l < 14) (hc : CO lim 1 R) (ho : R.2.2.2 = false) : ∃ q, fX3_meet x (nI l) (nI r) = some q ∧ XR T lim q (mt kd lim l r R) := by
  have h0 := h
  obtain ⟨t0, o1, o2, o3, o4, l1, l2, d1, d2, d3, c1, s1, s2⟩ := h
  have hk2 : x.1.2.2.2 = nI kd := by rw [t0]; exact hk
  by_cases k3 : kd = 3
  · subst k3
    have e0 : fX7_comesOutBy x.1.2.2.2 0 = some 0 := by rw [hk2]; decide +kernel
    have e3 : fX7_comesOutBy x.1.2.2.2 3 = some 1 := by rw [hk2]; decide +kernel
    by_cases b : (R.1 4).testBit l = true
    · refine ⟨x, ?_, by rw [mt_3y b]; exact h0⟩
      unfold fX3_meet
      rw [e0, Option.bind_some, if_pos rfl, e3, Option.bind_some, if_neg (by decide), s1 ho, isIn_X s2 (by omega), Option.bind_some, b]
      rfl
    · have b : (R.1 4).testBit l = false := by simpa using b
      have h2 : XR T lim (x.1, x.2.1, x.2.2.1, x.2.2.2.1, nI (R.1 4 ||| 2 ^ l)) (va_up R.1 4 (R.1 4 ||| 2 ^ l), R.2) :=
        ⟨t0, o1, o2, o3, o4, l1, l2, d1, d2, d3, c1, fun _ => rfl, Nat.or_lt_two_pow (n := 14) s2 (Nat.pow_lt_pow_right (by omega) hl)⟩
      obtain ⟨q, q1, q2⟩ := co_X (a := nI l) (b := -1) h2 hc ho
      refine ⟨_, ?_, by rw [mt_3n ho b]; exact q2⟩
      unfold fX3_meet
      rw [e0, Option.bind_some, if_pos rfl, e3, Option.bind_some, if_neg (by decide), s1 ho, isIn_X s2 (by omega), Option.bind_some, b, if_pos (by decide), show fX1_add x.2.1 (nI l) (-1) = some q from q1, Option.bind_some, or_bit _ _ (by omega)]
  · by_cases k2 : kd = 2
    · subst k2
      have e0 : fX7_comesOutBy x.1.2.2.2 0 = some 0 := by rw [hk2]; decide +kernel
      have e3 : fX7_comesOutBy x.1.2.2.2 3 = some 0 := by rw [hk2]; decide +kernel
      refine ⟨x, ?_, by rw [mt_2]; exact h0⟩
      unfold fX3_meet
      rw [e0, Option.bind_some, if_pos rfl, e3, Option.bind_some, if_pos rfl]
    · have e0 : fX7_comesOutBy x.1.2.2.2 0 = some 1 := by
        rw [hk2]
        rcases (show kd = 0 ∨ kd = 1 ∨ kd = 4 by omega) with rfl | rfl | rfl <;> decide +kernel
      obtain ⟨q, q1, q2⟩ := co_X (a := nI l) (b := nI r) h0 hc ho
      refine ⟨_, ?_, by rw [mt_o ho k3 k2]; exact q2⟩
      unfold fX3_meet
      rw [e0, Option.bind_some, if_neg (by decide), q1, Option.bind_some]
/-- the tables of the class, in numbers -/
def XT (t : SX6) (n : Nat → Nat) (f : Nat → Nat → Int32) (mem kd : Nat) : Prop := SdR t.1 (n 0) (f 0) ∧ SdR t.2.1 (n 1) (f 1) ∧ t.2.2.1 = nI mem ∧ t.2.2.2 = nI kd ∧ kd < 5
theorem XT.sd {t : SX6} {n : Nat → Nat} {f : Nat → Nat → Int32} {mem kd : Nat} (h : XT t n f mem kd) {s : Nat} (hs : s < 2) : SdR (if s = 0 then t.1 else t.2.1) (n s) (f s) := by
  rcases (show s = 0 ∨ s = 1 by omega) with rfl | rfl
  · exact h.1
  · exact h.2.1
theorem XT.le {t : SX6} {n : Nat → Nat} {f : Nat → Nat → Int32} {mem kd : Nat} (h : XT t n f mem kd) {s : Nat} (hs : s < 2) : n s ≤ 14 := (h.sd hs).2.1
theorem os_X {s : Nat} (hs : s < 2) : fX7_otherSide (nI s) = some (nI (1 - s)) := by
  rcases (show s = 0 ∨ s = 1 by omega) with rfl | rfl <;> decide +kernel
/-- the partners of a row, as a set -/
def ptn (n : Nat → Nat) (f : Nat → Nat → Int32) (s i : Nat) : Nat := if f s i = -1 then 0 else mkm (fun k => decide (f (1 - s) k = f s i)) (n (1 - s))
theorem partners_X {t : SX6} {n : Nat → Nat} {f : Nat → Nat → Int32} {mem kd : Nat} (h : XT t n f mem kd) {s i : Nat} (hs : s < 2) (hi : i < n s) : fX6_partners t (nI s) (nI i) = some (nI (ptn n f s i)) := by
  obtain ⟨h0, h1, -⟩ := h
  unfold fX6_partners ptn
  rcases (show s = 0 ∨ s = 1 by omega) with rfl | rfl
  · rw [if_pos (show nI 0 = 0 from rfl), keyAt_X h0 hi, Option.bind_some]
    by_cases c : f 0 i = -1
    · rw [if_pos c, if_pos c]
      rfl
    · rw [if_neg c, if_neg c, os_X (by omega), Option.bind_some, if_neg (by decide), rowsOfKey_X h1, Option.bind_some]
  · rw [if_neg (show ¬ nI 1 = 0 by decide), keyAt_X h1 hi, Option.bind_some]
    by_cases c : f 1 i = -1
    · rw [if_pos c, if_pos c]
      rfl
    · rw [if_neg c, if_neg c, os_X (by omega), Option.bind_some, if_pos (by decide), rowsOfKey_X h0, Option.bind_some]
theorem ptn_lt {n : Nat → Nat} {f : Nat → Nat → Int32} {s i : Nat} (h : n (1 - s) ≤ 14) : ptn n f s i < 16384 := by
  unfold ptn
  split
  · omega
  · exact mkm_le _ h
theorem ptn_bit {n : Nat → Nat} {f : Nat → Nat → Int32} {s i k : Nat} (hi : f s i ≠ -1) : (ptn n f s i).testBit k = (decide (k < n (1 - s)) && decide (f (1 - s) k = f s i)) := by
  unfold ptn
  rw [if_neg hi, mkm_bit]
theorem mkm_zero {p : Nat → Bool} {n : Nat} : mkm p n = 0 ↔ ∀ k, k < n → p k = false := by
  constructor
  · intro h k hk
    have e := mkm_bit p k n
    rw [h, Nat.zero_testBit] at e
    simpa [hk] using e.symm
  · intro h
    apply Nat.eq_of_testBit_eq
    intro i
    rw [mkm_bit, Nat.zero_testBit]
    by_cases c : i < n
    · rw [h i c]; simp
    · simp [c]
theorem ptn_zero {n : Nat → Nat} {f : Nat → Nat → Int32} {s i : Nat} : ptn n f s i = 0 ↔ nPt n f s i = true := by
  unfold ptn nPt
  by_cases c : f s i = -1
  · simp [c]
  · rw [if_neg c, mkm_zero]
    simp [c]
