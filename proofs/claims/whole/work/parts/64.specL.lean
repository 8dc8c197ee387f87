/-! what the spec's pieces keep, and by how much they grow -/
theorem fo_id {g : Nat → RS → RS} {m : Nat} {R : RS} (h : ∀ k R, k < m → g k R = R) : fo g m R = R := by
  induction m with
  | zero => rfl
  | succ m ih =>
    rw [fo, ih (fun k R hk => h k R (by omega))]
    exact h m R (by omega)
theorem fo_more {g : Nat → RS → RS} {j : Nat} {R : RS} (h : ∀ k, g k (fo g j R) = fo g j R) : ∀ m, j ≤ m → fo g m R = fo g j R := by
  intro m
  induction m with
  | zero => intro hj; rw [show j = 0 by omega]
  | succ m ih =>
    intro hj
    rcases Nat.lt_or_ge m j with q | q
    · rw [show j = m + 1 by omega]
    · rw [fo, ih q]
      exact h m
theorem fo_cong {g g' : Nat → RS → RS} {m : Nat} {R : RS} (h : ∀ k R, k < m → g k R = g' k R) : fo g m R = fo g' m R := by
  induction m with
  | zero => rfl
  | succ m ih =>
    rw [fo, fo, ih (fun k R hk => h k R (by omega))]
    exact h m _ (by omega)
/-- nothing more comes out once it is broken off -/
def Off (g : RS → RS) : Prop := ∀ R : RS, R.2.2.2 = true → g R = R
theorem co_off {lim : Nat} {a b : Int32} : Off (co lim a b) := fun R h => by rw [co, if_pos h]
theorem mt_off {kd lim l r : Nat} : Off (mt kd lim l r) := fun R h => by rw [mt, if_pos h]
theorem al_off {kd lim s i : Nat} : Off (al kd lim s i) := fun R h => by
  unfold al
  split
  · split <;> exact co_off R h
  · rfl
theorem fo_off {g : Nat → RS → RS} (h : ∀ k, Off (g k)) (m : Nat) : Off (fo g m) := by
  intro R hR
  induction m with
  | zero => rfl
  | succ m ih => rw [fo, ih]; exact h m R hR
theorem if_off {c : Prop} [Decidable c] {g : RS → RS} (h : Off g) : Off (fun R => if c then g R else R) := fun R hR => by
  show (if c then g R else R) = R
  split
  · exact h R hR
  · rfl
theorem ma_off {f : Nat → Nat → Int32} {kd lim s pr bm : Nat} : Off (ma f kd lim s pr bm) := by
  refine fo_off (fun k R hR => ?_) 14
  show (if _ then _ else R) = R
  split
  · split <;> exact mt_off R hR
  · rfl
theorem ao_off {n : Nat → Nat} {f : Nat → Nat → Int32} {kd lim s set : Nat} : Off (ao n f kd lim s set) :=
  fo_off (fun k => if_off al_off) 14
/-- at most a more come out; what was opened and shut stays -/
def Gr (lim a : Nat) (g : RS → RS) : Prop := ∀ R : RS, (g R).1 0 ≤ R.1 0 + a ∧ (R.1 0 ≤ lim → (g R).1 0 ≤ lim) ∧ (g R).1 1 = R.1 1 ∧ (g R).1 2 = R.1 2 ∧ (g R).1 3 = R.1 3 ∧ (R.1 4 < 16384 → (g R).1 4 < 16384) ∧ (g R).2.1 5 = R.2.1 5 ∧ (g R).2.1 6 = R.2.1 6
theorem Gr.rf {lim : Nat} (a : Nat) : Gr lim a (fun R => R) := fun R => ⟨Nat.le_add_right _ _, fun h => h, rfl, rfl, rfl, fun h => h, rfl, rfl⟩
theorem Gr.le {lim a b : Nat} {g : RS → RS} (h : Gr lim a g) (hab : a ≤ b) : Gr lim b g := fun R => ⟨by have := (h R).1; omega, (h R).2⟩
theorem Gr.cp {lim a b : Nat} {g h : RS → RS} (hg : Gr lim a g) (hh : Gr lim b h) : Gr lim (a + b) (fun R => h (g R)) := fun R => by
  obtain ⟨p1, p2, p3, p4, p5, p6, p7, p8⟩ := hg R
  obtain ⟨q1, q2, q3, q4, q5, q6, q7, q8⟩ := hh (g R)
  exact ⟨(by show (h (g R)).1 0 ≤ R.1 0 + (a + b); omega), fun z => q2 (p2 z), q3.trans p3, q4.trans p4, q5.trans p5, fun z => q6 (p6 z), q7.trans p7, q8.trans p8⟩
theorem Gr.ite {lim a : Nat} {c : Prop} [Decidable c] {g h : RS → RS} (hg : Gr lim a g) (hh : Gr lim a h) : Gr lim a (fun R => if c then g R else h R) := fun R => by
  show ((if c then g R else h R) : RS).1 0 ≤ _ ∧ _
  split
  · exact hg R
  · exact hh R
/-- a sum -/
def fb_sum (w : Nat → Nat) : Nat → Nat
  | 0 => 0
  | m + 1 => fb_sum w m + w m
theorem Gr.fo {lim : Nat} {g : Nat → RS → RS} {w : Nat → Nat} (h : ∀ k, Gr lim (w k) (g k)) : ∀ m, Gr lim (fb_sum w m) (fo g m) := by
  intro m
  induction m with
  | zero => exact Gr.rf _
  | succ m ih =>
    intro R
    exact (Gr.cp ih (h m)) R
theorem co_Gr {lim : Nat} {a b : Int32} : Gr lim 1 (co lim a b) := fun R => by
  unfold co
  split
  · exact Gr.rf 1 R
  · rename_i h0
    split
    · exact Gr.rf 1 R
    · rename_i h1
      refine ⟨?_, ?_, rfl, rfl, rfl, fun h => h, rfl, rfl⟩
      · show R.1 0 + 1 ≤ R.1 0 + 1
        omega
      · intro h
        show R.1 0 + 1 ≤ lim
        omega
theorem mt_Gr {kd lim l r : Nat} (hl : l < 14) : Gr lim 1 (mt kd lim l r) := fun R => by
  unfold mt
  split
  · exact Gr.rf 1 R
  · split
    · split
      · exact Gr.rf 1 R
      · obtain ⟨q1, q2, q3, q4, q5, q6, q7, q8⟩ := co_Gr (lim := lim) (a := nI l) (b := -1) (va_up R.1 4 (R.1 4 ||| 2 ^ l), R.2)
        refine ⟨q1, q2, q3, q4, q5, fun z => q6 ?_, q7, q8⟩
        show R.1 4 ||| 2 ^ l < 16384
        exact Nat.or_lt_two_pow (n := 14) z (Nat.pow_lt_pow_right (by omega) hl)
    · split
      · exact Gr.rf 1 R
      · exact co_Gr R
theorem al_Gr {kd lim s i : Nat} : Gr lim 1 (al kd lim s i) := fun R => by
  unfold al
  split
  · split <;> exact co_Gr R
  · exact Gr.rf 1 R
theorem sum_bit (a c : Nat) : ∀ m, fb_sum (fun k => if a.testBit k then c else 0) m = cntB a m * c := by
  intro m
  induction m with
  | zero => simp [fb_sum, cntB]
  | succ m ih =>
    rw [fb_sum, cntB, ih]
    split
    · rw [Nat.add_mul, Nat.one_mul]
    · simp
theorem cntB_mono (a : Nat) {m k : Nat} (h : m ≤ k) : cntB a m ≤ cntB a k := by
  induction k with
  | zero => rw [show m = 0 by omega]; exact Nat.le_refl _
  | succ k ih =>
    rcases Nat.lt_or_ge m (k + 1) with q | q
    · have := ih (by omega)
      rw [cntB]
      omega
    · rw [show m = k + 1 by omega]
      exact Nat.le_refl _
theorem ma_Gr {f : Nat → Nat → Int32} {kd lim s pr bm : Nat} (hp : pr < 14) : Gr lim (cnt bm) (ma f kd lim s pr bm) := by
  refine Gr.le (a := fb_sum (fun k => if bm.testBit k then 1 else 0) 14) ?_ ?_
  · intro R
    have e : ma f kd lim s pr bm R = fo (fun k R => if k < 14 then (if bm.testBit k && decide (f s k = f (1 - s) pr) then (if s = 0 then mt kd lim k pr R else mt kd lim pr k R) else R) else R) 14 R := fo_cong (fun k R hk => by rw [if_pos hk])
    rw [e]
    refine Gr.fo (fun k => ?_) 14 R
    by_cases hb : bm.testBit k = true
    · simp only [hb, if_true, Bool.true_and]
      by_cases hk : k < 14
      · simp only [hk, if_true]
        exact Gr.ite (Gr.ite (mt_Gr hk) (mt_Gr hp)) (Gr.rf 1)
      · simp only [hk, if_false]
        exact Gr.rf 1
    · have hb : bm.testBit k = false := by simpa using hb
      simp only [hb, Bool.false_and, Bool.false_eq_true, if_false, ite_self]
      exact Gr.rf 0
  · rw [sum_bit, Nat.mul_one]
    exact cntB_mono bm (by omega)
theorem ao_Gr {n : Nat → Nat} {f : Nat → Nat → Int32} {kd lim s set : Nat} : Gr lim (cnt set) (ao n f kd lim s set) := by
  refine Gr.le (a := fb_sum (fun k => if set.testBit k then 1 else 0) 14) ?_ ?_
  · refine Gr.fo (fun k => ?_) 14
    by_cases hb : set.testBit k = true
    · simp only [hb, if_true, Bool.true_and]
      exact Gr.ite al_Gr (Gr.rf 1)
    · have hb : set.testBit k = false := by simpa using hb
      simp only [hb, Bool.false_and, Bool.false_eq_true, if_false]
      exact Gr.rf 0
  · rw [sum_bit, Nat.mul_one]
    exact cntB_mono set (by omega)
theorem pk_Gr {lim c : Nat} : Gr lim 0 (pk c) := fun R => ⟨Nat.le_refl _, fun h => h, rfl, rfl, rfl, fun h => h, rfl, rfl⟩
theorem ad_Gr {lim j : Nat} {v : Int32} : Gr lim 0 (ad j v) := fun R => ⟨Nat.le_refl _, fun h => h, rfl, rfl, rfl, fun h => h, rfl, rfl⟩
/-- what a part may bring out -/
def nd (l r : Nat) : Nat := cnt l * cnt r + cnt l + cnt r
theorem ho_Gr {n : Nat → Nat} {f : Nat → Nat → Int32} {kd lim s bm pm : Nat} : Gr lim (nd bm pm) (ho n f kd lim s bm pm) := by
  have h1 : Gr lim (cnt pm * (cnt bm + 1)) (fo (fun k R => if pm.testBit k then (if nPt n f (1 - s) k then al kd lim (1 - s) k (ma f kd lim s k bm R) else ma f kd lim s k bm R) else R) 14) := by
    refine Gr.le (a := fb_sum (fun k => if pm.testBit k then cnt bm + 1 else 0) 14) ?_ ?_
    · intro R
      have e : fo (fun k R => if pm.testBit k then (if nPt n f (1 - s) k then al kd lim (1 - s) k (ma f kd lim s k bm R) else ma f kd lim s k bm R) else R) 14 R = fo (fun k R => if k < 14 then (if pm.testBit k then (if nPt n f (1 - s) k then al kd lim (1 - s) k (ma f kd lim s k bm R) else ma f kd lim s k bm R) else R) else R) 14 R := fo_cong (fun k R hk => by rw [if_pos hk])
      rw [e]
      refine Gr.fo (fun k => ?_) 14 R
      by_cases hb : pm.testBit k = true
      · simp only [hb, if_true]
        by_cases hk : k < 14
        · simp only [hk, if_true]
          exact Gr.ite (Gr.cp (ma_Gr hk) al_Gr) (Gr.le (ma_Gr hk) (by omega))
        · simp only [hk, if_false]
          exact Gr.rf _
      · have hb : pm.testBit k = false := by simpa using hb
        simp only [hb, Bool.false_eq_true, if_false, ite_self]
        exact Gr.rf 0
    · rw [sum_bit]
      exact Nat.mul_le_mul_right _ (cntB_mono pm (by omega))
  have h2 := Gr.cp (Gr.cp (pk_Gr (lim := lim) (c := cnt bm)) h1) (ao_Gr (n := n) (f := f) (kd := kd) (s := s) (set := bm))
  refine Gr.le h2 ?_
  unfold nd
  have e : cnt pm * (cnt bm + 1) = cnt bm * cnt pm + cnt pm := by rw [Nat.mul_add, Nat.mul_one, Nat.mul_comm]
  omega
