/-- rows of a side, of which each has a key -/
def Sb (n : Nat → Nat) (f : Nat → Nat → Int32) (s a : Nat) : Prop := a < 16384 ∧ (∀ k, a.testBit k = true → k < n s) ∧ ∀ k, a.testBit k = true → f s k ≠ -1
theorem lin_ag {l C : Nat → Int32} (h : ∀ j, 1 ≤ j → j ≤ 8 → l j = C j) (k : Nat) (v : Int32) : ∀ j, 1 ≤ j → j ≤ 8 → upd l k v j = upd C k v j := by
  intro j h1 h2
  unfold upd
  split
  · rfl
  · exact h j h1 h2
theorem pk_X {T : SX6} {lim : Nat} {x : SX3} {R : RS} {a : Nat} (h : XR T lim x R) (ha : a < 16384) : ∃ q, fX3_noteHeld x (nI a) = some q ∧ XR T lim q (pk (cnt a) R) := by
  obtain ⟨t0, o1, o2, o3, o4, l1, l2, d1, d2, d3, c1, s1, s2⟩ := h
  unfold fX3_noteHeld
  rw [bitCount_eq ha, Option.bind_some, show (3 : Int32).toNatClampNeg = 3 from by decide, c1 3 (by omega) (by omega)]
  exact ⟨_, rfl, t0, o1, o2, o3, o4, l1, l2, d1, d2, d3, lin_ag c1 3 _, s1, s2⟩
theorem fo_one {g : Nat → RS → RS} {k : Nat} (h : ∀ i Q, i ≠ k → g i Q = Q) (R : RS) : ∀ m, k < m → fo g m R = g k R := by
  intro m
  induction m with
  | zero => intro hk; omega
  | succ m ih =>
    intro hk
    rw [fo]
    rcases Nat.lt_or_ge k m with q | q
    · rw [ih q]
      exact h m _ (by omega)
    · have e : k = m := by omega
      subst e
      rw [fo_id (fun i Q hi => h i Q (by omega))]
theorem ao_one {n : Nat → Nat} {f : Nat → Nat → Int32} {kd lim s k : Nat} (hk : k < 14) (R : RS) : ao n f kd lim s (2 ^ k) R = if nPt n f s k then al kd lim s k R else R := by
  have e := fo_one (g := aoG n f kd lim s (2 ^ k)) (k := k) (fun i Q hi => if_neg (by rw [Nat.testBit_two_pow, decide_eq_false (fun e => hi e.symm), Bool.false_and]; decide)) R 14 hk
  refine e.trans ?_
  show (if (2 ^ k).testBit k && nPt n f s k then al kd lim s k R else R) = _
  rw [Nat.testBit_two_pow_self, Bool.true_and]
theorem cnt_one {k : Nat} (hk : k < 14) : cnt (2 ^ k) = 1 := by
  rcases (show k = 0 ∨ k = 1 ∨ k = 2 ∨ k = 3 ∨ k = 4 ∨ k = 5 ∨ k = 6 ∨ k = 7 ∨ k = 8 ∨ k = 9 ∨ k = 10 ∨ k = 11 ∨ k = 12 ∨ k = 13 by omega) with rfl | rfl | rfl | rfl | rfl | rfl | rfl | rfl | rfl | rfl | rfl | rfl | rfl | rfl <;> decide +kernel
abbrev hoG (n : Nat → Nat) (f : Nat → Nat → Int32) (kd lim s bm pm : Nat) : Nat → RS → RS := fun k R => if pm.testBit k then (if nPt n f (1 - s) k then al kd lim (1 - s) k (ma f kd lim s k bm R) else ma f kd lim s k bm R) else R
theorem hoG_Gr {n : Nat → Nat} {f : Nat → Nat → Int32} {kd lim s bm pm : Nat} : ∀ k, k < 14 → Gr lim (if pm.testBit k then cnt bm + 1 else 0) (hoG n f kd lim s bm pm k) := by
  intro k hk
  by_cases hb : pm.testBit k = true
  · rw [if_pos hb]
    intro R
    have e : hoG n f kd lim s bm pm k R = (if nPt n f (1 - s) k then al kd lim (1 - s) k (ma f kd lim s k bm R) else ma f kd lim s k bm R) := if_pos hb
    rw [e]
    exact Gr.ite (Gr.cp (ma_Gr hk) al_Gr) (Gr.le (ma_Gr hk) (by omega)) R
  · have hb : pm.testBit k = false := by simpa using hb
    intro R
    have e : hoG n f kd lim s bm pm k R = R := if_neg (by rw [hb]; decide)
    rw [e, hb]
    exact Gr.rf 0 R
theorem hoG_off {n : Nat → Nat} {f : Nat → Nat → Int32} {kd lim s bm pm : Nat} (k : Nat) : Off (hoG n f kd lim s bm pm k) := fun R hR => by
  show (if _ then _ else R) = R
  rw [ma_off R hR, al_off R hR, ite_self, ite_self]
theorem ho_X {T : SX6} {n : Nat → Nat} {f : Nat → Nat → Int32} {mem kd lim : Nat} {x : SX3} {R : RS} {s bm pm : Nat} (hT : XT T n f mem kd) (h : XR T lim x R) (hs : s < 2) (hb : Sb n f s bm) (hp : Sb n f (1 - s) pm) (hc : CO lim (nd bm pm) R) :
    ∃ q, fX3_hold x (nI s) (nI bm) (nI pm) = some q ∧ XR T lim q (ho n f kd lim s bm pm R) := by
  obtain ⟨x1, hx1, h1⟩ := pk_X h hb.1
  have hF : fX3_hold x (nI s) (nI bm) (nI pm) = fX3_hold_b14 1000 (nI s) (nI bm) (nI pm) (nI (1 - s)) (nI 0) x1 := by
    unfold fX3_hold
    rw [hx1, Option.bind_some, os_X hs, Option.bind_some]
    rfl
  rw [hF]
  have hc1 : CO lim (cnt pm * (cnt bm + 1) + cnt bm) (pk (cnt bm) R) := by
    refine CO.af (a := 0) (CO.le hc ?_) pk_Gr
    unfold nd
    have e : cnt pm * (cnt bm + 1) = cnt bm * cnt pm + cnt pm := by rw [Nat.mul_add, Nat.mul_one, Nat.mul_comm]
    omega
  refine upE (fun m j y => fX3_hold_b14 m (nI s) (nI bm) (nI pm) (nI (1 - s)) (nI j) y) (fun j y => XR T lim y (fo (hoG n f kd lim s bm pm) j (pk (cnt bm) R))) (fun q => XR T lim q (ho n f kd lim s bm pm R)) 14 ?_ ?_ 1000 0 x1 (by omega) (by omega) h1
  · intro m j y hj hI
    have hI0 := hI
    obtain ⟨t0, o1, o2, o3, o4, -⟩ := hI
    show (∃ s', XR T lim s' (fo (hoG n f kd lim s bm pm) (j + 1) (pk (cnt bm) R)) ∧ fX3_hold_b14 (m + 1) (nI s) (nI bm) (nI pm) (nI (1 - s)) (nI j) y = fX3_hold_b14 m (nI s) (nI bm) (nI pm) (nI (1 - s)) (nI (j + 1)) s') ∨ ∃ r, fX3_hold_b14 (m + 1) (nI s) (nI bm) (nI pm) (nI (1 - s)) (nI j) y = some r ∧ XR T lim r (ho n f kd lim s bm pm R)
    by_cases off : (fo (hoG n f kd lim s bm pm) j (pk (cnt bm) R)).2.2.2 = true
    · have hC0 : CO lim (cnt bm) (fo (hoG n f kd lim s bm pm) j (pk (cnt bm) R)) := fo_CO14 hoG_Gr hc1 (by omega)
      obtain ⟨q, q1, q2⟩ := ao_X hT hI0 hs hb.2.1 hb.1 hC0
      refine Or.inr ⟨q, ?_, ?_⟩
      · rw [fX3_hold_b14, if_neg (cl 14 (by omega) (by omega)), o4, if_pos off, if_neg (by decide), q1, Option.bind_some]
      · have e : fo (hoG n f kd lim s bm pm) 14 (pk (cnt bm) R) = fo (hoG n f kd lim s bm pm) j (pk (cnt bm) R) := fo_more (fun k => hoG_off k _ off) 14 (by omega)
        show XR T lim q (ao n f kd lim s bm (fo (hoG n f kd lim s bm pm) 14 (pk (cnt bm) R)))
        rw [e]
        exact q2
    · have off : (fo (hoG n f kd lim s bm pm) j (pk (cnt bm) R)).2.2.2 = false := by simpa using off
      have e4 : y.2.1.2.2.2.2 = 0 := by rw [o4, if_neg (by rw [off]; decide)]
      by_cases b : pm.testBit j = true
      · have hC1 : CO lim (cnt bm + 1 + cnt bm) (fo (hoG n f kd lim s bm pm) j (pk (cnt bm) R)) := fo_CO hoG_Gr hc1 hj b
        obtain ⟨q, q1, q2⟩ := ma_X hT hI0 hs (hp.2.1 j b) (hp.2.2 j b) hb.2.1 hb.1 (CO.le hC1 (by omega))
        have hC2 : CO lim (cnt (2 ^ j)) (ma f kd lim s j bm (fo (hoG n f kd lim s bm pm) j (pk (cnt bm) R))) := by
          refine CO.af (a := cnt bm) (CO.le hC1 ?_) (ma_Gr hj)
          rw [cnt_one hj]
          omega
        obtain ⟨q', q3, q4⟩ := ao_X (s := 1 - s) (set := 2 ^ j) hT q2 (by omega) (fun k hk => by
          rw [Nat.testBit_two_pow] at hk
          have e : j = k := of_decide_eq_true hk
          subst e
          exact hp.2.1 j b) (Nat.lt_of_lt_of_le (Nat.pow_lt_pow_right (by omega) hj) (Nat.le_refl (2 ^ 14))) hC2
        refine Or.inl ⟨q', ?_, ?_⟩
        · rw [fo]
          have hg : hoG n f kd lim s bm pm j (fo (hoG n f kd lim s bm pm) j (pk (cnt bm) R)) = ao n f kd lim (1 - s) (2 ^ j) (ma f kd lim s j bm (fo (hoG n f kd lim s bm pm) j (pk (cnt bm) R))) := by
            rw [ao_one hj]
            exact if_pos b
          rw [hg]
          exact q4
        · rw [fX3_hold_b14, if_neg (cl 14 (by omega) (by omega)), if_pos e4, isIn_X hp.1 (by omega), Option.bind_some, b, if_neg (by decide), q1, Option.bind_some, one_shl (by omega), q3, Option.bind_some, nI1]
      · have b : pm.testBit j = false := by simpa using b
        refine Or.inl ⟨y, ?_, ?_⟩
        · rw [fo]
          have hg : hoG n f kd lim s bm pm j (fo (hoG n f kd lim s bm pm) j (pk (cnt bm) R)) = fo (hoG n f kd lim s bm pm) j (pk (cnt bm) R) := if_neg (by rw [b]; decide)
          rw [hg]
          exact hI0
        · rw [fX3_hold_b14, if_neg (cl 14 (by omega) (by omega)), if_pos e4, isIn_X hp.1 (by omega), Option.bind_some, b, if_pos (by decide), nI1]
  · intro m y hI
    have hC0 : CO lim (cnt bm) (fo (hoG n f kd lim s bm pm) 14 (pk (cnt bm) R)) := fo_CO14 hoG_Gr hc1 (by omega)
    obtain ⟨q, q1, q2⟩ := ao_X hT hI hs hb.2.1 hb.1 hC0
    refine ⟨q, ?_, q2⟩
    show fX3_hold_b14 (m + 1) (nI s) (nI bm) (nI pm) (nI (1 - s)) (nI 14) y = some q
    rw [fX3_hold_b14, if_pos (show (14 : Int32) ≤ nI 14 by decide), q1, Option.bind_some]
