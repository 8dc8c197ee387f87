/-! the class's run as a whole -/
theorem fill_X (z : Nat → Int32) (v : Int32) : ∃ q, fJ7_fill_53178 z v = some q ∧ ∀ i, i < 10 → q i = v := by
  unfold fJ7_fill_53178
  refine upE (fun m j s => fJ7_fill_53178_b5 m v (nI j) 10 s) (fun j s => ∀ i, i < j → s i = v) (fun q => ∀ i, i < 10 → q i = v) 10 ?_ ?_ 1000 0 z (by omega) (by omega) (fun i hi => by omega)
  · intro m j s hj hI
    refine Or.inl ⟨upd s j v, ?_, ?_⟩
    · intro i hi
      unfold upd
      split
      · rfl
      · exact hI i (by omega)
    · show fJ7_fill_53178_b5 (m + 1) v (nI j) 10 s = fJ7_fill_53178_b5 m v (nI (j + 1)) 10 (upd s j v)
      rw [fJ7_fill_53178_b5, if_neg (cl 10 hj (by omega)), if_neg (nI_in hj (by omega)), nI_clamp (by omega), nI1]
  · intro m s hI
    refine ⟨s, ?_, hI⟩
    show fJ7_fill_53178_b5 (m + 1) v (nI 10) 10 s = some s
    rw [fJ7_fill_53178_b5, if_pos (show (10 : Int32) ≤ nI 10 by decide)]
theorem clear_X {T : SX6} {lim : Nat} {x : SX3} (hx : x.1 = T) : ∃ q, fX3_clear x (nI (xlm lim)) = some q ∧ XR T lim q R0 := by
  obtain ⟨l, l1, l2⟩ := fill_X x.2.2.2.1 0
  unfold fX3_clear fX1_clear fX0_clear
  rw [Option.bind_some, Option.bind_some, l1, Option.bind_some]
  refine ⟨_, rfl, hx, rfl, fun i hi => absurd hi (Nat.not_lt_zero i), rfl, rfl, rfl, fun i hi => absurd hi (Nat.not_lt_zero i), rfl, fun i hi => absurd hi (Nat.not_lt_zero i), rfl, ?_, fun _ => rfl, by decide⟩
  intro j h1 h2
  show upd l (4 : Int32).toNatClampNeg (-1) j = upd (fun _ => 0) 4 (-1) j
  rw [show (4 : Int32).toNatClampNeg = 4 from by decide]
  unfold upd
  split
  · rfl
  · exact l2 j (by omega)
theorem nk_bit (f : Nat → Nat → Int32) (s n i : Nat) : (nk f s n).testBit i = (decide (i < n) && decide (f s i = -1)) := mkm_bit _ _ _
theorem wk_bit (f : Nat → Nat → Int32) (s n i : Nat) : (wk f s n).testBit i = (decide (i < n) && decide (f s i ≠ -1)) := mkm_bit _ _ _
theorem rowsWithoutKey_X {z : SX5} {n : Nat} {f : Nat → Nat → Int32} {s : Nat} (h : SdR z n (f s)) : fX5_rowsWithoutKey z = some (nI (nk f s n)) := by
  have hn := h.2.1
  unfold fX5_rowsWithoutKey
  rw [rowsWithKey_X h, Option.bind_some, h.1, one_shl (by omega)]
  have hp : 2 ^ n ≤ 2 ^ 14 := Nat.pow_le_pow_right (by omega) hn
  have hp1 : 1 ≤ 2 ^ n := Nat.one_le_two_pow
  have e1 : nI (2 ^ n) - 1 = nI (2 ^ n - 1) := by
    have := nI_pred (2 ^ n - 1)
    rw [show 2 ^ n - 1 + 1 = 2 ^ n by omega] at this
    exact this
  rw [e1, fa_andn _ _ (by omega)]
  congr 2
  apply Nat.eq_of_testBit_eq
  intro i
  refine (sdf_bit (2 ^ n - 1) (mkm (fun i => decide (f s i ≠ -1)) n) i).trans ?_
  rw [mkm_bit, nk_bit, Nat.testBit_two_pow_sub_one]
  by_cases c : i < n
  · by_cases d : f s i = -1 <;> simp [c, d]
  · simp [c]
theorem cnt_14 {a : Nat} (h : a < 16384) : cnt a ≤ 14 := by
  have e1 : a.testBit 14 = false := Nat.testBit_lt_two_pow (i := 14) (by omega)
  have e2 : a.testBit 15 = false := Nat.testBit_lt_two_pow (i := 15) (by omega)
  unfold cnt
  rw [cntB, cntB, e1, e2]
  exact cntB_le a 14
theorem cnt_wn (f : Nat → Nat → Int32) (s : Nat) {n : Nat} (hn : n ≤ 14) : cnt (wk f s n) + cnt (nk f s n) ≤ 14 := by
  have hp : 2 ^ n ≤ 2 ^ 14 := Nat.pow_le_pow_right (by omega) hn
  have e : cnt (2 ^ n - 1) = cnt (wk f s n) + cnt (nk f s n) := by
    refine cntB_add 16 (fun k _ => ?_)
    rw [wk_bit, nk_bit, Nat.testBit_two_pow_sub_one]
    by_cases c : k < n
    · by_cases d : f s k = -1 <;> simp [c, d]
    · simp [c]
  rw [← e]
  exact cnt_14 (by omega)
theorem wk_Sb {n : Nat → Nat} {f : Nat → Nat → Int32} {s : Nat} (hn : n s ≤ 14) : Sb n f s (wk f s (n s)) := by
  refine ⟨mkm_le _ hn, fun k hk => ?_, fun k hk => ?_⟩
  · rw [wk_bit, Bool.and_eq_true] at hk
    exact of_decide_eq_true hk.1
  · rw [wk_bit, Bool.and_eq_true] at hk
    exact of_decide_eq_true hk.2
theorem rn_CO {n : Nat → Nat} {f : Nat → Nat → Int32} {lim : Nat} (h0 : n 0 ≤ 14) (h1 : n 1 ≤ 14) : CO lim (nd (wk f 0 (n 0)) (wk f 1 (n 1)) + (cnt (nk f 0 (n 0)) + cnt (nk f 1 (n 1)))) R0 := by
  have e0 := cnt_wn f 0 h0
  have e1 := cnt_wn f 1 h1
  refine ⟨Nat.zero_le _, fun _ => ?_⟩
  have em : cnt (wk f 0 (n 0)) * cnt (wk f 1 (n 1)) ≤ 14 * 14 := Nat.mul_le_mul (by omega) (by omega)
  show 0 + _ ≤ 250
  unfold nd
  omega
/-- a run before the rows without a key -/
def rn1 (n : Nat → Nat) (f : Nat → Nat → Int32) (kd lim mem : Nat) : RS := if wk f 0 (n 0) ||| wk f 1 (n 1) = 0 then R0 else tn n f kd lim mem 6 0 (wk f 0 (n 0)) (wk f 1 (n 1)) R0
theorem rn_eq (n : Nat → Nat) (f : Nat → Nat → Int32) (kd lim mem : Nat) : rn n f kd lim mem = ao n f kd lim 1 (nk f 1 (n 1)) (ao n f kd lim 0 (nk f 0 (n 0)) (rn1 n f kd lim mem)) := rfl
theorem rn1_TP (n : Nat → Nat) (f : Nat → Nat → Int32) (kd lim mem : Nat) (h0 : n 0 ≤ 14) (h1 : n 1 ≤ 14) : TP lim (nd (wk f 0 (n 0)) (wk f 1 (n 1))) 182 0 R0 (rn1 n f kd lim mem) := by
  unfold rn1
  split
  · exact TP.rf _ _ _ _
  · exact tn_TP 6 0 _ _ R0 (by omega) (by omega) (mkm_le _ h0) (mkm_le _ h1)
theorem go_X {T : SX6} {n : Nat → Nat} {f : Nat → Nat → Int32} {mem kd lim : Nat} {x : SX3} (hT : XT T n f mem kd) (hm : mem < 2 ^ 31) (hx : x.1 = T) :
    ∃ q, fX3_go x (nI (xlm lim)) = some q ∧ XR T lim q (rn n f kd lim mem) ∧ q.2.2.2.1 0 = nI ((rn n f kd lim mem).1 0) ∧ q.2.2.2.1 9 = nI ((rn n f kd lim mem).1 1) := by
  have h0 : n 0 ≤ 14 := hT.le (s := 0) (by omega)
  have h1 : n 1 ≤ 14 := hT.le (s := 1) (by omega)
  have hC := rn_CO (n := n) (f := f) (lim := lim) h0 h1
  have h14 := rn1_TP n f kd lim mem h0 h1
  have b40 : ∀ y, XR T lim y (rn1 n f kd lim mem) → ∃ q, fX3_go_b40 y = some q ∧ XR T lim q (rn n f kd lim mem) ∧ q.2.2.2.1 0 = nI ((rn n f kd lim mem).1 0) ∧ q.2.2.2.1 9 = nI ((rn n f kd lim mem).1 1) := by
    intro y hy
    have c1 := hC.tp h14
    obtain ⟨u, u1, u2⟩ := ao_X (s := 0) (set := nk f 0 (n 0)) hT hy (by omega) (fun k hk => by rw [nk_bit, Bool.and_eq_true] at hk; exact of_decide_eq_true hk.1) (mkm_le _ h0) (c1.le (by omega))
    obtain ⟨v, v1, v2⟩ := ao_X (s := 1) (set := nk f 1 (n 1)) hT u2 (by omega) (fun k hk => by rw [nk_bit, Bool.and_eq_true] at hk; exact of_decide_eq_true hk.1) (mkm_le _ h1) (c1.af ao_Gr)
    unfold fX3_go_b40
    rw [hy.1, rowsWithoutKey_X hT.1, Option.bind_some, show fX3_comeOutAlone y 0 (nI (nk f 0 (n 0))) = some u from u1, Option.bind_some, u2.1, rowsWithoutKey_X hT.2.1, Option.bind_some, show fX3_comeOutAlone u 1 (nI (nk f 1 (n 1))) = some v from v1, Option.bind_some]
    rw [rn_eq]
    obtain ⟨t0, o1, o2, o3, o4, l1, l2, d1, d2, d3, cc, s1, s2⟩ := v2
    refine ⟨_, rfl, ⟨t0, o1, o2, o3, o4, l1, l2, d1, d2, d3, ?_, s1, s2⟩, ?_, ?_⟩
    · intro j j1 j8
      show upd (upd v.2.2.2.1 (0 : Int32).toNatClampNeg _) (9 : Int32).toNatClampNeg _ j = _
      rw [show (0 : Int32).toNatClampNeg = 0 from by decide, show (9 : Int32).toNatClampNeg = 9 from by decide]
      unfold upd
      rw [if_neg (by omega), if_neg (by omega)]
      exact cc j j1 j8
    · show upd (upd v.2.2.2.1 (0 : Int32).toNatClampNeg v.2.1.2.2.1) (9 : Int32).toNatClampNeg v.2.2.1.2.2.2.1 0 = _
      rw [show (0 : Int32).toNatClampNeg = 0 from by decide, show (9 : Int32).toNatClampNeg = 9 from by decide]
      exact o1
    · show upd (upd v.2.2.2.1 (0 : Int32).toNatClampNeg v.2.1.2.2.1) (9 : Int32).toNatClampNeg v.2.2.1.2.2.2.1 9 = _
      rw [show (0 : Int32).toNatClampNeg = 0 from by decide, show (9 : Int32).toNatClampNeg = 9 from by decide]
      exact l1
  obtain ⟨a, a1, a2⟩ := clear_X (lim := lim) hx
  have hor : wk f 0 (n 0) ||| wk f 1 (n 1) < 16384 := Nat.or_lt_two_pow (n := 14) (mkm_le _ h0) (mkm_le _ h1)
  unfold fX3_go
  rw [a1, Option.bind_some, a2.1, rowsWithKey_X hT.1, Option.bind_some, rowsWithKey_X hT.2.1, Option.bind_some, fa_or]
  by_cases c : wk f 0 (n 0) ||| wk f 1 (n 1) = 0
  · rw [if_pos ((nI_z (show mkm (fun i => decide (f 0 i ≠ -1)) (n 0) ||| mkm (fun i => decide (f 1 i ≠ -1)) (n 1) < 2 ^ 31 from Nat.lt_trans hor (by omega))).mpr c)]
    exact b40 a (by unfold rn1; rw [if_pos c]; exact a2)
  · rw [if_neg (fun e => c ((nI_z (show mkm (fun i => decide (f 0 i ≠ -1)) (n 0) ||| mkm (fun i => decide (f 1 i ≠ -1)) (n 1) < 2 ^ 31 from Nat.lt_trans hor (by omega))).mp e))]
    obtain ⟨q, q1, q2⟩ := turn_X hT hm 6 0 (wk f 0 (n 0)) (wk f 1 (n 1)) a R0 (by omega) (by omega) (wk_Sb h0) (wk_Sb h1) a2 (hC.le (by omega)) (by decide) (by decide)
    rw [show fX3_turn 6 a (nI (mkm (fun i => decide (f 0 i ≠ -1)) (n 0))) (nI (mkm (fun i => decide (f 1 i ≠ -1)) (n 1))) 0 = some q from q1, Option.bind_some]
    exact b40 q (by unfold rn1; rw [if_neg c]; exact q2)
