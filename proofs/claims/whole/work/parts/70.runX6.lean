theorem ad_X {T : SX6} {lim : Nat} {x : SX3} {R : RS} (h : XR T lim x R) {j : Nat} (h1 : 1 ≤ j) (h8 : j ≤ 8) (v : Int32) : XR T lim (x.1, x.2.1, x.2.2.1, upd x.2.2.2.1 j (x.2.2.2.1 j + v), x.2.2.2.2) (ad j v R) := by
  obtain ⟨t0, o1, o2, o3, o4, l1, l2, d1, d2, d3, c1, s1, s2⟩ := h
  refine ⟨t0, o1, o2, o3, o4, l1, l2, d1, d2, d3, ?_, s1, s2⟩
  show ∀ i, 1 ≤ i → i ≤ 8 → upd x.2.2.2.1 j (x.2.2.2.1 j + v) i = upd R.2.2.1 j (R.2.2.1 j + v) i
  rw [c1 j h1 h8]
  exact lin_ag c1 j _
abbrev blG (f : Nat → Nat → Int32) (kd lim s pm b : Nat) : Nat → RS → RS := fun k R => if pm.testBit k then ma f kd lim s k b R else R
theorem blG_Gr {f : Nat → Nat → Int32} {kd lim s pm b : Nat} : ∀ k, k < 14 → Gr lim (if pm.testBit k then cnt b else 0) (blG f kd lim s pm b k) := by
  intro k hk
  by_cases hb : pm.testBit k = true
  · rw [if_pos hb]
    intro R
    have e : blG f kd lim s pm b k R = ma f kd lim s k b R := if_pos hb
    rw [e]
    exact ma_Gr hk R
  · have hb : pm.testBit k = false := by simpa using hb
    intro R
    have e : blG f kd lim s pm b k R = R := if_neg (by rw [hb]; decide)
    rw [e, hb]
    exact Gr.rf 0 R
theorem blG_off {f : Nat → Nat → Int32} {kd lim s pm b : Nat} (k : Nat) : Off (blG f kd lim s pm b k) := if_off ma_off
/-- one block -/
abbrev blS (f : Nat → Nat → Int32) (kd lim s pm b : Nat) (R : RS) : RS := fo (blG f kd lim s pm b) 14 (ad 2 (nI (cnt pm)) (pk (cnt b) R))
def GP (lim a : Nat) (R Q : RS) : Prop := Q.1 0 ≤ R.1 0 + a ∧ (R.1 0 ≤ lim → Q.1 0 ≤ lim) ∧ Q.1 1 = R.1 1 ∧ Q.1 2 = R.1 2 ∧ Q.1 3 = R.1 3 ∧ (R.1 4 < 16384 → Q.1 4 < 16384) ∧ Q.2.1 5 = R.2.1 5 ∧ Q.2.1 6 = R.2.1 6
theorem GP.tr {lim a b : Nat} {R Q S : RS} (h1 : GP lim a R Q) (h2 : GP lim b Q S) : GP lim (a + b) R S := by
  obtain ⟨p1, p2, p3, p4, p5, p6, p7, p8⟩ := h1
  obtain ⟨q1, q2, q3, q4, q5, q6, q7, q8⟩ := h2
  exact ⟨by omega, fun z => q2 (p2 z), q3.trans p3, q4.trans p4, q5.trans p5, fun z => q6 (p6 z), q7.trans p7, q8.trans p8⟩
theorem GP.le {lim a b : Nat} {R Q : RS} (h : GP lim a R Q) (hab : a ≤ b) : GP lim b R Q := ⟨by have := h.1; omega, h.2⟩
theorem blS_Gr {f : Nat → Nat → Int32} {kd lim s pm b : Nat} : Gr lim (cnt pm * cnt b) (blS f kd lim s pm b) := by
  have h1 : Gr lim (cntB pm 14 * cnt b) (fo (blG f kd lim s pm b) 14) := by
    rw [← sum_bit]
    exact GrfoL 14 blG_Gr
  intro R
  have q1 : GP lim 0 R (pk (cnt b) R) := pk_Gr R
  have q2 : GP lim 0 (pk (cnt b) R) (ad 2 (nI (cnt pm)) (pk (cnt b) R)) := ad_Gr (pk (cnt b) R)
  have q3 : GP lim (cntB pm 14 * cnt b) (ad 2 (nI (cnt pm)) (pk (cnt b) R)) (blS f kd lim s pm b R) := h1 (ad 2 (nI (cnt pm)) (pk (cnt b) R))
  have : cntB pm 14 * cnt b ≤ cnt pm * cnt b := Nat.mul_le_mul_right _ (cntB_mono pm (by omega))
  exact GP.le ((q1.tr q2).tr q3) (by omega)
theorem bl_0 {f : Nat → Nat → Int32} {kd lim mem s pm k left : Nat} {R : RS} (h : left = 0 ∨ R.2.2.2 = true) : bl f kd lim mem s pm k left R = R := by
  cases k with
  | zero => rfl
  | succ k => rw [bl, if_pos h]
theorem bl_s {f : Nat → Nat → Int32} {kd lim mem s pm k left : Nat} {R : RS} (h : ¬ (left = 0 ∨ R.2.2.2 = true)) : bl f kd lim mem s pm (k + 1) left R = bl f kd lim mem s pm k (sdf left (fst left mem 14)) (blS f kd lim s pm (fst left mem 14) R) := by
  rw [bl, if_neg h]
theorem fst_cnt (a m : Nat) : cnt a = cnt (fst a m 14) + cnt (sdf a (fst a m 14)) := cnt_sdf (fun k hk => (fst_sub a m 14 k hk).1)
theorem bl_Gr {f : Nat → Nat → Int32} {kd lim mem s pm : Nat} : ∀ k left, Gr lim (cnt pm * cnt left) (bl f kd lim mem s pm k left) := by
  intro k
  induction k with
  | zero => intro left; exact Gr.rf _
  | succ k ih =>
    intro left R
    by_cases c : left = 0 ∨ R.2.2.2 = true
    · rw [bl_0 c]
      exact Gr.rf _ R
    · rw [bl_s c]
      have q1 : GP lim (cnt pm * cnt (fst left mem 14)) R (blS f kd lim s pm (fst left mem 14) R) := blS_Gr R
      have q2 : GP lim (cnt pm * cnt (sdf left (fst left mem 14))) (blS f kd lim s pm (fst left mem 14) R) (bl f kd lim mem s pm k (sdf left (fst left mem 14)) (blS f kd lim s pm (fst left mem 14) R)) := ih _ _
      have q3 : cnt pm * cnt (fst left mem 14) + cnt pm * cnt (sdf left (fst left mem 14)) = cnt pm * cnt left := by rw [← Nat.mul_add, ← fst_cnt left mem]
      exact GP.le (q1.tr q2) (Nat.le_of_eq q3)
theorem bk_Gr {n : Nat → Nat} {f : Nat → Nat → Int32} {kd lim mem s bm pm : Nat} : Gr lim (nd bm pm) (bk n f kd lim mem s bm pm) := by
  intro R
  have q1 : GP lim (cnt pm * cnt bm) R (bl f kd lim mem s pm 14 bm R) := bl_Gr 14 bm R
  have q2 : GP lim (cnt pm) (bl f kd lim mem s pm 14 bm R) (ao n f kd lim (1 - s) pm (bl f kd lim mem s pm 14 bm R)) := ao_Gr _
  have q3 : GP lim (cnt bm) (ao n f kd lim (1 - s) pm (bl f kd lim mem s pm 14 bm R)) (bk n f kd lim mem s bm pm R) := ao_Gr _
  refine GP.le ((q1.tr q2).tr q3) ?_
  unfold nd
  rw [Nat.mul_comm (cnt bm)]
  omega
theorem Sb_sdf {n : Nat → Nat} {f : Nat → Nat → Int32} {s a : Nat} (h : Sb n f s a) (b : Nat) : Sb n f s (sdf a b) := by
  have q : ∀ k, (sdf a b).testBit k = true → a.testBit k = true := by
    intro k hk
    rw [sdf_bit, Bool.and_eq_true] at hk
    exact hk.1
  exact ⟨sdf_lt h.1, fun k hk => h.2.1 k (q k hk), fun k hk => h.2.2 k (q k hk)⟩
theorem Sb_fst {n : Nat → Nat} {f : Nat → Nat → Int32} {s a : Nat} (h : Sb n f s a) (m : Nat) : Sb n f s (fst a m 14) :=
  ⟨fst14 a m, fun k hk => h.2.1 k (fst_sub a m 14 k hk).1, fun k hk => h.2.2 k (fst_sub a m 14 k hk).1⟩
theorem b120_X {T : SX6} {n : Nat → Nat} {f : Nat → Nat → Int32} {mem kd lim : Nat} {x : SX3} {R : RS} {s bm pm : Nat} (hT : XT T n f mem kd) (h : XR T lim x R) (hs : s < 2) (hb : Sb n f s bm) (hp : Sb n f (1 - s) pm) (hc : CO lim (cnt pm + cnt bm) R) :
    ∃ q, fX3_goByBlocks_b120 (nI s) (nI bm) (nI pm) x = some q ∧ XR T lim q (ao n f kd lim s bm (ao n f kd lim (1 - s) pm R)) := by
  obtain ⟨q, q1, q2⟩ := ao_X (s := 1 - s) hT h (by omega) hp.2.1 hp.1 (CO.le hc (by omega))
  obtain ⟨r, r1, r2⟩ := ao_X hT q2 hs hb.2.1 hb.1 (CO.af hc ao_Gr)
  refine ⟨r, ?_, r2⟩
  unfold fX3_goByBlocks_b120
  rw [os_X hs, Option.bind_some, q1, Option.bind_some, r1, Option.bind_some]
theorem b73_X {T : SX6} {n : Nat → Nat} {f : Nat → Nat → Int32} {mem kd lim : Nat} {x : SX3} {R : RS} {s pm b : Nat} {k6 : Int32 → Int32 → Int32 → Int32 → Int32 → SX3 → Option SX3} {x2 x4 x5 : Int32} (hT : XT T n f mem kd) (h : XR T lim x R) (hs : s < 2) (hb : Sb n f s b) (hp : Sb n f (1 - s) pm) (hc : CO lim (cnt pm * cnt b) R) :
    ∃ q, XR T lim q (fo (blG f kd lim s pm b) 14 R) ∧ fX3_goByBlocks_b73 k6 1000 (nI s) x2 (nI pm) x4 x5 (nI b) (nI 0) x = k6 (nI s) x2 (nI pm) x4 (x5 + 1) q := by
  refine upK (fun m j y => fX3_goByBlocks_b73 k6 m (nI s) x2 (nI pm) x4 x5 (nI b) (nI j) y) (fun j y => XR T lim y (fo (blG f kd lim s pm b) j R)) (fun q => k6 (nI s) x2 (nI pm) x4 (x5 + 1) q) (fun q => XR T lim q (fo (blG f kd lim s pm b) 14 R)) 14 ?_ ?_ 1000 0 x (by omega) (by omega) h
  · intro m j y hj hI
    have hI0 := hI
    obtain ⟨t0, o1, o2, o3, o4, -⟩ := hI
    show (∃ s', XR T lim s' (fo (blG f kd lim s pm b) (j + 1) R) ∧ fX3_goByBlocks_b73 k6 (m + 1) (nI s) x2 (nI pm) x4 x5 (nI b) (nI j) y = fX3_goByBlocks_b73 k6 m (nI s) x2 (nI pm) x4 x5 (nI b) (nI (j + 1)) s') ∨ ∃ r, XR T lim r (fo (blG f kd lim s pm b) 14 R) ∧ fX3_goByBlocks_b73 k6 (m + 1) (nI s) x2 (nI pm) x4 x5 (nI b) (nI j) y = k6 (nI s) x2 (nI pm) x4 (x5 + 1) r
    by_cases off : (fo (blG f kd lim s pm b) j R).2.2.2 = true
    · refine Or.inr ⟨y, ?_, ?_⟩
      · rw [fo_more (fun k => blG_off k _ off) 14 (by omega)]
        exact hI0
      · rw [fX3_goByBlocks_b73, if_neg (cl 14 (by omega) (by omega)), o4, if_pos off, if_neg (by decide)]
    · have off : (fo (blG f kd lim s pm b) j R).2.2.2 = false := by simpa using off
      have e4 : y.2.1.2.2.2.2 = 0 := by rw [o4, if_neg (by rw [off]; decide)]
      by_cases bt : pm.testBit j = true
      · have hC1 : CO lim (cnt b + 0) (fo (blG f kd lim s pm b) j R) := fo_CO blG_Gr hc hj bt
        obtain ⟨q, q1, q2⟩ := ma_X hT hI0 hs (hp.2.1 j bt) (hp.2.2 j bt) hb.2.1 hb.1 hC1
        refine Or.inl ⟨q, ?_, ?_⟩
        · rw [fo]
          have hg : blG f kd lim s pm b j (fo (blG f kd lim s pm b) j R) = ma f kd lim s j b (fo (blG f kd lim s pm b) j R) := if_pos bt
          rw [hg]
          exact q2
        · rw [fX3_goByBlocks_b73, if_neg (cl 14 (by omega) (by omega)), if_pos e4, isIn_X hp.1 (by omega), Option.bind_some, bt, if_neg (by decide), q1, Option.bind_some, nI1]
      · have bt : pm.testBit j = false := by simpa using bt
        refine Or.inl ⟨y, ?_, ?_⟩
        · rw [fo]
          have hg : blG f kd lim s pm b j (fo (blG f kd lim s pm b) j R) = fo (blG f kd lim s pm b) j R := if_neg (by rw [bt]; decide)
          rw [hg]
          exact hI0
        · rw [fX3_goByBlocks_b73, if_neg (cl 14 (by omega) (by omega)), if_pos e4, isIn_X hp.1 (by omega), Option.bind_some, bt, if_pos (by decide), nI1]
  · intro m y hI
    refine ⟨y, hI, ?_⟩
    show fX3_goByBlocks_b73 k6 (m + 1) (nI s) x2 (nI pm) x4 x5 (nI b) (nI 14) y = _
    rw [fX3_goByBlocks_b73, if_pos (show (14 : Int32) ≤ nI 14 by decide)]
theorem bl_X {T : SX6} {n : Nat → Nat} {f : Nat → Nat → Int32} {mem kd lim : Nat} {s bm pm : Nat} (hT : XT T n f mem kd) (hm : mem < 2 ^ 31) (hs : s < 2) (hb : Sb n f s bm) (hp : Sb n f (1 - s) pm) :
    ∀ (k m : Nat) (left : Nat) (x : SX3) (R : RS), k ≤ 14 → k < m → Sb n f s left → XR T lim x R → CO lim (cnt pm * cnt left + (cnt pm + cnt bm)) R → ∃ q, fX3_goByBlocks_b6 m (nI s) (nI bm) (nI pm) (nI left) (nI (14 - k)) x = some q ∧ XR T lim q (ao n f kd lim s bm (ao n f kd lim (1 - s) pm (bl f kd lim mem s pm k left R))) := by
  intro k
  induction k with
  | zero =>
    intro m left x R hk hkm hl h hc
    obtain ⟨m, rfl⟩ : ∃ m', m = m' + 1 := ⟨m - 1, by omega⟩
    obtain ⟨q, q1, q2⟩ := b120_X hT h hs hb hp (CO.le hc (by omega))
    refine ⟨q, ?_, q2⟩
    rw [fX3_goByBlocks_b6, if_pos (show (14 : Int32) ≤ nI (14 - 0) by decide), q1]
  | succ k ih =>
    intro m left x R hk hkm hl h hc
    obtain ⟨m, rfl⟩ : ∃ m', m = m' + 1 := ⟨m - 1, by omega⟩
    rw [fX3_goByBlocks_b6, if_neg (cl 14 (by omega) (by omega))]
    by_cases z : left = 0
    · obtain ⟨q, q1, q2⟩ := b120_X hT h hs hb hp (CO.le hc (by omega))
      refine ⟨q, ?_, by rw [bl_0 (Or.inl z)]; exact q2⟩
      rw [if_pos (by rw [z]; rfl), q1]
    · rw [if_neg (fun e => z ((nI_z (by have := hl.1; omega)).mp e))]
      by_cases off : R.2.2.2 = true
      · obtain ⟨q, q1, q2⟩ := b120_X hT h hs hb hp (CO.le hc (by omega))
        refine ⟨q, ?_, by rw [bl_0 (Or.inr off)]; exact q2⟩
        rw [if_neg (by rw [h.2.2.2.2.1, if_pos off]; decide), q1]
      · have e4 : x.2.1.2.2.2.2 = 0 := by rw [h.2.2.2.2.1, if_neg off]
        have hbk := Sb_fst hl mem
        obtain ⟨y, y1, y2⟩ := pk_X h hbk.1
        have y3 := ad_X y2 (j := 2) (by omega) (by omega) (nI (cnt pm))
        have hm1 : cnt pm * cnt left = cnt pm * cnt (fst left mem 14) + cnt pm * cnt (sdf left (fst left mem 14)) := by
          rw [fst_cnt left mem, Nat.mul_add]
        have hc1 : CO lim (cnt pm * cnt (fst left mem 14)) (ad 2 (nI (cnt pm)) (pk (cnt (fst left mem 14)) R)) := by
          have q := CO.af (a := 0) (b := cnt pm * cnt (fst left mem 14)) (CO.le hc (by omega)) (pk_Gr (c := cnt (fst left mem 14)))
          exact CO.af (a := 0) (CO.le q (by omega)) (ad_Gr (j := 2) (v := nI (cnt pm)))
        obtain ⟨r, r1, r2⟩ := b73_X (k6 := fX3_goByBlocks_b6 m) (x2 := nI bm) (x4 := nI (sdf left (fst left mem 14))) (x5 := nI (14 - (k + 1))) hT y3 hs hbk hp hc1
        have hc2 : CO lim (cnt pm * cnt (sdf left (fst left mem 14)) + (cnt pm + cnt bm)) (blS f kd lim s pm (fst left mem 14) R) := by
          refine CO.af (a := cnt pm * cnt (fst left mem 14)) (CO.le hc (by omega)) blS_Gr
        obtain ⟨w, w1, w2⟩ := ih m (sdf left (fst left mem 14)) r (blS f kd lim s pm (fst left mem 14) R) (by omega) (by omega) (Sb_sdf hl _) r1 hc2
        refine ⟨w, ?_, by rw [bl_s (by rintro (q | q); exact z q; exact off q)]; exact w2⟩
        rw [if_pos e4, h.1, hT.2.2.1, firstOf_X hl.1 hm, Option.bind_some, y1, Option.bind_some, bitCount_eq hp.1, Option.bind_some, fa_andn _ _ (by have := hl.1; omega)]
        refine Eq.trans r2 ?_
        rw [nI1, show 14 - (k + 1) + 1 = 14 - k by omega]
        exact w1
theorem bk_X {T : SX6} {n : Nat → Nat} {f : Nat → Nat → Int32} {mem kd lim : Nat} {x : SX3} {R : RS} {s bm pm : Nat} (hT : XT T n f mem kd) (hm : mem < 2 ^ 31) (h : XR T lim x R) (hs : s < 2) (hb : Sb n f s bm) (hp : Sb n f (1 - s) pm) (hc : CO lim (nd bm pm) R) :
    ∃ q, fX3_goByBlocks x (nI s) (nI bm) (nI pm) = some q ∧ XR T lim q (bk n f kd lim mem s bm pm R) := by
  refine bl_X hT hm hs hb hp 14 1000 bm x R (by omega) (by omega) hb h (CO.le hc ?_)
  unfold nd
  rw [Nat.mul_comm (cnt bm)]
  omega
