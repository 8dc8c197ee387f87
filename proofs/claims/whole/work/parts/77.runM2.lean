theorem nI_dec (d : Nat) : nI (d + 1) + (-1) = nI d := by
  rw [show nI (d + 1) + (-1) = nI (d + 1) - 1 from (Int32.sub_eq_add_neg _ _).symm]
  exact nI_pred d
theorem firstOf_M {z : SX8} {a m : Nat} (ha : a < 16384) (hm : m < 2 ^ 31) : fX8_firstOf z (nI a) (nI m) = some (nI (fst a m 14)) := by
  have e0 : m - cnt (fst a m 0) = m := by
    show m - cntB 0 16 = m
    rw [cntB_zero 16 (fun k _ => Nat.zero_testBit k)]
    rfl
  have hF : fX8_firstOf z (nI a) (nI m) = fX8_firstOf_b8 z 1000 (nI a) (nI (fst a m 0)) (nI (m - cnt (fst a m 0))) (nI 0) := by rw [e0]; rfl
  rw [hF]
  obtain ⟨r, r1, r2⟩ := upE (fun k j (_ : Unit) => fX8_firstOf_b8 z k (nI a) (nI (fst a m j)) (nI (m - cnt (fst a m j))) (nI j)) (fun _ _ => True) (fun r => r = nI (fst a m 14)) 14 (fun k j _ hj _ => by
    refine Or.inl ⟨(), trivial, ?_⟩
    show fX8_firstOf_b8 z (k + 1) (nI a) (nI (fst a m j)) (nI (m - cnt (fst a m j))) (nI j) = fX8_firstOf_b8 z k (nI a) (nI (fst a m (j + 1))) (nI (m - cnt (fst a m (j + 1)))) (nI (j + 1))
    rw [fX8_firstOf_b8, if_neg (cl 14 hj (by omega)), isIn_M ha (by omega), Option.bind_some, fst]
    by_cases b : a.testBit j = true
    · rw [if_pos b, if_neg (show ¬ (1 : Int32) = 0 by decide)]
      by_cases c : cnt (fst a m j) < m
      · have hb0 : (fst a m j).testBit j = false := by
          cases q : (fst a m j).testBit j
          · rfl
          · have := (fst_sub a m j j q).2
            omega
        have e1 : cnt (fst a m j ||| 2 ^ j) = cnt (fst a m j) + 1 := by
          rw [← cnt_one hj]
          refine cntB_add 16 (fun k _ => ?_)
          rw [Nat.testBit_or, Nat.testBit_two_pow]
          by_cases e : j = k
          · subst e
            rw [hb0]
            simp
          · simp [e]
        rw [if_neg (show ¬ nI (m - cnt (fst a m j)) ≤ 0 from nI_ge (a := 0) (show 0 < m - cnt (fst a m j) by omega) (by omega)), b, decide_eq_true c, if_pos (by decide), or_bit _ _ (by omega), e1, nI1]
        have e2 := nI_dec (m - (cnt (fst a m j) + 1))
        rw [show m - (cnt (fst a m j) + 1) + 1 = m - cnt (fst a m j) by omega] at e2
        rw [e2]
      · rw [if_pos (show nI (m - cnt (fst a m j)) ≤ 0 by rw [show m - cnt (fst a m j) = 0 by omega]; decide), decide_eq_false c, Bool.and_false, if_neg (by decide), nI1]
    · rw [if_neg b, if_pos rfl, show a.testBit j = false by simpa using b, Bool.false_and, if_neg (by decide), nI1]) (fun k _ _ => by
    refine ⟨_, ?_, rfl⟩
    show fX8_firstOf_b8 z (k + 1) (nI a) (nI (fst a m 14)) (nI (m - cnt (fst a m 14))) (nI 14) = _
    rw [fX8_firstOf_b8, if_pos (show (14 : Int32) ≤ nI 14 by decide)]) 1000 0 () (by omega) (by omega) trivial
  rw [r2] at r1
  exact r1
theorem b108_M {n : Nat → Nat} {f : Nat → Nat → Int32} {mem kd lim : Nat} {m0 m : SX8} {A : Nat → Nat → Int32} {R : RS} {s bm pm : Nat} (hT : MT n f mem kd m0) (hlim : lim < 2 ^ 31) (h : MR m0 A lim m R) (hs : s < 2) (hb : Sb n f s bm) (hp : Sb n f (1 - s) pm) (hc : CO lim (cnt pm + cnt bm) R) :
    ∃ q, fX8_blocksNow_b108 (nI s) (nI bm) (nI pm) m = some q ∧ MR m0 A lim q (ao n f kd lim s bm (ao n f kd lim (1 - s) pm R)) := by
  obtain ⟨u, u1, u2⟩ := ao_M (s := 1 - s) (set := pm) hT hlim h (by omega) hp.2.1 hp.1 (hc.le (by omega))
  obtain ⟨v, v1, v2⟩ := ao_M (s := s) (set := bm) hT hlim u2 hs hb.2.1 hb.1 (hc.af ao_Gr)
  unfold fX8_blocksNow_b108
  rw [oth_M hs, u1, Option.bind_some, v1, Option.bind_some]
  exact ⟨v, rfl, v2⟩
theorem b61_M {n : Nat → Nat} {f : Nat → Nat → Int32} {mem kd lim : Nat} {m0 m : SX8} {A : Nat → Nat → Int32} {R : RS} {s pm b : Nat} {k3 : Int32 → Int32 → Int32 → Int32 → SX8 → Option SX8} {x2 x4 : Int32} (hT : MT n f mem kd m0) (hlim : lim < 2 ^ 31) (h : MR m0 A lim m R) (hs : s < 2) (hb : Sb n f s b) (hp : Sb n f (1 - s) pm) (hc : CO lim (cnt pm * cnt b) R) :
    ∃ y, MR m0 A lim y (fo (blG f kd lim s pm b) 14 R) ∧ fX8_blocksNow_b61 k3 1000 (nI s) x2 (nI pm) x4 (nI b) 0 m = k3 (nI s) x2 (nI pm) x4 y := by
  have hn := hT.2.2.2.2.1 s hs
  have hn2 := hT.2.2.2.2.1 (1 - s) (by omega)
  have hc1 : CO lim (cnt pm * cnt b + 0) R := hc.le (by omega)
  refine upK (fun w j y => fX8_blocksNow_b61 k3 w (nI s) x2 (nI pm) x4 (nI b) (nI j) y) (fun j y => MR m0 A lim y (fo (blG f kd lim s pm b) j R)) (fun y => k3 (nI s) x2 (nI pm) x4 y) (fun y => MR m0 A lim y (fo (blG f kd lim s pm b) 14 R)) (n (1 - s)) ?_ ?_ 1000 0 m (by omega) (by omega) h
  · intro w j y hj hI
    have hM := hT.fr hI.1
    have e15 := hI.2.2.2.1
    show (∃ s', MR m0 A lim s' (fo (blG f kd lim s pm b) (j + 1) R) ∧ fX8_blocksNow_b61 k3 (w + 1) (nI s) x2 (nI pm) x4 (nI b) (nI j) y = fX8_blocksNow_b61 k3 w (nI s) x2 (nI pm) x4 (nI b) (nI (j + 1)) s') ∨ ∃ s', MR m0 A lim s' (fo (blG f kd lim s pm b) 14 R) ∧ fX8_blocksNow_b61 k3 (w + 1) (nI s) x2 (nI pm) x4 (nI b) (nI j) y = k3 (nI s) x2 (nI pm) x4 s'
    by_cases off : (fo (blG f kd lim s pm b) j R).2.2.2 = true
    · refine Or.inr ⟨y, ?_, ?_⟩
      · have e : fo (blG f kd lim s pm b) 14 R = fo (blG f kd lim s pm b) j R := fo_more (fun k => blG_off k _ off) 14 (by omega)
        rw [e]
        exact hI
      · rw [fX8_blocksNow_b61, oth_M hs, if_neg (nI_in (show 1 - s < 2 by omega) (by omega)), nI_clamp (by omega), hM.1 (1 - s) (by omega), if_neg (nI_ge hj (by omega)), e15, if_pos off, if_neg (show ¬ (1 : Int32) = 0 by decide)]
    · refine Or.inl ?_
      have e0 : fX8_blocksNow_b61 k3 (w + 1) (nI s) x2 (nI pm) x4 (nI b) (nI j) y = (if (if pm.testBit j then (1 : Int32) else 0) = 0 then (fX8_blocksNow_b61 k3 w (nI s) x2 (nI pm) x4 (nI b) (nI (j + 1)) y) else ((fX8_meetAll y (nI s) (nI j) (nI b)).bind fun q6 => fX8_blocksNow_b61 k3 w (nI s) x2 (nI pm) x4 (nI b) (nI (j + 1)) q6)) := by
        rw [fX8_blocksNow_b61, oth_M hs, if_neg (nI_in (show 1 - s < 2 by omega) (by omega)), nI_clamp (by omega), hM.1 (1 - s) (by omega), if_neg (nI_ge hj (by omega)), e15, if_neg off, if_pos (show (0 : Int32) = 0 from rfl), isIn_M hp.1 (by omega), Option.bind_some, nI1]
      rw [e0, fo]
      by_cases bt : pm.testBit j = true
      · have hC1 : CO lim (cnt b + 0) (fo (blG f kd lim s pm b) j R) := fo_CO blG_Gr hc1 (by omega) bt
        obtain ⟨q, q1, q2⟩ := ma_M hT hlim hI hs (hp.2.1 j bt) hb.2.1 hb.1 hC1
        have hg : blG f kd lim s pm b j (fo (blG f kd lim s pm b) j R) = ma f kd lim s j b (fo (blG f kd lim s pm b) j R) := if_pos bt
        rw [if_pos bt, if_neg (show ¬ (1 : Int32) = 0 by decide), q1, Option.bind_some, hg]
        exact ⟨q, q2, rfl⟩
      · have hg : blG f kd lim s pm b j (fo (blG f kd lim s pm b) j R) = fo (blG f kd lim s pm b) j R := if_neg bt
        rw [if_neg bt, if_pos rfl, hg]
        exact ⟨y, hI, rfl⟩
  · intro w y hI
    have hM := hT.fr hI.1
    refine ⟨y, ?_, ?_⟩
    · have e : fo (blG f kd lim s pm b) 14 R = fo (blG f kd lim s pm b) (n (1 - s)) R := fo_end (fun k Q hk => if_neg (by rw [off_set hp.2.1 hk]; decide)) _ 14 hn2
      rw [e]
      exact hI
    · show fX8_blocksNow_b61 k3 (w + 1) (nI s) x2 (nI pm) x4 (nI b) (nI (n (1 - s))) y = _
      rw [fX8_blocksNow_b61, oth_M hs, if_neg (nI_in (show 1 - s < 2 by omega) (by omega)), nI_clamp (by omega), hM.1 (1 - s) (by omega), if_pos (nI_le (Nat.le_refl _) (by omega))]
theorem bl_M {n : Nat → Nat} {f : Nat → Nat → Int32} {mem kd lim : Nat} {m0 : SX8} {A : Nat → Nat → Int32} {s bm pm : Nat} (hT : MT n f mem kd m0) (hlim : lim < 2 ^ 31) (hm : mem < 2 ^ 31) (hm1 : 1 ≤ mem) (hs : s < 2) (hb : Sb n f s bm) (hp : Sb n f (1 - s) pm) :
    ∀ (k w : Nat) (left : Nat) (m : SX8) (R : RS), cnt left ≤ k → k < w → Sb n f s left → MR m0 A lim m R → CO lim (cnt pm * cnt left + (cnt pm + cnt bm)) R → ∃ q, fX8_blocksNow_b3 w (nI s) (nI bm) (nI pm) (nI left) m = some q ∧ MR m0 A lim q (ao n f kd lim s bm (ao n f kd lim (1 - s) pm (bl f kd lim mem s pm k left R))) := by
  intro k
  induction k with
  | zero =>
    intro w left m R hk hkw hl h hc
    obtain ⟨w, rfl⟩ : ∃ w', w = w' + 1 := ⟨w - 1, by omega⟩
    have z : left = 0 := cnt_z hl.1 (by omega)
    obtain ⟨q, q1, q2⟩ := b108_M hT hlim h hs hb hp (CO.le hc (by omega))
    refine ⟨q, ?_, q2⟩
    rw [fX8_blocksNow_b3, if_pos (by rw [z]; rfl), q1]
  | succ k ih =>
    intro w left m R hk hkw hl h hc
    obtain ⟨w, rfl⟩ : ∃ w', w = w' + 1 := ⟨w - 1, by omega⟩
    have e15 := h.2.2.2.1
    rw [fX8_blocksNow_b3]
    by_cases z : left = 0
    · obtain ⟨q, q1, q2⟩ := b108_M hT hlim h hs hb hp (CO.le hc (by omega))
      refine ⟨q, ?_, by rw [bl_0 (Or.inl z)]; exact q2⟩
      rw [if_pos (by rw [z]; rfl), q1]
    · rw [if_neg (fun e => z ((nI_z (by have := hl.1; omega)).mp e))]
      by_cases off : R.2.2.2 = true
      · obtain ⟨q, q1, q2⟩ := b108_M hT hlim h hs hb hp (CO.le hc (by omega))
        refine ⟨q, ?_, by rw [bl_0 (Or.inr off)]; exact q2⟩
        rw [if_neg (by rw [e15, if_pos off]; decide), q1]
      · have e4 : m.1 15 = 0 := by rw [e15, if_neg off]
        have hbk := Sb_fst hl mem
        have em : m.1 1 = nI mem := (hT.fr h.1).2.2.1
        obtain ⟨y, y1, y2⟩ := pk_M (c := cnt (fst left mem 14)) h
        have y3 := ad_M y2 (j := 2) (by omega) (by omega) (nI (cnt pm))
        have hm1' : cnt pm * cnt left = cnt pm * cnt (fst left mem 14) + cnt pm * cnt (sdf left (fst left mem 14)) := by
          rw [fst_cnt left mem, Nat.mul_add]
        have hc1 : CO lim (cnt pm * cnt (fst left mem 14)) (ad 2 (nI (cnt pm)) (pk (cnt (fst left mem 14)) R)) := by
          have q := CO.af (a := 0) (b := cnt pm * cnt (fst left mem 14)) (CO.le hc (by omega)) (pk_Gr (c := cnt (fst left mem 14)))
          exact CO.af (a := 0) (CO.le q (by omega)) (ad_Gr (j := 2) (v := nI (cnt pm)))
        obtain ⟨r, r1, r2⟩ := b61_M (k3 := fX8_blocksNow_b3 w) (x2 := nI bm) (x4 := nI (sdf left (fst left mem 14))) hT hlim y3 hs hbk hp hc1
        have hc2 : CO lim (cnt pm * cnt (sdf left (fst left mem 14)) + (cnt pm + cnt bm)) (blS f kd lim s pm (fst left mem 14) R) := by
          refine CO.af (a := cnt pm * cnt (fst left mem 14)) (CO.le hc (by omega)) blS_Gr
        have hfp := fst_pos hl.1 z hm1
        have hfc := fst_cnt left mem
        obtain ⟨v, v1, v2⟩ := ih w (sdf left (fst left mem 14)) r (blS f kd lim s pm (fst left mem 14) R) (by omega) (by omega) (Sb_sdf hl _) r1 hc2
        refine ⟨v, ?_, by rw [bl_s (by rintro (q | q); exact z q; exact off q)]; exact v2⟩
        rw [if_pos e4, em, firstOf_M hl.1 hm, Option.bind_some, size_M hbk.1, Option.bind_some, y1, Option.bind_some, size_M hp.1, Option.bind_some, fa_andn _ _ (by have := hl.1; omega)]
        exact Eq.trans r2 v1
theorem bk_M {n : Nat → Nat} {f : Nat → Nat → Int32} {mem kd lim : Nat} {m0 m : SX8} {A : Nat → Nat → Int32} {R : RS} {s bm pm : Nat} (hT : MT n f mem kd m0) (hlim : lim < 2 ^ 31) (hm : mem < 2 ^ 31) (hm1 : 1 ≤ mem) (h : MR m0 A lim m R) (hs : s < 2) (hb : Sb n f s bm) (hp : Sb n f (1 - s) pm) (hc : CO lim (nd bm pm) R) :
    ∃ q, fX8_blocksNow m (nI s) (nI bm) (nI pm) = some q ∧ MR m0 A lim q (bk n f kd lim mem s bm pm R) := by
  refine bl_M hT hlim hm hm1 hs hb hp 14 1000 bm m R (cnt_14 hb.1) (by omega) hb h (CO.le hc ?_)
  unfold nd
  rw [Nat.mul_comm (cnt bm)]
  omega
/-- logs of the reference -/
theorem nt_M {m0 m : SX8} {A : Nat → Nat → Int32} {lim : Nat} {R : RS} {a b c : Int32} (h : MR m0 A lim m R) (hl : R.1 1 < 512) : ∃ q, fX8_noteLog m a b c = some q ∧ MR m0 A lim q (nt a b c R) := by
  obtain ⟨t0, p0, e14, e15, e16, e17, cc, e26, e27, e28, d1, o1, l1, s2⟩ := h
  unfold fX8_noteLog
  rw [e26, if_neg (nI_in hl (by omega)), if_neg (nI_in hl (by omega)), if_neg (nI_in hl (by omega)), nI_clamp (by omega)]
  refine ⟨_, rfl, (((t0.a (k := 33) (by omega) (by omega) _).a (k := 34) (by omega) (by omega) _).a (k := 35) (by omega) (by omega) _).s (by omega) (by omega) _, ar_up (ar_up (ar_up p0 (by omega) _) (by omega) _) (by omega) _, e14, e15, e16, e17, li_up cc (by omega) _, nI_1 _, e27, e28, d1, o1, ?_, s2⟩
  intro i hi
  exact ⟨upd_ag (fun i hi => (l1 i hi).1) a i hi, upd_ag (fun i hi => (l1 i hi).2.1) b i hi, upd_ag (fun i hi => (l1 i hi).2.2) c i hi⟩
theorem opn_M {m0 m : SX8} {A : Nat → Nat → Int32} {lim : Nat} {R : RS} {w : Int32} (h : MR m0 A lim m R) (hl : R.1 1 < 512) (hd : R.1 2 < 64) : ∃ q, fX8_openOne m w = some q ∧ MR m0 A lim q (opn w R) := by
  have h' := h
  obtain ⟨t0, p0, e14, e15, e16, e17, cc, e26, e27, e28, d1, o1, l1, s2⟩ := h
  have h2 : MR m0 A lim (upd m.1 28 (nI (R.1 2 + 1)), m.2.1, va_up (va_up m.2.2 29 (upd (m.2.2 29) (R.1 2) (nI (R.1 3)))) 30 (upd (m.2.2 30) (R.1 2) w)) (va_up R.1 2 (R.1 2 + 1), va_up (va_up R.2.1 5 (upd (R.2.1 5) (R.1 2) (nI (R.1 3)))) 6 (upd (R.2.1 6) (R.1 2) w), R.2.2) := by
    refine ⟨((t0.a (k := 29) (by omega) (by omega) _).a (k := 30) (by omega) (by omega) _).s (by omega) (by omega) _, ar_up (ar_up p0 (by omega) _) (by omega) _, e14, e15, e16, e17, li_up cc (by omega) _, e26, e27, rfl, ?_, o1, l1, s2⟩
    intro i hi
    exact ⟨upd_ag (fun i hi => (d1 i hi).1) _ i hi, upd_ag (fun i hi => (d1 i hi).2) _ i hi⟩
  obtain ⟨q, q1, q2⟩ := nt_M (a := nI (R.1 3)) (b := 1) (c := w) h2 hl
  unfold fX8_openOne
  rw [e28, if_neg (nI_in hd (by omega)), if_neg (nI_in hd (by omega)), nI_clamp (by omega), e27, nI1, q1, Option.bind_some]
  obtain ⟨t0, p0, e14, e15, e16, e17, cc, e26, e27', e28, d1, o1, l1, s2⟩ := q2
  refine ⟨_, rfl, t0.s (by omega) (by omega) _, p0, e14, e15, e16, e17, li_up cc (by omega) _, e26, ?_, e28, d1, o1, l1, s2⟩
  show q.1 27 + 1 = nI (R.1 3 + 1)
  rw [e27']
  exact nI_1 _
theorem sh1_M {m0 m : SX8} {A : Nat → Nat → Int32} {lim : Nat} {R : RS} (h : MR m0 A lim m R) (hl : R.1 1 < 512) (hd : R.1 2 ≤ 64) (hd1 : 1 ≤ R.1 2) : ∃ q, fX8_shutOne m = some q ∧ MR m0 A lim q (sh1 R) := by
  obtain ⟨t0, p0, e14, e15, e16, e17, cc, e26, e27, e28, d1, o1, l1, s2⟩ := h
  have ep : nI (R.1 2) - 1 = nI (R.1 2 - 1) := by
    have := nI_pred (R.1 2 - 1)
    rw [show R.1 2 - 1 + 1 = R.1 2 by omega] at this
    exact this
  have h2 : MR m0 A lim (upd m.1 28 (nI (R.1 2 - 1)), m.2.1, m.2.2) (va_up R.1 2 (R.1 2 - 1), R.2) := by
    refine ⟨t0.s (by omega) (by omega) _, p0, e14, e15, e16, e17, li_up cc (by omega) _, e26, e27, rfl, ?_, o1, l1, s2⟩
    intro i hi
    exact d1 i (by have : i < R.1 2 - 1 := hi; omega)
  obtain ⟨q, q1, q2⟩ := nt_M (a := R.2.1 5 (R.1 2 - 1)) (b := 0) (c := R.2.1 6 (R.1 2 - 1)) h2 hl
  unfold fX8_shutOne
  rw [e28, ep, if_neg (nI_in (show R.1 2 - 1 < 64 by omega) (by omega)), if_neg (nI_in (show R.1 2 - 1 < 64 by omega) (by omega)), nI_clamp (by omega), (d1 (R.1 2 - 1) (by omega)).1, (d1 (R.1 2 - 1) (by omega)).2, q1, Option.bind_some]
  exact ⟨q, rfl, q2⟩
