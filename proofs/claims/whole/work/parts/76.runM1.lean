theorem fo_end {g : Nat → RS → RS} {N : Nat} (h : ∀ k Q, N ≤ k → g k Q = Q) (R : RS) : ∀ m, N ≤ m → fo g m R = fo g N R := by
  intro m
  induction m with
  | zero => intro hm; rw [show N = 0 by omega]
  | succ m ih =>
    intro hm
    rcases Nat.lt_or_ge m N with q | q
    · rw [show N = m + 1 by omega]
    · rw [fo, ih q]
      exact h m _ q
theorem off_set {n : Nat → Nat} {s a k : Nat} (h : ∀ k, a.testBit k = true → k < n s) (hk : n s ≤ k) : a.testBit k = false := by
  cases q : a.testBit k
  · rfl
  · have := h k q
    omega
theorem ma_M {n : Nat → Nat} {f : Nat → Nat → Int32} {mem kd lim : Nat} {m0 m : SX8} {A : Nat → Nat → Int32} {R : RS} {s pr bm : Nat} (hT : MT n f mem kd m0) (hlim : lim < 2 ^ 31) (h : MR m0 A lim m R) (hs : s < 2) (hp : pr < n (1 - s)) (hb : ∀ k, bm.testBit k = true → k < n s) (hbm : bm < 16384) (hc : CO lim (cnt bm) R) :
    ∃ q, fX8_meetAll m (nI s) (nI pr) (nI bm) = some q ∧ MR m0 A lim q (ma f kd lim s pr bm R) := by
  have hn := hT.2.2.2.2.1 s hs
  have hn2 := hT.2.2.2.2.1 (1 - s) (by omega)
  have hc1 : CO lim (cnt bm * 1 + 0) R := hc.le (by omega)
  unfold fX8_meetAll
  refine upE (fun w j y => fX8_meetAll_b3 w (nI s) (nI pr) (nI bm) (nI j) y) (fun j y => MR m0 A lim y (fo (maG f kd lim s pr bm) j R)) (fun q => MR m0 A lim q (ma f kd lim s pr bm R)) (n s) ?_ ?_ 1000 0 m (by omega) (by omega) h
  · intro w j y hj hI
    have hM := hT.fr hI.1
    refine Or.inl ?_
    show ∃ s', MR m0 A lim s' (fo (maG f kd lim s pr bm) (j + 1) R) ∧ fX8_meetAll_b3 (w + 1) (nI s) (nI pr) (nI bm) (nI j) y = fX8_meetAll_b3 w (nI s) (nI pr) (nI bm) (nI (j + 1)) s'
    have e0 : fX8_meetAll_b3 (w + 1) (nI s) (nI pr) (nI bm) (nI j) y = (if (if bm.testBit j then (1 : Int32) else 0) = 0 then (fX8_meetAll_b45 (fX8_meetAll_b3 w) (nI s) (nI pr) (nI bm) (nI j) y) else (if f s j = f (1 - s) pr then (fX8_meetAll_b46 (fX8_meetAll_b3 w) (nI s) (nI pr) (nI bm) (nI j) 1 y) else (fX8_meetAll_b45 (fX8_meetAll_b3 w) (nI s) (nI pr) (nI bm) (nI j) y))) := by
      rw [fX8_meetAll_b3, if_neg (nI_in hs (by omega)), nI_clamp (by omega), hM.1 s hs, if_neg (nI_ge hj (by omega)), isIn_M hbm (by omega), Option.bind_some, oth_M hs, keyAt_M hM hs hj, Option.bind_some, keyAt_M hM (show 1 - s < 2 by omega) hp, Option.bind_some]
    have e45 : fX8_meetAll_b45 (fX8_meetAll_b3 w) (nI s) (nI pr) (nI bm) (nI j) y = fX8_meetAll_b3 w (nI s) (nI pr) (nI bm) (nI (j + 1)) y := by
      unfold fX8_meetAll_b45 fX8_meetAll_b46
      rw [if_pos (show (0 : Int32) = 0 from rfl), if_pos (show (0 : Int32) = 0 from rfl), nI1]
    rw [e0, fo]
    by_cases b : bm.testBit j = true
    · rw [if_pos b, if_neg (show ¬ (1 : Int32) = 0 by decide)]
      by_cases c : f s j = f (1 - s) pr
      · rw [if_pos c]
        have hC : CO lim (1 + 0) (fo (maG f kd lim s pr bm) j R) := fo_CO (maG_Gr (by omega)) hc1 (by omega) b
        have hg : maG f kd lim s pr bm j (fo (maG f kd lim s pr bm) j R) = (if s = 0 then mt kd lim j pr (fo (maG f kd lim s pr bm) j R) else mt kd lim pr j (fo (maG f kd lim s pr bm) j R)) := if_pos (by rw [b, c]; simp)
        rw [hg]
        unfold fX8_meetAll_b46
        rw [if_neg (show ¬ (1 : Int32) = 0 by decide), if_neg (show ¬ (1 : Int32) = 0 by decide)]
        rcases (show s = 0 ∨ s = 1 by omega) with rfl | rfl
        · obtain ⟨q, q1, q2⟩ := mt_M (l := j) (r := pr) hI hlim hT.2.2.2.1 hT.2.2.2.2.2 (by omega) hC
          rw [if_pos (show nI 0 = 0 from rfl), q1, Option.bind_some, nI1]
          exact ⟨q, by rw [if_pos rfl]; exact q2, rfl⟩
        · obtain ⟨q, q1, q2⟩ := mt_M (l := pr) (r := j) hI hlim hT.2.2.2.1 hT.2.2.2.2.2 (by omega) hC
          rw [if_neg (show ¬ nI 1 = 0 by decide), q1, Option.bind_some, nI1]
          exact ⟨q, by rw [if_neg (by decide)]; exact q2, rfl⟩
      · have hg : maG f kd lim s pr bm j (fo (maG f kd lim s pr bm) j R) = fo (maG f kd lim s pr bm) j R := if_neg (by rw [decide_eq_false c, Bool.and_false]; decide)
        rw [if_neg c, hg, e45]
        exact ⟨y, hI, rfl⟩
    · have hg : maG f kd lim s pr bm j (fo (maG f kd lim s pr bm) j R) = fo (maG f kd lim s pr bm) j R := if_neg (by rw [show bm.testBit j = false by simpa using b, Bool.false_and]; decide)
      rw [if_neg b, if_pos rfl, hg, e45]
      exact ⟨y, hI, rfl⟩
  · intro w y hI
    have hM := hT.fr hI.1
    refine ⟨y, ?_, ?_⟩
    · show fX8_meetAll_b3 (w + 1) (nI s) (nI pr) (nI bm) (nI (n s)) y = some y
      rw [fX8_meetAll_b3, if_neg (nI_in hs (by omega)), nI_clamp (by omega), hM.1 s hs, if_pos (nI_le (Nat.le_refl _) (by omega))]
    · have e : fo (maG f kd lim s pr bm) 14 R = fo (maG f kd lim s pr bm) (n s) R := fo_end (fun k Q hk => if_neg (by rw [off_set hb hk, Bool.false_and]; decide)) R 14 hn
      show MR m0 A lim y (fo (maG f kd lim s pr bm) 14 R)
      rw [e]
      exact hI
theorem ao_M {n : Nat → Nat} {f : Nat → Nat → Int32} {mem kd lim : Nat} {m0 m : SX8} {A : Nat → Nat → Int32} {R : RS} {s set : Nat} (hT : MT n f mem kd m0) (hlim : lim < 2 ^ 31) (h : MR m0 A lim m R) (hs : s < 2) (hset : ∀ k, set.testBit k = true → k < n s) (hsl : set < 16384) (hc : CO lim (cnt set) R) :
    ∃ q, fX8_aloneOnes m (nI s) (nI set) = some q ∧ MR m0 A lim q (ao n f kd lim s set R) := by
  have hn := hT.2.2.2.2.1 s hs
  have hn2 := hT.2.2.2.2.1 (1 - s) (by omega)
  have hc1 : CO lim (cnt set * 1 + 0) R := hc.le (by omega)
  unfold fX8_aloneOnes
  refine upE (fun w j y => fX8_aloneOnes_b2 w (nI s) (nI set) (nI j) y) (fun j y => MR m0 A lim y (fo (aoG n f kd lim s set) j R)) (fun q => MR m0 A lim q (ao n f kd lim s set R)) (n s) ?_ ?_ 1000 0 m (by omega) (by omega) h
  · intro w j y hj hI
    have hM := hT.fr hI.1
    have e15 := hI.2.2.2.1
    show (∃ s', MR m0 A lim s' (fo (aoG n f kd lim s set) (j + 1) R) ∧ fX8_aloneOnes_b2 (w + 1) (nI s) (nI set) (nI j) y = fX8_aloneOnes_b2 w (nI s) (nI set) (nI (j + 1)) s') ∨ ∃ r, fX8_aloneOnes_b2 (w + 1) (nI s) (nI set) (nI j) y = some r ∧ MR m0 A lim r (ao n f kd lim s set R)
    by_cases off : (fo (aoG n f kd lim s set) j R).2.2.2 = true
    · refine Or.inr ⟨y, ?_, ?_⟩
      · rw [fX8_aloneOnes_b2, if_neg (nI_in hs (by omega)), nI_clamp (by omega), hM.1 s hs, if_neg (nI_ge hj (by omega)), e15, if_pos off, if_neg (show ¬ (1 : Int32) = 0 by decide)]
      · have e : fo (aoG n f kd lim s set) 14 R = fo (aoG n f kd lim s set) j R := fo_more (fun k => aoG_off k _ off) 14 (by omega)
        show MR m0 A lim y (fo (aoG n f kd lim s set) 14 R)
        rw [e]
        exact hI
    · refine Or.inl ?_
      have e0 : fX8_aloneOnes_b2 (w + 1) (nI s) (nI set) (nI j) y = (if (if set.testBit j then (1 : Int32) else 0) = 0 then (fX8_aloneOnes_b2 w (nI s) (nI set) (nI (j + 1)) y) else (if nI (cnt (ptn n f s j)) = 0 then ((fX8_alone y (nI s) (nI j)).bind fun q8 => fX8_aloneOnes_b2 w (nI s) (nI set) (nI (j + 1)) q8) else (fX8_aloneOnes_b2 w (nI s) (nI set) (nI (j + 1)) y))) := by
        rw [fX8_aloneOnes_b2, if_neg (nI_in hs (by omega)), nI_clamp (by omega), hM.1 s hs, if_neg (nI_ge hj (by omega)), e15, if_neg off, if_pos (show (0 : Int32) = 0 from rfl), isIn_M hsl (by omega), Option.bind_some, partnersOf_M hM hs hj, Option.bind_some, nI1]
      rw [e0, fo]
      by_cases b : set.testBit j = true
      · rw [if_pos b, if_neg (show ¬ (1 : Int32) = 0 by decide)]
        by_cases c : nPt n f s j = true
        · have hg : aoG n f kd lim s set j (fo (aoG n f kd lim s set) j R) = al kd lim s j (fo (aoG n f kd lim s set) j R) := if_pos (by rw [b, c]; rfl)
          have hC : CO lim (1 + 0) (fo (aoG n f kd lim s set) j R) := fo_CO aoG_Gr hc1 (by omega) b
          obtain ⟨q, q1, q2⟩ := al_M (s := s) (i := j) hI hlim hT.2.2.2.1 hT.2.2.2.2.2 hs hC
          rw [if_pos ((pz_M hn2).mpr c), q1, Option.bind_some, hg]
          exact ⟨q, q2, rfl⟩
        · have hg : aoG n f kd lim s set j (fo (aoG n f kd lim s set) j R) = fo (aoG n f kd lim s set) j R := if_neg (by rw [show nPt n f s j = false by simpa using c, Bool.and_false]; decide)
          rw [if_neg (fun q => c ((pz_M hn2).mp q)), hg]
          exact ⟨y, hI, rfl⟩
      · have hg : aoG n f kd lim s set j (fo (aoG n f kd lim s set) j R) = fo (aoG n f kd lim s set) j R := if_neg (by rw [show set.testBit j = false by simpa using b, Bool.false_and]; decide)
        rw [if_neg b, if_pos rfl, hg]
        exact ⟨y, hI, rfl⟩
  · intro w y hI
    have hM := hT.fr hI.1
    refine ⟨y, ?_, ?_⟩
    · show fX8_aloneOnes_b2 (w + 1) (nI s) (nI set) (nI (n s)) y = some y
      rw [fX8_aloneOnes_b2, if_neg (nI_in hs (by omega)), nI_clamp (by omega), hM.1 s hs, if_pos (nI_le (Nat.le_refl _) (by omega))]
    · have e : fo (aoG n f kd lim s set) 14 R = fo (aoG n f kd lim s set) (n s) R := fo_end (fun k Q hk => if_neg (by rw [off_set hset hk, Bool.false_and]; decide)) R 14 hn
      show MR m0 A lim y (fo (aoG n f kd lim s set) 14 R)
      rw [e]
      exact hI
/-- a counter is set -/
theorem MR.ctr {m0 m : SX8} {A : Nat → Nat → Int32} {lim : Nat} {R : RS} (h : MR m0 A lim m R) {k : Nat} (h1 : 1 ≤ k) (h8 : k ≤ 8) (v : Int32) : MR m0 A lim (upd m.1 (17 + k) v, m.2.1, m.2.2) (R.1, R.2.1, upd R.2.2.1 k v, R.2.2.2) := by
  obtain ⟨t0, p0, e14, e15, e16, e17, cc, e26, e27, e28, d1, o1, l1, s2⟩ := h
  have hne : ∀ i, (i < 18 ∨ 25 < i) → upd m.1 (17 + k) v i = m.1 i := by
    intro i hi
    unfold upd
    rw [if_neg (by omega)]
  exact ⟨t0.s (by omega) (by omega) v, p0, (hne 14 (by omega)).trans e14, (hne 15 (by omega)).trans e15, fun z => (hne 16 (by omega)).trans (e16 z), (hne 17 (by omega)).trans e17, li_in cc k v, (hne 26 (by omega)).trans e26, (hne 27 (by omega)).trans e27, (hne 28 (by omega)).trans e28, d1, o1, l1, s2⟩
theorem MR.at {m0 m : SX8} {A : Nat → Nat → Int32} {lim : Nat} {R : RS} (h : MR m0 A lim m R) {k : Nat} (h1 : 1 ≤ k) (h8 : k ≤ 8) : m.1 (17 + k) = R.2.2.1 k := h.2.2.2.2.2.2.1 k h1 h8
theorem pk_M {m0 m : SX8} {A : Nat → Nat → Int32} {lim c : Nat} {R : RS} (h : MR m0 A lim m R) : ∃ q, fX8_inMemory m (nI c) = some q ∧ MR m0 A lim q (pk c R) := by
  have e := h.at (k := 3) (by omega) (by omega)
  have e' : m.1 20 = R.2.2.1 3 := e
  unfold fX8_inMemory pk
  rw [e']
  by_cases c1 : R.2.2.1 3 < nI c
  · rw [if_neg (Int32.not_le.mpr c1), if_pos c1]
    exact ⟨_, rfl, h.ctr (k := 3) (by omega) (by omega) _⟩
  · rw [if_pos (Int32.not_lt.mp c1), if_neg c1]
    exact ⟨_, rfl, h.ctr (k := 3) (by omega) (by omega) _⟩
theorem ad_M {m0 m : SX8} {A : Nat → Nat → Int32} {lim j : Nat} {R : RS} (h : MR m0 A lim m R) (h1 : 1 ≤ j) (h8 : j ≤ 8) (v : Int32) : MR m0 A lim (upd m.1 (17 + j) (m.1 (17 + j) + v), m.2.1, m.2.2) (ad j v R) := by
  rw [h.at h1 h8]
  exact h.ctr h1 h8 _
theorem ho_M {n : Nat → Nat} {f : Nat → Nat → Int32} {mem kd lim : Nat} {m0 m : SX8} {A : Nat → Nat → Int32} {R : RS} {s bm pm : Nat} (hT : MT n f mem kd m0) (hlim : lim < 2 ^ 31) (h : MR m0 A lim m R) (hs : s < 2) (hb : Sb n f s bm) (hp : Sb n f (1 - s) pm) (hc : CO lim (nd bm pm) R) :
    ∃ q, fX8_holdNow m (nI s) (nI bm) (nI pm) = some q ∧ MR m0 A lim q (ho n f kd lim s bm pm R) := by
  have hn := hT.2.2.2.2.1 s hs
  have hn2 := hT.2.2.2.2.1 (1 - s) (by omega)
  obtain ⟨x1, hx1, h1⟩ := pk_M (c := cnt bm) h
  unfold fX8_holdNow
  rw [size_M hb.1, Option.bind_some, hx1, Option.bind_some]
  have hc1 : CO lim (cnt pm * (cnt bm + 1) + cnt bm) (pk (cnt bm) R) := by
    refine CO.af (a := 0) (CO.le hc ?_) pk_Gr
    unfold nd
    have e : cnt pm * (cnt bm + 1) = cnt bm * cnt pm + cnt pm := by rw [Nat.mul_add, Nat.mul_one, Nat.mul_comm]
    omega
  refine upE (fun w j y => fX8_holdNow_b11 w (nI s) (nI bm) (nI pm) (nI j) y) (fun j y => MR m0 A lim y (fo (hoG n f kd lim s bm pm) j (pk (cnt bm) R))) (fun q => MR m0 A lim q (ho n f kd lim s bm pm R)) (n (1 - s)) ?_ ?_ 1000 0 x1 (by omega) (by omega) h1
  · intro w j y hj hI
    have hM := hT.fr hI.1
    have e15 := hI.2.2.2.1
    show (∃ s', MR m0 A lim s' (fo (hoG n f kd lim s bm pm) (j + 1) (pk (cnt bm) R)) ∧ fX8_holdNow_b11 (w + 1) (nI s) (nI bm) (nI pm) (nI j) y = fX8_holdNow_b11 w (nI s) (nI bm) (nI pm) (nI (j + 1)) s') ∨ ∃ r, fX8_holdNow_b11 (w + 1) (nI s) (nI bm) (nI pm) (nI j) y = some r ∧ MR m0 A lim r (ho n f kd lim s bm pm R)
    by_cases off : (fo (hoG n f kd lim s bm pm) j (pk (cnt bm) R)).2.2.2 = true
    · have hC0 : CO lim (cnt bm) (fo (hoG n f kd lim s bm pm) j (pk (cnt bm) R)) := fo_CO14 hoG_Gr hc1 (by omega)
      obtain ⟨q, q1, q2⟩ := ao_M hT hlim hI hs hb.2.1 hb.1 hC0
      refine Or.inr ⟨q, ?_, ?_⟩
      · rw [fX8_holdNow_b11, oth_M hs, if_neg (nI_in (show 1 - s < 2 by omega) (by omega)), nI_clamp (by omega), hM.1 (1 - s) (by omega), if_neg (nI_ge hj (by omega)), e15, if_pos off, if_neg (show ¬ (1 : Int32) = 0 by decide), q1, Option.bind_some]
      · have e : fo (hoG n f kd lim s bm pm) 14 (pk (cnt bm) R) = fo (hoG n f kd lim s bm pm) j (pk (cnt bm) R) := fo_more (fun k => hoG_off k _ off) 14 (by omega)
        show MR m0 A lim q (ao n f kd lim s bm (fo (hoG n f kd lim s bm pm) 14 (pk (cnt bm) R)))
        rw [e]
        exact q2
    · refine Or.inl ?_
      have e0 : fX8_holdNow_b11 (w + 1) (nI s) (nI bm) (nI pm) (nI j) y = (if (if pm.testBit j then (1 : Int32) else 0) = 0 then (fX8_holdNow_b11 w (nI s) (nI bm) (nI pm) (nI (j + 1)) y) else ((fX8_meetAll y (nI s) (nI j) (nI bm)).bind fun q8 => (fX8_partnersOf q8 (nI (1 - s)) (nI j)).bind fun q9 => if q9 = 0 then ((fX8_alone q8 (nI (1 - s)) (nI j)).bind fun q11 => fX8_holdNow_b11 w (nI s) (nI bm) (nI pm) (nI (j + 1)) q11) else (fX8_holdNow_b11 w (nI s) (nI bm) (nI pm) (nI (j + 1)) q8))) := by
        rw [fX8_holdNow_b11, oth_M hs, if_neg (nI_in (show 1 - s < 2 by omega) (by omega)), nI_clamp (by omega), hM.1 (1 - s) (by omega), if_neg (nI_ge hj (by omega)), e15, if_neg off, if_pos (show (0 : Int32) = 0 from rfl), isIn_M hp.1 (by omega), Option.bind_some, nI1]
      rw [e0, fo]
      by_cases b : pm.testBit j = true
      · have hC1 : CO lim (cnt bm + 1 + cnt bm) (fo (hoG n f kd lim s bm pm) j (pk (cnt bm) R)) := fo_CO hoG_Gr hc1 (by omega) b
        obtain ⟨q, q1, q2⟩ := ma_M hT hlim hI hs (hp.2.1 j b) hb.2.1 hb.1 (CO.le hC1 (by omega))
        have hC2 : CO lim 1 (ma f kd lim s j bm (fo (hoG n f kd lim s bm pm) j (pk (cnt bm) R))) := CO.af (a := cnt bm) (CO.le hC1 (by omega)) (ma_Gr (by omega))
        have hM2 := hT.fr q2.1
        have hg : hoG n f kd lim s bm pm j (fo (hoG n f kd lim s bm pm) j (pk (cnt bm) R)) = (if nPt n f (1 - s) j then al kd lim (1 - s) j (ma f kd lim s j bm (fo (hoG n f kd lim s bm pm) j (pk (cnt bm) R))) else ma f kd lim s j bm (fo (hoG n f kd lim s bm pm) j (pk (cnt bm) R))) := if_pos b
        have h11 : n (1 - (1 - s)) ≤ 14 := hT.2.2.2.2.1 (1 - (1 - s)) (by omega)
        rw [if_pos b, if_neg (show ¬ (1 : Int32) = 0 by decide), q1, Option.bind_some, partnersOf_M hM2 (show 1 - s < 2 by omega) hj, Option.bind_some, hg]
        by_cases c : nPt n f (1 - s) j = true
        · obtain ⟨q', q3, q4⟩ := al_M (s := 1 - s) (i := j) q2 hlim hT.2.2.2.1 hT.2.2.2.2.2 (by omega) hC2
          rw [if_pos ((pz_M h11).mpr c), q3, Option.bind_some, if_pos c]
          exact ⟨q', q4, rfl⟩
        · rw [if_neg (fun z => c ((pz_M h11).mp z)), if_neg c]
          exact ⟨q, q2, rfl⟩
      · have hg : hoG n f kd lim s bm pm j (fo (hoG n f kd lim s bm pm) j (pk (cnt bm) R)) = fo (hoG n f kd lim s bm pm) j (pk (cnt bm) R) := if_neg b
        rw [if_neg b, if_pos rfl, hg]
        exact ⟨y, hI, rfl⟩
  · intro w y hI
    have hM := hT.fr hI.1
    have hC0 : CO lim (cnt bm) (fo (hoG n f kd lim s bm pm) (n (1 - s)) (pk (cnt bm) R)) := fo_CO14 hoG_Gr hc1 hn2
    obtain ⟨q, q1, q2⟩ := ao_M hT hlim hI hs hb.2.1 hb.1 hC0
    refine ⟨q, ?_, ?_⟩
    · show fX8_holdNow_b11 (w + 1) (nI s) (nI bm) (nI pm) (nI (n (1 - s))) y = some q
      rw [fX8_holdNow_b11, oth_M hs, if_neg (nI_in (show 1 - s < 2 by omega) (by omega)), nI_clamp (by omega), hM.1 (1 - s) (by omega), if_pos (nI_le (Nat.le_refl _) (by omega)), q1, Option.bind_some]
    · have e : fo (hoG n f kd lim s bm pm) 14 (pk (cnt bm) R) = fo (hoG n f kd lim s bm pm) (n (1 - s)) (pk (cnt bm) R) := fo_end (fun k Q hk => if_neg (by rw [off_set hp.2.1 hk]; decide)) _ 14 hn2
      show MR m0 A lim q (ao n f kd lim s bm (fo (hoG n f kd lim s bm pm) 14 (pk (cnt bm) R)))
      rw [e]
      exact q2
