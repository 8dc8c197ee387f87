/-! THE REFERENCE'S RUN does what the spec says -/
/-- only what belongs to a run has changed -/
def Fr (m0 m : SX8) : Prop := (∀ i, (i < 14 ∨ 28 < i) → m.1 i = m0.1 i) ∧ m.2.1 = m0.2.1 ∧ ∀ i, (i < 29 ∨ 40 < i) → m.2.2 i = m0.2.2 i
theorem Fr.rf (m : SX8) : Fr m m := ⟨fun _ _ => rfl, rfl, fun _ _ => rfl⟩
theorem Fr.s {m0 m : SX8} (h : Fr m0 m) {k : Nat} (h1 : 14 ≤ k) (h2 : k ≤ 28) (v : Int32) : Fr m0 (upd m.1 k v, m.2.1, m.2.2) := by
  refine ⟨fun i hi => ?_, h.2.1, h.2.2⟩
  show upd m.1 k v i = _
  unfold upd
  rw [if_neg (by omega)]
  exact h.1 i hi
theorem Fr.a {m0 m : SX8} (h : Fr m0 m) {k : Nat} (h1 : 29 ≤ k) (h2 : k ≤ 40) (v : Nat → Int32) : Fr m0 (m.1, m.2.1, va_up m.2.2 k v) := by
  refine ⟨h.1, h.2.1, fun i hi => ?_⟩
  show va_up m.2.2 k v i = _
  unfold va_up
  rw [if_neg (by omega)]
  exact h.2.2 i hi
/-- the tables of the reference, in numbers -/
def MT (n : Nat → Nat) (f : Nat → Nat → Int32) (mem kd : Nat) (m : SX8) : Prop :=
  (∀ s, s < 2 → m.2.2 4 s = nI (n s)) ∧ (∀ s i, s < 2 → i < n s → m.2.2 3 (14 * s + i) = f s i) ∧ m.1 1 = nI mem ∧ m.1 2 = nI kd ∧ (∀ s, s < 2 → n s ≤ 14) ∧ kd < 5
theorem MT.fr {n : Nat → Nat} {f : Nat → Nat → Int32} {mem kd : Nat} {m0 m : SX8} (h : MT n f mem kd m0) (hf : Fr m0 m) : MT n f mem kd m := by
  obtain ⟨a1, a2, a3, a4, a5, a6⟩ := h
  obtain ⟨b1, b2, b3⟩ := hf
  refine ⟨?_, ?_, ?_, ?_, a5, a6⟩
  · rw [b3 4 (by omega)]; exact a1
  · rw [b3 3 (by omega)]; exact a2
  · rw [b1 1 (by omega)]; exact a3
  · rw [b1 2 (by omega)]; exact a4
/-- the reference's run is at R; A: its parts -/
def MR (m0 : SX8) (A : Nat → Nat → Int32) (lim : Nat) (m : SX8) (R : RS) : Prop :=
  Fr m0 m ∧ (∀ i, 36 ≤ i → i ≤ 40 → m.2.2 i = A i) ∧ m.1 14 = nI lim ∧ m.1 15 = (if R.2.2.2 = true then 1 else 0) ∧ (R.2.2.2 = false → m.1 16 = nI (R.1 4)) ∧ m.1 17 = nI (R.1 0) ∧
  (∀ j, 1 ≤ j → j ≤ 8 → m.1 (17 + j) = R.2.2.1 j) ∧ m.1 26 = nI (R.1 1) ∧ m.1 27 = nI (R.1 3) ∧ m.1 28 = nI (R.1 2) ∧
  (∀ i, i < R.1 2 → m.2.2 29 i = R.2.1 5 i ∧ m.2.2 30 i = R.2.1 6 i) ∧ (∀ i, i < R.1 0 → m.2.2 31 i = R.2.1 0 i ∧ m.2.2 32 i = R.2.1 1 i) ∧
  (∀ i, i < R.1 1 → m.2.2 33 i = R.2.1 2 i ∧ m.2.2 34 i = R.2.1 3 i ∧ m.2.2 35 i = R.2.1 4 i) ∧ R.1 4 < 16384
theorem ar_up {a : Nat → Nat → Int32} {A : Nat → Nat → Int32} (h : ∀ i, 36 ≤ i → i ≤ 40 → a i = A i) {k : Nat} (hk : k < 36) (v : Nat → Int32) : ∀ i, 36 ≤ i → i ≤ 40 → va_up a k v i = A i := by
  intro i h1 h2
  unfold va_up
  rw [if_neg (by omega)]
  exact h i h1 h2
theorem li_up {a : Nat → Int32} {C : Nat → Int32} (h : ∀ j, 1 ≤ j → j ≤ 8 → a (17 + j) = C j) {k : Nat} (hk : k < 18 ∨ 25 < k) (v : Int32) : ∀ j, 1 ≤ j → j ≤ 8 → upd a k v (17 + j) = C j := by
  intro j h1 h2
  unfold upd
  rw [if_neg (by omega)]
  exact h j h1 h2
theorem li_in {a : Nat → Int32} {C : Nat → Int32} (h : ∀ j, 1 ≤ j → j ≤ 8 → a (17 + j) = C j) (k : Nat) (v : Int32) : ∀ j, 1 ≤ j → j ≤ 8 → upd a (17 + k) v (17 + j) = upd C k v j := by
  intro j h1 h2
  unfold upd
  by_cases e : j = k
  · rw [if_pos (by omega), if_pos e]
  · rw [if_neg (by omega), if_neg e]
    exact h j h1 h2
theorem co_M {m0 : SX8} {A : Nat → Nat → Int32} {lim : Nat} {m : SX8} {R : RS} {a b : Int32} (h : MR m0 A lim m R) (hlim : lim < 2 ^ 31) (hc : CO lim 1 R) : ∃ q, fX8_come m a b = some q ∧ MR m0 A lim q (co lim a b R) := by
  have h' := h
  obtain ⟨t0, p0, e14, e15, e16, e17, cc, e26, e27, e28, d1, o1, l1, s2⟩ := h
  have hn : R.1 0 ≤ 250 := by
    rcases Nat.lt_or_ge 250 lim with q | q
    · have := hc.2 q; omega
    · have := hc.1; omega
  unfold fX8_come
  rw [e15]
  by_cases off : R.2.2.2 = true
  · rw [if_pos off, if_neg (show ¬ (1 : Int32) = 0 by decide), co_off R off]
    exact ⟨m, rfl, h'⟩
  · have off2 : R.2.2.2 = false := by simpa using off
    rw [if_neg off, if_pos (show (0 : Int32) = 0 from rfl), e17, e14]
    by_cases e : R.1 0 = lim
    · rw [if_pos (show nI (R.1 0) = nI lim by rw [e]), co_at off2 e]
      refine ⟨_, rfl, t0.s (by omega) (by omega) 1, p0, e14, rfl, ?_, e17, li_up cc (by omega) 1, e26, e27, e28, d1, o1, l1, s2⟩
      intro z
      cases z
    · have h250 : R.1 0 < 250 := by
        rcases Nat.lt_or_ge 250 lim with q | q
        · have := hc.2 q; omega
        · have := hc.1; omega
      rw [if_neg (fun q => e ((nI_eq (by omega) hlim).mp q)), if_neg (nI_in (show R.1 0 < 256 by omega) (by omega)), if_neg (nI_in (show R.1 0 < 256 by omega) (by omega)), nI_clamp (by omega), co_ne off2 e]
      refine ⟨_, rfl, ((t0.a (k := 31) (by omega) (by omega) _).a (k := 32) (by omega) (by omega) _).s (by omega) (by omega) _, ar_up (ar_up p0 (by omega) _) (by omega) _, e14, ?_, e16, nI_1 _, li_up cc (by omega) _, e26, e27, e28, d1, ?_, l1, s2⟩
      · show m.1 15 = (if R.2.2.2 = true then 1 else 0)
        exact e15
      · intro i hi
        exact ⟨upd_ag (fun i hi => (o1 i hi).1) a i hi, upd_ag (fun i hi => (o1 i hi).2) b i hi⟩
theorem isIn_M {a j : Nat} (ha : a < 16384) (hj : j < 31) : fX8_isIn (nI a) (nI j) = some (if a.testBit j then 1 else 0) := by
  unfold fX8_isIn
  rw [shr_bit (by omega) (by omega)]
  cases a.testBit j
  · rfl
  · rfl
theorem mt_M {m0 : SX8} {A : Nat → Nat → Int32} {lim kd : Nat} {m : SX8} {R : RS} {l r : Nat} (h : MR m0 A lim m R) (hlim : lim < 2 ^ 31) (hk : m0.1 2 = nI kd) (hkd : kd < 5) (hl : l < 14) (hc : CO lim 1 R) : ∃ q, fX8_meet m (nI l) (nI r) = some q ∧ MR m0 A lim q (mt kd lim l r R) := by
  have h' := h
  obtain ⟨t0, p0, e14, e15, e16, e17, cc, e26, e27, e28, d1, o1, l1, s2⟩ := h
  have hk2 : m.1 2 = nI kd := by rw [t0.1 2 (by omega)]; exact hk
  unfold fX8_meet
  rw [hk2]
  by_cases k3 : kd = 3
  · subst k3
    rw [if_pos (show nI 3 = 3 from rfl)]
    by_cases off : R.2.2.2 = true
    · rw [mt_off R off]
      unfold fX8_isIn
      have hN : ∀ v : Int32, ∃ q, fX8_come (upd m.1 16 v, m.2.1, m.2.2) (nI l) (-1) = some q ∧ MR m0 A lim q R := by
        intro v
        refine ⟨(upd m.1 16 v, m.2.1, m.2.2), ?_, t0.s (by omega) (by omega) v, p0, e14, e15, ?_, e17, li_up cc (by omega) v, e26, e27, e28, d1, o1, l1, s2⟩
        · unfold fX8_come
          rw [show (upd m.1 16 v, m.2.1, m.2.2).1 15 = 1 from e15.trans (if_pos off), if_neg (by decide)]
        · intro z
          rw [off] at z
          cases z
      by_cases c : (m.1 16 >>> (nI l &&& 31)) &&& 1 = 1
      · rw [if_pos c, Option.bind_some, if_neg (by decide)]
        exact ⟨m, rfl, h'⟩
      · obtain ⟨q, q1, q2⟩ := hN (m.1 16 ||| (1 <<< (nI l &&& 31)))
        rw [if_neg c, Option.bind_some, if_pos rfl, q1, Option.bind_some]
        exact ⟨q, rfl, q2⟩
    · have off2 : R.2.2.2 = false := by simpa using off
      rw [e16 off2, isIn_M s2 (by omega), Option.bind_some]
      by_cases b : (R.1 4).testBit l = true
      · rw [if_pos b, if_neg (by decide), mt_3y b]
        exact ⟨m, rfl, h'⟩
      · rw [if_neg b, if_pos rfl, or_bit _ _ (by omega)]
        have b2 : (R.1 4).testBit l = false := by simpa using b
        have h2 : MR m0 A lim (upd m.1 16 (nI (R.1 4 ||| 2 ^ l)), m.2.1, m.2.2) (va_up R.1 4 (R.1 4 ||| 2 ^ l), R.2) :=
          ⟨t0.s (by omega) (by omega) _, p0, e14, e15, fun _ => rfl, e17, li_up cc (by omega) _, e26, e27, e28, d1, o1, l1, Nat.or_lt_two_pow (n := 14) s2 (Nat.pow_lt_pow_right (by omega) hl)⟩
        obtain ⟨q, q1, q2⟩ := co_M (a := nI l) (b := -1) h2 hlim hc
        rw [mt_3n off2 b2, q1, Option.bind_some]
        exact ⟨q, rfl, q2⟩
  · rw [if_neg (show ¬ nI kd = 3 from fun e => k3 ((nI_eq (b := 3) (by omega) (by omega)).mp e))]
    by_cases k2 : kd = 2
    · subst k2
      rw [if_pos (show nI 2 = 2 from rfl), mt_2]
      exact ⟨m, rfl, h'⟩
    · rw [if_neg (show ¬ nI kd = 2 from fun e => k2 ((nI_eq (b := 2) (by omega) (by omega)).mp e))]
      obtain ⟨q, q1, q2⟩ := co_M (a := nI l) (b := nI r) h' hlim hc
      rw [q1, Option.bind_some]
      refine ⟨q, rfl, ?_⟩
      by_cases off : R.2.2.2 = true
      · rw [co_off R off] at q2
        rw [mt_off R off]
        exact q2
      · have off2 : R.2.2.2 = false := by simpa using off
        rw [mt_o off2 k3 k2]
        exact q2
theorem al_M {m0 : SX8} {A : Nat → Nat → Int32} {lim kd : Nat} {m : SX8} {R : RS} {s i : Nat} (h : MR m0 A lim m R) (hlim : lim < 2 ^ 31) (hk : m0.1 2 = nI kd) (hkd : kd < 5) (hs : s < 2) (hc : CO lim 1 R) : ∃ q, fX8_alone m (nI s) (nI i) = some q ∧ MR m0 A lim q (al kd lim s i R) := by
  have hk2 : m.1 2 = nI kd := by rw [h.1.1 2 (by omega)]; exact hk
  have ec : fX8_comesAlone m (nI s) = some (if kd = 4 ∨ (s = 0 ∧ (kd = 1 ∨ kd = 2)) then 1 else 0) := by
    unfold fX8_comesAlone
    rw [hk2]
    rcases (show s = 0 ∨ s = 1 by omega) with rfl | rfl <;> rcases (show kd = 0 ∨ kd = 1 ∨ kd = 2 ∨ kd = 3 ∨ kd = 4 by omega) with rfl | rfl | rfl | rfl | rfl <;> decide +kernel
  unfold fX8_alone
  rw [ec, Option.bind_some]
  by_cases a : kd = 4 ∨ (s = 0 ∧ (kd = 1 ∨ kd = 2))
  · rw [if_pos a, if_neg (by decide), al_y a]
    rcases (show s = 0 ∨ s = 1 by omega) with rfl | rfl
    · obtain ⟨q, q1, q2⟩ := co_M (a := nI i) (b := -1) h hlim hc
      rw [if_pos (show nI 0 = 0 from rfl), if_pos (show nI 0 = 0 from rfl), q1, Option.bind_some, if_pos rfl]
      exact ⟨q, rfl, q2⟩
    · obtain ⟨q, q1, q2⟩ := co_M (a := -1) (b := nI i) h hlim hc
      rw [if_neg (show ¬ nI 1 = 0 by decide), if_neg (show ¬ nI 1 = 0 by decide), q1, Option.bind_some, if_neg (by decide)]
      exact ⟨q, rfl, q2⟩
  · rw [if_neg a, if_pos rfl, al_n a]
    exact ⟨m, rfl, h⟩
theorem size_M {a : Nat} (ha : a < 16384) : fX8_size (nI a) = some (nI (cnt a)) := by
  unfold fX8_size
  obtain ⟨r, r1, r2⟩ := upE (fun m j (c : Int32) => fX8_size_b4 m (nI a) c (nI j)) (fun j c => c = nI (cntB a j)) (fun r => r = nI (cnt a)) 16 (by
    intro m j c hj hI
    refine Or.inl ⟨nI (cntB a (j + 1)), rfl, ?_⟩
    show fX8_size_b4 (m + 1) (nI a) c (nI j) = fX8_size_b4 m (nI a) (nI (cntB a (j + 1))) (nI (j + 1))
    rw [fX8_size_b4, if_neg (cl 16 hj (by omega)), hI, shr_bit (by omega) (by omega), nI_add, nI1, cntB]) (by
    intro m c hI
    refine ⟨c, ?_, hI⟩
    show fX8_size_b4 (m + 1) (nI a) c (nI 16) = some c
    rw [fX8_size_b4, if_pos (show (16 : Int32) ≤ nI 16 by decide)]) 1000 0 0 (by omega) (by omega) rfl
  rw [r2] at r1
  exact r1
theorem keyAt_M {n : Nat → Nat} {f : Nat → Nat → Int32} {mem kd : Nat} {m : SX8} (h : MT n f mem kd m) {s i : Nat} (hs : s < 2) (hi : i < n s) : fX8_keyAt m (nI s) (nI i) = some (f s i) := by
  have hn := h.2.2.2.2.1 s hs
  have e : (14 : Int32) * nI s + nI i = nI (14 * s + i) := by
    rcases (show s = 0 ∨ s = 1 by omega) with rfl | rfl
    · rw [show (14 : Int32) * nI 0 = nI 0 by decide, nI_add]
    · rw [show (14 : Int32) * nI 1 = nI 14 by decide, nI_add]
  unfold fX8_keyAt
  rw [e, if_neg (nI_in (show 14 * s + i < 28 by omega) (by omega)), nI_clamp (by omega), h.2.1 s i hs hi]
theorem oth_M {s : Nat} (hs : s < 2) : (1 : Int32) - nI s = nI (1 - s) := by
  rcases (show s = 0 ∨ s = 1 by omega) with rfl | rfl <;> decide
theorem cntB_top {a N : Nat} (h : ∀ k, N ≤ k → a.testBit k = false) : ∀ m, N ≤ m → cntB a m = cntB a N := by
  intro m
  induction m with
  | zero => intro hm; rw [show N = 0 by omega]
  | succ m ih =>
    intro hm
    rcases Nat.lt_or_ge m N with q | q
    · rw [show N = m + 1 by omega]
    · rw [cntB, ih q, h m q]
      rfl
theorem partnersOf_M {n : Nat → Nat} {f : Nat → Nat → Int32} {mem kd : Nat} {m : SX8} (h : MT n f mem kd m) {s i : Nat} (hs : s < 2) (hi : i < n s) : fX8_partnersOf m (nI s) (nI i) = some (nI (cnt (ptn n f s i))) := by
  have hn := h.2.2.2.2.1 (1 - s) (by omega)
  have hb : ∀ k, (ptn n f s i).testBit k = (decide (k < n (1 - s)) && decide (f s i ≠ -1) && decide (f (1 - s) k = f s i)) := by
    intro k
    by_cases c : f s i = -1
    · unfold ptn
      rw [if_pos c, Nat.zero_testBit]
      simp [c]
    · rw [ptn_bit c]
      simp [c]
  unfold fX8_partnersOf
  obtain ⟨r, r1, r2⟩ := upE (fun w j (c : Int32) => fX8_partnersOf_b5 m w (nI s) (nI i) c (nI j)) (fun j c => c = nI (cntB (ptn n f s i) j)) (fun r => r = nI (cnt (ptn n f s i))) (n (1 - s)) (by
    intro w j c hj hI
    refine Or.inl ⟨nI (cntB (ptn n f s i) (j + 1)), rfl, ?_⟩
    show fX8_partnersOf_b5 m (w + 1) (nI s) (nI i) c (nI j) = fX8_partnersOf_b5 m w (nI s) (nI i) (nI (cntB (ptn n f s i) (j + 1))) (nI (j + 1))
    rw [fX8_partnersOf_b5, oth_M hs, if_neg (nI_in (show 1 - s < 2 by omega) (by omega)), nI_clamp (by omega), h.1 (1 - s) (by omega), if_neg (nI_ge hj (by omega)), keyAt_M h hs hi, Option.bind_some, hI, cntB, hb j]
    by_cases c1 : f s i = -1
    · rw [if_pos c1]
      simp only [c1, ne_eq, not_true_eq_false, decide_false, Bool.and_false, Bool.false_and, Bool.false_eq_true, if_false]
      rw [show nI (cntB (ptn n f s i) j) + 0 = nI (cntB (ptn n f s i) j + 0) from nI_add _ 0, nI1]
    · rw [if_neg c1, keyAt_M h (show 1 - s < 2 by omega) hj, Option.bind_some, Option.bind_some]
      by_cases c2 : f (1 - s) j = f s i
      · rw [if_pos c2]
        simp only [hj, c1, c2, ne_eq, not_false_eq_true, decide_true, Bool.and_true, if_true]
        rw [show nI (cntB (ptn n f s i) j) + 1 = nI (cntB (ptn n f s i) j + 1) from nI_add _ 1, nI1]
      · rw [if_neg c2]
        simp only [c2, decide_false, Bool.and_false, Bool.false_eq_true, if_false]
        rw [show nI (cntB (ptn n f s i) j) + 0 = nI (cntB (ptn n f s i) j + 0) from nI_add _ 0, nI1]) (by
    intro w c hI
    refine ⟨c, ?_, ?_⟩
    · show fX8_partnersOf_b5 m (w + 1) (nI s) (nI i) c (nI (n (1 - s))) = some c
      rw [fX8_partnersOf_b5, oth_M hs, if_neg (nI_in (show 1 - s < 2 by omega) (by omega)), nI_clamp (by omega), h.1 (1 - s) (by omega), if_pos (nI_le (Nat.le_refl _) (by omega))]
    · rw [hI]
      congr 1
      refine (cntB_top (fun k hk => ?_) 16 (by omega)).symm
      rw [hb k]
      simp [Nat.not_lt.mpr hk]) 1000 0 0 (by omega) (by omega) rfl
  rw [r2] at r1
  exact r1
theorem pz_M {n : Nat → Nat} {f : Nat → Nat → Int32} {s i : Nat} (h : n (1 - s) ≤ 14) : nI (cnt (ptn n f s i)) = 0 ↔ nPt n f s i = true := by
  rw [nI_z (by have := cnt_le (ptn n f s i); omega), ← ptn_zero]
  constructor
  · exact cnt_z (ptn_lt h)
  · intro e
    rw [e]
    exact cntB_zero 16 (fun k _ => Nat.zero_testBit k)
