/-- one key so far -/
def okI (f : Nat → Nat → Int32) (s a j : Nat) (v : Int32 × Int32) : Prop :=
  (v.2 = 1 ∧ v.1 = -1 ∧ ∀ k, k < j → a.testBit k = false) ∨ (v.2 = 1 ∧ ∃ k0, k0 < j ∧ a.testBit k0 = true ∧ v.1 = f s k0 ∧ ∀ k, k < j → a.testBit k = true → f s k = f s k0) ∨ (v.2 = 0 ∧ ∃ k1 k2, a.testBit k1 = true ∧ a.testBit k2 = true ∧ f s k1 ≠ f s k2)
theorem isOneKey_M {n : Nat → Nat} {f : Nat → Nat → Int32} {mem kd : Nat} {m : SX8} (h : MT n f mem kd m) {s a : Nat} (hs : s < 2) (ha : Sb n f s a) : fX8_isOneKey m (nI s) (nI a) = some (if oneK f s a = true then 1 else 0) := by
  have hn := h.2.2.2.2.1 s hs
  unfold fX8_isOneKey
  obtain ⟨r, r1, r2⟩ := upE (fun w j (v : Int32 × Int32) => fX8_isOneKey_b8 m w (nI s) (nI a) v.1 v.2 (nI j)) (fun j v => okI f s a j v) (fun r => r = (if oneK f s a = true then 1 else 0)) (n s) (by
    intro w j v hj hI
    refine Or.inl ?_
    show ∃ v' : Int32 × Int32, okI f s a (j + 1) v' ∧ fX8_isOneKey_b8 m (w + 1) (nI s) (nI a) v.1 v.2 (nI j) = fX8_isOneKey_b8 m w (nI s) (nI a) v'.1 v'.2 (nI (j + 1))
    rw [fX8_isOneKey_b8, if_neg (nI_in hs (by omega)), nI_clamp (by omega), h.1 s hs, if_neg (nI_ge hj (by omega)), isIn_M ha.1 (by omega), Option.bind_some, keyAt_M h hs hj, Option.bind_some, Option.bind_some]
    unfold fX8_isOneKey_b49
    rw [keyAt_M h hs hj, Option.bind_some, nI1]
    by_cases b : a.testBit j = true
    · rw [if_pos b, if_neg (show ¬ (1 : Int32) = 0 by decide)]
      have hk := ha.2.2 j b
      rcases hI with ⟨i1, i2, i3⟩ | ⟨i1, k0, k1, k2, k3, k4⟩ | ⟨i1, k1, k2, i3⟩
      · rw [if_neg (by rw [i1]; decide), if_pos i2]
        refine ⟨(f s j, 1), Or.inr (Or.inl ⟨rfl, j, by omega, b, rfl, ?_⟩), rfl⟩
        intro k hk1 hk2
        rcases Nat.lt_or_ge k j with q | q
        · rw [i3 k q] at hk2
          cases hk2
        · rw [show k = j by omega]
      · rw [if_neg (by rw [i1]; decide), if_neg (by rw [k3]; exact ha.2.2 k0 k2)]
        by_cases c : f s j = v.1
        · rw [if_pos c]
          refine ⟨(f s j, 1), Or.inr (Or.inl ⟨rfl, k0, by omega, k2, c.trans k3, ?_⟩), rfl⟩
          intro k hk1 hk2
          rcases Nat.lt_or_ge k j with q | q
          · exact k4 k q hk2
          · rw [show k = j by omega]
            exact c.trans k3
        · rw [if_neg c]
          exact ⟨(f s j, 0), Or.inr (Or.inr ⟨rfl, j, k0, b, k2, fun e => c (e.trans k3.symm)⟩), rfl⟩
      · rw [if_pos i1]
        exact ⟨(f s j, 0), Or.inr (Or.inr ⟨rfl, k1, k2, i3⟩), rfl⟩
    · have b2 : a.testBit j = false := by simpa using b
      rw [if_neg b, if_pos rfl]
      refine ⟨v, ?_, rfl⟩
      rcases hI with ⟨i1, i2, i3⟩ | ⟨i1, k0, k1, k2, k3, k4⟩ | i
      · refine Or.inl ⟨i1, i2, fun k hk => ?_⟩
        rcases Nat.lt_or_ge k j with q | q
        · exact i3 k q
        · rw [show k = j by omega]
          exact b2
      · refine Or.inr (Or.inl ⟨i1, k0, by omega, k2, k3, fun k hk hk2 => ?_⟩)
        rcases Nat.lt_or_ge k j with q | q
        · exact k4 k q hk2
        · rw [show k = j by omega, b2] at hk2
          cases hk2
      · exact Or.inr (Or.inr i)) (by
    intro w v hI
    have e1 : fX8_isOneKey_b8 m (w + 1) (nI s) (nI a) v.1 v.2 (nI (n s)) = if v.2 = 0 ∨ v.2 = 1 then some v.2 else none := by
      rw [fX8_isOneKey_b8, if_neg (nI_in hs (by omega)), nI_clamp (by omega), h.1 s hs, if_pos (nI_le (Nat.le_refl _) (by omega))]
    show ∃ r, fX8_isOneKey_b8 m (w + 1) (nI s) (nI a) v.1 v.2 (nI (n s)) = some r ∧ r = (if oneK f s a = true then 1 else 0)
    rw [e1]
    rcases hI with ⟨i1, i2, i3⟩ | ⟨i1, k0, k1, k2, k3, k4⟩ | ⟨i1, k1, k2, i3, i4, i5⟩
    · rw [i1, if_pos (Or.inr rfl)]
      refine ⟨1, rfl, ?_⟩
      rw [if_pos ((oneK_iff ha.1).mpr (fun k hk => by
        have := i3 k (ha.2.1 k hk)
        rw [this] at hk
        cases hk))]
    · rw [i1, if_pos (Or.inr rfl)]
      refine ⟨1, rfl, ?_⟩
      have h0 : a ≠ 0 := by
        intro e
        rw [e, Nat.zero_testBit] at k2
        cases k2
      obtain ⟨t1, t2, -⟩ := tz_ok ha.1 h0
      rw [if_pos ((oneK_iff ha.1).mpr (fun k hk => (k4 k (ha.2.1 k hk) hk).trans (k4 _ (ha.2.1 _ t2) t2).symm))]
    · rw [i1, if_pos (Or.inl rfl)]
      refine ⟨0, rfl, ?_⟩
      rw [if_neg (fun e => i5 (((oneK_iff ha.1).mp e k1 i3).trans ((oneK_iff ha.1).mp e k2 i4).symm))]) 1000 0 (-1, 1) (by omega) (by omega) (Or.inl ⟨rfl, rfl, fun k hk => by omega⟩)
  rw [r2] at r1
  exact r1
/-- counters that agree from 1 to 8 do -/
theorem MR.ext {m0 m : SX8} {A : Nat → Nat → Int32} {lim : Nat} {R Q : RS} (h : MR m0 A lim m R) (e1 : Q.1 = R.1) (e2 : Q.2.1 = R.2.1) (e3 : Q.2.2.2 = R.2.2.2) (e4 : ∀ j, 1 ≤ j → j ≤ 8 → Q.2.2.1 j = R.2.2.1 j) : MR m0 A lim m Q := by
  obtain ⟨t0, p0, e14, e15, e16, e17, cc, e26, e27, e28, d1, o1, l1, s2⟩ := h
  refine ⟨t0, p0, e14, by rw [e3]; exact e15, by rw [e3, e1]; exact e16, by rw [e1]; exact e17, fun j h1 h8 => (cc j h1 h8).trans (e4 j h1 h8).symm, by rw [e1]; exact e26, by rw [e1]; exact e27, by rw [e1]; exact e28, by rw [e1, e2]; exact d1, by rw [e1, e2]; exact o1, by rw [e1, e2]; exact l1, by rw [e1]; exact s2⟩
/-- an array of the parts is set -/
theorem MR.prt {m0 m : SX8} {A : Nat → Nat → Int32} {lim : Nat} {R : RS} (h : MR m0 A lim m R) {k : Nat} (h1 : 36 ≤ k) (h2 : k ≤ 40) (v : Nat → Int32) : MR m0 (va_up A k v) lim (m.1, m.2.1, va_up m.2.2 k v) R := by
  obtain ⟨t0, p0, e14, e15, e16, e17, cc, e26, e27, e28, d1, o1, l1, s2⟩ := h
  have hne : ∀ i, i < 36 → va_up m.2.2 k v i = m.2.2 i := by
    intro i hi
    unfold va_up
    rw [if_neg (by omega)]
  refine ⟨t0.a (by omega) (by omega) v, ?_, e14, e15, e16, e17, cc, e26, e27, e28, ?_, ?_, ?_, s2⟩
  · intro i h3 h4
    show va_up m.2.2 k v i = va_up A k v i
    unfold va_up
    split
    · rfl
    · exact p0 i h3 h4
  · show ∀ i, i < R.1 2 → va_up m.2.2 k v 29 i = _ ∧ va_up m.2.2 k v 30 i = _
    rw [hne 29 (by omega), hne 30 (by omega)]
    exact d1
  · show ∀ i, i < R.1 0 → va_up m.2.2 k v 31 i = _ ∧ va_up m.2.2 k v 32 i = _
    rw [hne 31 (by omega), hne 32 (by omega)]
    exact o1
  · show ∀ i, i < R.1 1 → va_up m.2.2 k v 33 i = _ ∧ va_up m.2.2 k v 34 i = _ ∧ va_up m.2.2 k v 35 i = _
    rw [hne 33 (by omega), hne 34 (by omega), hne 35 (by omega)]
    exact l1
/-- parts below a level are the same -/
def Bl (lv : Nat) (A A' : Nat → Nat → Int32) : Prop := ∀ i, 36 ≤ i → i ≤ 40 → ∀ j, j < lv → A' i j = A i j
theorem Bl.rf (lv : Nat) (A : Nat → Nat → Int32) : Bl lv A A := fun _ _ _ _ _ => rfl
theorem Bl.tr {lv : Nat} {A B C : Nat → Nat → Int32} (h1 : Bl lv A B) (h2 : Bl lv B C) : Bl lv A C := fun i a b j c => (h2 i a b j c).trans (h1 i a b j c)
theorem Bl.le {lv lw : Nat} {A B : Nat → Nat → Int32} (h : Bl lv A B) (hl : lw ≤ lv) : Bl lw A B := fun i a b j c => h i a b j (by omega)
theorem Bl.up {lv : Nat} {A B : Nat → Nat → Int32} (h : Bl lv A B) (k : Nat) (v : Int32) : Bl lv A (va_up B k (upd (B k) lv v)) := by
  intro i h1 h2 j hj
  unfold va_up
  split
  · rename_i e
    unfold upd
    rw [if_neg (by omega), ← e]
    exact h i h1 h2 j hj
  · exact h i h1 h2 j hj
/-- nothing held is less than none -/
def NN (R : RS) : Prop := ¬ R.2.2.1 3 < 0
/-- counters stay -/
def Kc (g : RS → RS) : Prop := ∀ R, (g R).2.2.1 = R.2.2.1
theorem co_Kc {lim : Nat} {a b : Int32} : Kc (co lim a b) := fun R => by
  unfold co
  split
  · rfl
  · split <;> rfl
theorem mt_Kc {kd lim l r : Nat} : Kc (mt kd lim l r) := fun R => by
  unfold mt
  split
  · rfl
  · split
    · split
      · rfl
      · exact co_Kc _
    · split
      · rfl
      · exact co_Kc _
theorem al_Kc {kd lim s i : Nat} : Kc (al kd lim s i) := fun R => by
  unfold al
  split
  · split <;> exact co_Kc _
  · rfl
theorem fo_Kc {g : Nat → RS → RS} (h : ∀ k, Kc (g k)) (m : Nat) : Kc (fo g m) := by
  intro R
  induction m with
  | zero => rfl
  | succ m ih => rw [fo, h m, ih]
theorem ma_Kc {f : Nat → Nat → Int32} {kd lim s pr bm : Nat} : Kc (ma f kd lim s pr bm) := by
  refine fo_Kc (g := maG f kd lim s pr bm) (fun k R => ?_) 14
  show ((if _ then _ else R) : RS).2.2.1 = _
  split
  · split <;> exact mt_Kc R
  · rfl
theorem ao_Kc {n : Nat → Nat} {f : Nat → Nat → Int32} {kd lim s set : Nat} : Kc (ao n f kd lim s set) := by
  refine fo_Kc (g := aoG n f kd lim s set) (fun k R => ?_) 14
  show ((if _ then _ else R) : RS).2.2.1 = _
  split
  · exact al_Kc R
  · rfl
theorem pk_NN {c : Nat} {R : RS} (hc : c ≤ 16) (h : NN R) : NN (pk c R) := by
  have e : (pk c R).2.2.1 3 = (if R.2.2.1 3 < nI c then nI c else R.2.2.1 3) := rfl
  unfold NN
  rw [e]
  split
  · exact nI_pos (by omega)
  · exact h
theorem ad_NN {j : Nat} {v : Int32} {R : RS} (hj : j ≠ 3) (h : NN R) : NN (ad j v R) := by
  have e : (ad j v R).2.2.1 3 = R.2.2.1 3 := by
    show upd R.2.2.1 j (R.2.2.1 j + v) 3 = _
    unfold upd
    rw [if_neg (by omega)]
  unfold NN
  rw [e]
  exact h
theorem Kc.nn {g : RS → RS} (hg : Kc g) {R : RS} (h : NN R) : NN (g R) := by
  unfold NN
  rw [hg R]
  exact h
theorem ho_NN {n : Nat → Nat} {f : Nat → Nat → Int32} {kd lim s bm pm : Nat} {R : RS} (h : NN R) : NN (ho n f kd lim s bm pm R) := by
  unfold ho
  refine Kc.nn ao_Kc (Kc.nn (fo_Kc (g := hoG n f kd lim s bm pm) (fun k R => ?_) 14) (pk_NN (cnt_le bm) h))
  show ((if _ then _ else R) : RS).2.2.1 = _
  split
  · split
    · rw [al_Kc, ma_Kc]
    · exact ma_Kc R
  · rfl
theorem bl_NN {f : Nat → Nat → Int32} {kd lim mem s pm : Nat} : ∀ k left (R : RS), NN R → NN (bl f kd lim mem s pm k left R) := by
  intro k
  induction k with
  | zero => intro left R h; exact h
  | succ k ih =>
    intro left R h
    by_cases c : left = 0 ∨ R.2.2.2 = true
    · rw [bl_0 c]
      exact h
    · rw [bl_s c]
      refine ih _ _ ?_
      refine Kc.nn (fo_Kc (g := blG f kd lim s pm (fst left mem 14)) (fun k R => ?_) 14) (ad_NN (by omega) (pk_NN (cnt_le _) h))
      show ((if _ then _ else R) : RS).2.2.1 = _
      split
      · exact ma_Kc R
      · rfl
theorem bk_NN {n : Nat → Nat} {f : Nat → Nat → Int32} {kd lim mem s bm pm : Nat} {R : RS} (h : NN R) : NN (bk n f kd lim mem s bm pm R) := Kc.nn ao_Kc (Kc.nn ao_Kc (bl_NN _ _ _ h))
theorem opn_NN {w : Int32} {R : RS} (h : NN R) : NN (opn w R) := h
theorem ent_NN {lv s j : Nat} {R : RS} (hj : j ≠ 3) (h : NN R) : NN (ent lv s j R) := by
  have e : ∀ (v : Nat) (Q : RS), NN Q → NN (lvl v Q) := by
    intro v Q hQ
    have e : (lvl v Q).2.2.1 3 = Q.2.2.1 3 := rfl
    unfold NN
    rw [e]
    exact hQ
  unfold ent
  refine e lv _ ?_
  split
  · exact ad_NN (by omega) (ad_NN hj h)
  · exact ad_NN hj h
theorem spl_NN {b p : Nat} {R : RS} (h : NN R) : NN (spl b p R) := by
  unfold spl
  split
  · exact h
  · exact ad_NN (by omega) h
theorem sh_NN {d : Nat} {R : RS} (h : NN R) : NN (sh d R) := by
  obtain ⟨a1, a2, a3, a4, a5, a6, a7, a8, a9, a10⟩ := shN_keep (R.1 2 - d) R
  unfold sh NN
  rw [a8]
  exact h
theorem ho_00 {n : Nat → Nat} {f : Nat → Nat → Int32} {kd lim s : Nat} {R : RS} (h : NN R) : ho n f kd lim s 0 0 R = R := by
  have e0 : cnt 0 = 0 := cntB_zero 16 (fun k _ => Nat.zero_testBit k)
  have e1 : pk (cnt 0) R = R := by
    rw [e0]
    unfold pk
    rw [if_neg (show ¬ R.2.2.1 3 < nI 0 from h)]
    have : upd R.2.2.1 3 (R.2.2.1 3) = R.2.2.1 := by
      funext i
      unfold upd
      split
      · rename_i e
        rw [e]
      · rfl
    rw [this]
  have e2 : fo (hoG n f kd lim s 0 0) 14 R = R := fo_id (fun k Q _ => if_neg (by rw [Nat.zero_testBit]; decide))
  have e3 : fo (aoG n f kd lim s 0) 14 R = R := fo_id (fun k Q _ => if_neg (by rw [Nat.zero_testBit, Bool.false_and]; decide))
  show fo (aoG n f kd lim s 0) 14 (fo (hoG n f kd lim s 0 0) 14 (pk (cnt 0) R)) = R
  rw [e1, e2, e3]
