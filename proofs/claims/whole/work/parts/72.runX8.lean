/-! halves; the turn of a part; the run -/
theorem hf_bit {f : Nat → Nat → Int32} {s set b w i : Nat} (h : set < 16384) : (hf f s set b w).testBit i = (set.testBit i && decide (kB b (f s i) = decide (w = 1))) := by
  unfold hf
  rw [mkm_bit]
  cases q : set.testBit i
  · simp
  · simp [bit_lt h q]
theorem hf_lt {f : Nat → Nat → Int32} {s set b w : Nat} : hf f s set b w < 16384 := mkm_le _ (Nat.le_refl 14)
theorem Sb_hf {n : Nat → Nat} {f : Nat → Nat → Int32} {s a : Nat} (h : Sb n f s a) (b w : Nat) : Sb n f s (hf f s a b w) := by
  have q : ∀ k, (hf f s a b w).testBit k = true → a.testBit k = true := by
    intro k hk
    rw [hf_bit h.1, Bool.and_eq_true] at hk
    exact hk.1
  exact ⟨hf_lt, fun k hk => h.2.1 k (q k hk), fun k hk => h.2.2 k (q k hk)⟩
theorem cnt_hf {f : Nat → Nat → Int32} {s set b : Nat} (h : set < 16384) : cnt set = cnt (hf f s set b 0) + cnt (hf f s set b 1) := by
  refine cntB_add 16 (fun k _ => ?_)
  rw [hf_bit h, hf_bit h]
  cases set.testBit k <;> cases kB b (f s k) <;> decide
theorem hf_0 {n : Nat → Nat} {f : Nat → Nat → Int32} {s a b : Nat} (h : Sb n f s a) : nI a &&& (nI (mkm (fun i => decide (f s i ≠ -1) && kB b (f s i)) (n s)) ^^^ (-1)) = nI (hf f s a b 0) := by
  rw [fa_andn _ _ (by have := h.1; omega)]
  congr 1
  apply Nat.eq_of_testBit_eq
  intro i
  have e := sdf_bit a (mkm (fun i => decide (f s i ≠ -1) && kB b (f s i)) (n s)) i
  refine e.trans ?_
  rw [hf_bit h.1, mkm_bit]
  cases q : a.testBit i
  · rfl
  · have h1 := h.2.1 i q
    have h2 := h.2.2 i q
    cases kB b (f s i) <;> simp [h1, h2]
theorem hf_1 {n : Nat → Nat} {f : Nat → Nat → Int32} {s a b : Nat} (h : Sb n f s a) : nI a &&& nI (mkm (fun i => decide (f s i ≠ -1) && kB b (f s i)) (n s)) = nI (hf f s a b 1) := by
  rw [fa_and]
  congr 1
  apply Nat.eq_of_testBit_eq
  intro i
  rw [Nat.testBit_and, hf_bit h.1, mkm_bit]
  cases q : a.testBit i
  · rfl
  · have h1 := h.2.1 i q
    have h2 := h.2.2 i q
    cases kB b (f s i) <;> simp [h1, h2]
theorem nd_split {f : Nat → Nat → Int32} {s b p lv : Nat} (hb : b < 16384) (hp : p < 16384) : nd (hf f s b lv 0) (hf f (1 - s) p lv 0) + nd (hf f s b lv 1) (hf f (1 - s) p lv 1) ≤ nd b p := by
  have e1 := cnt_hf (f := f) (s := s) (b := lv) hb
  have e2 := cnt_hf (f := f) (s := 1 - s) (b := lv) hp
  unfold nd
  rw [e1, e2]
  generalize cnt (hf f s b lv 0) = x0
  generalize cnt (hf f s b lv 1) = x1
  generalize cnt (hf f (1 - s) p lv 0) = y0
  generalize cnt (hf f (1 - s) p lv 1) = y1
  rw [Nat.add_mul, Nat.mul_add, Nat.mul_add]
  omega
theorem nd_comm (a b : Nat) : nd a b = nd b a := by
  unfold nd
  rw [Nat.mul_comm]
  omega
/-- a half that was written goes on -/
def gon (t : Nat → Nat → RS → RS) (s b p : Nat) (R : RS) : RS :=
  if b ||| p = 0 ∨ R.2.2.2 = true then R else t (if s = 0 then b else p) (if s = 0 then p else b) (ad 2 (nI (cnt b) + nI (cnt p)) R)
def sp3 (st b0 p0 : Nat) (R : RS) : RS := if st = 0 then R else spl b0 p0 R
def sp4 (st b1 p1 : Nat) (R : RS) : RS := if st = 1 then R else spl b1 p1 R
def sp5 (n : Nat → Nat) (f : Nat → Nat → Int32) (kd lim s st b0 b1 p0 p1 : Nat) (R : RS) : RS := if st = 0 then ho n f kd lim s b0 p0 R else if st = 1 then ho n f kd lim s b1 p1 R else R
def sp6 (t : Nat → Nat → RS → RS) (s st b0 p0 : Nat) (R : RS) : RS := if st = 0 then R else gon t s b0 p0 R
def sp7 (t : Nat → Nat → RS → RS) (s st b1 p1 : Nat) (R : RS) : RS := if st = 1 then R else gon t s b1 p1 R
/-- a part that is split -/
def sp (t : Nat → Nat → RS → RS) (n : Nat → Nat) (f : Nat → Nat → Int32) (kd lim mem s b0 b1 p0 p1 : Nat) (R : RS) : RS :=
  sp7 t s (rsd mem (cnt b0) (cnt b1)) b1 p1 (sp6 t s (rsd mem (cnt b0) (cnt b1)) b0 p0 (sp5 n f kd lim s (rsd mem (cnt b0) (cnt b1)) b0 b1 p0 p1 (sp4 (rsd mem (cnt b0) (cnt b1)) b1 p1 (sp3 (rsd mem (cnt b0) (cnt b1)) b0 p0 R))))
abbrev bmm (l r : Nat) : Nat := if bsd l r = 0 then l else r
abbrev pmm (l r : Nat) : Nat := if bsd l r = 0 then r else l
theorem tn_eq (n : Nat → Nat) (f : Nat → Nat → Int32) (kd lim mem k lv l r : Nat) (R : RS) : tn n f kd lim mem (k + 1) lv l r R =
    if cnt (bmm l r) ≤ mem then sh (R.1 2) (ho n f kd lim (bsd l r) (bmm l r) (pmm l r) (ent lv (bsd l r) 5 (opn 0 R))) else
    if lv = 4 ∨ oneK f (bsd l r) (bmm l r) = true then sh (R.1 2) (bk n f kd lim mem (bsd l r) (bmm l r) (pmm l r) (ent lv (bsd l r) 6 (opn 1 R))) else
    sh (R.1 2) (sp (tn n f kd lim mem k (lv + 1)) n f kd lim mem (bsd l r) (hf f (bsd l r) (bmm l r) lv 0) (hf f (bsd l r) (bmm l r) lv 1) (hf f (1 - bsd l r) (pmm l r) lv 0) (hf f (1 - bsd l r) (pmm l r) lv 1) (ent lv (bsd l r) 7 (opn 2 R))) := rfl
theorem bsd_lt (l r : Nat) : bsd l r < 2 := by unfold bsd; split <;> omega
theorem build_X {T : SX6} {l r : Nat} (hl : l < 16384) (hr : r < 16384) : fX6_buildSide T (nI l) (nI r) = some (nI (bsd l r)) := by
  unfold fX6_buildSide bsd
  rw [bitCount_eq hl, Option.bind_some, bitCount_eq hr, Option.bind_some]
  by_cases c : cnt l < cnt r
  · rw [if_neg (nI_ge c (by have := cnt_le r; omega)), if_pos c]
    rfl
  · rw [if_pos (nI_le (by omega) (by have := cnt_le l; omega)), if_neg c]
    rfl
/-- how much a turn may open and shut, and have open -/
def tL : Nat → Nat
  | 0 => 2
  | r + 1 => 10 + 2 * tL r
def oL : Nat → Nat
  | 0 => 1
  | r + 1 => 5 + oL r
theorem tL_2 : ∀ r, 2 ≤ tL r := by
  intro r
  cases r with
  | zero => exact Nat.le_refl 2
  | succ r => rw [tL]; omega
theorem oL_1 : ∀ r, 1 ≤ oL r := by
  intro r
  cases r with
  | zero => exact Nat.le_refl 1
  | succ r => rw [oL]; omega
/-- by how much a state grows -/
def TP (lim a b c : Nat) (R Q : RS) : Prop := Q.1 0 ≤ R.1 0 + a ∧ (R.1 0 ≤ lim → Q.1 0 ≤ lim) ∧ Q.1 1 ≤ R.1 1 + b ∧ R.1 2 ≤ Q.1 2 ∧ Q.1 2 ≤ R.1 2 + c
theorem TP.rf {lim : Nat} (a b c : Nat) (R : RS) : TP lim a b c R R := ⟨by omega, fun h => h, by omega, by omega, by omega⟩
theorem TP.tr {lim a b c a' b' c' : Nat} {R Q S : RS} (h1 : TP lim a b c R Q) (h2 : TP lim a' b' c' Q S) : TP lim (a + a') (b + b') (c + c') R S := by
  obtain ⟨p1, p2, p3, p4, p5⟩ := h1
  obtain ⟨q1, q2, q3, q4, q5⟩ := h2
  exact ⟨by omega, fun z => q2 (p2 z), by omega, by omega, by omega⟩
theorem TP.le {lim a b c a' b' c' : Nat} {R Q : RS} (h : TP lim a b c R Q) (ha : a ≤ a') (hb : b ≤ b') (hc : c ≤ c') : TP lim a' b' c' R Q := by
  obtain ⟨p1, p2, p3, p4, p5⟩ := h
  exact ⟨by omega, p2, by omega, by omega, by omega⟩
theorem TP.of {lim a : Nat} {g : RS → RS} (h : Gr lim a g) (R : RS) : TP lim a 0 0 R (g R) := by
  obtain ⟨p1, p2, p3, p4, -⟩ := h R
  exact ⟨p1, p2, by omega, by omega, by omega⟩
theorem opn_TP {lim : Nat} (w : Int32) (R : RS) : TP lim 0 1 1 R (opn w R) := ⟨Nat.le_refl _, fun h => h, Nat.le_refl _, Nat.le_succ _, Nat.le_refl _⟩
theorem ent_TP {lim lv s j : Nat} (R : RS) : TP lim 0 0 0 R (ent lv s j R) := by
  unfold ent
  split <;> exact ⟨Nat.le_refl _, fun h => h, Nat.le_refl _, Nat.le_refl _, Nat.le_refl _⟩
theorem ent_2 {lv s j : Nat} (R : RS) : (ent lv s j R).1 = R.1 := by
  unfold ent
  split <;> rfl
theorem spl_TP {lim b p : Nat} (R : RS) : TP lim 0 2 2 R (spl b p R) := by
  unfold spl
  split
  · exact TP.rf _ _ _ R
  · have h := TP.tr (opn_TP (lim := lim) 3 R) (opn_TP 3 (opn 3 R))
    exact h
theorem sh_TP {lim a b c : Nat} {R Q : RS} (h : TP lim a b c R Q) : TP lim a (b + c) 0 R (sh (R.1 2) Q) := by
  obtain ⟨p1, p2, p3, p4, p5⟩ := h
  obtain ⟨a1, a2, a3, a4, a5, a6, a7, a8, a9, a10⟩ := shN_keep (Q.1 2 - R.1 2) Q
  unfold sh
  exact ⟨by rw [a1]; exact p1, by rw [a1]; exact p2, by rw [a9]; omega, by rw [a10]; omega, by rw [a10]; omega⟩
theorem gon_TP {lim a b c s x y : Nat} {t : Nat → Nat → RS → RS} {R : RS} (ht : ∀ Q : RS, TP lim a b c Q (t (if s = 0 then x else y) (if s = 0 then y else x) Q)) : TP lim a b c R (gon t s x y R) := by
  unfold gon
  split
  · exact TP.rf _ _ _ R
  · have h := TP.tr (TP.of (lim := lim) (ad_Gr (j := 2) (v := nI (cnt x) + nI (cnt y))) R) (ht _)
    exact h.le (by omega) (by omega) (by omega)
theorem sp_TP {n : Nat → Nat} {f : Nat → Nat → Int32} {kd lim mem s b0 b1 p0 p1 b : Nat} {t : Nat → Nat → RS → RS} {R : RS} (h0 : ∀ Q : RS, TP lim (nd b0 p0) b 0 Q (t (if s = 0 then b0 else p0) (if s = 0 then p0 else b0) Q)) (h1 : ∀ Q : RS, TP lim (nd b1 p1) b 0 Q (t (if s = 0 then b1 else p1) (if s = 0 then p1 else b1) Q)) :
    TP lim (nd b0 p0 + nd b1 p1) (4 + 2 * b) 4 R (sp t n f kd lim mem s b0 b1 p0 p1 R) := by
  unfold sp
  generalize hst : rsd mem (cnt b0) (cnt b1) = st
  have q3 : TP lim 0 2 2 R (sp3 st b0 p0 R) := by
    unfold sp3
    split
    · exact TP.rf _ _ _ R
    · exact spl_TP R
  have q4 : ∀ Q : RS, TP lim 0 2 2 Q (sp4 st b1 p1 Q) := by
    intro Q
    unfold sp4
    split
    · exact TP.rf _ _ _ Q
    · exact spl_TP Q
  by_cases e0 : st = 0
  · have q5 : ∀ Q : RS, TP lim (nd b0 p0) 0 0 Q (sp5 n f kd lim s st b0 b1 p0 p1 Q) := by
      intro Q
      unfold sp5
      rw [if_pos e0]
      exact TP.of ho_Gr Q
    have q6 : ∀ Q : RS, TP lim 0 0 0 Q (sp6 t s st b0 p0 Q) := by
      intro Q
      unfold sp6
      rw [if_pos e0]
      exact TP.rf _ _ _ Q
    have q7 : ∀ Q : RS, TP lim (nd b1 p1) b 0 Q (sp7 t s st b1 p1 Q) := by
      intro Q
      unfold sp7
      split
      · exact TP.rf _ _ _ Q
      · exact gon_TP h1
    exact ((((q3.tr (q4 _)).tr (q5 _)).tr (q6 _)).tr (q7 _)).le (by omega) (by omega) (by omega)
  · have q6 : ∀ Q : RS, TP lim (nd b0 p0) b 0 Q (sp6 t s st b0 p0 Q) := by
      intro Q
      unfold sp6
      rw [if_neg e0]
      exact gon_TP h0
    by_cases e1 : st = 1
    · have q5 : ∀ Q : RS, TP lim (nd b1 p1) 0 0 Q (sp5 n f kd lim s st b0 b1 p0 p1 Q) := by
        intro Q
        unfold sp5
        rw [if_neg e0, if_pos e1]
        exact TP.of ho_Gr Q
      have q7 : ∀ Q : RS, TP lim 0 0 0 Q (sp7 t s st b1 p1 Q) := by
        intro Q
        unfold sp7
        rw [if_pos e1]
        exact TP.rf _ _ _ Q
      exact ((((q3.tr (q4 _)).tr (q5 _)).tr (q6 _)).tr (q7 _)).le (by omega) (by omega) (by omega)
    · have q5 : ∀ Q : RS, TP lim 0 0 0 Q (sp5 n f kd lim s st b0 b1 p0 p1 Q) := by
        intro Q
        unfold sp5
        rw [if_neg e0, if_neg e1]
        exact TP.rf _ _ _ Q
      have q7 : ∀ Q : RS, TP lim (nd b1 p1) b 0 Q (sp7 t s st b1 p1 Q) := by
        intro Q
        unfold sp7
        rw [if_neg e1]
        exact gon_TP h1
      exact ((((q3.tr (q4 _)).tr (q5 _)).tr (q6 _)).tr (q7 _)).le (by omega) (by omega) (by omega)
theorem nd_if (s a b : Nat) : nd (if s = 0 then a else b) (if s = 0 then b else a) = nd a b := by
  split
  · rfl
  · exact nd_comm b a
theorem tn_TP {n : Nat → Nat} {f : Nat → Nat → Int32} {kd lim mem : Nat} : ∀ (k lv l r : Nat) (R : RS), lv ≤ 4 → 4 - lv < k → l < 16384 → r < 16384 → TP lim (nd l r) (tL (4 - lv)) 0 R (tn n f kd lim mem k lv l r R) := by
  intro k
  induction k with
  | zero => intro lv l r R h1 h2; omega
  | succ k ih =>
    intro lv l r R h1 h2 hl hr
    have hb : bmm l r < 16384 := by unfold bmm; split <;> assumption
    have hp : pmm l r < 16384 := by unfold pmm; split <;> assumption
    have e : nd (bmm l r) (pmm l r) = nd l r := nd_if (bsd l r) l r
    have h2' := tL_2 (4 - lv)
    rw [tn_eq]
    split
    · have q := sh_TP ((((opn_TP (lim := lim) 0 R).tr (ent_TP (lv := lv) (s := bsd l r) (j := 5) _)).tr (TP.of (ho_Gr (n := n) (f := f) (kd := kd) (s := bsd l r) (bm := bmm l r) (pm := pmm l r)) _)))
      exact q.le (by omega) (by omega) (by omega)
    · split
      · have q := sh_TP ((((opn_TP (lim := lim) 1 R).tr (ent_TP (lv := lv) (s := bsd l r) (j := 6) _)).tr (TP.of (bk_Gr (n := n) (f := f) (kd := kd) (mem := mem) (s := bsd l r) (bm := bmm l r) (pm := pmm l r)) _)))
        exact q.le (by omega) (by omega) (by omega)
      · rename_i c1 c2
        have hlv : lv < 4 := by omega
        have hn := nd_split (f := f) (s := bsd l r) (lv := lv) hb hp
        have e4 : 4 - lv = (4 - (lv + 1)) + 1 := by omega
        have hI : ∀ (w : Nat) (Q : RS), TP lim (nd (hf f (bsd l r) (bmm l r) lv w) (hf f (1 - bsd l r) (pmm l r) lv w)) (tL (4 - (lv + 1))) 0 Q (tn n f kd lim mem k (lv + 1) (if bsd l r = 0 then hf f (bsd l r) (bmm l r) lv w else hf f (1 - bsd l r) (pmm l r) lv w) (if bsd l r = 0 then hf f (1 - bsd l r) (pmm l r) lv w else hf f (bsd l r) (bmm l r) lv w) Q) := by
          intro w Q
          have q := ih (lv + 1) (if bsd l r = 0 then hf f (bsd l r) (bmm l r) lv w else hf f (1 - bsd l r) (pmm l r) lv w) (if bsd l r = 0 then hf f (1 - bsd l r) (pmm l r) lv w else hf f (bsd l r) (bmm l r) lv w) Q (by omega) (by omega) (by split <;> exact hf_lt) (by split <;> exact hf_lt)
          rw [nd_if] at q
          exact q
        have q := sh_TP (((opn_TP (lim := lim) 2 R).tr (ent_TP (lv := lv) (s := bsd l r) (j := 7) _)).tr (sp_TP (n := n) (f := f) (kd := kd) (mem := mem) (hI 0) (hI 1)))
        refine q.le (by omega) ?_ (by omega)
        rw [e4, tL]
        omega
