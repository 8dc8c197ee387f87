/-- what is kept of a part: its rows, the next half, the half that stays, how many are open for it -/
def PR (B : Nat → Nat → Int32) (lv l r nx st c : Nat) : Prop := B 36 lv = nI l ∧ B 37 lv = nI r ∧ B 38 lv = nI nx ∧ B 39 lv = rsI st ∧ B 40 lv = nI c
theorem PR.bl {B C : Nat → Nat → Int32} {lv l r nx st c lw : Nat} (h : PR B lv l r nx st c) (hb : Bl lw B C) (hl : lv < lw) : PR C lv l r nx st c := by
  obtain ⟨a1, a2, a3, a4, a5⟩ := h
  exact ⟨(hb 36 (by omega) (by omega) lv hl).trans a1, (hb 37 (by omega) (by omega) lv hl).trans a2, (hb 38 (by omega) (by omega) lv hl).trans a3, (hb 39 (by omega) (by omega) lv hl).trans a4, (hb 40 (by omega) (by omega) lv hl).trans a5⟩
theorem or_z {a b : Nat} (ha : a < 16384) (hb : b < 16384) : cnt a + cnt b = 0 ↔ a ||| b = 0 := by
  constructor
  · intro e
    rw [cnt_z ha (by omega), cnt_z hb (by omega)]
    rfl
  · intro e
    have h0 := Nat.or_eq_zero_iff.mp e
    rw [h0.1, h0.2, show cnt 0 = 0 from cntB_zero 16 (fun k _ => Nat.zero_testBit k)]
/-- halves of the build side and of the other -/
abbrev hB (f : Nat → Nat → Int32) (s l r lv w : Nat) : Nat := hf f s (if s = 0 then l else r) lv w
abbrev hP (f : Nat → Nat → Int32) (s l r lv w : Nat) : Nat := hf f (1 - s) (if s = 0 then r else l) lv w
theorem rwH_eq {f : Nat → Nat → Int32} {s l r lv w : Nat} (hs : s < 2) : rwH f l r lv w = cnt (hB f s l r lv w) + cnt (hP f s l r lv w) := by
  rcases (show s = 0 ∨ s = 1 by omega) with rfl | rfl
  · rfl
  · exact Nat.add_comm _ _
theorem half2_M {n : Nat → Nat} {f : Nat → Nat → Int32} {mem kd : Nat} {m : SX8} (h : MT n f mem kd m) {s l r lv w : Nat} (hlv : lv < 6) (hs : s < 2) (el : m.2.2 36 lv = nI l) (er : m.2.2 37 lv = nI r) (hl : Sb n f 0 l) (hr : Sb n f 1 r) (hw : w < 2) : fX8_halfOf m (nI lv) (nI (1 - s)) (nI w) = some (nI (hP f s l r lv w)) := by
  rw [halfOf_M h hlv (show 1 - s < 2 by omega) el er hl hr hw]
  rcases (show s = 0 ∨ s = 1 by omega) with rfl | rfl <;> rfl
theorem b43_M {n : Nat → Nat} {f : Nat → Nat → Int32} {mem kd lim : Nat} {m0 m : SX8} {B : Nat → Nat → Int32} {Q : RS} {s l r lv st w c d k : Nat} (hT : MT n f mem kd m0) (h : MR m0 B lim m Q) (hs : s < 2) (hl : Sb n f 0 l) (hr : Sb n f 1 r) (hlv : lv < 4) (hw : w < 2) (hst : st < 3) (hPR : PR B lv l r 0 st c) (hd : Q.1 2 = d + c) (hlog : Q.1 1 + 2 ≤ 512) (hop : Q.1 2 + 2 ≤ 64) :
    ∃ m' B' c', fX8_splitNow_b43 (k + 1) (nI lv) (nI s) (nI w) m = fX8_splitNow_b43 k (nI lv) (nI s) (nI (w + 1)) m' ∧ MR m0 B' lim m' (if st = w then Q else spl (hB f s l r lv w) (hP f s l r lv w) Q) ∧ Bl lv B B' ∧ PR B' lv l r 0 st c' ∧ ((if st = w then Q else spl (hB f s l r lv w) (hP f s l r lv w) Q) : RS).1 2 = d + c' := by
  obtain ⟨a1, a2, a3, a4, a5⟩ := hPR
  have hM := hT.fr h.1
  have p := h.2.1
  have el : m.2.2 36 lv = nI l := by rw [p 36 (by omega) (by omega)]; exact a1
  have er : m.2.2 37 lv = nI r := by rw [p 37 (by omega) (by omega)]; exact a2
  have e39 : m.2.2 39 lv = rsI st := by rw [p 39 (by omega) (by omega)]; exact a4
  have hw2 : ¬ (2 : Int32) ≤ nI w := cl 2 hw (by omega)
  have hcl : (nI lv).toNatClampNeg = lv := nI_clamp (by omega)
  have hin : ¬ (nI lv < 0 ∨ 6 ≤ (nI lv).toNatClampNeg) := nI_in (show lv < 6 by omega) (by omega)
  have hiff : nI w = rsI st ↔ st = w := by
    rcases (show st = 0 ∨ st = 1 ∨ st = 2 by omega) with rfl | rfl | rfl <;> rcases (show w = 0 ∨ w = 1 by omega) with rfl | rfl <;> decide
  rw [fX8_splitNow_b43, if_neg hw2, if_neg hin, hcl, e39]
  by_cases e : st = w
  · rw [if_pos (hiff.mpr e), if_pos e, nI1]
    exact ⟨m, B, c, rfl, h, Bl.rf _ _, ⟨a1, a2, a3, a4, a5⟩, hd⟩
  · rw [if_neg (fun q => e (hiff.mp q)), if_neg e, rowsOfHalf_M hM (by omega) el er hl hr hw, Option.bind_some, rwH_eq hs]
    have hz := or_z (a := hB f s l r lv w) (b := hP f s l r lv w) hf_lt hf_lt
    have c0 := cnt_le (hB f s l r lv w)
    have c1 := cnt_le (hP f s l r lv w)
    unfold spl
    by_cases z : hB f s l r lv w ||| hP f s l r lv w = 0
    · rw [if_pos (show nI (cnt (hB f s l r lv w) + cnt (hP f s l r lv w)) ≤ 0 by rw [hz.mpr z]; decide), if_pos z, nI1]
      exact ⟨m, B, c, rfl, h, Bl.rf _ _, ⟨a1, a2, a3, a4, a5⟩, hd⟩
    · have hpos : 0 < cnt (hB f s l r lv w) + cnt (hP f s l r lv w) := Nat.pos_of_ne_zero (fun q => z (hz.mp q))
      rw [if_neg (show ¬ nI (cnt (hB f s l r lv w) + cnt (hP f s l r lv w)) ≤ 0 from nI_ge (a := 0) hpos (by omega)), if_neg z]
      obtain ⟨u, u1, u2⟩ := opn_M (w := 3) h (by omega) (by omega)
      obtain ⟨v, v1, v2⟩ := opn_M (w := 3) u2 (show Q.1 1 + 1 < 512 by omega) (show Q.1 2 + 1 < 64 by omega)
      have e40 : v.2.2 40 lv = nI c := by rw [v2.2.1 40 (by omega) (by omega)]; exact a5
      have e40' : v.2.2 40 = B 40 := v2.2.1 40 (by omega) (by omega)
      have v3 := v2.prt (k := 40) (by omega) (by omega) (upd (v.2.2 40) lv (v.2.2 40 lv + 2))
      have el2 : (va_up v.2.2 40 (upd (v.2.2 40) lv (v.2.2 40 lv + 2))) 36 lv = nI l := by
        show v.2.2 36 lv = nI l
        rw [v2.2.1 36 (by omega) (by omega)]; exact a1
      have er2 : (va_up v.2.2 40 (upd (v.2.2 40) lv (v.2.2 40 lv + 2))) 37 lv = nI r := by
        show v.2.2 37 lv = nI r
        rw [v2.2.1 37 (by omega) (by omega)]; exact a2
      have v4 := ad_M v3 (j := 1) (by omega) (by omega) (nI (cnt (hB f s l r lv w)) + nI (cnt (hP f s l r lv w)))
      have hin2 : ¬ (nI lv < 0 ∨ 6 ≤ lv) := by
        rw [hcl] at hin
        exact hin
      rw [u1, Option.bind_some, v1, Option.bind_some, if_neg hin2, if_neg hin2, rowsOfHalf_M (hT.fr v3.1) (by omega) el2 er2 hl hr hw, Option.bind_some, rwH_eq hs, nI1, ← nI_add (cnt (hB f s l r lv w)) (cnt (hP f s l r lv w))]
      refine ⟨_, va_up B 40 (upd (B 40) lv (v.2.2 40 lv + 2)), c + 2, rfl, ?_, (Bl.rf lv B).up 40 _, ⟨a1, a2, a3, a4, ?_⟩, ?_⟩
      · rw [e40'] at v4 ⊢
        exact v4
      · show upd (B 40) lv (v.2.2 40 lv + 2) lv = nI (c + 2)
        unfold upd
        rw [if_pos rfl, e40]
        exact nI_add c 2
      · show Q.1 2 + 1 + 1 = d + (c + 2)
        omega
theorem rsM_lt {f : Nat → Nat → Int32} {mem s l r lv : Nat} : rsM f mem s l r lv < 3 := by
  have := rsd_lt mem (cnt (hf f s (if s = 0 then l else r) lv 0)) (cnt (hf f s (if s = 0 then l else r) lv 1))
  unfold rsM
  generalize rsd mem (cnt (hf f s (if s = 0 then l else r) lv 0)) (cnt (hf f s (if s = 0 then l else r) lv 1)) = st at this
  by_cases e2 : st = 2
  · simp [e2]
  · by_cases z : rwH f l r lv st = 0
    · simp [z]
    · simp only [e2, z, if_false]
      exact this
/-- the empty half makes no difference -/
theorem sp3_eq {f : Nat → Nat → Int32} {mem s l r lv : Nat} (hs : s < 2) (Q : RS) : (if rsM f mem s l r lv = 0 then Q else spl (hB f s l r lv 0) (hP f s l r lv 0) Q) = sp3 (rsd mem (cnt (hB f s l r lv 0)) (cnt (hB f s l r lv 1))) (hB f s l r lv 0) (hP f s l r lv 0) Q := by
  have hz := or_z (a := hB f s l r lv 0) (b := hP f s l r lv 0) hf_lt hf_lt
  have e := rwH_eq (f := f) (l := l) (r := r) (lv := lv) (w := 0) hs
  unfold sp3 rsM
  generalize rsd mem (cnt (hB f s l r lv 0)) (cnt (hB f s l r lv 1)) = st
  by_cases e0 : st = 0
  · subst e0
    rw [if_pos (show (0 : Nat) = 0 from rfl)]
    by_cases z : rwH f l r lv 0 = 0
    · have z2 : hB f s l r lv 0 ||| hP f s l r lv 0 = 0 := hz.mp (e.symm.trans z)
      have e2 : spl (hB f s l r lv 0) (hP f s l r lv 0) Q = Q := if_pos z2
      rw [e2, ite_self]
    · show (if (if (0 : Nat) = 2 then 2 else if rwH f l r lv 0 = 0 then 2 else 0) = 0 then Q else _) = Q
      rw [if_neg (show ¬ (0 : Nat) = 2 by decide), if_neg z, if_pos rfl]
  · rw [if_neg e0]
    show (if (if st = 2 then 2 else if rwH f l r lv st = 0 then 2 else st) = 0 then Q else _) = _
    rw [if_neg]
    split
    · omega
    · split <;> omega
theorem sp4_eq {f : Nat → Nat → Int32} {mem s l r lv : Nat} (hs : s < 2) (Q : RS) : (if rsM f mem s l r lv = 1 then Q else spl (hB f s l r lv 1) (hP f s l r lv 1) Q) = sp4 (rsd mem (cnt (hB f s l r lv 0)) (cnt (hB f s l r lv 1))) (hB f s l r lv 1) (hP f s l r lv 1) Q := by
  have hz := or_z (a := hB f s l r lv 1) (b := hP f s l r lv 1) hf_lt hf_lt
  have e := rwH_eq (f := f) (l := l) (r := r) (lv := lv) (w := 1) hs
  unfold sp4 rsM
  generalize rsd mem (cnt (hB f s l r lv 0)) (cnt (hB f s l r lv 1)) = st
  by_cases e0 : st = 1
  · subst e0
    rw [if_pos (show (1 : Nat) = 1 from rfl)]
    by_cases z : rwH f l r lv 1 = 0
    · have z2 : hB f s l r lv 1 ||| hP f s l r lv 1 = 0 := hz.mp (e.symm.trans z)
      have e2 : spl (hB f s l r lv 1) (hP f s l r lv 1) Q = Q := if_pos z2
      rw [e2, ite_self]
    · show (if (if (1 : Nat) = 2 then 2 else if rwH f l r lv 1 = 0 then 2 else 1) = 1 then Q else _) = Q
      rw [if_neg (show ¬ (1 : Nat) = 2 by decide), if_neg z, if_pos rfl]
  · rw [if_neg e0]
    show (if (if st = 2 then 2 else if rwH f l r lv st = 0 then 2 else st) = 1 then Q else _) = _
    rw [if_neg]
    split
    · omega
    · split <;> omega
theorem sp5_eq {n : Nat → Nat} {f : Nat → Nat → Int32} {kd lim mem s l r lv : Nat} (hs : s < 2) {Q : RS} (hQ : NN Q) : (if rsM f mem s l r lv = 2 then Q else ho n f kd lim s (hB f s l r lv (rsM f mem s l r lv)) (hP f s l r lv (rsM f mem s l r lv)) Q) = sp5 n f kd lim s (rsd mem (cnt (hB f s l r lv 0)) (cnt (hB f s l r lv 1))) (hB f s l r lv 0) (hB f s l r lv 1) (hP f s l r lv 0) (hP f s l r lv 1) Q := by
  unfold sp5
  have hst := rsd_lt mem (cnt (hB f s l r lv 0)) (cnt (hB f s l r lv 1))
  have er : rsM f mem s l r lv = (if rsd mem (cnt (hB f s l r lv 0)) (cnt (hB f s l r lv 1)) = 2 then 2 else if rwH f l r lv (rsd mem (cnt (hB f s l r lv 0)) (cnt (hB f s l r lv 1))) = 0 then 2 else rsd mem (cnt (hB f s l r lv 0)) (cnt (hB f s l r lv 1))) := rfl
  rw [er]
  generalize rsd mem (cnt (hB f s l r lv 0)) (cnt (hB f s l r lv 1)) = st at hst
  by_cases e2 : st = 2
  · rw [if_pos e2, if_pos rfl, if_neg (by omega), if_neg (by omega)]
  · rw [if_neg e2]
    have hz := or_z (a := hB f s l r lv st) (b := hP f s l r lv st) hf_lt hf_lt
    have e := rwH_eq (f := f) (l := l) (r := r) (lv := lv) (w := st) hs
    by_cases z : rwH f l r lv st = 0
    · have z2 := Nat.or_eq_zero_iff.mp (hz.mp (e.symm.trans z))
      rw [if_pos z, if_pos rfl]
      rcases (show st = 0 ∨ st = 1 by omega) with rfl | rfl
      · rw [if_pos rfl, z2.1, z2.2, ho_00 hQ]
      · rw [if_neg (by decide), if_pos rfl, z2.1, z2.2, ho_00 hQ]
    · rw [if_neg z, if_neg e2]
      rcases (show st = 0 ∨ st = 1 by omega) with rfl | rfl
      · rw [if_pos rfl]
      · rw [if_neg (by decide), if_pos rfl]
