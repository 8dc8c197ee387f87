theorem and1_M (x : Int32) : x &&& 1 = 0 ∨ x &&& 1 = 1 := by
  have e : (x.toBitVec &&& 1#32).toNat = x.toBitVec.toNat % 2 := by
    rw [BitVec.toNat_and]
    show x.toBitVec.toNat &&& 1 = _
    exact Nat.and_one_is_mod _
  rcases Nat.mod_two_eq_zero_or_one x.toBitVec.toNat with q | q
  · refine Or.inl (Int32.toBitVec_inj.1 ?_)
    apply BitVec.eq_of_toNat_eq
    show (x.toBitVec &&& 1#32).toNat = 0
    rw [e, q]
  · refine Or.inr (Int32.toBitVec_inj.1 ?_)
    apply BitVec.eq_of_toNat_eq
    show (x.toBitVec &&& 1#32).toNat = 1
    rw [e, q]
theorem kB_M {v : Int32} {b w : Nat} (hw : w < 2) : ((v >>> (nI b &&& 31)) &&& 1 = nI w) ↔ kB b v = decide (w = 1) := by
  unfold kB
  rcases (show w = 0 ∨ w = 1 by omega) with rfl | rfl
  · constructor
    · intro e
      rw [e]
      decide
    · intro e
      rcases and1_M (v >>> (nI b &&& 31)) with q | q
      · exact q
      · rw [q] at e
        exact absurd e (by decide)
  · constructor
    · intro e
      rw [e]
      decide
    · intro e
      exact of_decide_eq_true e
theorem mkm_end {p : Nat → Bool} {N : Nat} (h : ∀ k, N ≤ k → p k = false) : ∀ m, N ≤ m → mkm p m = mkm p N := by
  intro m hm
  apply Nat.eq_of_testBit_eq
  intro i
  rw [mkm_bit, mkm_bit]
  by_cases c : i < N
  · rw [decide_eq_true c, decide_eq_true (show i < m by omega)]
  · rw [h i (by omega), Bool.and_false, Bool.and_false]
theorem or0_M (x : Int32) : x ||| 0 = x := by
  apply Int32.toBitVec_inj.1
  show x.toBitVec ||| 0#32 = x.toBitVec
  exact BitVec.or_zero
theorem half_M {n : Nat → Nat} {f : Nat → Nat → Int32} {mem kd : Nat} {m : SX8} (h : MT n f mem kd m) {s a b w : Nat} (hs : s < 2) (ha : Sb n f s a) (hw : w < 2) : fX8_half m (nI s) (nI a) (nI b) (nI w) = some (nI (hf f s a b w)) := by
  have hn := h.2.2.2.2.1 s hs
  unfold fX8_half
  obtain ⟨r, r1, r2⟩ := upE (fun v j (c : Int32) => fX8_half_b6 m v (nI s) (nI a) (nI b) (nI w) c (nI j)) (fun j c => c = nI (mkm (fun k => a.testBit k && decide (kB b (f s k) = decide (w = 1))) j)) (fun r => r = nI (hf f s a b w)) (n s) (by
    intro v j c hj hI
    refine Or.inl ⟨_, rfl, ?_⟩
    show fX8_half_b6 m (v + 1) (nI s) (nI a) (nI b) (nI w) c (nI j) = fX8_half_b6 m v (nI s) (nI a) (nI b) (nI w) (nI (mkm (fun k => a.testBit k && decide (kB b (f s k) = decide (w = 1))) (j + 1))) (nI (j + 1))
    rw [fX8_half_b6, if_neg (nI_in hs (by omega)), nI_clamp (by omega), h.1 s hs, if_neg (nI_ge hj (by omega)), isIn_M ha.1 (by omega), Option.bind_some, hI, or0_M, nI1, mkm]
    by_cases c1 : a.testBit j = true
    · rw [if_pos c1, if_neg (show ¬ (1 : Int32) = 0 by decide), keyAt_M h hs hj, Option.bind_some, or_bit _ _ (by omega)]
      by_cases c2 : kB b (f s j) = decide (w = 1)
      · rw [if_pos ((kB_M hw).mpr c2), if_pos (by rw [c1, decide_eq_true c2]; rfl)]
      · rw [if_neg (fun e => c2 ((kB_M hw).mp e)), if_neg (by rw [c1, decide_eq_false c2]; decide)]
    · rw [if_neg c1, if_pos rfl, if_neg (by rw [show a.testBit j = false by simpa using c1, Bool.false_and]; decide)]) (by
    intro v c hI
    refine ⟨c, ?_, ?_⟩
    · show fX8_half_b6 m (v + 1) (nI s) (nI a) (nI b) (nI w) c (nI (n s)) = some c
      rw [fX8_half_b6, if_neg (nI_in hs (by omega)), nI_clamp (by omega), h.1 s hs, if_pos (nI_le (Nat.le_refl _) (by omega))]
    · rw [hI]
      unfold hf
      rw [mkm_end (fun k hk => by rw [off_set ha.2.1 hk, Bool.false_and]) 14 hn]) 1000 0 0 (by omega) (by omega) rfl
  rw [r2] at r1
  exact r1
theorem halfOf_M {n : Nat → Nat} {f : Nat → Nat → Int32} {mem kd : Nat} {m : SX8} (h : MT n f mem kd m) {s l r lv w : Nat} (hlv : lv < 6) (hs : s < 2) (el : m.2.2 36 lv = nI l) (er : m.2.2 37 lv = nI r) (hl : Sb n f 0 l) (hr : Sb n f 1 r) (hw : w < 2) : fX8_halfOf m (nI lv) (nI s) (nI w) = some (nI (hf f s (if s = 0 then l else r) lv w)) := by
  unfold fX8_halfOf
  rw [if_neg (nI_in hlv (by omega)), if_neg (nI_in hlv (by omega)), nI_clamp (by omega), el, er]
  rcases (show s = 0 ∨ s = 1 by omega) with rfl | rfl
  · rw [if_pos (show nI 0 = 0 from rfl), half_M h (by omega) hl hw, Option.bind_some, if_pos rfl]
  · rw [if_neg (show ¬ nI 1 = 0 by decide), half_M h (by omega) hr hw, Option.bind_some, if_neg (by decide)]
/-- how many rows a half has -/
abbrev rwH (f : Nat → Nat → Int32) (l r lv w : Nat) : Nat := cnt (hf f 0 l lv w) + cnt (hf f 1 r lv w)
theorem rowsOfHalf_M {n : Nat → Nat} {f : Nat → Nat → Int32} {mem kd : Nat} {m : SX8} (h : MT n f mem kd m) {l r lv w : Nat} (hlv : lv < 6) (el : m.2.2 36 lv = nI l) (er : m.2.2 37 lv = nI r) (hl : Sb n f 0 l) (hr : Sb n f 1 r) (hw : w < 2) : fX8_rowsOfHalf m (nI lv) (nI w) = some (nI (rwH f l r lv w)) := by
  have e0 := halfOf_M (s := 0) h hlv (by omega) el er hl hr hw
  have e1 := halfOf_M (s := 1) h hlv (by omega) el er hl hr hw
  unfold fX8_rowsOfHalf
  rw [show fX8_halfOf m (nI lv) 0 (nI w) = some (nI (hf f 0 l lv w)) from e0, Option.bind_some, size_M hf_lt, Option.bind_some, show fX8_halfOf m (nI lv) 1 (nI w) = some (nI (hf f 1 r lv w)) from e1, Option.bind_some, size_M hf_lt, Option.bind_some, nI_add]
/-- the half that stays, as the reference tells it: none if it has no rows -/
def rsM (f : Nat → Nat → Int32) (mem s l r lv : Nat) : Nat :=
  let st := rsd mem (cnt (hf f s (if s = 0 then l else r) lv 0)) (cnt (hf f s (if s = 0 then l else r) lv 1))
  if st = 2 then 2 else if rwH f l r lv st = 0 then 2 else st
theorem b64_M {n : Nat → Nat} {f : Nat → Nat → Int32} {mem kd : Nat} {m : SX8} (h : MT n f mem kd m) {l r lv st : Nat} (hlv : lv < 6) (el : m.2.2 36 lv = nI l) (er : m.2.2 37 lv = nI r) (hl : Sb n f 0 l) (hr : Sb n f 1 r) (hst : st < 3) : fX8_resident_b64 m (nI lv) (rsI st) = some (rsI (if st = 2 then 2 else if rwH f l r lv st = 0 then 2 else st)) := by
  unfold fX8_resident_b64
  by_cases e : st = 2
  · rw [if_pos ((rsI_m hst).mpr e), if_pos e, e]
  · have er' : rsI st = nI st := if_neg e
    have hc0 := cnt_le (hf f 0 l lv st)
    have hc1 := cnt_le (hf f 1 r lv st)
    have hz : rwH f l r lv st < 2 ^ 31 := by
      show cnt (hf f 0 l lv st) + cnt (hf f 1 r lv st) < 2 ^ 31
      omega
    rw [if_neg (fun q => e ((rsI_m hst).mp q)), if_neg e, er', rowsOfHalf_M h hlv el er hl hr (by omega), Option.bind_some]
    by_cases z : rwH f l r lv st = 0
    · rw [if_pos ((nI_z hz).mpr z), if_pos z]
      rfl
    · rw [if_neg (fun q => z ((nI_z hz).mp q)), if_neg z, er']
theorem resident_M {n : Nat → Nat} {f : Nat → Nat → Int32} {mem kd : Nat} {m : SX8} (h : MT n f mem kd m) (hm : mem < 2 ^ 31) {s l r lv : Nat} (hlv : lv < 6) (hs : s < 2) (el : m.2.2 36 lv = nI l) (er : m.2.2 37 lv = nI r) (hl : Sb n f 0 l) (hr : Sb n f 1 r) : fX8_resident m (nI lv) (nI s) = some (rsI (rsM f mem s l r lv)) := by
  have h0 := halfOf_M (w := 0) h hlv hs el er hl hr (by omega)
  have h1 := halfOf_M (w := 1) h hlv hs el er hl hr (by omega)
  have hc0 := cnt_le (hf f s (if s = 0 then l else r) lv 0)
  have hc1 := cnt_le (hf f s (if s = 0 then l else r) lv 1)
  unfold fX8_resident fX8_resident_b50 fX8_resident_b46
  rw [show fX8_halfOf m (nI lv) (nI s) 0 = some (nI (hf f s (if s = 0 then l else r) lv 0)) from h0, Option.bind_some, size_M hf_lt, Option.bind_some, show fX8_halfOf m (nI lv) (nI s) 1 = some (nI (hf f s (if s = 0 then l else r) lv 1)) from h1, Option.bind_some, size_M hf_lt, Option.bind_some, h.2.2.1]
  have b0 := b64_M (st := 0) h hlv el er hl hr (by omega)
  have b1 := b64_M (st := 1) h hlv el er hl hr (by omega)
  have b2 := b64_M (st := 2) h hlv el er hl hr (by omega)
  have b0' : fX8_resident_b64 m (nI lv) 0 = _ := b0
  have b1' : fX8_resident_b64 m (nI lv) 1 = _ := b1
  have b2' : fX8_resident_b64 m (nI lv) (-1) = _ := b2
  unfold rsM
  generalize hst : rsd mem (cnt (hf f s (if s = 0 then l else r) lv 0)) (cnt (hf f s (if s = 0 then l else r) lv 1)) = st
  unfold rsd at hst
  by_cases a : mem < cnt (hf f s (if s = 0 then l else r) lv 0)
  · rw [if_pos (nI_lt a (by omega))]
    rw [if_neg (by omega)] at hst
    by_cases b : mem < cnt (hf f s (if s = 0 then l else r) lv 1)
    · rw [if_pos (nI_lt b (by omega)), b2']
      rw [if_neg (by omega)] at hst
      rw [← hst]
    · rw [if_neg (nI_nlt (by omega) (by omega)), b1']
      rw [if_pos (by omega)] at hst
      rw [← hst]
  · rw [if_neg (nI_nlt (by omega) (by omega))]
    by_cases b : mem < cnt (hf f s (if s = 0 then l else r) lv 1)
    · rw [if_pos (nI_lt b (by omega)), b0']
      rw [if_pos (by omega)] at hst
      rw [← hst]
    · rw [if_neg (nI_nlt (by omega) (by omega))]
      by_cases c : cnt (hf f s (if s = 0 then l else r) lv 0) < cnt (hf f s (if s = 0 then l else r) lv 1)
      · rw [if_pos (nI_lt c (by omega)), if_neg (nI_nlt (by omega) (by omega)), b1']
        rw [if_neg (by omega), if_pos (by omega)] at hst
        rw [← hst]
      · rw [if_neg (nI_nlt (by omega) (by omega)), b0']
        rw [if_pos (by omega)] at hst
        rw [← hst]
/-- rows with a key, or without one -/
theorem withKeys_M {n : Nat → Nat} {f : Nat → Nat → Int32} {mem kd : Nat} {m : SX8} (h : MT n f mem kd m) {s w : Nat} (hs : s < 2) (hw : w < 2) : fX8_withKeys m (nI s) (nI w) = some (nI (if w = 1 then wk f s (n s) else nk f s (n s))) := by
  have hn := h.2.2.2.2.1 s hs
  have em : (if w = 1 then wk f s (n s) else nk f s (n s)) = mkm (fun i => decide (decide (f s i ≠ -1) = decide (w = 1))) (n s) := by
    rcases (show w = 0 ∨ w = 1 by omega) with rfl | rfl
    · rw [if_neg (by decide)]
      apply Nat.eq_of_testBit_eq
      intro i
      rw [nk_bit, mkm_bit]
      by_cases c : f s i = -1 <;> simp [c]
    · rw [if_pos rfl]
      apply Nat.eq_of_testBit_eq
      intro i
      rw [wk_bit, mkm_bit]
      by_cases c : f s i = -1 <;> simp [c]
  rw [em]
  unfold fX8_withKeys
  obtain ⟨r, r1, r2⟩ := upE (fun v j (c : Int32) => fX8_withKeys_b5 m v (nI s) (nI w) c (nI j)) (fun j c => c = nI (mkm (fun i => decide (decide (f s i ≠ -1) = decide (w = 1))) j)) (fun r => r = nI (mkm (fun i => decide (decide (f s i ≠ -1) = decide (w = 1))) (n s))) (n s) (by
    intro v j c hj hI
    refine Or.inl ⟨_, rfl, ?_⟩
    show fX8_withKeys_b5 m (v + 1) (nI s) (nI w) c (nI j) = fX8_withKeys_b5 m v (nI s) (nI w) (nI (mkm (fun i => decide (decide (f s i ≠ -1) = decide (w = 1))) (j + 1))) (nI (j + 1))
    rw [fX8_withKeys_b5, if_neg (nI_in hs (by omega)), nI_clamp (by omega), h.1 s hs, if_neg (nI_ge hj (by omega)), keyAt_M h hs hj, Option.bind_some, mkm]
    unfold fX8_withKeys_b33
    rw [hI, or0_M, or_bit _ _ (by omega), nI1]
    rcases (show w = 0 ∨ w = 1 by omega) with rfl | rfl
    · by_cases c1 : f s j = -1
      · rw [if_pos c1, if_pos (show (0 : Int32) = nI 0 from rfl), if_pos (by simp [c1])]
      · rw [if_neg c1, if_neg (show ¬ (1 : Int32) = nI 0 by decide), if_neg (by simp [c1])]
    · by_cases c1 : f s j = -1
      · rw [if_pos c1, if_neg (show ¬ (0 : Int32) = nI 1 by decide), if_neg (by simp [c1])]
      · rw [if_neg c1, if_pos (show (1 : Int32) = nI 1 from rfl), if_pos (by simp [c1])]) (by
    intro v c hI
    refine ⟨c, ?_, hI⟩
    show fX8_withKeys_b5 m (v + 1) (nI s) (nI w) c (nI (n s)) = some c
    rw [fX8_withKeys_b5, if_neg (nI_in hs (by omega)), nI_clamp (by omega), h.1 s hs, if_pos (nI_le (Nat.le_refl _) (by omega))]) 1000 0 0 (by omega) (by omega) rfl
  rw [r2] at r1
  exact r1
