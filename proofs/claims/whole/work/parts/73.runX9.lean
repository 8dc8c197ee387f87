/-! the class splits a part, and takes turns -/
theorem CO.tp {lim a b c d : Nat} {R Q : RS} (h : CO lim (a + b) R) (hg : TP lim a c d R Q) : CO lim b Q := ⟨hg.2.1 h.1, fun z => by have q1 := h.2 z; have q2 := hg.1; omega⟩
/-- a turn of the class does t -/
def TK (T : SX6) (lim : Nat) (tk : SX3 → Int32 → Int32 → Int32 → Option SX3) (t : Nat → Nat → RS → RS) (L O s b p lv : Nat) : Prop :=
  ∀ (y : SX3) (Q : RS), XR T lim y Q → CO lim (nd b p) Q → Q.1 1 + L ≤ 200 → Q.1 2 + O ≤ 30 → ∃ q, tk y (nI (if s = 0 then b else p)) (nI (if s = 0 then p else b)) (nI (lv + 1)) = some q ∧ XR T lim q (t (if s = 0 then b else p) (if s = 0 then p else b) Q)
theorem goOn_X {T : SX6} {lim L O s b p lv : Nat} {x : SX3} {R : RS} {tk : SX3 → Int32 → Int32 → Int32 → Option SX3} {t : Nat → Nat → RS → RS} (h : XR T lim x R) (hs : s < 2) (hb : b < 16384) (hp : p < 16384) (hlv : lv < 4) (htk : TK T lim tk t L O s b p lv) (hc : CO lim (nd b p) R) (hl : R.1 1 + L ≤ 200) (hd : R.1 2 + O ≤ 30) :
    ∃ q, fX3_goOn x tk (nI s) (nI b) (nI p) (nI lv) = some q ∧ XR T lim q (gon t s b p R) := by
  have hbp : b ||| p < 16384 := Nat.or_lt_two_pow (n := 14) hb hp
  have h0 := h
  obtain ⟨t0, o1, o2, o3, o4, -⟩ := h
  unfold fX3_goOn gon
  rw [fa_or]
  by_cases c : b ||| p = 0
  · rw [if_pos ((nI_z (by omega)).mpr c), if_pos (Or.inl c)]
    exact ⟨x, rfl, h0⟩
  · rw [if_neg (fun e => c ((nI_z (by omega)).mp e)), if_neg (cl 4 hlv (by omega)), o4]
    by_cases off : R.2.2.2 = true
    · rw [if_pos off, if_neg (show ¬ (1 : Int32) = 0 by decide), if_pos (Or.inr off)]
      exact ⟨x, rfl, h0⟩
    · rw [if_neg off, if_pos (show (0 : Int32) = 0 from rfl), if_neg (show ¬ (b ||| p = 0 ∨ R.2.2.2 = true) by rintro (q | q); exact c q; exact off q), bitCount_eq hb, Option.bind_some, bitCount_eq hp, Option.bind_some, show (2 : Int32).toNatClampNeg = 2 from by decide]
      have r3 := ad_X h0 (j := 2) (by omega) (by omega) (nI (cnt b) + nI (cnt p))
      obtain ⟨q, q1, q2⟩ := htk _ _ r3 hc hl hd
      refine ⟨q, ?_, q2⟩
      unfold fX3_goOn_b50
      rcases (show s = 0 ∨ s = 1 by omega) with rfl | rfl
      · rw [if_pos (show (0 : Nat) = 0 from rfl), if_pos (show (0 : Nat) = 0 from rfl)] at q1
        rw [if_pos (show nI 0 = 0 from rfl), if_pos (show nI 0 = 0 from rfl), nI1, q1, Option.bind_some]
      · rw [if_neg (show ¬ (1 : Nat) = 0 by decide), if_neg (show ¬ (1 : Nat) = 0 by decide)] at q1
        rw [if_neg (show ¬ nI 1 = 0 by decide), if_neg (show ¬ nI 1 = 0 by decide), nI1, q1, Option.bind_some]
theorem rsI_1 {st : Nat} (h : st < 3) : rsI st = 1 ↔ st = 1 := by
  rcases (show st = 0 ∨ st = 1 ∨ st = 2 by omega) with rfl | rfl | rfl <;> decide
theorem rsI_0 {st : Nat} (h : st < 3) : rsI st = 0 ↔ st = 0 := by
  rcases (show st = 0 ∨ st = 1 ∨ st = 2 by omega) with rfl | rfl | rfl <;> decide
theorem rsI_m {st : Nat} (h : st < 3) : rsI st = -1 ↔ st = 2 := by
  rcases (show st = 0 ∨ st = 1 ∨ st = 2 by omega) with rfl | rfl | rfl <;> decide
theorem b155_X {T : SX6} {lim L O s b1 p1 lv st : Nat} {x : SX3} {R : RS} {tk : SX3 → Int32 → Int32 → Int32 → Option SX3} {t : Nat → Nat → RS → RS} (hst : st < 3) (h : XR T lim x R) (hs : s < 2) (hb : b1 < 16384) (hp : p1 < 16384) (hlv : lv < 4) (htk : TK T lim tk t L O s b1 p1 lv) (hc : st ≠ 1 → CO lim (nd b1 p1) R) (hl : R.1 1 + L ≤ 200) (hd : R.1 2 + O ≤ 30) :
    ∃ q, fX3_split_b155 tk (nI s) (nI lv) (nI b1) (nI p1) (rsI st) x = some q ∧ XR T lim q (sp7 t s st b1 p1 R) := by
  unfold fX3_split_b155 sp7
  by_cases e : st = 1
  · rw [if_pos ((rsI_1 hst).mpr e), if_pos e]
    exact ⟨x, rfl, h⟩
  · rw [if_neg (fun q => e ((rsI_1 hst).mp q)), if_neg e]
    obtain ⟨q, q1, q2⟩ := goOn_X h hs hb hp hlv htk (hc e) hl hd
    exact ⟨q, by rw [q1, Option.bind_some], q2⟩
theorem b139_X {T : SX6} {lim L O s b0 b1 p0 p1 lv st : Nat} {x : SX3} {R : RS} {tk : SX3 → Int32 → Int32 → Int32 → Option SX3} {t : Nat → Nat → RS → RS} (hst : st < 3) (h : XR T lim x R) (hs : s < 2) (hb0 : b0 < 16384) (hp0 : p0 < 16384) (hb : b1 < 16384) (hp : p1 < 16384) (hlv : lv < 4) (htk0 : TK T lim tk t L O s b0 p0 lv) (htk : TK T lim tk t L O s b1 p1 lv)
    (ht : ∀ Q : RS, TP lim (nd b0 p0) L 0 Q (t (if s = 0 then b0 else p0) (if s = 0 then p0 else b0) Q)) (hc : CO lim ((if st = 0 then 0 else nd b0 p0) + (if st = 1 then 0 else nd b1 p1)) R) (hl : R.1 1 + 2 * L ≤ 200) (hd : R.1 2 + O ≤ 30) :
    ∃ q, fX3_split_b139 tk (nI s) (nI lv) (nI b0) (nI b1) (nI p0) (nI p1) (rsI st) x = some q ∧ XR T lim q (sp7 t s st b1 p1 (sp6 t s st b0 p0 R)) := by
  unfold fX3_split_b139 sp6
  by_cases e : st = 0
  · rw [if_pos ((rsI_0 hst).mpr e), if_pos e]
    refine b155_X hst h hs hb hp hlv htk (fun _ => ?_) (by omega) hd
    rw [if_pos e, if_neg (show ¬ st = 1 by omega)] at hc
    exact hc.le (by omega)
  · rw [if_neg (fun q => e ((rsI_0 hst).mp q)), if_neg e]
    rw [if_neg e] at hc
    have hT := gon_TP (R := R) ht
    obtain ⟨q, q1, q2⟩ := goOn_X h hs hb0 hp0 hlv htk0 (hc.le (by omega)) (by omega) hd
    rw [q1, Option.bind_some]
    refine b155_X hst q2 hs hb hp hlv htk (fun e1 => ?_) ?_ ?_
    · rw [if_neg e1] at hc
      exact hc.tp hT
    · have := hT.2.2.1
      omega
    · have := hT.2.2.2.2
      omega
theorem b104_X {T : SX6} {n : Nat → Nat} {f : Nat → Nat → Int32} {mem kd : Nat} {lim L O s b0 b1 p0 p1 lv st : Nat} {x : SX3} {R : RS} {tk : SX3 → Int32 → Int32 → Int32 → Option SX3} {t : Nat → Nat → RS → RS} (hT : XT T n f mem kd) (hst : st < 3) (h : XR T lim x R) (hs : s < 2) (hb0 : Sb n f s b0) (hp0 : Sb n f (1 - s) p0) (hb : Sb n f s b1) (hp : Sb n f (1 - s) p1) (hlv : lv < 4) (htk0 : TK T lim tk t L O s b0 p0 lv) (htk : TK T lim tk t L O s b1 p1 lv)
    (ht : ∀ Q : RS, TP lim (nd b0 p0) L 0 Q (t (if s = 0 then b0 else p0) (if s = 0 then p0 else b0) Q)) (hc : CO lim (nd b0 p0 + nd b1 p1) R) (hl : R.1 1 + 2 * L ≤ 200) (hd : R.1 2 + O ≤ 30) :
    ∃ q, fX3_split_b104 tk (nI s) (nI lv) (nI b0) (nI b1) (nI p0) (nI p1) (rsI st) x = some q ∧ XR T lim q (sp7 t s st b1 p1 (sp6 t s st b0 p0 (sp5 n f kd lim s st b0 b1 p0 p1 R))) := by
  unfold fX3_split_b104
  by_cases e2 : st = 2
  · rw [if_pos ((rsI_m hst).mpr e2)]
    have e : sp5 n f kd lim s st b0 b1 p0 p1 R = R := by
      unfold sp5
      rw [if_neg (by omega), if_neg (by omega)]
    rw [e]
    refine b139_X hst h hs hb0.1 hp0.1 hb.1 hp.1 hlv htk0 htk ht ?_ hl hd
    rw [if_neg (show ¬ st = 0 by omega), if_neg (show ¬ st = 1 by omega)]
    exact hc
  · rw [if_neg (fun q => e2 ((rsI_m hst).mp q))]
    by_cases e0 : st = 0
    · have e : sp5 n f kd lim s st b0 b1 p0 p1 R = ho n f kd lim s b0 p0 R := by
        unfold sp5
        rw [if_pos e0]
      have hT2 := TP.of (ho_Gr (n := n) (f := f) (kd := kd) (lim := lim) (s := s) (bm := b0) (pm := p0)) R
      obtain ⟨q, q1, q2⟩ := ho_X hT h hs hb0 hp0 (hc.le (by omega))
      rw [if_pos ((rsI_0 hst).mpr e0), e]
      unfold fX3_split_b124 fX3_split_b136
      rw [if_pos ((rsI_0 hst).mpr e0), q1, Option.bind_some]
      refine b139_X hst q2 hs hb0.1 hp0.1 hb.1 hp.1 hlv htk0 htk ht ?_ ?_ ?_
      · rw [if_pos e0, if_neg (show ¬ st = 1 by omega)]
        exact (hc.tp hT2).le (by omega)
      · have := hT2.2.2.1
        omega
      · have := hT2.2.2.2.2
        omega
    · have e1 : st = 1 := by omega
      have e : sp5 n f kd lim s st b0 b1 p0 p1 R = ho n f kd lim s b1 p1 R := by
        unfold sp5
        rw [if_neg e0, if_pos e1]
      have hT2 := TP.of (ho_Gr (n := n) (f := f) (kd := kd) (lim := lim) (s := s) (bm := b1) (pm := p1)) R
      obtain ⟨q, q1, q2⟩ := ho_X hT h hs hb hp (hc.le (by omega))
      rw [if_neg (fun q => e0 ((rsI_0 hst).mp q)), e]
      unfold fX3_split_b124 fX3_split_b136
      rw [if_neg (fun q => e0 ((rsI_0 hst).mp q)), q1, Option.bind_some]
      refine b139_X hst q2 hs hb0.1 hp0.1 hb.1 hp.1 hlv htk0 htk ht ?_ ?_ ?_
      · rw [if_neg e0, if_pos e1]
        have hc' : CO lim (nd b1 p1 + nd b0 p0) R := hc.le (by omega)
        exact (hc'.tp hT2).le (by omega)
      · have := hT2.2.2.1
        omega
      · have := hT2.2.2.2.2
        omega
theorem b90_X {T : SX6} {n : Nat → Nat} {f : Nat → Nat → Int32} {mem kd : Nat} {lim L O s b0 b1 p0 p1 lv st : Nat} {x : SX3} {R : RS} {tk : SX3 → Int32 → Int32 → Int32 → Option SX3} {t : Nat → Nat → RS → RS} (hT : XT T n f mem kd) (hst : st < 3) (h : XR T lim x R) (hs : s < 2) (hb0 : Sb n f s b0) (hp0 : Sb n f (1 - s) p0) (hb : Sb n f s b1) (hp : Sb n f (1 - s) p1) (hlv : lv < 4) (htk0 : TK T lim tk t L O s b0 p0 lv) (htk : TK T lim tk t L O s b1 p1 lv)
    (ht : ∀ Q : RS, TP lim (nd b0 p0) L 0 Q (t (if s = 0 then b0 else p0) (if s = 0 then p0 else b0) Q)) (hc : CO lim (nd b0 p0 + nd b1 p1) R) (hl : R.1 1 + 2 + 2 * L ≤ 200) (hd : R.1 2 + 2 + O ≤ 30) :
    ∃ q, fX3_split_b90 tk (nI s) (nI lv) (nI b0) (nI b1) (nI p0) (nI p1) (rsI st) x = some q ∧ XR T lim q (sp7 t s st b1 p1 (sp6 t s st b0 p0 (sp5 n f kd lim s st b0 b1 p0 p1 (sp4 st b1 p1 R)))) := by
  unfold fX3_split_b90 sp4
  by_cases e1 : st = 1
  · rw [if_pos ((rsI_1 hst).mpr e1), if_pos e1]
    exact b104_X hT hst h hs hb0 hp0 hb hp hlv htk0 htk ht hc (by omega) (by omega)
  · rw [if_neg (fun q => e1 ((rsI_1 hst).mp q)), if_neg e1]
    have hT2 := spl_TP (lim := lim) (b := b1) (p := p1) R
    obtain ⟨q, q1, q2⟩ := spl_X h hb.1 hp.1 (by omega) (by omega)
    rw [q1, Option.bind_some]
    have hc' : CO lim (0 + (nd b0 p0 + nd b1 p1)) R := hc.le (by omega)
    refine b104_X hT hst q2 hs hb0 hp0 hb hp hlv htk0 htk ht (hc'.tp hT2) ?_ ?_
    · have := hT2.2.2.1
      omega
    · have := hT2.2.2.2.2
      omega
theorem rsd_lt (m a b : Nat) : rsd m a b < 3 := by
  unfold rsd
  split
  · omega
  · split <;> omega
theorem b31_X {T : SX6} {n : Nat → Nat} {f : Nat → Nat → Int32} {mem kd : Nat} {lim L O s bm pm lv : Nat} {x : SX3} {R : RS} {tk : SX3 → Int32 → Int32 → Int32 → Option SX3} {t : Nat → Nat → RS → RS} (hT : XT T n f mem kd) (hm : mem < 2 ^ 31) (h : XR T lim x R) (hs : s < 2) (hb : Sb n f s bm) (hp : Sb n f (1 - s) pm) (hlv : lv < 4) (htk : ∀ w, TK T lim tk t L O s (hf f s bm lv w) (hf f (1 - s) pm lv w) lv)
    (ht : ∀ Q : RS, TP lim (nd (hf f s bm lv 0) (hf f (1 - s) pm lv 0)) L 0 Q (t (if s = 0 then (hf f s bm lv 0) else (hf f (1 - s) pm lv 0)) (if s = 0 then (hf f (1 - s) pm lv 0) else (hf f s bm lv 0)) Q)) (hc : CO lim (nd bm pm) R) (hl : R.1 1 + 4 + 2 * L ≤ 200) (hd : R.1 2 + 4 + O ≤ 30) :
    ∃ q, fX3_split_b31 tk (nI s) (nI bm) (nI pm) (nI lv) (nI (mkm (fun i => decide (f s i ≠ -1) && kB lv (f s i)) (n s))) (nI (mkm (fun i => decide (f (1 - s) i ≠ -1) && kB lv (f (1 - s) i)) (n (1 - s)))) x = some q ∧ XR T lim q (sp t n f kd lim mem s (hf f s bm lv 0) (hf f s bm lv 1) (hf f (1 - s) pm lv 0) (hf f (1 - s) pm lv 1) R) := by
  have hn := nd_split (f := f) (s := s) (lv := lv) hb.1 hp.1
  have hc2 := hc.le hn
  unfold fX3_split_b31 sp
  rw [hf_0 hb, hf_1 hb, hf_0 hp, hf_1 hp, bitCount_eq hf_lt, Option.bind_some, bitCount_eq hf_lt, Option.bind_some, resident_X hT h.1 hm (cnt_le _) (cnt_le _), Option.bind_some]
  generalize hst : rsd mem (cnt (hf f s bm lv 0)) (cnt (hf f s bm lv 1)) = st
  have hst3 : st < 3 := by rw [← hst]; exact rsd_lt _ _ _
  unfold sp3
  by_cases e0 : st = 0
  · rw [if_pos ((rsI_0 hst3).mpr e0), if_pos e0]
    exact b90_X hT hst3 h hs (Sb_hf hb lv 0) (Sb_hf hp lv 0) (Sb_hf hb lv 1) (Sb_hf hp lv 1) hlv (htk 0) (htk 1) ht hc2 (by omega) (by omega)
  · rw [if_neg (fun q => e0 ((rsI_0 hst3).mp q)), if_neg e0]
    have hT2 := spl_TP (lim := lim) (b := hf f s bm lv 0) (p := hf f (1 - s) pm lv 0) R
    obtain ⟨q, q1, q2⟩ := spl_X h (b := hf f s bm lv 0) (p := hf f (1 - s) pm lv 0) hf_lt hf_lt (by omega) (by omega)
    rw [q1, Option.bind_some]
    have hc' : CO lim (0 + (nd (hf f s bm lv 0) (hf f (1 - s) pm lv 0) + nd (hf f s bm lv 1) (hf f (1 - s) pm lv 1))) R := hc2.le (by omega)
    refine b90_X hT hst3 q2 hs (Sb_hf hb lv 0) (Sb_hf hp lv 0) (Sb_hf hb lv 1) (Sb_hf hp lv 1) hlv (htk 0) (htk 1) ht (hc'.tp hT2) ?_ ?_
    · have := hT2.2.2.1
      omega
    · have := hT2.2.2.2.2
      omega
theorem split_X {T : SX6} {n : Nat → Nat} {f : Nat → Nat → Int32} {mem kd : Nat} {lim L O s bm pm lv : Nat} {x : SX3} {R : RS} {tk : SX3 → Int32 → Int32 → Int32 → Option SX3} {t : Nat → Nat → RS → RS} (hT : XT T n f mem kd) (hm : mem < 2 ^ 31) (h : XR T lim x R) (hs : s < 2) (hb : Sb n f s bm) (hp : Sb n f (1 - s) pm) (hlv : lv < 4) (htk : ∀ w, TK T lim tk t L O s (hf f s bm lv w) (hf f (1 - s) pm lv w) lv)
    (ht : ∀ Q : RS, TP lim (nd (hf f s bm lv 0) (hf f (1 - s) pm lv 0)) L 0 Q (t (if s = 0 then (hf f s bm lv 0) else (hf f (1 - s) pm lv 0)) (if s = 0 then (hf f (1 - s) pm lv 0) else (hf f s bm lv 0)) Q)) (hc : CO lim (nd bm pm) R) (hl : R.1 1 + 4 + 2 * L ≤ 200) (hd : R.1 2 + 4 + O ≤ 30) :
    ∃ q, fX3_split x tk (nI s) (nI bm) (nI pm) (nI lv) = some q ∧ XR T lim q (sp t n f kd lim mem s (hf f s bm lv 0) (hf f s bm lv 1) (hf f (1 - s) pm lv 0) (hf f (1 - s) pm lv 1) R) := by
  have hx := h.1
  have e := b31_X hT hm h hs hb hp hlv htk ht hc hl hd
  unfold fX3_split fX3_split_b13
  rw [hx, os_X hs]
  rcases (show s = 0 ∨ s = 1 by omega) with rfl | rfl
  · rw [if_pos (show nI 0 = 0 from rfl), rowsWithBit_X hT.1, Option.bind_some, Option.bind_some, if_neg (show ¬ nI (1 - 0) = 0 by decide), rowsWithBit_X hT.2.1, Option.bind_some]
    exact e
  · rw [if_neg (show ¬ nI 1 = 0 by decide), rowsWithBit_X hT.2.1, Option.bind_some, Option.bind_some, if_pos (show nI (1 - 1) = 0 by decide), rowsWithBit_X hT.1, Option.bind_some]
    exact e
theorem b33_X {T : SX6} {n : Nat → Nat} {f : Nat → Nat → Int32} {mem kd : Nat} {lim L O s bm pm lv : Nat} {x : SX3} {R : RS} {tk : SX3 → Int32 → Int32 → Int32 → Option SX3} {t : Nat → Nat → RS → RS} (hT : XT T n f mem kd) (hm : mem < 2 ^ 31) (h : XR T lim x R) (hs : s < 2) (hb : Sb n f s bm) (hp : Sb n f (1 - s) pm) (hlv : lv ≤ 4)
    (hc : CO lim (nd bm pm) R) (hl2 : R.1 1 + 2 ≤ 200) (hd1 : R.1 2 + 1 ≤ 30)
    (hS : lv < 4 → (∀ w, TK T lim tk t L O s (hf f s bm lv w) (hf f (1 - s) pm lv w) lv) ∧ (∀ w, ∀ Q : RS, TP lim (nd (hf f s bm lv w) (hf f (1 - s) pm lv w)) L 0 Q (t (if s = 0 then (hf f s bm lv w) else (hf f (1 - s) pm lv w)) (if s = 0 then (hf f (1 - s) pm lv w) else (hf f s bm lv w)) Q)) ∧ R.1 1 + 10 + 2 * L ≤ 200 ∧ R.1 2 + 5 + O ≤ 30) :
    ∃ q, fX3_turnB_b33 tk (nI lv) (nI s) (nI bm) (nI pm) x = some q ∧ XR T lim q
     (if cnt bm ≤ mem then sh (R.1 2) (ho n f kd lim s bm pm (ent lv s 5 (opn 0 R))) else
      if lv = 4 ∨ oneK f s bm = true then sh (R.1 2) (bk n f kd lim mem s bm pm (ent lv s 6 (opn 1 R))) else
      sh (R.1 2) (sp t n f kd lim mem s (hf f s bm lv 0) (hf f s bm lv 1) (hf f (1 - s) pm lv 0) (hf f (1 - s) pm lv 1) (ent lv s 7 (opn 2 R)))) := by
  have hx := h.1
  have hop : x.2.2.1.2.2.2.2.2.2.1 = nI (R.1 2) := h.lr.2.2.1
  unfold fX3_turnB_b33
  rw [nature_X hT hx hm hs hb hlv, Option.bind_some, hop]
  have hw3 : ntr f mem s bm lv < 3 := by
    unfold ntr
    split
    · omega
    · split <;> omega
  obtain ⟨g, g1, g2⟩ := opn_X (w := nI (ntr f mem s bm lv)) h (by omega) (by omega)
  obtain ⟨y, y1, y2⟩ := ent_X (lv := lv) (s := s) (w := ntr f mem s bm lv) g2 hs hw3
  have tp1 : TP lim 0 1 1 R (ent lv s (5 + ntr f mem s bm lv) (opn (nI (ntr f mem s bm lv)) R)) := (opn_TP _ R).tr (ent_TP _)
  have hcc : CO lim (nd bm pm) (ent lv s (5 + ntr f mem s bm lv) (opn (nI (ntr f mem s bm lv)) R)) := (show CO lim (0 + nd bm pm) R from hc.le (by omega)).tp tp1
  rw [g1, Option.bind_some, show fX3_enterPart (x.1, x.2.1, g, x.2.2.2.1, x.2.2.2.2) (nI s) (nI (ntr f mem s bm lv)) (nI lv) = some y from y1, Option.bind_some]
  by_cases c1 : cnt bm ≤ mem
  · have en : ntr f mem s bm lv = 0 := if_pos c1
    rw [en] at y2 tp1 hcc ⊢
    rw [if_pos (show nI 0 = 0 from rfl), if_pos c1]
    obtain ⟨q, q1, q2⟩ := ho_X hT y2 hs hb hp hcc
    have tp2 := tp1.tr (TP.of (ho_Gr (n := n) (f := f) (kd := kd) (lim := lim) (s := s) (bm := bm) (pm := pm)) _)
    obtain ⟨z, z1, z2⟩ := sh_X (d := R.1 2) q2 tp2.2.2.2.1 (by have := tp2.2.2.1; have := tp2.2.2.2.2; omega) (by have := tp2.2.2.2.2; omega)
    rw [q1, Option.bind_some, z1, Option.bind_some]
    exact ⟨_, rfl, z2⟩
  · by_cases c2 : lv = 4 ∨ oneK f s bm = true
    · have en : ntr f mem s bm lv = 1 := by unfold ntr; rw [if_neg c1, if_pos c2]
      rw [en] at y2 tp1 hcc ⊢
      rw [if_neg (show ¬ nI 1 = 0 by decide), if_pos (show nI 1 = 1 from rfl), if_neg c1, if_pos c2]
      obtain ⟨q, q1, q2⟩ := bk_X hT hm y2 hs hb hp hcc
      have tp2 := tp1.tr (TP.of (bk_Gr (n := n) (f := f) (kd := kd) (lim := lim) (mem := mem) (s := s) (bm := bm) (pm := pm)) _)
      obtain ⟨z, z1, z2⟩ := sh_X (d := R.1 2) q2 tp2.2.2.2.1 (by have := tp2.2.2.1; have := tp2.2.2.2.2; omega) (by have := tp2.2.2.2.2; omega)
      rw [q1, Option.bind_some, z1, Option.bind_some]
      exact ⟨_, rfl, z2⟩
    · have en : ntr f mem s bm lv = 2 := by unfold ntr; rw [if_neg c1, if_neg c2]
      have hlv4 : lv < 4 := by omega
      obtain ⟨a1, a2, a3, a4⟩ := hS hlv4
      rw [en] at y2 tp1 hcc ⊢
      rw [if_neg (show ¬ nI 2 = 0 by decide), if_neg (show ¬ nI 2 = 1 by decide), if_neg c1, if_neg c2]
      obtain ⟨q, q1, q2⟩ := split_X hT hm y2 hs hb hp hlv4 a1 (a2 0) hcc (by have := tp1.2.2.1; omega) (by have := tp1.2.2.2.2; omega)
      have tp2 := tp1.tr (sp_TP (n := n) (f := f) (kd := kd) (mem := mem) (R := ent lv s (5 + 2) (opn (nI 2) R)) (a2 0) (a2 1))
      obtain ⟨z, z1, z2⟩ := sh_X (d := R.1 2) q2 tp2.2.2.2.1 (by have := tp2.2.2.1; have := tp2.2.2.2.2; omega) (by have := tp2.2.2.2.2; omega)
      rw [q1, Option.bind_some, z1, Option.bind_some]
      exact ⟨_, rfl, z2⟩
theorem turn_X {T : SX6} {n : Nat → Nat} {f : Nat → Nat → Int32} {mem kd lim : Nat} (hT : XT T n f mem kd) (hm : mem < 2 ^ 31) : ∀ (k lv l r : Nat) (x : SX3) (R : RS), lv ≤ 4 → 4 - lv < k → Sb n f 0 l → Sb n f 1 r → XR T lim x R → CO lim (nd l r) R → R.1 1 + tL (4 - lv) ≤ 200 → R.1 2 + oL (4 - lv) ≤ 30 →
    ∃ q, fX3_turn k x (nI l) (nI r) (nI lv) = some q ∧ XR T lim q (tn n f kd lim mem k lv l r R) := by
  intro k
  induction k with
  | zero => intro lv l r x R h1 h2; omega
  | succ k ih =>
    intro lv l r x R h1 h2 hl hr h hc hlog hop
    have t2 := tL_2 (4 - lv)
    have o1 := oL_1 (4 - lv)
    rw [tn_eq, fX3_turn]
    unfold fX3_turnB
    rw [build_X hl.1 hr.1, Option.bind_some]
    have hs := bsd_lt l r
    have hb : Sb n f (bsd l r) (bmm l r) := by
      unfold bmm
      rcases (show bsd l r = 0 ∨ bsd l r = 1 by omega) with e | e
      · rw [e, if_pos rfl]; exact hl
      · rw [e, if_neg (by decide)]; exact hr
    have hp : Sb n f (1 - bsd l r) (pmm l r) := by
      unfold pmm
      rcases (show bsd l r = 0 ∨ bsd l r = 1 by omega) with e | e
      · rw [e, if_pos rfl]; exact hr
      · rw [e, if_neg (by decide)]; exact hl
    have hc2 : CO lim (nd (bmm l r) (pmm l r)) R := by
      rw [show nd (bmm l r) (pmm l r) = nd l r from nd_if (bsd l r) l r]
      exact hc
    have key := b33_X (L := tL (4 - (lv + 1))) (O := oL (4 - (lv + 1))) (tk := fX3_turn k) (t := tn n f kd lim mem k (lv + 1)) hT hm h hs hb hp h1 hc2 (by omega) (by omega) (fun hlv => by
      have e4 : 4 - lv = (4 - (lv + 1)) + 1 := by omega
      rw [e4, tL] at hlog
      rw [e4, oL] at hop
      refine ⟨?_, ?_, by omega, by omega⟩
      · intro w y Q hy hcy hly hoy
        refine ih (lv + 1) _ _ y Q (by omega) (by omega) ?_ ?_ hy (by rw [nd_if]; exact hcy) hly hoy
        · rcases (show bsd l r = 0 ∨ bsd l r = 1 by omega) with e | e
          · rw [e, if_pos rfl]; rw [e] at hb; exact Sb_hf hb lv w
          · rw [e, if_neg (by decide)]; rw [e] at hp; exact Sb_hf hp lv w
        · rcases (show bsd l r = 0 ∨ bsd l r = 1 by omega) with e | e
          · rw [e, if_pos rfl]; rw [e] at hp; exact Sb_hf hp lv w
          · rw [e, if_neg (by decide)]; rw [e] at hb; exact Sb_hf hb lv w
      · intro w Q
        have q := tn_TP (n := n) (f := f) (kd := kd) (lim := lim) (mem := mem) k (lv + 1) (if bsd l r = 0 then hf f (bsd l r) (bmm l r) lv w else hf f (1 - bsd l r) (pmm l r) lv w) (if bsd l r = 0 then hf f (1 - bsd l r) (pmm l r) lv w else hf f (bsd l r) (bmm l r) lv w) Q (by omega) (by omega) (by split <;> exact hf_lt) (by split <;> exact hf_lt)
        rw [nd_if] at q
        exact q)
    obtain ⟨q, q1, q2⟩ := key
    refine ⟨q, ?_, q2⟩
    unfold fX3_turnB_b21
    rcases (show bsd l r = 0 ∨ bsd l r = 1 by omega) with e | e
    · unfold bmm pmm at q1
      rw [e, if_pos (show (0 : Nat) = 0 from rfl), if_pos (show (0 : Nat) = 0 from rfl)] at q1
      rw [e, if_pos (show nI 0 = 0 from rfl), if_pos (show nI 0 = 0 from rfl)]
      exact q1
    · unfold bmm pmm at q1
      rw [e, if_neg (show ¬ (1 : Nat) = 0 by decide), if_neg (show ¬ (1 : Nat) = 0 by decide)] at q1
      rw [e, if_neg (show ¬ nI 1 = 0 by decide), if_neg (show ¬ nI 1 = 0 by decide)]
      exact q1
