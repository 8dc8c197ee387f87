/-- what was opened and shut is at R -/
def LR (g : SX0) (R : RS) : Prop :=
  g.2.2.2.1 = nI (R.1 1) ∧ (∀ i, i < R.1 1 → g.1 i = R.2.1 2 i ∧ g.2.1 i = R.2.1 3 i ∧ g.2.2.1 i = R.2.1 4 i) ∧
  g.2.2.2.2.2.2.1 = nI (R.1 2) ∧ (∀ i, i < R.1 2 → g.2.2.2.2.1 i = R.2.1 5 i ∧ g.2.2.2.2.2.1 i = R.2.1 6 i) ∧ g.2.2.2.2.2.2.2 = nI (R.1 3)
theorem XR.lr {T : SX6} {lim : Nat} {x : SX3} {R : RS} (h : XR T lim x R) : LR x.2.2.1 R := by
  obtain ⟨t0, o1, o2, o3, o4, l1, l2, d1, d2, d3, c1, s1, s2⟩ := h
  exact ⟨l1, l2, d1, d2, d3⟩
theorem XR.lw {T : SX6} {lim : Nat} {x : SX3} {R R' : RS} {g : SX0} (h : XR T lim x R) (hg : LR g R') (e0 : R'.1 0 = R.1 0) (e1 : R'.2.1 0 = R.2.1 0) (e2 : R'.2.1 1 = R.2.1 1) (e3 : R'.2.2 = R.2.2) (e4 : R'.1 4 = R.1 4) : XR T lim (x.1, x.2.1, g, x.2.2.2) R' := by
  obtain ⟨t0, o1, o2, o3, o4, l1, l2, d1, d2, d3, c1, s1, s2⟩ := h
  obtain ⟨m1, m2, m3, m4, m5⟩ := hg
  refine ⟨t0, by rw [e0]; exact o1, by rw [e0, e1, e2]; exact o2, o3, by rw [e3]; exact o4, m1, m2, m3, m4, m5, by rw [e3]; exact c1, by rw [e3, e4]; exact s1, by rw [e4]; exact s2⟩
theorem nt_L {g : SX0} {R : RS} {a b c : Int32} (h : LR g R) (hl : R.1 1 < 200) : ∃ g', fX0_add g a b c = some g' ∧ LR g' (nt a b c R) ∧ g'.2.2.2.2 = g.2.2.2.2 := by
  obtain ⟨l1, l2, d1, d2, d3⟩ := h
  unfold fX0_add
  rw [l1, if_neg (nI_pos (n := R.1 1) (by omega)), if_neg (cl 200 hl (by omega)), if_neg (nI_in hl (by omega)), if_neg (nI_in hl (by omega)), if_neg (nI_in hl (by omega)), nI_clamp (by omega)]
  refine ⟨_, rfl, ⟨nI_1 _, ?_, d1, d2, d3⟩, rfl⟩
  intro i hi
  exact ⟨upd_ag (fun i hi => (l2 i hi).1) a i hi, upd_ag (fun i hi => (l2 i hi).2.1) b i hi, upd_ag (fun i hi => (l2 i hi).2.2) c i hi⟩
theorem opn_L {g : SX0} {R : RS} {w : Int32} (h : LR g R) (hl : R.1 1 < 200) (hd : R.1 2 < 30) : ∃ g', fX0_open g w = some g' ∧ LR g' (opn w R) := by
  obtain ⟨l1, l2, d1, d2, d3⟩ := h
  have h2 : LR (g.1, g.2.1, g.2.2.1, g.2.2.2.1, upd g.2.2.2.2.1 (R.1 2) (nI (R.1 3)), upd g.2.2.2.2.2.1 (R.1 2) w, nI (R.1 2 + 1), nI (R.1 3)) (va_up R.1 2 (R.1 2 + 1), va_up (va_up R.2.1 5 (upd (R.2.1 5) (R.1 2) (nI (R.1 3)))) 6 (upd (R.2.1 6) (R.1 2) w), R.2.2) := by
    refine ⟨l1, l2, rfl, ?_, rfl⟩
    intro i hi
    exact ⟨upd_ag (fun i hi => (d2 i hi).1) _ i hi, upd_ag (fun i hi => (d2 i hi).2) _ i hi⟩
  obtain ⟨g', q1, q2, q3⟩ := nt_L (a := nI (R.1 3)) (b := 1) (c := w) h2 hl
  refine ⟨(g'.1, g'.2.1, g'.2.2.1, g'.2.2.2.1, g'.2.2.2.2.1, g'.2.2.2.2.2.1, g'.2.2.2.2.2.2.1, g'.2.2.2.2.2.2.2 + 1), ?_, ?_⟩
  · unfold fX0_open
    rw [d1, if_neg (nI_pos (n := R.1 2) (by omega)), if_neg (cl 30 hd (by omega)), if_neg (nI_in hd (by omega)), if_neg (nI_in hd (by omega)), nI_clamp (by omega), d3, nI1, q1, Option.bind_some]
  · obtain ⟨m1, m2, m3, m4, m5⟩ := q2
    refine ⟨m1, m2, m3, m4, ?_⟩
    show g'.2.2.2.2.2.2.2 + 1 = nI (R.1 3 + 1)
    rw [m5]
    exact nI_1 _
theorem opn_X {T : SX6} {lim : Nat} {x : SX3} {R : RS} {w : Int32} (h : XR T lim x R) (hl : R.1 1 < 200) (hd : R.1 2 < 30) : ∃ g', fX0_open x.2.2.1 w = some g' ∧ XR T lim (x.1, x.2.1, g', x.2.2.2) (opn w R) := by
  obtain ⟨g', q1, q2⟩ := opn_L (w := w) h.lr hl hd
  exact ⟨g', q1, h.lw q2 rfl rfl rfl rfl rfl⟩
theorem nI_m1 {d : Nat} (h : d < 1000) : nI d - 1 < nI d := by
  have e : (nI d - nI 1).toInt = (d : Int) - 1 := pk_sub_toInt (by omega) (by omega)
  have e2 : (nI d).toInt = (d : Int) := nI_toInt (by omega)
  refine Int32.lt_iff_toInt_lt.mpr ?_
  show (nI d - nI 1).toInt < (nI d).toInt
  rw [e, e2]
  omega
theorem shN_keep : ∀ (k : Nat) (R : RS), (shN k R).1 0 = R.1 0 ∧ (shN k R).1 3 = R.1 3 ∧ (shN k R).1 4 = R.1 4 ∧ (shN k R).2.1 0 = R.2.1 0 ∧ (shN k R).2.1 1 = R.2.1 1 ∧ (shN k R).2.1 5 = R.2.1 5 ∧ (shN k R).2.1 6 = R.2.1 6 ∧ (shN k R).2.2 = R.2.2 ∧ (shN k R).1 1 = R.1 1 + k ∧ (shN k R).1 2 = R.1 2 - k := by
  intro k
  induction k with
  | zero => intro R; exact ⟨rfl, rfl, rfl, rfl, rfl, rfl, rfl, rfl, rfl, rfl⟩
  | succ k ih =>
    intro R
    obtain ⟨a1, a2, a3, a4, a5, a6, a7, a8, a9, a10⟩ := ih (sh1 R)
    refine ⟨a1, a2, a3, a4, a5, a6, a7, a8, ?_, ?_⟩
    · show (shN k (sh1 R)).1 1 = _
      rw [a9]
      show R.1 1 + 1 + k = _
      omega
    · show (shN k (sh1 R)).1 2 = _
      rw [a10]
      show R.1 2 - 1 - k = _
      omega
theorem shut_L (d : Nat) : ∀ (k m : Nat) (g : SX0) (R : RS), LR g R → R.1 2 = d + k → R.1 1 + k ≤ 200 → R.1 2 ≤ 30 → k < m → ∃ g', fX0_shutDownTo_b7 m (nI d) (nI (d + k) - 1) g = some g' ∧ LR g' (shN k R) := by
  intro k
  induction k with
  | zero =>
    intro m g R h e1 e2 e3 hm
    obtain ⟨m, rfl⟩ : ∃ m', m = m' + 1 := ⟨m - 1, by omega⟩
    refine ⟨g, ?_, h⟩
    rw [fX0_shutDownTo_b7, if_pos (show nI (d + 0) - 1 < nI d from nI_m1 (d := d) (by omega))]
  | succ k ih =>
    intro m g R h e1 e2 e3 hm
    obtain ⟨m, rfl⟩ : ∃ m', m = m' + 1 := ⟨m - 1, by omega⟩
    obtain ⟨l1, l2, d1, d2, d3⟩ := h
    have e5 : nI (d + (k + 1)) - 1 = nI (d + k) := nI_pred (d + k)
    have hR1 : R.1 2 - 1 = d + k := by omega
    obtain ⟨g', q1, ⟨m1, m2, m3, m4, m5⟩, q3⟩ := nt_L (a := R.2.1 5 (R.1 2 - 1)) (b := 0) (c := R.2.1 6 (R.1 2 - 1)) (R := R) ⟨l1, l2, d1, d2, d3⟩ (by omega)
    have h2 : LR (g'.1, g'.2.1, g'.2.2.1, g'.2.2.2.1, g'.2.2.2.2.1, g'.2.2.2.2.2.1, nI (d + k), g'.2.2.2.2.2.2.2) (sh1 R) := by
      refine ⟨m1, m2, ?_, fun i hi => ?_, m5⟩
      · show nI (d + k) = nI (R.1 2 - 1)
        rw [hR1]
      · have hi2 : i < R.1 2 - 1 := hi
        exact m4 i (show i < R.1 2 by omega)
    obtain ⟨g2, r1, r2⟩ := ih m _ (sh1 R) h2 (show R.1 2 - 1 = d + k from hR1) (show R.1 1 + 1 + k ≤ 200 by omega) (show R.1 2 - 1 ≤ 30 by omega) (by omega)
    refine ⟨g2, ?_, r2⟩
    rw [fX0_shutDownTo_b7, e5, if_neg (nI_nlt (show d ≤ d + k by omega) (by omega)), if_neg (nI_pos (n := d + k) (by omega)), if_neg (cl 30 (by omega) (by omega)), if_neg (nI_in (by omega) (by omega)), if_neg (nI_in (by omega) (by omega)), nI_clamp (by omega), (d2 (d + k) (by omega)).1, (d2 (d + k) (by omega)).2, ← hR1, q1, Option.bind_some, hR1]
    rw [show nI (d + k) + (-1) = nI (d + k) - 1 from (Int32.sub_eq_add_neg _ _).symm]
    exact r1
theorem sh_X {T : SX6} {lim : Nat} {x : SX3} {R : RS} {d : Nat} (h : XR T lim x R) (hd : d ≤ R.1 2) (hl : R.1 1 + (R.1 2 - d) ≤ 200) (h30 : R.1 2 ≤ 30) : ∃ g', fX0_shutDownTo x.2.2.1 (nI d) = some g' ∧ XR T lim (x.1, x.2.1, g', x.2.2.2) (sh d R) := by
  have hL := h.lr
  obtain ⟨g', q1, q2⟩ := shut_L d (R.1 2 - d) 1000 x.2.2.1 R hL (by omega) hl h30 (by omega)
  obtain ⟨a1, a2, a3, a4, a5, a6, a7, a8, a9, a10⟩ := shN_keep (R.1 2 - d) R
  refine ⟨g', ?_, h.lw q2 a1 a4 a5 a8 a3⟩
  unfold fX0_shutDownTo
  rw [hL.2.2.1]
  rw [show d + (R.1 2 - d) = R.1 2 by omega] at q1
  exact q1
theorem lvl_X {T : SX6} {lim : Nat} {x : SX3} {R : RS} (h : XR T lim x R) (v : Nat) : XR T lim (x.1, x.2.1, x.2.2.1, upd x.2.2.2.1 4 (if x.2.2.2.1 4 < nI v then nI v else x.2.2.2.1 4), x.2.2.2.2) (lvl v R) := by
  obtain ⟨t0, o1, o2, o3, o4, l1, l2, d1, d2, d3, c1, s1, s2⟩ := h
  refine ⟨t0, o1, o2, o3, o4, l1, l2, d1, d2, d3, ?_, s1, s2⟩
  show ∀ i, 1 ≤ i → i ≤ 8 → upd x.2.2.2.1 4 _ i = upd R.2.2.1 4 _ i
  rw [c1 4 (by omega) (by omega)]
  exact lin_ag c1 4 _
theorem ent_X {T : SX6} {lim : Nat} {x : SX3} {R : RS} {s w lv : Nat} (h : XR T lim x R) (hs : s < 2) (hw : w < 3) : ∃ q, fX3_enterPart x (nI s) (nI w) (nI lv) = some q ∧ XR T lim q (ent lv s (5 + w) R) := by
  have e5 : (5 : Int32) + nI w = nI (5 + w) := nI_add 5 w
  have e4 : (4 : Int32).toNatClampNeg = 4 := by decide
  have e8 : (8 : Int32).toNatClampNeg = 8 := by decide
  have h1 := ad_X h (j := 5 + w) (by omega) (by omega) 1
  unfold fX3_enterPart ent
  rw [if_neg (nI_pos (by omega)), if_neg (show ¬ (2 : Int32) < nI w from nI_nlt (b := w) (a := 2) (by omega) (by omega)), e5, if_neg (nI_in (by omega) (by omega)), if_neg (nI_in (by omega) (by omega)), nI_clamp (by omega)]
  unfold fX3_enterPart_b21
  rcases (show s = 0 ∨ s = 1 by omega) with rfl | rfl
  · have h2 := ad_X h1 (j := 8) (by omega) (by omega) 1
    rw [if_pos (show nI 0 = 0 from rfl), if_pos rfl, e8]
    unfold fX3_enterPart_b36
    rw [e4]
    exact ⟨_, rfl, lvl_X h2 lv⟩
  · rw [if_neg (show ¬ nI 1 = 0 by decide), if_neg (by decide)]
    unfold fX3_enterPart_b36
    rw [e4]
    exact ⟨_, rfl, lvl_X h1 lv⟩
theorem oneK_iff {f : Nat → Nat → Int32} {s a : Nat} (ha : a < 16384) : oneK f s a = true ↔ ∀ k, a.testBit k = true → f s k = f s (tz a) := by
  unfold oneK
  rw [List.all_eq_true]
  constructor
  · intro h k hk
    have := h k (List.mem_range.mpr (bit_lt ha hk))
    rw [hk] at this
    simpa using this
  · intro h k _
    cases q : a.testBit k
    · simp
    · simp [h k q]
theorem haveOneKey_X {z : SX5} {n : Nat → Nat} {f : Nat → Nat → Int32} {s a : Nat} (h : SdR z (n s) (f s)) (ha : Sb n f s a) (h0 : a ≠ 0) : fX5_haveOneKey z (nI a) = some (if oneK f s a = true then 1 else 0) := by
  obtain ⟨t1, t2, -⟩ := tz_ok ha.1 h0
  have ht := ha.2.1 _ t2
  unfold fX5_haveOneKey
  rw [ntz_eq ha.1 h0, Option.bind_some, has_X h ht, Option.bind_some, if_neg (by decide), keyAt_X h ht, Option.bind_some, rowsOfKey_X h, Option.bind_some, fa_andn _ _ (by have := ha.1; omega)]
  have e : nI (sdf a (mkm (fun i => decide (f s i = f s (tz a))) (n s))) = 0 ↔ oneK f s a = true := by
    rw [nI_z (by have := sdf_lt (b := mkm (fun i => decide (f s i = f s (tz a))) (n s)) ha.1; omega), oneK_iff ha.1]
    constructor
    · intro z k hk
      have q := sdf_bit a (mkm (fun i => decide (f s i = f s (tz a))) (n s)) k
      rw [z, Nat.zero_testBit, hk, mkm_bit] at q
      have hn := ha.2.1 k hk
      simpa [hn] using q.symm
    · intro z
      apply Nat.eq_of_testBit_eq
      intro k
      rw [sdf_bit, Nat.zero_testBit, mkm_bit]
      cases q : a.testBit k
      · rfl
      · have hn := ha.2.1 k q
        simp [hn, z k q]
  by_cases c : oneK f s a = true
  · rw [if_pos (e.mpr c), if_pos c]
  · rw [if_neg (fun q => c (e.mp q)), if_neg c]
theorem cnt_ne {a m : Nat} (h : m < cnt a) : a ≠ 0 := by
  intro e
  rw [e] at h
  have : cnt 0 = 0 := cntB_zero 16 (fun k _ => Nat.zero_testBit k)
  omega
/-- which way a part goes -/
def ntr (f : Nat → Nat → Int32) (mem s bm lv : Nat) : Nat := if cnt bm ≤ mem then 0 else if lv = 4 ∨ oneK f s bm = true then 1 else 2
theorem nature_X {T : SX6} {n : Nat → Nat} {f : Nat → Nat → Int32} {mem kd : Nat} {x : SX3} {s bm lv : Nat} (hT : XT T n f mem kd) (hx : x.1 = T) (hm : mem < 2 ^ 31) (hs : s < 2) (hb : Sb n f s bm) (hlv : lv ≤ 4) : fX3_natureOf x (nI s) (nI bm) (nI lv) = some (nI (ntr f mem s bm lv)) := by
  have hc := cnt_le bm
  unfold fX3_natureOf ntr
  rw [bitCount_eq hb.1, Option.bind_some, hx, hT.2.2.1]
  by_cases c : cnt bm ≤ mem
  · rw [if_neg (nI_nlt c (by omega)), if_pos c]
    rfl
  · rw [if_pos (nI_lt (by omega) (by omega)), if_neg c]
    by_cases c4 : lv = 4
    · rw [if_pos (show (4 : Int32) ≤ nI lv by rw [c4]; decide), if_pos (Or.inl c4)]
      rfl
    · have h0 : bm ≠ 0 := cnt_ne (show mem < cnt bm by omega)
      rw [if_neg (cl 4 (by omega) (by omega))]
      rcases (show s = 0 ∨ s = 1 by omega) with rfl | rfl
      · rw [if_pos (show nI 0 = 0 from rfl), haveOneKey_X hT.1 hb h0, Option.bind_some]
        by_cases o : oneK f 0 bm = true
        · rw [if_pos o, if_neg (by decide), if_pos (Or.inr o)]
          rfl
        · rw [if_neg o, if_pos rfl, if_neg (by rintro (q | q); exact c4 q; exact o q)]
          rfl
      · rw [if_neg (show ¬ nI 1 = 0 by decide), haveOneKey_X hT.2.1 hb h0, Option.bind_some]
        by_cases o : oneK f 1 bm = true
        · rw [if_pos o, if_neg (by decide), if_pos (Or.inr o)]
          rfl
        · rw [if_neg o, if_pos rfl, if_neg (by rintro (q | q); exact c4 q; exact o q)]
          rfl
/-- the half that stays, as the class tells it -/
def rsI (r : Nat) : Int32 := if r = 2 then -1 else nI r
theorem resident_X {T : SX6} {n : Nat → Nat} {f : Nat → Nat → Int32} {mem kd : Nat} {x : SX3} {c0 c1 : Nat} (hT : XT T n f mem kd) (hx : x.1 = T) (hm : mem < 2 ^ 31) (h0 : c0 ≤ 16) (h1 : c1 ≤ 16) : fX3_residentHalf x (nI c0) (nI c1) = some (rsI (rsd mem c0 c1)) := by
  have e1 : (1 : Int32) ≠ 0 := by decide
  unfold fX3_residentHalf rsd
  rw [hx, hT.2.2.1]
  by_cases a : c0 ≤ mem
  · rw [if_neg (nI_nlt a (by omega))]
    unfold fX3_residentHalf_b16
    rw [hx, hT.2.2.1]
    by_cases b : c1 ≤ mem
    · rw [if_neg (nI_nlt b (by omega))]
      unfold fX3_residentHalf_b33
      rw [if_neg e1, if_neg e1]
      by_cases c : c1 ≤ c0
      · rw [if_pos (nI_le c (by omega)), if_pos ⟨a, Or.inr c⟩]
        rfl
      · rw [if_neg (nI_ge (by omega) (by omega)), if_neg (by omega), if_pos b]
        rfl
    · rw [if_pos (nI_lt (by omega) (by omega))]
      unfold fX3_residentHalf_b33 fX3_residentHalf_b55
      rw [if_neg e1, if_pos rfl, if_neg e1, if_pos ⟨a, Or.inl (by omega)⟩]
      rfl
  · rw [if_pos (nI_lt (by omega) (by omega))]
    unfold fX3_residentHalf_b16
    rw [hx, hT.2.2.1, if_neg (show ¬ (c0 ≤ mem ∧ (mem < c1 ∨ c1 ≤ c0)) by omega)]
    by_cases b : c1 ≤ mem
    · rw [if_neg (nI_nlt b (by omega))]
      unfold fX3_residentHalf_b33 fX3_residentHalf_b55
      rw [if_pos rfl, if_pos rfl, if_neg e1, if_pos b]
      rfl
    · rw [if_pos (nI_lt (by omega) (by omega))]
      unfold fX3_residentHalf_b33 fX3_residentHalf_b55
      rw [if_pos rfl, if_pos rfl, if_pos rfl, if_neg b]
      rfl
theorem spl_X {T : SX6} {lim : Nat} {x : SX3} {R : RS} {b p : Nat} (h : XR T lim x R) (hb : b < 16384) (hp : p < 16384) (hl : R.1 1 + 2 ≤ 200) (hd : R.1 2 + 2 ≤ 30) : ∃ q, fX3_spill x (nI b) (nI p) = some q ∧ XR T lim q (spl b p R) := by
  unfold fX3_spill spl
  have hbp : b ||| p < 16384 := Nat.or_lt_two_pow (n := 14) hb hp
  rw [fa_or]
  by_cases c : b ||| p = 0
  · rw [if_pos ((nI_z (by omega)).mpr c), if_pos c]
    exact ⟨x, rfl, h⟩
  · rw [if_neg (fun e => c ((nI_z (by omega)).mp e)), if_neg c]
    obtain ⟨g1, q1, q2⟩ := opn_X (w := 3) h (by omega) (by omega)
    obtain ⟨g2, r1, r2⟩ := opn_X (w := 3) q2 (show R.1 1 + 1 < 200 by omega) (show R.1 2 + 1 < 30 by omega)
    have r3 := ad_X r2 (j := 1) (by omega) (by omega) (nI (cnt b) + nI (cnt p))
    rw [q1, Option.bind_some, show fX0_open g1 3 = some g2 from r1, Option.bind_some, bitCount_eq hb, Option.bind_some, bitCount_eq hp, Option.bind_some, show (1 : Int32).toNatClampNeg = 1 from by decide]
    exact ⟨_, rfl, r3⟩
