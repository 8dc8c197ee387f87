theorem GrfoL {lim : Nat} {g : Nat → RS → RS} {w : Nat → Nat} : ∀ m, (∀ k, k < m → Gr lim (w k) (g k)) → Gr lim (fb_sum w m) (fo g m) := by
  intro m
  induction m with
  | zero => intro _; exact Gr.rf _
  | succ m ih =>
    intro h R
    exact (Gr.cp (ih (fun k hk => h k (by omega))) (h m (by omega))) R
theorem fo_CO {lim c d bm : Nat} {R : RS} {g : Nat → RS → RS} (hg : ∀ k, k < 14 → Gr lim (if bm.testBit k then c else 0) (g k)) (hc : CO lim (cnt bm * c + d) R) {j : Nat} (hj : j < 14) (hb : bm.testBit j = true) : CO lim (c + d) (fo g j R) := by
  have h1 : Gr lim (cntB bm j * c) (fo g j) := by
    rw [← sum_bit]
    exact GrfoL j (fun k hk => hg k (by omega))
  refine CO.af (a := cntB bm j * c) (CO.le hc ?_) h1
  have h2 : cntB bm (j + 1) ≤ cnt bm := cntB_mono bm (by omega)
  rw [cntB, if_pos hb] at h2
  have h3 : (cntB bm j + 1) * c ≤ cnt bm * c := Nat.mul_le_mul_right c h2
  rw [Nat.add_mul, Nat.one_mul] at h3
  omega
theorem fo_CO14 {lim c d bm : Nat} {R : RS} {g : Nat → RS → RS} (hg : ∀ k, k < 14 → Gr lim (if bm.testBit k then c else 0) (g k)) (hc : CO lim (cnt bm * c + d) R) {j : Nat} (hj : j ≤ 14) : CO lim d (fo g j R) := by
  have h1 : Gr lim (cntB bm j * c) (fo g j) := by
    rw [← sum_bit]
    exact GrfoL j (fun k hk => hg k (by omega))
  refine CO.af (a := cntB bm j * c) (CO.le hc ?_) h1
  have h3 : cntB bm j * c ≤ cnt bm * c := Nat.mul_le_mul_right c (cntB_mono bm (by omega))
  omega
/-- a step of meetAll -/
abbrev maG (f : Nat → Nat → Int32) (kd lim s pr bm : Nat) : Nat → RS → RS := fun k R => if bm.testBit k && decide (f s k = f (1 - s) pr) then (if s = 0 then mt kd lim k pr R else mt kd lim pr k R) else R
theorem maG_Gr {f : Nat → Nat → Int32} {kd lim s pr bm : Nat} (hp : pr < 14) : ∀ k, k < 14 → Gr lim (if bm.testBit k then 1 else 0) (maG f kd lim s pr bm k) := by
  intro k hk
  by_cases hb : bm.testBit k = true
  · simp only [maG, hb, if_true, Bool.true_and]
    exact Gr.ite (Gr.ite (mt_Gr hk) (mt_Gr hp)) (Gr.rf 1)
  · have hb : bm.testBit k = false := by simpa using hb
    intro R
    have e : maG f kd lim s pr bm k R = R := if_neg (by rw [hb, Bool.false_and]; decide)
    rw [e, hb]
    exact Gr.rf 0 R
theorem maG_off {f : Nat → Nat → Int32} {kd lim s pr bm : Nat} (k : Nat) : Off (maG f kd lim s pr bm k) := fun R hR => by
  show (if _ then _ else R) = R
  split
  · split <;> exact mt_off R hR
  · rfl
theorem and_lt {a b : Nat} (h : a < 16384) : a &&& b < 16384 := Nat.lt_of_le_of_lt Nat.and_le_left h
theorem ma_X {T : SX6} {n : Nat → Nat} {f : Nat → Nat → Int32} {mem kd lim : Nat} {x : SX3} {R : RS} {s pr bm : Nat} (hT : XT T n f mem kd) (h : XR T lim x R) (hs : s < 2) (hp : pr < n (1 - s)) (hkey : f (1 - s) pr ≠ -1) (hb : ∀ k, bm.testBit k = true → k < n s) (hbm : bm < 16384) (hc : CO lim (cnt bm) R) :
    ∃ q, fX3_meetAll x (nI s) (nI bm) (nI pr) = some q ∧ XR T lim q (ma f kd lim s pr bm R) := by
  have e1 : 1 - (1 - s) = s := by omega
  have hn1 : n (1 - s) ≤ 14 := hT.le (by omega)
  have hns : n s ≤ 14 := hT.le hs
  obtain ⟨M, hM⟩ : ∃ M, M = bm &&& ptn n f (1 - s) pr := ⟨_, rfl⟩
  have hMl : M < 16384 := by rw [hM]; exact and_lt hbm
  have hMb : ∀ k, M.testBit k = (bm.testBit k && decide (f s k = f (1 - s) pr)) := by
    intro k
    rw [hM, Nat.testBit_and, ptn_bit hkey, e1]
    by_cases c : bm.testBit k = true
    · simp [c, hb k c]
    · simp [c]
  have hF : fX3_meetAll x (nI s) (nI bm) (nI pr) = fX3_meetAll_b19 1000 (nI s) (nI pr) (nI M) (nI 0) x := by
    unfold fX3_meetAll
    rw [os_X hs, Option.bind_some, h.1, partners_X hT (by omega) hp, Option.bind_some, fa_and, ← hM]
    rfl
  rw [hF]
  refine upE (fun m j y => fX3_meetAll_b19 m (nI s) (nI pr) (nI M) (nI j) y) (fun j y => XR T lim y (fo (maG f kd lim s pr bm) j R)) (fun q => XR T lim q (ma f kd lim s pr bm R)) 14 ?_ ?_ 1000 0 x (by omega) (by omega) h
  · intro m j y hj hI
    have hI0 := hI
    obtain ⟨t0, o1, o2, o3, o4, -⟩ := hI
    show (∃ s', XR T lim s' (fo (maG f kd lim s pr bm) (j + 1) R) ∧ fX3_meetAll_b19 (m + 1) (nI s) (nI pr) (nI M) (nI j) y = fX3_meetAll_b19 m (nI s) (nI pr) (nI M) (nI (j + 1)) s') ∨ ∃ r, fX3_meetAll_b19 (m + 1) (nI s) (nI pr) (nI M) (nI j) y = some r ∧ XR T lim r (ma f kd lim s pr bm R)
    by_cases off : (fo (maG f kd lim s pr bm) j R).2.2.2 = true
    · refine Or.inr ⟨y, ?_, ?_⟩
      · rw [fX3_meetAll_b19, if_neg (cl 14 (by omega) (by omega)), o4, if_pos off, if_neg (by decide)]
      · have e : ma f kd lim s pr bm R = fo (maG f kd lim s pr bm) j R := fo_more (fun k => maG_off k _ off) 14 (by omega)
        rw [e]
        exact hI0
    · have off : (fo (maG f kd lim s pr bm) j R).2.2.2 = false := by simpa using off
      have e4 : y.2.1.2.2.2.2 = 0 := by rw [o4, if_neg (by rw [off]; decide)]
      by_cases b : M.testBit j = true
      · have b2 := hMb j
        rw [b] at b2
        have bb : bm.testBit j = true := by
          cases q : bm.testBit j
          · rw [q] at b2; simp at b2
          · rfl
        have hC1 : CO lim 1 (fo (maG f kd lim s pr bm) j R) := fo_CO (d := 0) (maG_Gr (by omega)) (by simpa using hc) hj bb
        have hg : ∀ Q : RS, maG f kd lim s pr bm j Q = (if s = 0 then mt kd lim j pr Q else mt kd lim pr j Q) := fun Q => if_pos b2.symm
        rcases (show s = 0 ∨ s = 1 by omega) with rfl | rfl
        · obtain ⟨q, q1, q2⟩ := mt_X (l := j) (r := pr) hI0 hT.2.2.2.1 hT.2.2.2.2 hj hC1 off
          refine Or.inl ⟨q, ?_, ?_⟩
          · rw [fo, hg, if_pos rfl]
            exact q2
          · rw [fX3_meetAll_b19, if_neg (cl 14 (by omega) (by omega)), if_pos e4, isIn_X hMl (by omega), Option.bind_some, b, if_neg (by decide), if_pos (show nI 0 = 0 from rfl), if_pos (show nI 0 = 0 from rfl), q1, Option.bind_some, nI1]
        · obtain ⟨q, q1, q2⟩ := mt_X (l := pr) (r := j) hI0 hT.2.2.2.1 hT.2.2.2.2 (by omega) hC1 off
          refine Or.inl ⟨q, ?_, ?_⟩
          · rw [fo, hg, if_neg (by decide)]
            exact q2
          · rw [fX3_meetAll_b19, if_neg (cl 14 (by omega) (by omega)), if_pos e4, isIn_X hMl (by omega), Option.bind_some, b, if_neg (by decide), if_neg (by decide), if_neg (by decide), q1, Option.bind_some, nI1]
      · have b : M.testBit j = false := by simpa using b
        refine Or.inl ⟨y, ?_, ?_⟩
        · rw [fo]
          have hg : maG f kd lim s pr bm j (fo (maG f kd lim s pr bm) j R) = fo (maG f kd lim s pr bm) j R := if_neg (by rw [← hMb j, b]; decide)
          rw [hg]
          exact hI0
        · rw [fX3_meetAll_b19, if_neg (cl 14 (by omega) (by omega)), if_pos e4, isIn_X hMl (by omega), Option.bind_some, b, if_pos (by decide), nI1]
  · intro m y hI
    refine ⟨y, ?_, hI⟩
    show fX3_meetAll_b19 (m + 1) (nI s) (nI pr) (nI M) (nI 14) y = some y
    rw [fX3_meetAll_b19, if_pos (show (14 : Int32) ≤ nI 14 by decide)]
