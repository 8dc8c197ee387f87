theorem splitNow_M {n : Nat → Nat} {f : Nat → Nat → Int32} {mem kd lim : Nat} {m0 m : SX8} {A : Nat → Nat → Int32} {R Q : RS} {s l r lv : Nat} (hT : MT n f mem kd m0) (hlim : lim < 2 ^ 31) (hm : mem < 2 ^ 31) (h : MR m0 A lim m R) (hs : s < 2) (hl : Sb n f 0 l) (hr : Sb n f 1 r) (hlv : lv < 4) (e36 : A 36 lv = nI l) (e37 : A 37 lv = nI r)
    (eQ : ∀ q, MR m0 A lim q (opn 2 (ad 7 1 R)) → MR m0 A lim q Q) (hQ1 : Q.1 1 = R.1 1 + 1) (hQ2 : Q.1 2 = R.1 2 + 1) (hN : NN Q) (hc : CO lim (nd l r) Q) (hlog : R.1 1 + 5 ≤ 512) (hop : R.1 2 + 5 ≤ 64) :
    ∃ q B c, fX8_splitNow m (nI lv) (nI s) = some q ∧ MR m0 B lim q (sp5 n f kd lim s (rsd mem (cnt (hB f s l r lv 0)) (cnt (hB f s l r lv 1))) (hB f s l r lv 0) (hB f s l r lv 1) (hP f s l r lv 0) (hP f s l r lv 1) (sp4 (rsd mem (cnt (hB f s l r lv 0)) (cnt (hB f s l r lv 1))) (hB f s l r lv 1) (hP f s l r lv 1) (sp3 (rsd mem (cnt (hB f s l r lv 0)) (cnt (hB f s l r lv 1))) (hB f s l r lv 0) (hP f s l r lv 0) Q))) ∧ Bl lv A B ∧ PR B lv l r 0 (rsM f mem s l r lv) c ∧
      (sp5 n f kd lim s (rsd mem (cnt (hB f s l r lv 0)) (cnt (hB f s l r lv 1))) (hB f s l r lv 0) (hB f s l r lv 1) (hP f s l r lv 0) (hP f s l r lv 1) (sp4 (rsd mem (cnt (hB f s l r lv 0)) (cnt (hB f s l r lv 1))) (hB f s l r lv 1) (hP f s l r lv 1) (sp3 (rsd mem (cnt (hB f s l r lv 0)) (cnt (hB f s l r lv 1))) (hB f s l r lv 0) (hP f s l r lv 0) Q))).1 2 = R.1 2 + 1 + c := by
  have hin : ¬ (nI lv < 0 ∨ 6 ≤ lv) := by
    have : ¬ (nI lv < 0 ∨ 6 ≤ (nI lv).toNatClampNeg) := nI_in (show lv < 6 by omega) (by omega)
    rw [nI_clamp (by omega)] at this
    exact this
  have hcl : (nI lv).toNatClampNeg = lv := nI_clamp (by omega)
  have hst := rsM_lt (f := f) (mem := mem) (s := s) (l := l) (r := r) (lv := lv)
  have y1 := ad_M h (j := 7) (by omega) (by omega) 1
  obtain ⟨q1, u1, u2⟩ := opn_M (w := 2) y1 (show R.1 1 < 512 by omega) (show R.1 2 < 64 by omega)
  have u3 := eQ q1 u2
  have p38 : q1.2.2 38 = A 38 := u3.2.1 38 (by omega) (by omega)
  have p39 : q1.2.2 39 = A 39 := u3.2.1 39 (by omega) (by omega)
  have p40 : q1.2.2 40 = A 40 := u3.2.1 40 (by omega) (by omega)
  have v1 := u3.prt (k := 38) (by omega) (by omega) (upd (q1.2.2 38) lv 0)
  have v2 := v1.prt (k := 40) (by omega) (by omega) (upd (q1.2.2 40) lv 0)
  have el : q1.2.2 36 lv = nI l := by rw [u3.2.1 36 (by omega) (by omega)]; exact e36
  have er : q1.2.2 37 lv = nI r := by rw [u3.2.1 37 (by omega) (by omega)]; exact e37
  have hres := resident_M (hT.fr v2.1) hm (show lv < 6 by omega) hs el er hl hr
  have v3 := v2.prt (k := 39) (by omega) (by omega) (upd (q1.2.2 39) lv (rsI (rsM f mem s l r lv)))
  have bl3 : Bl lv A (va_up (va_up (va_up A 38 (upd (q1.2.2 38) lv 0)) 40 (upd (q1.2.2 40) lv 0)) 39 (upd (q1.2.2 39) lv (rsI (rsM f mem s l r lv)))) := by
    rw [p38, p39, p40]
    exact (((Bl.rf lv A).up 38 0).up 40 0).up 39 (rsI (rsM f mem s l r lv))
  have pr3 : PR (va_up (va_up (va_up A 38 (upd (q1.2.2 38) lv 0)) 40 (upd (q1.2.2 40) lv 0)) 39 (upd (q1.2.2 39) lv (rsI (rsM f mem s l r lv)))) lv l r 0 (rsM f mem s l r lv) 0 := by
    refine ⟨e36, e37, ?_, ?_, ?_⟩
    · show upd (q1.2.2 38) lv 0 lv = nI 0
      unfold upd
      rw [if_pos rfl]
      rfl
    · show upd (q1.2.2 39) lv (rsI (rsM f mem s l r lv)) lv = rsI (rsM f mem s l r lv)
      unfold upd
      rw [if_pos rfl]
    · show upd (q1.2.2 40) lv 0 lv = nI 0
      unfold upd
      rw [if_pos rfl]
      rfl
  obtain ⟨m1, B1, c1, w1, w2, w3, w4, w5⟩ := b43_M (w := 0) (c := 0) (d := R.1 2 + 1) (k := 999) hT v3 hs hl hr hlv (by omega) hst pr3 hQ2 (by omega) (by omega)
  rw [sp3_eq hs] at w2 w5
  have tp3 : TP lim 0 2 2 Q (sp3 (rsd mem (cnt (hB f s l r lv 0)) (cnt (hB f s l r lv 1))) (hB f s l r lv 0) (hP f s l r lv 0) Q) := by
    unfold sp3
    split
    · exact TP.rf _ _ _ _
    · exact spl_TP Q
  obtain ⟨m2, B2, c2, x1, x2, x3, x4, x5⟩ := b43_M (w := 1) (c := c1) (d := R.1 2 + 1) (k := 998) hT w2 hs hl hr hlv (by omega) hst w4 w5 (by have := tp3.2.2.1; omega) (by have := tp3.2.2.2.2; omega)
  rw [sp4_eq hs] at x2 x5
  have tp4 : TP lim 0 2 2 (sp3 (rsd mem (cnt (hB f s l r lv 0)) (cnt (hB f s l r lv 1))) (hB f s l r lv 0) (hP f s l r lv 0) Q) (sp4 (rsd mem (cnt (hB f s l r lv 0)) (cnt (hB f s l r lv 1))) (hB f s l r lv 1) (hP f s l r lv 1) (sp3 (rsd mem (cnt (hB f s l r lv 0)) (cnt (hB f s l r lv 1))) (hB f s l r lv 0) (hP f s l r lv 0) Q)) := by
    unfold sp4
    split
    · exact TP.rf _ _ _ _
    · exact spl_TP _
  have hN3 : NN (sp4 (rsd mem (cnt (hB f s l r lv 0)) (cnt (hB f s l r lv 1))) (hB f s l r lv 1) (hP f s l r lv 1) (sp3 (rsd mem (cnt (hB f s l r lv 0)) (cnt (hB f s l r lv 1))) (hB f s l r lv 0) (hP f s l r lv 0) Q)) := by
    have a1 : NN (sp3 (rsd mem (cnt (hB f s l r lv 0)) (cnt (hB f s l r lv 1))) (hB f s l r lv 0) (hP f s l r lv 0) Q) := by
      unfold sp3
      split
      · exact hN
      · exact spl_NN hN
    unfold sp4
    split
    · exact a1
    · exact spl_NN a1
  have hc0 : CO lim (0 + nd l r) Q := hc.le (by omega)
  have hc3 := ((show CO lim (0 + 0 + nd l r) Q from hc.le (by omega)).tp (tp3.tr tp4))
  have hSb : Sb n f s (if s = 0 then l else r) := by
    rcases (show s = 0 ∨ s = 1 by omega) with rfl | rfl
    · exact hl
    · exact hr
  have hSp : Sb n f (1 - s) (if s = 0 then r else l) := by
    rcases (show s = 0 ∨ s = 1 by omega) with rfl | rfl
    · exact hr
    · exact hl
  have hnd := nd_split (f := f) (s := s) (lv := lv) hSb.1 hSp.1
  rw [nd_if] at hnd
  have hnw : ∀ w, w < 2 → nd (hB f s l r lv w) (hP f s l r lv w) ≤ nd l r := by
    intro w hw
    rcases (show w = 0 ∨ w = 1 by omega) with rfl | rfl
    · exact Nat.le_trans (Nat.le_add_right _ _) hnd
    · exact Nat.le_trans (Nat.le_add_left _ _) hnd
  generalize hZ : sp4 (rsd mem (cnt (hB f s l r lv 0)) (cnt (hB f s l r lv 1))) (hB f s l r lv 1) (hP f s l r lv 1) (sp3 (rsd mem (cnt (hB f s l r lv 0)) (cnt (hB f s l r lv 1))) (hB f s l r lv 0) (hP f s l r lv 0) Q) = Z at *
  rw [← sp5_eq hs hN3]
  have e39 : m2.2.2 39 lv = rsI (rsM f mem s l r lv) := by rw [x2.2.1 39 (by omega) (by omega)]; exact x4.2.2.2.1
  have el2 : m2.2.2 36 lv = nI l := by rw [x2.2.1 36 (by omega) (by omega)]; exact x4.1
  have er2 : m2.2.2 37 lv = nI r := by rw [x2.2.1 37 (by omega) (by omega)]; exact x4.2.1
  have eF : fX8_splitNow m (nI lv) (nI s) = fX8_splitNow_b43 998 (nI lv) (nI s) (nI 2) m2 := by
    unfold fX8_splitNow
    rw [show fX8_openOne (upd m.1 24 (m.1 24 + 1), m.2.1, m.2.2) 2 = some q1 from u1, Option.bind_some, hcl, if_neg hin, if_neg hin, show fX8_resident (q1.1, q1.2.1, va_up (va_up q1.2.2 38 (upd (q1.2.2 38) lv 0)) 40 (upd (q1.2.2 40) lv 0)) (nI lv) (nI s) = _ from hres, Option.bind_some, if_neg hin]
    exact w1.trans x1
  have e2 : fX8_splitNow_b43 998 (nI lv) (nI s) (nI 2) m2 = (if rsI (rsM f mem s l r lv) = -1 then some m2 else ((fX8_halfOf m2 (nI lv) (nI s) (rsI (rsM f mem s l r lv))).bind fun q4 => (fX8_halfOf m2 (nI lv) (1 - nI s) (rsI (rsM f mem s l r lv))).bind fun q5 => (fX8_holdNow m2 (nI s) q4 q5).bind fun q6 => some q6)) := by
    rw [fX8_splitNow_b43, if_pos (show (2 : Int32) ≤ nI 2 by decide), hcl, if_neg hin, e39]
  rw [eF, e2]
  by_cases ez : rsM f mem s l r lv = 2
  · rw [if_pos ((rsI_m hst).mpr ez), if_pos ez]
    exact ⟨m2, B2, c2, rfl, x2, (bl3.tr w3).tr x3, x4, x5⟩
  · have ei : rsI (rsM f mem s l r lv) = nI (rsM f mem s l r lv) := if_neg ez
    have hw2 : rsM f mem s l r lv < 2 := by omega
    obtain ⟨q, k1, k2⟩ := ho_M (s := s) (bm := hB f s l r lv (rsM f mem s l r lv)) (pm := hP f s l r lv (rsM f mem s l r lv)) hT hlim x2 hs (Sb_hf hSb lv _) (Sb_hf hSp lv _) (hc3.le (hnw _ hw2))
    rw [if_neg (fun e => ez ((rsI_m hst).mp e)), if_neg ez, ei, halfOf_M (hT.fr x2.1) (by omega) hs el2 er2 hl hr hw2, Option.bind_some, oth_M hs, half2_M (hT.fr x2.1) (by omega) hs el2 er2 hl hr hw2, Option.bind_some, k1, Option.bind_some]
    refine ⟨q, B2, c2, rfl, k2, (bl3.tr w3).tr x3, x4, ?_⟩
    have hg := (ho_Gr (n := n) (f := f) (kd := kd) (lim := lim) (s := s) (bm := hB f s l r lv (rsM f mem s l r lv)) (pm := hP f s l r lv (rsM f mem s l r lv)) Z).2.2.2.1
    rw [hg]
    exact x5
