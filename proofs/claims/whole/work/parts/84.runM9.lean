/-- a half that does not go on -/
def skp (f : Nat → Nat → Int32) (l r lv st w : Nat) : Prop := w = st ∨ rwH f l r lv w = 0
theorem b7_M {n : Nat → Nat} {f : Nat → Nat → Int32} {mem kd : Nat} {m : SX8} {l r lv st : Nat} (hM : MT n f mem kd m) (hl : Sb n f 0 l) (hr : Sb n f 1 r) (hlv : lv < 4) (hst : st < 3) (el : m.2.2 36 lv = nI l) (er : m.2.2 37 lv = nI r) (e39 : m.2.2 39 lv = rsI st) :
    ∀ k x, x ≤ 2 → 2 - x < k → ∃ y, x ≤ y ∧ y ≤ 2 ∧ (∀ w, x ≤ w → w < y → skp f l r lv st w) ∧ (y < 2 → ¬ skp f l r lv st y) ∧ fX8_nextHalf_b7 k (nI lv) (nI x) m = fX8_nextHalf_b37 (nI lv) (nI y) m := by
  have hin : ¬ (nI lv < 0 ∨ 6 ≤ (nI lv).toNatClampNeg) := nI_in (show lv < 6 by omega) (by omega)
  have hcl : (nI lv).toNatClampNeg = lv := nI_clamp (by omega)
  intro k
  induction k with
  | zero => intro x h1 h2; omega
  | succ k ih =>
    intro x h1 h2
    by_cases x2 : x = 2
    · refine ⟨2, by omega, by omega, fun w a b => by omega, fun z => by omega, ?_⟩
      rw [fX8_nextHalf_b7, x2, if_pos (show (2 : Int32) ≤ nI 2 by decide)]
    · have hiff : nI x = rsI st ↔ x = st := by
        rcases (show st = 0 ∨ st = 1 ∨ st = 2 by omega) with rfl | rfl | rfl <;> rcases (show x = 0 ∨ x = 1 by omega) with rfl | rfl <;> decide
      have c0 := cnt_le (hf f 0 l lv x)
      have c1 := cnt_le (hf f 1 r lv x)
      have hz : rwH f l r lv x < 2 ^ 31 := by
        show cnt (hf f 0 l lv x) + cnt (hf f 1 r lv x) < 2 ^ 31
        omega
      have e0 : fX8_nextHalf_b7 (k + 1) (nI lv) (nI x) m = (if nI x = rsI st then fX8_nextHalf_b7 k (nI lv) (nI (x + 1)) m else (if nI (rwH f l r lv x) = 0 then fX8_nextHalf_b7 k (nI lv) (nI (x + 1)) m else fX8_nextHalf_b37 (nI lv) (nI x) m)) := by
        rw [fX8_nextHalf_b7, if_neg (cl 2 (by omega) (by omega)), if_neg hin, hcl, e39, rowsOfHalf_M hM (by omega) el er hl hr (by omega), Option.bind_some, nI1]
      rw [e0]
      have go : skp f l r lv st x → ∃ y, x ≤ y ∧ y ≤ 2 ∧ (∀ w, x ≤ w → w < y → skp f l r lv st w) ∧ (y < 2 → ¬ skp f l r lv st y) ∧ fX8_nextHalf_b7 k (nI lv) (nI (x + 1)) m = fX8_nextHalf_b37 (nI lv) (nI y) m := by
        intro hx
        obtain ⟨y, y1, y2, y3, y4, y5⟩ := ih (x + 1) (by omega) (by omega)
        refine ⟨y, by omega, y2, fun w a b => ?_, y4, y5⟩
        rcases Nat.lt_or_ge x w with q | q
        · exact y3 w q b
        · rw [show w = x by omega]
          exact hx
      by_cases a : x = st
      · rw [if_pos (hiff.mpr a)]
        exact go (Or.inl a)
      · rw [if_neg (fun q => a (hiff.mp q))]
        by_cases b : rwH f l r lv x = 0
        · rw [if_pos ((nI_z hz).mpr b)]
          exact go (Or.inr b)
        · rw [if_neg (fun q => b ((nI_z hz).mp q))]
          exact ⟨x, Nat.le_refl x, h1, fun w p q => by omega, fun _ => by rintro (q | q); exact a q; exact b q, rfl⟩
theorem nextHalf_M {n : Nat → Nat} {f : Nat → Nat → Int32} {mem kd lim : Nat} {m0 m : SX8} {A : Nat → Nat → Int32} {Q : RS} {l r lv nx st c : Nat} (hT : MT n f mem kd m0) (h : MR m0 A lim m Q) (hl : Sb n f 0 l) (hr : Sb n f 1 r) (hlv : lv < 4) (hPR : PR A lv l r nx st c) (hnx : nx ≤ 2) (hst : st < 3) :
    ∃ y m' A', nx ≤ y ∧ y ≤ 2 ∧ (∀ w, nx ≤ w → w < y → skp f l r lv st w) ∧ (y < 2 → ¬ skp f l r lv st y) ∧ fX8_nextHalf m (nI lv) = some (if y = 2 then -1 else nI y, m') ∧ MR m0 A' lim m' Q ∧ PR A' lv l r (y + 1) st c ∧ Bl lv A A' := by
  have hin : ¬ (nI lv < 0 ∨ 6 ≤ (nI lv).toNatClampNeg) := nI_in (show lv < 6 by omega) (by omega)
  have hcl : (nI lv).toNatClampNeg = lv := nI_clamp (by omega)
  obtain ⟨a1, a2, a3, a4, a5⟩ := hPR
  have p := h.2.1
  have el : m.2.2 36 lv = nI l := by rw [p 36 (by omega) (by omega)]; exact a1
  have er : m.2.2 37 lv = nI r := by rw [p 37 (by omega) (by omega)]; exact a2
  have e38 : m.2.2 38 lv = nI nx := by rw [p 38 (by omega) (by omega)]; exact a3
  have e39 : m.2.2 39 lv = rsI st := by rw [p 39 (by omega) (by omega)]; exact a4
  obtain ⟨y, y1, y2, y3, y4, y5⟩ := b7_M (hT.fr h.1) hl hr hlv hst el er e39 1000 nx hnx (by omega)
  have h2 := h.prt (k := 38) (by omega) (by omega) (upd (m.2.2 38) lv (nI (y + 1)))
  refine ⟨y, (m.1, m.2.1, va_up m.2.2 38 (upd (m.2.2 38) lv (nI (y + 1)))), _, y1, y2, y3, y4, ?_, h2, ⟨a1, a2, ?_, a4, a5⟩, ?_⟩
  · unfold fX8_nextHalf
    rw [if_neg hin, hcl, e38, y5]
    unfold fX8_nextHalf_b37
    rw [if_neg hin, hcl, nI1]
    by_cases e : y = 2
    · rw [if_pos e, if_pos (show (2 : Int32) ≤ nI y by rw [e]; decide)]
    · rw [if_neg e, if_neg (cl 2 (by omega) (by omega))]
  · show upd (m.2.2 38) lv (nI (y + 1)) lv = nI (y + 1)
    unfold upd
    rw [if_pos rfl]
  · rw [p 38 (by omega) (by omega)]
    exact (Bl.rf lv A).up 38 _
theorem shutPart_M {m0 : SX8} {A : Nat → Nat → Int32} {lim lv c : Nat} (hlv : lv < 4) (hA : A 40 lv = nI c) (hc : c ≤ 60) : ∀ (j k x : Nat) (m : SX8) (Q : RS), x + j = c → j < k → MR m0 A lim m Q → j + 1 ≤ Q.1 2 → Q.1 2 ≤ 64 → Q.1 1 + (j + 1) ≤ 512 → ∃ q, fX8_shutPart_b2 k (nI lv) (nI x) m = some q ∧ MR m0 A lim q (shN (j + 1) Q) := by
  have hin : ¬ (nI lv < 0 ∨ 6 ≤ (nI lv).toNatClampNeg) := nI_in (show lv < 6 by omega) (by omega)
  have hcl : (nI lv).toNatClampNeg = lv := nI_clamp (by omega)
  intro j
  induction j with
  | zero =>
    intro k x m Q hx hk h h1 h2 h3
    obtain ⟨k, rfl⟩ : ∃ k', k = k' + 1 := ⟨k - 1, by omega⟩
    have e40 : m.2.2 40 lv = nI c := by rw [h.2.1 40 (by omega) (by omega)]; exact hA
    obtain ⟨q, q1, q2⟩ := sh1_M h (by omega) (by omega) (by omega)
    refine ⟨q, ?_, q2⟩
    rw [fX8_shutPart_b2, if_neg hin, hcl, e40, if_pos (nI_le (by omega) (by omega)), q1, Option.bind_some]
  | succ j ih =>
    intro k x m Q hx hk h h1 h2 h3
    obtain ⟨k, rfl⟩ : ∃ k', k = k' + 1 := ⟨k - 1, by omega⟩
    have e40 : m.2.2 40 lv = nI c := by rw [h.2.1 40 (by omega) (by omega)]; exact hA
    obtain ⟨q, q1, q2⟩ := sh1_M h (by omega) (by omega) (by omega)
    obtain ⟨q', r1, r2⟩ := ih k (x + 1) q (sh1 Q) (by omega) (by omega) q2 (show j + 1 ≤ Q.1 2 - 1 by omega) (show Q.1 2 - 1 ≤ 64 by omega) (show Q.1 1 + 1 + (j + 1) ≤ 512 by omega)
    refine ⟨q', ?_, r2⟩
    rw [fX8_shutPart_b2, if_neg hin, hcl, e40, if_neg (nI_ge (show x < c by omega) (by omega)), q1, Option.bind_some, nI1]
    exact r1
/-- what is left of a part that was split -/
def gw (t : Nat → Nat → RS → RS) (f : Nat → Nat → Int32) (s l r lv st w : Nat) (Q : RS) : RS := if st = w then Q else gon t s (hB f s l r lv w) (hP f s l r lv w) Q
def rsF (t : Nat → Nat → RS → RS) (f : Nat → Nat → Int32) (s l r lv st nx : Nat) (Q : RS) : RS := if nx = 0 then gw t f s l r lv st 1 (gw t f s l r lv st 0 Q) else if nx = 1 then gw t f s l r lv st 1 Q else Q
theorem gw_skip {t : Nat → Nat → RS → RS} {f : Nat → Nat → Int32} {s l r lv st w : Nat} {Q : RS} (hs : s < 2) (h : skp f l r lv st w) : gw t f s l r lv st w Q = Q := by
  unfold gw
  by_cases e : st = w
  · rw [if_pos e]
  · rw [if_neg e]
    have z : rwH f l r lv w = 0 := by
      rcases h with q | q
      · exact absurd q.symm e
      · exact q
    rw [rwH_eq hs] at z
    exact if_pos (Or.inl ((or_z hf_lt hf_lt).mp z))
theorem gw_off {t : Nat → Nat → RS → RS} {f : Nat → Nat → Int32} {s l r lv st w : Nat} {Q : RS} (h : Q.2.2.2 = true) : gw t f s l r lv st w Q = Q := by
  unfold gw
  split
  · rfl
  · exact if_pos (Or.inr h)
theorem gw_go {t : Nat → Nat → RS → RS} {f : Nat → Nat → Int32} {s l r lv st w : Nat} {Q : RS} (hs : s < 2) (h : ¬ skp f l r lv st w) (ho : ¬ Q.2.2.2 = true) : gw t f s l r lv st w Q = t (hf f 0 l lv w) (hf f 1 r lv w) (ad 2 (nI (rwH f l r lv w)) Q) := by
  have e : ¬ st = w := fun q => h (Or.inl q.symm)
  have z : ¬ (hB f s l r lv w ||| hP f s l r lv w = 0) := fun q => h (Or.inr (by rw [rwH_eq hs]; exact (or_z hf_lt hf_lt).mpr q))
  unfold gw gon
  rw [if_neg e, if_neg (by rintro (q | q); exact z q; exact ho q), rwH_eq hs, nI_add]
  generalize ad 2 (nI (cnt (hB f s l r lv w) + cnt (hP f s l r lv w))) Q = Q'
  have e2 : (if s = 0 then hB f s l r lv w else hP f s l r lv w) = hf f 0 l lv w := by
    rcases (show s = 0 ∨ s = 1 by omega) with rfl | rfl
    · rw [if_pos rfl]
      rfl
    · rw [if_neg (by decide)]
      rfl
  have e3 : (if s = 0 then hP f s l r lv w else hB f s l r lv w) = hf f 1 r lv w := by
    rcases (show s = 0 ∨ s = 1 by omega) with rfl | rfl
    · rw [if_pos rfl]
      rfl
    · rw [if_neg (by decide)]
      rfl
  rw [e2, e3]
theorem rsF_off {t : Nat → Nat → RS → RS} {f : Nat → Nat → Int32} {s l r lv st nx : Nat} {Q : RS} (h : Q.2.2.2 = true) : rsF t f s l r lv st nx Q = Q := by
  unfold rsF
  split
  · rw [gw_off (Q := Q) h, gw_off h]
  · split
    · exact gw_off h
    · rfl
theorem rsF_to {t : Nat → Nat → RS → RS} {f : Nat → Nat → Int32} {s l r lv st nx y : Nat} {Q : RS} (hs : s < 2) (hn : nx ≤ y) (hy : y ≤ 2) (h : ∀ w, nx ≤ w → w < y → skp f l r lv st w) : rsF t f s l r lv st nx Q = rsF t f s l r lv st y Q := by
  unfold rsF
  rcases (show nx = y ∨ (nx = 0 ∧ y = 1) ∨ (nx = 0 ∧ y = 2) ∨ (nx = 1 ∧ y = 2) by omega) with e | ⟨e1, e2⟩ | ⟨e1, e2⟩ | ⟨e1, e2⟩
  · rw [e]
  · subst e1; subst e2
    rw [if_pos rfl, if_neg (by decide), if_pos rfl, gw_skip hs (h 0 (by omega) (by omega))]
  · subst e1; subst e2
    rw [if_pos rfl, if_neg (by decide), if_neg (by decide), gw_skip hs (h 0 (by omega) (by omega)), gw_skip hs (h 1 (by omega) (by omega))]
  · subst e1; subst e2
    rw [if_neg (by decide), if_pos rfl, if_neg (by decide), if_neg (by decide), gw_skip hs (h 1 (by omega) (by omega))]
theorem rsF_s {t : Nat → Nat → RS → RS} {f : Nat → Nat → Int32} {s l r lv st y : Nat} {Q : RS} (hy : y < 2) : rsF t f s l r lv st y Q = rsF t f s l r lv st (y + 1) (gw t f s l r lv st y Q) := by
  unfold rsF
  rcases (show y = 0 ∨ y = 1 by omega) with rfl | rfl
  · rfl
  · rfl
theorem tn_sp {n : Nat → Nat} {f : Nat → Nat → Int32} {kd lim mem k lv l r : Nat} {R : RS} (h : spt f mem lv l r) : tn n f kd lim mem (k + 1) lv l r R = sh (R.1 2) (rsF (tn n f kd lim mem k (lv + 1)) f (bsd l r) l r lv (rsM f mem (bsd l r) l r lv) 0 (tA n f kd lim mem lv l r R)) := by
  have hs := bsd_lt l r
  have hst := rsd_lt mem (cnt (hB f (bsd l r) l r lv 0)) (cnt (hB f (bsd l r) l r lv 1))
  have er : rsM f mem (bsd l r) l r lv = (if rsd mem (cnt (hB f (bsd l r) l r lv 0)) (cnt (hB f (bsd l r) l r lv 1)) = 2 then 2 else if rwH f l r lv (rsd mem (cnt (hB f (bsd l r) l r lv 0)) (cnt (hB f (bsd l r) l r lv 1))) = 0 then 2 else rsd mem (cnt (hB f (bsd l r) l r lv 0)) (cnt (hB f (bsd l r) l r lv 1))) := rfl
  have eg : ∀ (w : Nat), w < 2 → ∀ (t : Nat → Nat → RS → RS) (Q : RS), gw t f (bsd l r) l r lv (rsM f mem (bsd l r) l r lv) w Q = gw t f (bsd l r) l r lv (rsd mem (cnt (hB f (bsd l r) l r lv 0)) (cnt (hB f (bsd l r) l r lv 1))) w Q := by
    intro w hw t Q
    rw [er]
    generalize rsd mem (cnt (hB f (bsd l r) l r lv 0)) (cnt (hB f (bsd l r) l r lv 1)) = st at hst
    by_cases e2 : st = 2
    · rw [if_pos e2, e2]
    · rw [if_neg e2]
      by_cases z : rwH f l r lv st = 0
      · rw [if_pos z]
        by_cases ew : st = w
        · rw [gw_skip hs (show skp f l r lv st w from Or.inl ew.symm), gw_skip hs (Or.inr (by rw [← ew]; exact z))]
        · unfold gw
          rw [if_neg ew, if_neg (by omega)]
      · rw [if_neg z]
  rw [tn_eq, if_neg h.1, if_neg h.2]
  unfold rsF
  rw [if_pos rfl, eg 1 (by omega), eg 0 (by omega)]
  unfold tA
  rw [if_neg h.1, if_neg h.2]
  rfl
theorem tn_ns {n : Nat → Nat} {f : Nat → Nat → Int32} {kd lim mem k lv l r : Nat} {R : RS} (h : ¬ spt f mem lv l r) : tn n f kd lim mem (k + 1) lv l r R = sh (R.1 2) (tA n f kd lim mem lv l r R) := by
  rw [tn_eq]
  unfold tA
  by_cases c1 : cnt (bmm l r) ≤ mem
  · rw [if_pos c1, if_pos c1]
  · by_cases c2 : lv = 4 ∨ oneK f (bsd l r) (bmm l r) = true
    · rw [if_neg c1, if_neg c1, if_pos c2, if_pos c2]
    · exact absurd ⟨c1, c2⟩ h
