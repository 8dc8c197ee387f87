/-- a part is entered, as the reference tells it -/
def enP (lv s j : Nat) (R : RS) : RS := (R.1, R.2.1, upd (upd (upd R.2.2.1 4 (if nI lv ≤ R.2.2.1 4 then R.2.2.1 4 else nI lv)) 8 (R.2.2.1 8 + (if s = 0 then 1 else 0))) j (R.2.2.1 j + 1), R.2.2.2)
theorem ent_eq {lv s j : Nat} (h1 : 5 ≤ j) (h2 : j ≤ 7) (w : Int32) (R : RS) : ∀ i, (ent lv s j (opn w R)).2.2.1 i = (enP lv s j R).2.2.1 i := by
  intro i
  have e0 : (ent lv s j (opn w R)).2.2.1 = upd (if s = 0 then upd (upd R.2.2.1 j (R.2.2.1 j + 1)) 8 ((upd R.2.2.1 j (R.2.2.1 j + 1)) 8 + 1) else upd R.2.2.1 j (R.2.2.1 j + 1)) 4 (if (if s = 0 then upd (upd R.2.2.1 j (R.2.2.1 j + 1)) 8 ((upd R.2.2.1 j (R.2.2.1 j + 1)) 8 + 1) else upd R.2.2.1 j (R.2.2.1 j + 1)) 4 < nI lv then nI lv else (if s = 0 then upd (upd R.2.2.1 j (R.2.2.1 j + 1)) 8 ((upd R.2.2.1 j (R.2.2.1 j + 1)) 8 + 1) else upd R.2.2.1 j (R.2.2.1 j + 1)) 4) := by
    unfold ent
    by_cases c : s = 0
    · rw [if_pos c, if_pos c]
      rfl
    · rw [if_neg c, if_neg c]
      rfl
  have e4 : (if s = 0 then upd (upd R.2.2.1 j (R.2.2.1 j + 1)) 8 ((upd R.2.2.1 j (R.2.2.1 j + 1)) 8 + 1) else upd R.2.2.1 j (R.2.2.1 j + 1)) 4 = R.2.2.1 4 := by
    by_cases c : s = 0
    · rw [if_pos c]
      unfold upd
      rw [if_neg (by omega), if_neg (by omega)]
    · rw [if_neg c]
      unfold upd
      rw [if_neg (by omega)]
  have e8 : upd R.2.2.1 j (R.2.2.1 j + 1) 8 = R.2.2.1 8 := by
    unfold upd
    rw [if_neg (by omega)]
  have el : (if R.2.2.1 4 < nI lv then nI lv else R.2.2.1 4) = (if nI lv ≤ R.2.2.1 4 then R.2.2.1 4 else nI lv) := by
    by_cases c : R.2.2.1 4 < nI lv
    · rw [if_pos c, if_neg (Int32.not_le.mpr c)]
    · rw [if_neg c, if_pos (Int32.not_lt.mp c)]
  rw [e0, e4, e8, el]
  show _ = upd (upd (upd R.2.2.1 4 (if nI lv ≤ R.2.2.1 4 then R.2.2.1 4 else nI lv)) 8 (R.2.2.1 8 + (if s = 0 then 1 else 0))) j (R.2.2.1 j + 1) i
  by_cases c4 : i = 4
  · unfold upd
    rw [if_pos c4, if_neg (show ¬ i = j by omega), if_neg (show ¬ i = 8 by omega), if_pos c4]
  · by_cases c : s = 0
    · rw [if_pos c, if_pos c]
      unfold upd
      rw [if_neg c4]
      by_cases c8 : i = 8
      · rw [if_pos c8, if_neg (by omega), if_pos c8]
      · rw [if_neg c8, if_neg c8, if_neg c4]
    · rw [if_neg c, if_neg c]
      unfold upd
      rw [if_neg c4]
      by_cases c8 : i = 8
      · rw [if_neg (by omega), if_neg (by omega), if_pos c8, c8, Int32.add_zero]
      · rw [if_neg c8, if_neg c4]
theorem ent_3 {lv s j : Nat} (R : RS) : (ent lv s j R).2.1 = R.2.1 ∧ (ent lv s j R).2.2.2 = R.2.2.2 := by
  unfold ent
  split <;> exact ⟨rfl, rfl⟩
theorem ent_M {m0 m : SX8} {A : Nat → Nat → Int32} {lim lv s j : Nat} {w : Int32} {R : RS} (h1 : 5 ≤ j) (h2 : j ≤ 7) (h : MR m0 A lim m (opn w (enP lv s j R))) : MR m0 A lim m (ent lv s j (opn w R)) := by
  refine h.ext ?_ ?_ ?_ (fun i _ _ => ent_eq h1 h2 w R i)
  · rw [ent_2]
    rfl
  · rw [(ent_3 _).1]
    rfl
  · rw [(ent_3 _).2]
    rfl
/-- what a turn does before it shuts; and whether it splits -/
def tA (n : Nat → Nat) (f : Nat → Nat → Int32) (kd lim mem lv l r : Nat) (R : RS) : RS :=
  if cnt (bmm l r) ≤ mem then ho n f kd lim (bsd l r) (bmm l r) (pmm l r) (ent lv (bsd l r) 5 (opn 0 R)) else
  if lv = 4 ∨ oneK f (bsd l r) (bmm l r) = true then bk n f kd lim mem (bsd l r) (bmm l r) (pmm l r) (ent lv (bsd l r) 6 (opn 1 R)) else
  sp5 n f kd lim (bsd l r) (rsd mem (cnt (hB f (bsd l r) l r lv 0)) (cnt (hB f (bsd l r) l r lv 1))) (hB f (bsd l r) l r lv 0) (hB f (bsd l r) l r lv 1) (hP f (bsd l r) l r lv 0) (hP f (bsd l r) l r lv 1) (sp4 (rsd mem (cnt (hB f (bsd l r) l r lv 0)) (cnt (hB f (bsd l r) l r lv 1))) (hB f (bsd l r) l r lv 1) (hP f (bsd l r) l r lv 1) (sp3 (rsd mem (cnt (hB f (bsd l r) l r lv 0)) (cnt (hB f (bsd l r) l r lv 1))) (hB f (bsd l r) l r lv 0) (hP f (bsd l r) l r lv 0) (ent lv (bsd l r) 7 (opn 2 R))))
def spt (f : Nat → Nat → Int32) (mem lv l r : Nat) : Prop := ¬ cnt (bmm l r) ≤ mem ∧ ¬ (lv = 4 ∨ oneK f (bsd l r) (bmm l r) = true)
/-- a turn that does not split -/
def tE (R X : RS) : RS := if X.2.2.2 = true then X else sh (R.1 2) X
theorem sh_1 {d : Nat} {X : RS} (h : X.1 2 = d + 1) : sh d X = sh1 X := by
  unfold sh
  rw [h, show d + 1 - d = 1 by omega]
  rfl
theorem turnB_M {n : Nat → Nat} {f : Nat → Nat → Int32} {mem kd lim : Nat} {m0 m : SX8} {A : Nat → Nat → Int32} {R : RS} {s l r lv : Nat} (hT : MT n f mem kd m0) (hlim : lim < 2 ^ 31) (hm : mem < 2 ^ 31) (hm1 : 1 ≤ mem) (h : MR m0 A lim m R) (hl : Sb n f 0 l) (hr : Sb n f 1 r) (hlv : lv ≤ 4) (hN : NN R) (hc : CO lim (nd l r) R) (hlog : R.1 1 + 6 ≤ 512) (hop : R.1 2 + 5 ≤ 64) (hse : s = bsd l r) :
    ∃ q, fX8_turn_b40 (nI lv) (nI l) (nI r) (nI s) (nI (bmm l r)) (nI (pmm l r)) m = some q ∧ (¬ spt f mem lv l r → q.1 = 0 ∧ MR m0 A lim q.2 (tE R (tA n f kd lim mem lv l r R))) ∧ (spt f mem lv l r → q.1 = 1 ∧ ∃ B c, MR m0 B lim q.2 (tA n f kd lim mem lv l r R) ∧ Bl lv A B ∧ PR B lv l r 0 (rsM f mem (bsd l r) l r lv) c ∧ (tA n f kd lim mem lv l r R).1 2 = R.1 2 + 1 + c) := by
  have hs : s < 2 := by rw [hse]; exact bsd_lt l r
  have hSb : Sb n f s (bmm l r) := by
    rw [hse]
    unfold bmm
    rcases (show bsd l r = 0 ∨ bsd l r = 1 by have := bsd_lt l r; omega) with e | e
    · rw [e, if_pos rfl]; exact hl
    · rw [e, if_neg (by decide)]; exact hr
  have hSp : Sb n f (1 - s) (pmm l r) := by
    rw [hse]
    unfold pmm
    rcases (show bsd l r = 0 ∨ bsd l r = 1 by have := bsd_lt l r; omega) with e | e
    · rw [e, if_pos rfl]; exact hr
    · rw [e, if_neg (by decide)]; exact hl
  have hnd : nd (bmm l r) (pmm l r) = nd l r := nd_if (bsd l r) l r
  have e21 : m.1 21 = R.2.2.1 4 := h.at (k := 4) (by omega) (by omega)
  have e25 : m.1 25 = R.2.2.1 8 := h.at (k := 8) (by omega) (by omega)
  have e1 : m.1 1 = nI mem := (hT.fr h.1).2.2.1
  have hcb := cnt_le (bmm l r)
  have h2 : MR m0 A lim (upd (upd m.1 21 (if nI lv ≤ R.2.2.1 4 then R.2.2.1 4 else nI lv)) 25 (R.2.2.1 8 + (if s = 0 then 1 else 0)), m.2.1, m.2.2) (R.1, R.2.1, upd (upd R.2.2.1 4 (if nI lv ≤ R.2.2.1 4 then R.2.2.1 4 else nI lv)) 8 (R.2.2.1 8 + (if s = 0 then 1 else 0)), R.2.2.2) :=
    (h.ctr (k := 4) (by omega) (by omega) _).ctr (k := 8) (by omega) (by omega) _
  have eF : fX8_turn_b40 (nI lv) (nI l) (nI r) (nI s) (nI (bmm l r)) (nI (pmm l r)) m = fX8_turn_b77 (nI lv) (nI l) (nI r) (nI s) (nI (bmm l r)) (nI (pmm l r)) (if s = 0 then 1 else 0) (R.2.2.1 8) (upd m.1 21 (if nI lv ≤ R.2.2.1 4 then R.2.2.1 4 else nI lv), m.2.1, m.2.2) := by
    unfold fX8_turn_b40 fX8_turn_b59
    rw [e21, e25]
    rcases (show s = 0 ∨ s = 1 by omega) with e | e
    · rw [e, if_pos (show nI 0 = 0 from rfl), if_pos (show nI 0 = 0 from rfl), if_pos (show (0 : Nat) = 0 from rfl)]
      by_cases c : nI lv ≤ R.2.2.1 4
      · rw [if_pos c, if_pos c]
      · rw [if_neg c, if_neg c]
    · rw [e, if_neg (show ¬ nI 1 = 0 by decide), if_neg (show ¬ nI 1 = 0 by decide), if_neg (show ¬ (1 : Nat) = 0 by decide)]
      by_cases c : nI lv ≤ R.2.2.1 4
      · rw [if_pos c, if_pos c]
      · rw [if_neg c, if_neg c]
  rw [eF]
  unfold fX8_turn_b77
  rw [size_M hSb.1, Option.bind_some, show (upd m.1 21 (if nI lv ≤ R.2.2.1 4 then R.2.2.1 4 else nI lv), m.2.1, m.2.2).1 1 = nI mem from e1]
  have hat : ∀ j, 5 ≤ j → j ≤ 7 → upd m.1 21 (if nI lv ≤ R.2.2.1 4 then R.2.2.1 4 else nI lv) (17 + j) = R.2.2.1 j := by
    intro j h1 h8
    unfold upd
    rw [if_neg (by omega)]
    exact h.at (by omega) (by omega)
  have tp1 : ∀ (j : Nat) (w : Int32), TP lim 0 1 1 R (ent lv s j (opn w R)) := fun j w => (opn_TP w R).tr (ent_TP _)
  have hcc : ∀ (j : Nat) (w : Int32), CO lim (nd (bmm l r) (pmm l r)) (ent lv s j (opn w R)) := by
    intro j w
    rw [hnd]
    exact (show CO lim (0 + nd l r) R from hc.le (by omega)).tp (tp1 j w)
  have en2 : ∀ (j : Nat) (w : Int32), (ent lv s j (opn w R)).1 2 = R.1 2 + 1 := by
    intro j w
    rw [ent_2]
    rfl
  have fin : ∀ (X : RS) (q : SX8), MR m0 A lim q X → X.1 2 = R.1 2 + 1 → X.1 1 ≤ R.1 1 + 1 → ∃ q' : Int32 × SX8, (if q.1 15 = 0 then ((fX8_shutOne q).bind fun q12 => some ((0 : Int32), q12)) else some (0, q)) = some q' ∧ q'.1 = 0 ∧ MR m0 A lim q'.2 (tE R X) := by
    intro X q hX x2 x1
    have e15 := hX.2.2.2.1
    unfold tE
    by_cases off : X.2.2.2 = true
    · rw [e15, if_pos off, if_neg (show ¬ (1 : Int32) = 0 by decide), if_pos off]
      exact ⟨_, rfl, rfl, hX⟩
    · obtain ⟨q', k1, k2⟩ := sh1_M hX (by omega) (by omega) (by omega)
      rw [e15, if_neg off, if_pos (show (0 : Int32) = 0 from rfl), k1, Option.bind_some, if_neg off, sh_1 x2]
      exact ⟨_, rfl, rfl, k2⟩
  by_cases c1 : cnt (bmm l r) ≤ mem
  · have eA : tA n f kd lim mem lv l r R = ho n f kd lim s (bmm l r) (pmm l r) (ent lv s 5 (opn 0 R)) := by
      unfold tA
      rw [if_pos c1, hse]
    have nsp : ¬ spt f mem lv l r := fun z => z.1 c1
    rw [if_neg (nI_nlt c1 (by omega))]
    have h3 := h2.ctr (k := 5) (by omega) (by omega) (R.2.2.1 5 + 1)
    obtain ⟨q9, u1, u2⟩ := opn_M (w := 0) h3 (show R.1 1 < 512 by omega) (show R.1 2 < 64 by omega)
    have u3 : MR m0 A lim q9 (ent lv s 5 (opn 0 R)) := ent_M (by omega) (by omega) u2
    obtain ⟨q10, v1, v2⟩ := ho_M hT hlim u3 hs hSb hSp (hcc 5 0)
    have hg := ho_Gr (n := n) (f := f) (kd := kd) (lim := lim) (s := s) (bm := bmm l r) (pm := pmm l r) (ent lv s 5 (opn 0 R))
    obtain ⟨q', w1, w2, w3⟩ := fin _ q10 v2 (hg.2.2.2.1.trans (en2 5 0)) (by rw [hg.2.2.1]; exact (tp1 5 0).2.2.1)
    refine ⟨q', ?_, fun _ => ⟨w2, by rw [eA]; exact w3⟩, fun z => absurd z nsp⟩
    rw [show (upd m.1 21 (if nI lv ≤ R.2.2.1 4 then R.2.2.1 4 else nI lv), m.2.1, m.2.2).1 22 = R.2.2.1 5 from hat 5 (by omega) (by omega)]
    rw [show fX8_openOne (upd (upd (upd m.1 21 (if nI lv ≤ R.2.2.1 4 then R.2.2.1 4 else nI lv)) 25 (R.2.2.1 8 + (if s = 0 then 1 else 0))) 22 (R.2.2.1 5 + 1), m.2.1, m.2.2) 0 = some q9 from u1, Option.bind_some, v1, Option.bind_some]
    exact w1
  · rw [if_pos (nI_lt (by omega) (by omega))]
    have b137 : (lv = 4 ∨ oneK f s (bmm l r) = true) → ∃ q, fX8_turn_b137 (nI s) (nI (bmm l r)) (nI (pmm l r)) (upd (upd m.1 21 (if nI lv ≤ R.2.2.1 4 then R.2.2.1 4 else nI lv)) 25 (R.2.2.1 8 + (if s = 0 then 1 else 0)), m.2.1, m.2.2) = some q ∧ (¬ spt f mem lv l r → q.1 = 0 ∧ MR m0 A lim q.2 (tE R (tA n f kd lim mem lv l r R))) ∧ (spt f mem lv l r → q.1 = 1 ∧ ∃ B c, MR m0 B lim q.2 (tA n f kd lim mem lv l r R) ∧ Bl lv A B ∧ PR B lv l r 0 (rsM f mem (bsd l r) l r lv) c ∧ (tA n f kd lim mem lv l r R).1 2 = R.1 2 + 1 + c) := by
      intro c2
      have eA : tA n f kd lim mem lv l r R = bk n f kd lim mem s (bmm l r) (pmm l r) (ent lv s 6 (opn 1 R)) := by
        unfold tA
        rw [if_neg c1, ← hse, if_pos c2]
      have nsp : ¬ spt f mem lv l r := fun z => z.2 (by rw [← hse]; exact c2)
      have h3 := h2.ctr (k := 6) (by omega) (by omega) (R.2.2.1 6 + 1)
      obtain ⟨q9, u1, u2⟩ := opn_M (w := 1) h3 (show R.1 1 < 512 by omega) (show R.1 2 < 64 by omega)
      have u3 : MR m0 A lim q9 (ent lv s 6 (opn 1 R)) := ent_M (by omega) (by omega) u2
      obtain ⟨q10, v1, v2⟩ := bk_M hT hlim hm hm1 u3 hs hSb hSp (hcc 6 1)
      have hg := bk_Gr (n := n) (f := f) (kd := kd) (lim := lim) (mem := mem) (s := s) (bm := bmm l r) (pm := pmm l r) (ent lv s 6 (opn 1 R))
      obtain ⟨q', w1, w2, w3⟩ := fin _ q10 v2 (hg.2.2.2.1.trans (en2 6 1)) (by rw [hg.2.2.1]; exact (tp1 6 1).2.2.1)
      refine ⟨q', ?_, fun _ => ⟨w2, by rw [eA]; exact w3⟩, fun z => absurd z nsp⟩
      unfold fX8_turn_b137
      rw [show (upd (upd m.1 21 (if nI lv ≤ R.2.2.1 4 then R.2.2.1 4 else nI lv)) 25 (R.2.2.1 8 + (if s = 0 then 1 else 0)), m.2.1, m.2.2).1 23 = R.2.2.1 6 from hat 6 (by omega) (by omega)]
      rw [show fX8_openOne (upd (upd (upd m.1 21 (if nI lv ≤ R.2.2.1 4 then R.2.2.1 4 else nI lv)) 25 (R.2.2.1 8 + (if s = 0 then 1 else 0))) 23 (R.2.2.1 6 + 1), m.2.1, m.2.2) 1 = some q9 from u1, Option.bind_some, v1, Option.bind_some]
      exact w1
    by_cases c4 : lv = 4
    · rw [if_pos (show nI lv = 4 by rw [c4]; rfl)]
      exact b137 (Or.inl c4)
    · rw [if_neg (show ¬ nI lv = 4 from fun e => c4 ((nI_eq (b := 4) (by omega) (by omega)).mp e)), show fX8_isOneKey (upd (upd m.1 21 (if nI lv ≤ R.2.2.1 4 then R.2.2.1 4 else nI lv)) 25 (R.2.2.1 8 + (if s = 0 then 1 else 0)), m.2.1, m.2.2) (nI s) (nI (bmm l r)) = _ from isOneKey_M (hT.fr h2.1) hs hSb, Option.bind_some]
      by_cases o : oneK f s (bmm l r) = true
      · rw [if_pos o, if_neg (show ¬ (1 : Int32) = 0 by decide)]
        exact b137 (Or.inr o)
      · rw [if_neg o, if_pos (show (0 : Int32) = 0 from rfl)]
        have hin : ¬ (nI lv < 0 ∨ 6 ≤ (nI lv).toNatClampNeg) := nI_in (show lv < 6 by omega) (by omega)
        have hcl : (nI lv).toNatClampNeg = lv := nI_clamp (by omega)
        have nsp : spt f mem lv l r := ⟨c1, by rw [← hse]; rintro (z | z); exact c4 z; exact o z⟩
        have h3 := (h2.prt (k := 36) (by omega) (by omega) (upd (m.2.2 36) lv (nI l))).prt (k := 37) (by omega) (by omega) (upd (m.2.2 37) lv (nI r))
        have p36 : m.2.2 36 = A 36 := h.2.1 36 (by omega) (by omega)
        have p37 : m.2.2 37 = A 37 := h.2.1 37 (by omega) (by omega)
        have hbl : Bl lv A (va_up (va_up A 36 (upd (m.2.2 36) lv (nI l))) 37 (upd (m.2.2 37) lv (nI r))) := by
          rw [p36, p37]
          exact ((Bl.rf lv A).up 36 (nI l)).up 37 (nI r)
        obtain ⟨q, B, c, k1, k2, k3, k4, k5⟩ := splitNow_M (Q := ent lv s 7 (opn 2 R)) hT hlim hm h3 hs hl hr (show lv < 4 by omega) (show upd (m.2.2 36) lv (nI l) lv = nI l by unfold upd; rw [if_pos rfl]) (show upd (m.2.2 37) lv (nI r) lv = nI r by unfold upd; rw [if_pos rfl]) (fun y hy => ent_M (by omega) (by omega) hy) (by rw [ent_2]; rfl) (en2 7 2) (ent_NN (by omega) hN) (by rw [← hnd]; exact hcc 7 2) (show R.1 1 + 5 ≤ 512 by omega) hop
        have eA : tA n f kd lim mem lv l r R = sp5 n f kd lim s (rsd mem (cnt (hB f s l r lv 0)) (cnt (hB f s l r lv 1))) (hB f s l r lv 0) (hB f s l r lv 1) (hP f s l r lv 0) (hP f s l r lv 1) (sp4 (rsd mem (cnt (hB f s l r lv 0)) (cnt (hB f s l r lv 1))) (hB f s l r lv 1) (hP f s l r lv 1) (sp3 (rsd mem (cnt (hB f s l r lv 0)) (cnt (hB f s l r lv 1))) (hB f s l r lv 0) (hP f s l r lv 0) (ent lv s 7 (opn 2 R)))) := by
          unfold tA
          rw [if_neg c1, if_neg nsp.2, hse]
        refine ⟨(1, q), ?_, fun z => absurd nsp z, fun _ => ⟨rfl, B, c, by rw [eA]; exact k2, hbl.tr k3, by rw [← hse]; exact k4, by rw [eA]; exact k5⟩⟩
        rw [if_neg hin, if_neg hin, hcl]
        rw [show fX8_splitNow (upd (upd m.1 21 (if nI lv ≤ R.2.2.1 4 then R.2.2.1 4 else nI lv)) 25 (R.2.2.1 8 + (if s = 0 then 1 else 0)), m.2.1, va_up (va_up m.2.2 36 (upd (m.2.2 36) lv (nI l))) 37 (upd (m.2.2 37) lv (nI r))) (nI lv) (nI s) = some q from k1, Option.bind_some]
theorem turn_M {n : Nat → Nat} {f : Nat → Nat → Int32} {mem kd lim : Nat} {m0 m : SX8} {A : Nat → Nat → Int32} {R : RS} {l r lv : Nat} (hT : MT n f mem kd m0) (hlim : lim < 2 ^ 31) (hm : mem < 2 ^ 31) (hm1 : 1 ≤ mem) (h : MR m0 A lim m R) (hl : Sb n f 0 l) (hr : Sb n f 1 r) (hlv : lv ≤ 4) (hN : NN R) (hc : CO lim (nd l r) R) (hlog : R.1 1 + 6 ≤ 512) (hop : R.1 2 + 5 ≤ 64) :
    ∃ q, fX8_turn m (nI lv) (nI l) (nI r) = some q ∧ (¬ spt f mem lv l r → q.1 = 0 ∧ MR m0 A lim q.2 (tE R (tA n f kd lim mem lv l r R))) ∧ (spt f mem lv l r → q.1 = 1 ∧ ∃ B c, MR m0 B lim q.2 (tA n f kd lim mem lv l r R) ∧ Bl lv A B ∧ PR B lv l r 0 (rsM f mem (bsd l r) l r lv) c ∧ (tA n f kd lim mem lv l r R).1 2 = R.1 2 + 1 + c) := by
  have key := turnB_M hT hlim hm hm1 h hl hr hlv hN hc hlog hop (s := bsd l r) rfl
  have c0 := cnt_le l
  have c1 := cnt_le r
  unfold fX8_turn
  rw [size_M hl.1, Option.bind_some, size_M hr.1, Option.bind_some]
  unfold fX8_turn_b16 fX8_turn_b28
  by_cases c : cnt l < cnt r
  · have e : bsd l r = 0 := if_pos c
    unfold bmm pmm at key
    rw [e, if_pos (show (0 : Nat) = 0 from rfl), if_pos (show (0 : Nat) = 0 from rfl)] at key
    rw [if_neg (nI_ge c (by omega)), if_pos (show (0 : Int32) = 0 from rfl), if_pos (show (0 : Int32) = 0 from rfl), e]
    exact key
  · have e : bsd l r = 1 := if_neg c
    unfold bmm pmm at key
    rw [e, if_neg (show ¬ (1 : Nat) = 0 by decide), if_neg (show ¬ (1 : Nat) = 0 by decide)] at key
    rw [if_pos (nI_le (by omega) (by omega)), if_neg (show ¬ (1 : Int32) = 0 by decide), if_neg (show ¬ (1 : Int32) = 0 by decide), e]
    exact key
