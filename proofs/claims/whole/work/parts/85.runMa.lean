/-- rounds of the loop -/
def cF : Nat → Nat
  | 0 => 0
  | k + 1 => 2 * (1 + cF k) + 1
/-- the loop has finished a part, or broke off -/
def LO (m0 : SX8) (lim lv d : Nat) (m : SX8) (A : Nat → Nat → Int32) (F : RS) (w cost : Nat) : Prop :=
  ∃ m' A', Bl lv A A' ∧ ((F.2.2.2 = false ∧ ∃ w', w ≤ w' + cost ∧ fX8_runNow_b46 w (nI lv) m = fX8_runNow_b46 w' (nI lv + (-1)) m' ∧ MR m0 A' lim m' (sh d F)) ∨
    (F.2.2.2 = true ∧ ∃ Z : RS, fX8_runNow_b46 w (nI lv) m = fX8_runNow_b143 m' ∧ MR m0 A' lim m' Z ∧ Z.2.2.2 = true ∧ Z.1 2 ≤ 60 ∧ sh d Z = sh d F))
def CHD (n : Nat → Nat) (f : Nat → Nat → Int32) (kd lim mem : Nat) (m0 : SX8) (k lv : Nat) : Prop :=
  ∀ (l' r' : Nat) (R1 : RS) (m2 : SX8) (B : Nat → Nat → Int32) (c2 : Nat), Sb n f 0 l' → Sb n f 1 r' → spt f mem (lv + 1) l' r' → MR m0 B lim m2 (tA n f kd lim mem (lv + 1) l' r' R1) → PR B (lv + 1) l' r' 0 (rsM f mem (bsd l' r') l' r' (lv + 1)) c2 → (tA n f kd lim mem (lv + 1) l' r' R1).1 2 = R1.1 2 + 1 + c2 → R1.1 2 ≤ 5 * (lv + 1) → NN R1 → CO lim (nd l' r') R1 → R1.1 1 + tL k ≤ 400 →
    ∀ w, cF k ≤ w → ∃ F', sh (R1.1 2) F' = tn n f kd lim mem (k + 2) (lv + 1) l' r' R1 ∧ LO m0 lim (lv + 1) (R1.1 2) m2 B F' w (cF k)
theorem b46_off {m0 m : SX8} {A : Nat → Nat → Int32} {lim lv w : Nat} {Q : RS} (hlv : lv < 6) (h : MR m0 A lim m Q) (off : Q.2.2.2 = true) : fX8_runNow_b46 (w + 1) (nI lv) m = fX8_runNow_b143 m := by
  have e15 := h.2.2.2.1
  rw [fX8_runNow_b46, if_neg (nI_pos (n := lv) (by omega)), e15, if_pos off, if_neg (show ¬ (1 : Int32) = 0 by decide)]
theorem nN_s {f : Nat → Nat → Int32} {l r lv st nx y : Nat} (h1 : nx ≤ y) (hy : y < 2) (hs : ¬ skp f l r lv st y) : nH f l r lv y + nN f l r lv st (y + 1) ≤ nN f l r lv st nx := by
  have e : st ≠ y := fun q => hs (Or.inl q.symm)
  unfold nN
  rcases (show y = 0 ∨ y = 1 by omega) with rfl | rfl
  · have e0 : nx = 0 := by omega
    subst e0
    rw [if_neg (show ¬ (0 + 1 = 0 ∧ st ≠ 0) by omega), if_pos (show (0 : Nat) = 0 ∧ st ≠ 0 from ⟨rfl, e⟩)]
    by_cases c : st ≠ 1
    · rw [if_pos ⟨by omega, c⟩, if_pos ⟨by omega, c⟩]
      omega
    · rw [if_neg (fun z => c z.2), if_neg (fun z => c z.2)]
      omega
  · rw [if_neg (show ¬ (1 + 1 = 0 ∧ st ≠ 0) by omega), if_neg (show ¬ (1 + 1 ≤ 1 ∧ st ≠ 1) by omega), if_pos (show nx ≤ 1 ∧ st ≠ 1 from ⟨h1, e⟩)]
    omega
theorem loopS {n : Nat → Nat} {f : Nat → Nat → Int32} {mem kd lim : Nat} {m0 : SX8} {k lv : Nat} (hT : MT n f mem kd m0) (hlim : lim < 2 ^ 31) (hm : mem < 2 ^ 31) (hm1 : 1 ≤ mem) (hk : lv + (k + 1) = 4) (CH : CHD n f kd lim mem m0 k lv) {l r s st c d : Nat} (hl : Sb n f 0 l) (hr : Sb n f 1 r) (hs : s < 2) (hst : st < 3) (hc4 : c ≤ 4) (hd : d ≤ 5 * lv) :
    ∀ (j nx : Nat), nx + j = 2 → ∀ (m : SX8) (A : Nat → Nat → Int32) (Q : RS), MR m0 A lim m Q → PR A lv l r nx st c → Q.1 2 = d + 1 + c → NN Q → CO lim (nN f l r lv st nx) Q → Q.1 1 + j * tL k + (c + 1) ≤ 400 → ∀ w, j * (1 + cF k) + 1 ≤ w →
      LO m0 lim lv d m A (rsF (tn n f kd lim mem (k + 2) (lv + 1)) f s l r lv st nx Q) w (j * (1 + cF k) + 1) := by
  intro j
  induction j using Nat.strongRecOn with
  | ind j ih =>
    intro nx hnx m A Q h hP hop hN hC hlog w hw
    obtain ⟨w, rfl⟩ : ∃ w', w = w' + 1 := ⟨w - 1, by omega⟩
    by_cases off : Q.2.2.2 = true
    · refine ⟨m, A, Bl.rf _ _, Or.inr ⟨?_, Q, b46_off (by omega) h off, h, off, by omega, ?_⟩⟩
      · rw [rsF_off off]; exact off
      · rw [rsF_off off]
    · have off2 : Q.2.2.2 = false := by simpa using off
      have e15 := h.2.2.2.1
      obtain ⟨y, m', A', y1, y2, y3, y4, y5, y6, y7, y8⟩ := nextHalf_M hT h hl hr (show lv < 4 by omega) hP (by omega) hst
      rw [rsF_to hs y1 y2 y3]
      have e0 : fX8_runNow_b46 (w + 1) (nI lv) m = (if (if y = 2 then -1 else nI y) = (-1 : Int32) then ((fX8_shutPart m' (nI lv)).bind fun q10 => fX8_runNow_b46 w (nI lv + (-1)) q10) else ((fX8_rowsOfHalf m' (nI lv) (if y = 2 then -1 else nI y)).bind fun q5 => (fX8_halfOf ((upd m'.1 19 ((m'.1 19) + q5)), m'.2.1, m'.2.2) (nI lv) 0 (if y = 2 then -1 else nI y)).bind fun q6 => (fX8_halfOf ((upd m'.1 19 ((m'.1 19) + q5)), m'.2.1, m'.2.2) (nI lv) 1 (if y = 2 then -1 else nI y)).bind fun q7 => (fX8_turn ((upd m'.1 19 ((m'.1 19) + q5)), m'.2.1, m'.2.2) (nI lv + 1) q6 q7).bind fun q8 => if q8.1 = 0 then (fX8_runNow_b46 w (nI lv + 0) q8.2) else (fX8_runNow_b46 w (nI lv + 1) q8.2))) := by
        rw [fX8_runNow_b46, if_neg (nI_pos (n := lv) (by omega)), e15, if_neg off, if_pos (show (0 : Int32) = 0 from rfl), y5, Option.bind_some]
      by_cases ey : y = 2
      · have eF : rsF (tn n f kd lim mem (k + 2) (lv + 1)) f s l r lv st y Q = Q := by
          unfold rsF
          rw [if_neg (by omega), if_neg (by omega)]
        rw [if_pos ey, if_pos rfl] at e0
        obtain ⟨q, q1, q2⟩ := shutPart_M (show lv < 4 by omega) y7.2.2.2.2 (show c ≤ 60 by omega) c 1000 0 m' Q (by omega) (by omega) y6 (by omega) (by omega) (by omega)
        rw [eF]
        refine ⟨q, A', y8, Or.inl ⟨off2, w, by omega, ?_, ?_⟩⟩
        · rw [e0]
          unfold fX8_shutPart
          rw [show fX8_shutPart_b2 1000 (nI lv) 0 m' = some q from q1, Option.bind_some]
        · unfold sh
          rw [hop, show d + 1 + c - d = c + 1 by omega]
          exact q2
      · have hy : y < 2 := by omega
        have hns := y4 hy
        have hny : ¬ nI y = (-1 : Int32) := by
          rcases (show y = 0 ∨ y = 1 by omega) with rfl | rfl <;> decide
        rw [if_neg ey, if_neg hny] at e0
        have el : m'.2.2 36 lv = nI l := by rw [y6.2.1 36 (by omega) (by omega)]; exact y7.1
        have er : m'.2.2 37 lv = nI r := by rw [y6.2.1 37 (by omega) (by omega)]; exact y7.2.1
        have r1 := ad_M y6 (j := 2) (by omega) (by omega) (nI (rwH f l r lv y))
        have hM1 := hT.fr r1.1
        have hl' := Sb_hf hl lv y
        have hr' := Sb_hf hr lv y
        have hnN := nN_s (f := f) (l := l) (r := r) (lv := lv) (st := st) y1 hy hns
        have hC1 : CO lim (nd (hf f 0 l lv y) (hf f 1 r lv y)) (ad 2 (nI (rwH f l r lv y)) Q) := hC.le (by unfold nH at hnN; omega)
        have hN1 : NN (ad 2 (nI (rwH f l r lv y)) Q) := ad_NN (by omega) hN
        have hj1 : 1 ≤ j := by omega
        have hjt : tL k ≤ j * tL k := by
          have := Nat.mul_le_mul_right (tL k) hj1
          omega
        have hjs : (2 - (y + 1)) * tL k + tL k ≤ j * tL k := by
          have := Nat.mul_le_mul_right (tL k) (show 2 - (y + 1) + 1 ≤ j by omega)
          rw [Nat.add_mul, Nat.one_mul] at this
          exact this
        have hjf : (2 - (y + 1)) * (1 + cF k) + (1 + cF k) ≤ j * (1 + cF k) := by
          have := Nat.mul_le_mul_right (1 + cF k) (show 2 - (y + 1) + 1 ≤ j by omega)
          rw [Nat.add_mul, Nat.one_mul] at this
          exact this
        obtain ⟨q, t1, t2, t3⟩ := turn_M (lv := lv + 1) hT hlim hm hm1 r1 hl' hr' (by omega) hN1 hC1 (show Q.1 1 + 6 ≤ 512 by omega) (show Q.1 2 + 5 ≤ 64 by omega)
        have hTP := tn_TP (n := n) (f := f) (kd := kd) (lim := lim) (mem := mem) (k + 2) (lv + 1) (hf f 0 l lv y) (hf f 1 r lv y) (ad 2 (nI (rwH f l r lv y)) Q) (by omega) (by omega) hf_lt hf_lt
        rw [show 4 - (lv + 1) = k by omega] at hTP
        have eG := gw_go (t := tn n f kd lim mem (k + 2) (lv + 1)) (st := st) hs hns off
        have hGT : TP lim (nH f l r lv y) (tL k) 0 Q (gw (tn n f kd lim mem (k + 2) (lv + 1)) f s l r lv st y Q) := by
          rw [eG]
          exact hTP
        have hGN : NN (gw (tn n f kd lim mem (k + 2) (lv + 1)) f s l r lv st y Q) := by
          rw [eG]
          exact tn_NN _ _ _ _ _ hN1
        have e1 : fX8_runNow_b46 (w + 1) (nI lv) m = if q.1 = 0 then (fX8_runNow_b46 w (nI lv) q.2) else (fX8_runNow_b46 w (nI (lv + 1)) q.2) := by
          rw [e0, rowsOfHalf_M (hT.fr y6.1) (by omega) el er hl hr hy, Option.bind_some]
          rw [show fX8_halfOf (upd m'.1 19 (m'.1 19 + nI (rwH f l r lv y)), m'.2.1, m'.2.2) (nI lv) 0 (nI y) = some (nI (hf f 0 l lv y)) from halfOf_M (s := 0) hM1 (by omega) (by omega) el er hl hr hy, Option.bind_some]
          rw [show fX8_halfOf (upd m'.1 19 (m'.1 19 + nI (rwH f l r lv y)), m'.2.1, m'.2.2) (nI lv) 1 (nI y) = some (nI (hf f 1 r lv y)) from halfOf_M (s := 1) hM1 (by omega) (by omega) el er hl hr hy, Option.bind_some]
          rw [nI1, show fX8_turn (upd m'.1 19 (m'.1 19 + nI (rwH f l r lv y)), m'.2.1, m'.2.2) (nI (lv + 1)) (nI (hf f 0 l lv y)) (nI (hf f 1 r lv y)) = some q from t1, Option.bind_some, Int32.add_zero]
        rw [rsF_s hy]
        have cont : ∀ (w3 : Nat) (m3 : SX8) (A3 : Nat → Nat → Int32), fX8_runNow_b46 (w + 1) (nI lv) m = fX8_runNow_b46 w3 (nI lv) m3 → w + 1 ≤ w3 + (1 + cF k) → MR m0 A3 lim m3 (gw (tn n f kd lim mem (k + 2) (lv + 1)) f s l r lv st y Q) → PR A3 lv l r (y + 1) st c → Bl lv A A3 → LO m0 lim lv d m A (rsF (tn n f kd lim mem (k + 2) (lv + 1)) f s l r lv st (y + 1) (gw (tn n f kd lim mem (k + 2) (lv + 1)) f s l r lv st y Q)) (w + 1) (j * (1 + cF k) + 1) := by
          intro w3 m3 A3 z1 z2 z3 z4 z5
          have hg1 := hGT.2.2.1
          have hg2 := hGT.2.2.2.1
          have hg3 := hGT.2.2.2.2
          obtain ⟨m4, A4, v1, v2⟩ := ih (2 - (y + 1)) (by omega) (y + 1) (by omega) m3 A3 _ z3 z4 (by omega) hGN ((hC.le hnN).tp hGT) (by omega) w3 (by omega)
          refine ⟨m4, A4, z5.tr v1, ?_⟩
          rcases v2 with ⟨o1, w', o2, o3, o4⟩ | ⟨o1, Z, o2, o3⟩
          · exact Or.inl ⟨o1, w', by omega, z1.trans o3, o4⟩
          · exact Or.inr ⟨o1, Z, z1.trans o2, o3⟩
        by_cases sp : spt f mem (lv + 1) (hf f 0 l lv y) (hf f 1 r lv y)
        · obtain ⟨a1, B, c2, a2, a3, a4, a5⟩ := t3 sp
          rw [a1, if_neg (show ¬ (1 : Int32) = 0 by decide)] at e1
          obtain ⟨F', b1, m3, A3, b2, b3⟩ := CH _ _ (ad 2 (nI (rwH f l r lv y)) Q) q.2 B c2 hl' hr' sp a2 a4 a5 (show Q.1 2 ≤ 5 * (lv + 1) by omega) hN1 hC1 (show Q.1 1 + tL k ≤ 400 by omega) w (by omega)
          have b1' : sh (Q.1 2) F' = gw (tn n f kd lim mem (k + 2) (lv + 1)) f s l r lv st y Q := by
            rw [eG]
            exact b1
          have hbl : Bl lv A A3 := (y8.tr (a3.le (by omega))).tr (b2.le (by omega))
          rcases b3 with ⟨o1, w', o2, o3, o4⟩ | ⟨o1, Z, o2, o3, o4, o5, o6⟩
          · rw [nI_dec] at o3
            refine cont w' m3 A3 (e1.trans o3) (by omega) (by rw [← b1']; exact o4) ((y7.bl a3 (by omega)).bl b2 (by omega)) hbl
          · have gO : (gw (tn n f kd lim mem (k + 2) (lv + 1)) f s l r lv st y Q).2.2.2 = true := by
              rw [← b1', sh_off]
              exact o1
            refine ⟨m3, A3, hbl, Or.inr ⟨by rw [rsF_off gO]; exact gO, Z, e1.trans o2, o3, o4, o5, ?_⟩⟩
            rw [rsF_off gO, ← b1']
            have o6' : sh (Q.1 2) Z = sh (Q.1 2) F' := o6
            rw [← o6', sh_sh (by omega)]
        · obtain ⟨a1, a2⟩ := t2 sp
          rw [a1, if_pos rfl] at e1
          have eG2 := eG.trans (tn_ns (k := k + 1) sp)
          have hX2 := (tA_TP (n := n) (kd := kd) (lim := lim) hl' hr' (ad 2 (nI (rwH f l r lv y)) Q)).2.1 sp
          have hX2' : (tA n f kd lim mem (lv + 1) (hf f 0 l lv y) (hf f 1 r lv y) (ad 2 (nI (rwH f l r lv y)) Q)).1 2 = Q.1 2 + 1 := hX2
          unfold tE at a2
          by_cases o : (tA n f kd lim mem (lv + 1) (hf f 0 l lv y) (hf f 1 r lv y) (ad 2 (nI (rwH f l r lv y)) Q)).2.2.2 = true
          · rw [if_pos o] at a2
            obtain ⟨w, rfl⟩ : ∃ w', w = w' + 1 := ⟨w - 1, by omega⟩
            have gO : (gw (tn n f kd lim mem (k + 2) (lv + 1)) f s l r lv st y Q).2.2.2 = true := by
              rw [eG2, sh_off]
              exact o
            refine ⟨q.2, A', y8, Or.inr ⟨by rw [rsF_off gO]; exact gO, _, e1.trans (b46_off (by omega) a2 o), a2, o, by omega, ?_⟩⟩
            rw [rsF_off gO, eG2]
            exact (sh_sh (show d ≤ Q.1 2 by omega) _).symm
          · rw [if_neg o] at a2
            exact cont w q.2 A' e1 (by omega) (by rw [eG2]; exact a2) y7 y8
theorem loop_M {n : Nat → Nat} {f : Nat → Nat → Int32} {mem kd lim : Nat} {m0 : SX8} (hT : MT n f mem kd m0) (hlim : lim < 2 ^ 31) (hm : mem < 2 ^ 31) (hm1 : 1 ≤ mem) : ∀ (k lv : Nat), lv + (k + 1) = 4 → CHD n f kd lim mem m0 k lv := by
  intro k
  induction k with
  | zero =>
    intro lv hlv l' r' R1 m2 B c2 hl hr sp
    exact absurd (Or.inl (by omega)) sp.2
  | succ k ih =>
    intro lv hlv l' r' R1 m2 B c2 hl hr sp h hP hop h5 hN hC hlog w hw
    have hTP := tA_TP (n := n) (kd := kd) (lim := lim) (mem := mem) (lv := lv + 1) hl hr R1
    have t1 := hTP.1.2.2.1
    have t2 := hTP.1.2.2.2.2
    refine ⟨_, (tn_sp sp).symm, ?_⟩
    have key := loopS hT hlim hm hm1 (show lv + 1 + (k + 1) = 4 by omega) (ih (lv + 1) (by omega)) (s := bsd l' r') hl hr (bsd_lt l' r') rsM_lt (show c2 ≤ 4 by omega) h5 2 0 (by omega) m2 B _ h hP hop (tA_NN hN) (hTP.2.2 sp hN hC) (by rw [tL] at hlog; omega) w (by rw [cF] at hw; omega)
    rw [cF]
    exact key
