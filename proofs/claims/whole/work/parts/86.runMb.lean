/-! the reference's run as a whole -/
theorem b165_M {m0 : SX8} {A : Nat → Nat → Int32} {lim : Nat} : ∀ (j k : Nat) (m : SX8) (Q : RS), MR m0 A lim m Q → Q.1 2 = j → j < k → j ≤ 64 → Q.1 1 + j ≤ 512 → ∃ q, fX8_runNow_b165 k m = some q ∧ MR m0 A lim q (shN j Q) := by
  intro j
  induction j with
  | zero =>
    intro k m Q h hj hk h1 h2
    obtain ⟨k, rfl⟩ : ∃ k', k = k' + 1 := ⟨k - 1, by omega⟩
    have e28 : m.1 28 = nI (Q.1 2) := h.2.2.2.2.2.2.2.2.2.1
    refine ⟨m, ?_, h⟩
    rw [fX8_runNow_b165, e28, hj, if_pos (show nI 0 ≤ 0 by decide)]
  | succ j ih =>
    intro k m Q h hj hk h1 h2
    obtain ⟨k, rfl⟩ : ∃ k', k = k' + 1 := ⟨k - 1, by omega⟩
    have e28 : m.1 28 = nI (Q.1 2) := h.2.2.2.2.2.2.2.2.2.1
    obtain ⟨q, q1, q2⟩ := sh1_M h (by omega) (by omega) (by omega)
    obtain ⟨q', r1, r2⟩ := ih k q (sh1 Q) q2 (show Q.1 2 - 1 = j by omega) (by omega) (by omega) (show Q.1 1 + 1 + j ≤ 512 by omega)
    refine ⟨q', ?_, r2⟩
    rw [fX8_runNow_b165, e28, hj, if_neg (show ¬ nI (j + 1) ≤ 0 from nI_ge (a := 0) (by omega) (by omega)), q1, Option.bind_some]
    exact r1
theorem b143_M {n : Nat → Nat} {f : Nat → Nat → Int32} {mem kd lim : Nat} {m0 m : SX8} {A : Nat → Nat → Int32} {Z : RS} (hT : MT n f mem kd m0) (hlim : lim < 2 ^ 31) (h : MR m0 A lim m Z) (hZ : (Z = rn1 n f kd lim mem ∧ Z.1 2 = 0) ∨ (Z.2.2.2 = true ∧ sh 0 Z = rn1 n f kd lim mem ∧ Z.1 2 ≤ 60)) :
    ∃ q, fX8_runNow_b143 m = some q ∧ MR m0 A lim q (rn n f kd lim mem) := by
  have h0 : n 0 ≤ 14 := hT.2.2.2.2.1 0 (by omega)
  have h1 : n 1 ≤ 14 := hT.2.2.2.2.1 1 (by omega)
  have hC := rn_CO (n := n) (f := f) (lim := lim) h0 h1
  have h14 := rn1_TP n f kd lim mem h0 h1
  have hc1 := hC.tp h14
  have hlr : (rn1 n f kd lim mem).1 1 ≤ 182 := by
    have := h14.2.2.1
    have e : R0.1 1 = 0 := rfl
    omega
  have hz0 : Z.1 0 = (rn1 n f kd lim mem).1 0 := by
    rcases hZ with ⟨e, -⟩ | ⟨-, e, -⟩
    · rw [e]
    · rw [← e]
      exact (shN_keep (Z.1 2 - 0) Z).1.symm
  have hzl : Z.1 1 + Z.1 2 ≤ 182 := by
    rcases hZ with ⟨e, e2⟩ | ⟨-, e, -⟩
    · rw [e2, e]
      omega
    · have q := (shN_keep (Z.1 2 - 0) Z).2.2.2.2.2.2.2.2.1
      have q2 : (sh 0 Z).1 1 = Z.1 1 + (Z.1 2 - 0) := q
      rw [e] at q2
      omega
  have hz60 : Z.1 2 ≤ 60 := by
    rcases hZ with ⟨-, e2⟩ | ⟨-, -, e⟩ <;> omega
  have hcZ : CO lim (cnt (nk f 0 (n 0)) + cnt (nk f 1 (n 1))) Z := by
    unfold CO
    rw [hz0]
    exact hc1
  obtain ⟨u, u1, u2⟩ := ao_M (s := 0) (set := nk f 0 (n 0)) hT hlim h (by omega) (fun k hk => by rw [nk_bit, Bool.and_eq_true] at hk; exact of_decide_eq_true hk.1) (mkm_le _ h0) (hcZ.le (by omega))
  obtain ⟨v, v1, v2⟩ := ao_M (s := 1) (set := nk f 1 (n 1)) hT hlim u2 (by omega) (fun k hk => by rw [nk_bit, Bool.and_eq_true] at hk; exact of_decide_eq_true hk.1) (mkm_le _ h1) (hcZ.af ao_Gr)
  have g0 := ao_Gr (n := n) (f := f) (kd := kd) (lim := lim) (s := 0) (set := nk f 0 (n 0)) Z
  have g1 := ao_Gr (n := n) (f := f) (kd := kd) (lim := lim) (s := 1) (set := nk f 1 (n 1)) (ao n f kd lim 0 (nk f 0 (n 0)) Z)
  have e2 : (ao n f kd lim 1 (nk f 1 (n 1)) (ao n f kd lim 0 (nk f 0 (n 0)) Z)).1 2 = Z.1 2 := g1.2.2.2.1.trans g0.2.2.2.1
  have e1 : (ao n f kd lim 1 (nk f 1 (n 1)) (ao n f kd lim 0 (nk f 0 (n 0)) Z)).1 1 = Z.1 1 := g1.2.2.1.trans g0.2.2.1
  obtain ⟨q, q1, q2⟩ := b165_M (Z.1 2) 1000 v _ v2 e2 (by omega) (by omega) (by omega)
  refine ⟨q, ?_, ?_⟩
  · unfold fX8_runNow_b143
    rw [show fX8_withKeys m 0 0 = some (nI (nk f 0 (n 0))) from withKeys_M (s := 0) (w := 0) (hT.fr h.1) (by omega) (by omega), Option.bind_some, show fX8_aloneOnes m 0 (nI (nk f 0 (n 0))) = some u from u1, Option.bind_some]
    rw [show fX8_withKeys u 1 0 = some (nI (nk f 1 (n 1))) from withKeys_M (s := 1) (w := 0) (hT.fr u2.1) (by omega) (by omega), Option.bind_some, show fX8_aloneOnes u 1 (nI (nk f 1 (n 1))) = some v from v1, Option.bind_some]
    exact q1
  · rw [rn_eq]
    rcases hZ with ⟨e, ez⟩ | ⟨eo, e, -⟩
    · rw [ez, e] at q2
      exact q2
    · have eoff : (rn1 n f kd lim mem).2.2.2 = true := by
        rw [← e, sh_off]
        exact eo
      rw [ao_off _ eoff, ao_off _ eoff, ← e]
      rw [ao_off Z eo, ao_off Z eo] at q2
      exact q2
theorem runNow_M {n : Nat → Nat} {f : Nat → Nat → Int32} {mem kd lim : Nat} {m : SX8} (hT : MT n f mem kd m) (hlim : lim < 2 ^ 31) (hm : mem < 2 ^ 31) (hm1 : 1 ≤ mem) : ∃ q A, fX8_runNow m (nI lim) = some q ∧ MR m A lim q (rn n f kd lim mem) := by
  have h0 : n 0 ≤ 14 := hT.2.2.2.2.1 0 (by omega)
  have h1 : n 1 ≤ 14 := hT.2.2.2.2.1 1 (by omega)
  have hC := rn_CO (n := n) (f := f) (lim := lim) h0 h1
  have h14 := rn1_TP n f kd lim mem h0 h1
  have hor : wk f 0 (n 0) ||| wk f 1 (n 1) < 16384 := Nat.or_lt_two_pow (n := 14) (mkm_le _ h0) (mkm_le _ h1)
  have hN0 : NN R0 := show ¬ (0 : Int32) < 0 by decide
  have hneg : ∀ (w : Nat) (x : Int32) (y : SX8), x < 0 → 1 ≤ w → fX8_runNow_b46 w x y = fX8_runNow_b143 y := by
    intro w x y hx hw
    obtain ⟨w, rfl⟩ : ∃ w', w = w' + 1 := ⟨w - 1, by omega⟩
    rw [fX8_runNow_b46, if_pos hx]
  have hopen : (rn1 n f kd lim mem).1 2 = 0 := by
    have a := h14.2.2.2.2
    have e : R0.1 2 = 0 := rfl
    omega
  have hI : MR m m.2.2 lim (upd (upd (upd (upd (upd (upd (upd (upd (upd (upd (upd (upd (upd (upd (upd m.1 15 0) 16 0) 17 0) 18 0) 19 0) 20 0) 21 (-1)) 22 0) 23 0) 24 0) 25 0) 26 0) 27 0) 28 0) 14 (nI lim), m.2.1, m.2.2) R0 := by
    refine ⟨?_, fun i _ _ => rfl, rfl, rfl, fun _ => rfl, rfl, ?_, rfl, rfl, rfl, fun i hi => absurd hi (Nat.not_lt_zero i), fun i hi => absurd hi (Nat.not_lt_zero i), fun i hi => absurd hi (Nat.not_lt_zero i), by decide⟩
    · refine ⟨fun i hi => ?_, rfl, fun i _ => rfl⟩
      show upd (upd (upd (upd (upd (upd (upd (upd (upd (upd (upd (upd (upd (upd (upd m.1 15 0) 16 0) 17 0) 18 0) 19 0) 20 0) 21 (-1)) 22 0) 23 0) 24 0) 25 0) 26 0) 27 0) 28 0) 14 (nI lim) i = m.1 i
      unfold upd
      rw [if_neg (show ¬ i = 14 by omega), if_neg (show ¬ i = 28 by omega), if_neg (show ¬ i = 27 by omega), if_neg (show ¬ i = 26 by omega), if_neg (show ¬ i = 25 by omega), if_neg (show ¬ i = 24 by omega), if_neg (show ¬ i = 23 by omega), if_neg (show ¬ i = 22 by omega), if_neg (show ¬ i = 21 by omega), if_neg (show ¬ i = 20 by omega), if_neg (show ¬ i = 19 by omega), if_neg (show ¬ i = 18 by omega), if_neg (show ¬ i = 17 by omega), if_neg (show ¬ i = 16 by omega), if_neg (show ¬ i = 15 by omega)]
    · intro j j1 j8
      rcases (show j = 1 ∨ j = 2 ∨ j = 3 ∨ j = 4 ∨ j = 5 ∨ j = 6 ∨ j = 7 ∨ j = 8 by omega) with rfl | rfl | rfl | rfl | rfl | rfl | rfl | rfl <;> rfl
  have hMI := hT.fr hI.1
  unfold fX8_runNow fX8_clearRun
  rw [Option.bind_some]
  generalize hz : ((upd (upd (upd (upd (upd (upd (upd (upd (upd (upd (upd (upd (upd (upd (upd m.1 15 0) 16 0) 17 0) 18 0) 19 0) 20 0) 21 (-1)) 22 0) 23 0) 24 0) 25 0) 26 0) 27 0) 28 0) 14 (nI lim), m.2.1, m.2.2) : SX8) = z at hI hMI
  rw [show fX8_withKeys z 0 1 = some (nI (wk f 0 (n 0))) from withKeys_M (s := 0) (w := 1) hMI (by omega) (by omega), Option.bind_some]
  rw [show fX8_withKeys z 1 1 = some (nI (wk f 1 (n 1))) from withKeys_M (s := 1) (w := 1) hMI (by omega) (by omega), Option.bind_some, fa_or]
  by_cases c : wk f 0 (n 0) ||| wk f 1 (n 1) = 0
  · have er : rn1 n f kd lim mem = R0 := if_pos c
    obtain ⟨q, q1, q2⟩ := b143_M hT hlim hI (Or.inl ⟨er.symm, rfl⟩)
    rw [if_pos ((nI_z (by omega)).mpr c), hneg 1000 (-1) z (by decide) (by omega)]
    exact ⟨q, _, q1, q2⟩
  · have er : rn1 n f kd lim mem = tn n f kd lim mem 6 0 (wk f 0 (n 0)) (wk f 1 (n 1)) R0 := if_neg c
    rw [if_neg (fun e => c ((nI_z (by omega)).mp e))]
    have hl := wk_Sb (n := n) (f := f) (s := 0) h0
    have hr := wk_Sb (n := n) (f := f) (s := 1) h1
    have hCn : CO lim (nd (wk f 0 (n 0)) (wk f 1 (n 1))) R0 := hC.le (by omega)
    obtain ⟨q, t1, t2, t3⟩ := turn_M (lv := 0) hT hlim hm hm1 hI hl hr (by omega) hN0 hCn (show 0 + 6 ≤ 512 by omega) (show 0 + 5 ≤ 64 by omega)
    have hTP := tA_TP (n := n) (kd := kd) (lim := lim) (mem := mem) (lv := 0) hl hr R0
    rw [show fX8_turn z 0 (nI (wk f 0 (n 0))) (nI (wk f 1 (n 1))) = some q from t1, Option.bind_some]
    by_cases sp : spt f mem 0 (wk f 0 (n 0)) (wk f 1 (n 1))
    · obtain ⟨a1, B, c2, a2, a3, a4, a5⟩ := t3 sp
      have b1 := hTP.1.2.2.1
      have b2 := hTP.1.2.2.2.2
      have z1 : R0.1 1 = 0 := rfl
      have z2 : R0.1 2 = 0 := rfl
      have k3 : tL 3 = 86 := by decide
      have kf : cF 3 = 21 := by decide
      have es := er.trans (tn_sp (k := 5) sp)
      obtain ⟨m', A', -, key⟩ := loopS hT hlim hm hm1 (show 0 + (3 + 1) = 4 by omega) (loop_M hT hlim hm hm1 3 0 (by omega)) (s := bsd (wk f 0 (n 0)) (wk f 1 (n 1))) (d := 0) hl hr (bsd_lt _ _) rsM_lt (show c2 ≤ 4 by omega) (by omega) 2 0 (by omega) q.2 B _ a2 a4 (by omega) (tA_NN hN0) (hTP.2.2 sp hN0 hCn) (by omega) 1000 (by omega)
      rw [a1, if_neg (show ¬ (1 : Int32) = 0 by decide)]
      rcases key with ⟨o1, w', o2, o3, o4⟩ | ⟨o1, Z, o2, o3, o4, o5, o6⟩
      · have eZ : sh 0 (rsF (tn n f kd lim mem (3 + 2) (0 + 1)) f (bsd (wk f 0 (n 0)) (wk f 1 (n 1))) (wk f 0 (n 0)) (wk f 1 (n 1)) 0 (rsM f mem (bsd (wk f 0 (n 0)) (wk f 1 (n 1))) (wk f 0 (n 0)) (wk f 1 (n 1)) 0) 0 (tA n f kd lim mem 0 (wk f 0 (n 0)) (wk f 1 (n 1)) R0)) = rn1 n f kd lim mem := es.symm
        rw [eZ] at o4
        obtain ⟨q', k1, k2⟩ := b143_M hT hlim o4 (Or.inl ⟨rfl, hopen⟩)
        refine ⟨q', _, ?_, k2⟩
        rw [show fX8_runNow_b46 1000 0 q.2 = _ from o3, hneg w' (nI 0 + (-1)) m' (by decide) (by omega)]
        exact k1
      · obtain ⟨q', k1, k2⟩ := b143_M hT hlim o3 (Or.inr ⟨o4, o6.trans es.symm, o5⟩)
        refine ⟨q', _, ?_, k2⟩
        rw [show fX8_runNow_b46 1000 0 q.2 = _ from o2]
        exact k1
    · obtain ⟨a1, a2⟩ := t2 sp
      have es := er.trans (tn_ns (k := 5) sp)
      have hX := hTP.2.1 sp
      have z2 : R0.1 2 = 0 := rfl
      rw [a1, if_pos rfl, hneg 1000 (-1) q.2 (by decide) (by omega)]
      unfold tE at a2
      by_cases o : (tA n f kd lim mem 0 (wk f 0 (n 0)) (wk f 1 (n 1)) R0).2.2.2 = true
      · rw [if_pos o] at a2
        obtain ⟨q', k1, k2⟩ := b143_M hT hlim a2 (Or.inr ⟨o, es.symm, by omega⟩)
        exact ⟨q', _, k1, k2⟩
      · rw [if_neg o, ← es] at a2
        obtain ⟨q', k1, k2⟩ := b143_M hT hlim a2 (Or.inl ⟨rfl, hopen⟩)
        exact ⟨q', _, k1, k2⟩
