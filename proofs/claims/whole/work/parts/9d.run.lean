/-! run -/
theorem rn_le (n : Nat → Nat) (f : Nat → Nat → Int32) (kd lim mem : Nat) (h0 : n 0 ≤ 14) (h1 : n 1 ≤ 14) : (rn n f kd lim mem).1 0 ≤ lim ∧ (rn n f kd lim mem).1 0 ≤ 250 ∧ (rn n f kd lim mem).1 1 ≤ 182 := by
  have hC := rn_CO (n := n) (f := f) (lim := lim) h0 h1
  have h14 := rn1_TP n f kd lim mem h0 h1
  have hc1 := hC.tp h14
  have hlr : (rn1 n f kd lim mem).1 1 ≤ 182 := by
    have := h14.2.2.1
    have e : R0.1 1 = 0 := rfl
    omega
  have g0 := ao_Gr (n := n) (f := f) (kd := kd) (lim := lim) (s := 0) (set := nk f 0 (n 0)) (rn1 n f kd lim mem)
  have g1 := ao_Gr (n := n) (f := f) (kd := kd) (lim := lim) (s := 1) (set := nk f 1 (n 1)) (ao n f kd lim 0 (nk f 0 (n 0)) (rn1 n f kd lim mem))
  have c2 : CO lim 0 (ao n f kd lim 1 (nk f 1 (n 1)) (ao n f kd lim 0 (nk f 0 (n 0)) (rn1 n f kd lim mem))) := CO.af (a := cnt (nk f 1 (n 1))) (hc1.af ao_Gr) ao_Gr
  rw [rn_eq]
  refine ⟨c2.1, ?_, ?_⟩
  · rcases Nat.lt_or_ge 250 lim with c | c
    · have := c2.2 c
      omega
    · have := c2.1
      omega
  · rw [g1.2.2.1, g0.2.2.1]
    exact hlr
theorem TX.of {T : SX6} {lim : Nat} {q : SX3} {R : RS} (h : XR T lim q R) (h0 : q.2.2.2.1 0 = nI (R.1 0)) (h9 : q.2.2.2.1 9 = nI (R.1 1)) (b0 : R.1 0 ≤ 250) (b1 : R.1 1 ≤ 200) : TX q R := by
  obtain ⟨t0, o1, o2, o3, o4, l1, l2, d1, d2, d3, cc, s1, s2⟩ := h
  exact ⟨o1, o2, l1, l2, h0, cc, h9, b0, b1⟩
theorem sm_run : Sm_run Rel := by
  intro k x m b0 hk h
  have h' := h
  obtain ⟨h1, ⟨c, h2, h3, h4, h5, h6⟩, h7, ⟨R, h8, h9⟩, h10⟩ := h
  unfold fX7_run fX8_run
  rw [within_M, Option.bind_some]
  by_cases c1 : b0 < 0
  · rw [if_pos c1, if_pos c1]
    exact ⟨_, _, rfl, rfl, rfl, h'.up⟩
  · rw [if_neg c1, if_neg c1]
    by_cases c2 : 250 < b0
    · rw [if_pos c2, if_neg (Int32.not_le.mpr c2)]
      exact ⟨_, _, rfl, rfl, rfl, h'.up⟩
    · rw [if_neg c2, if_pos (Int32.not_lt.mp c2), if_neg (show ¬ (1 : Int32) = 0 by decide)]
      rcases there_c hk h2 h3 h5 with ⟨-, a2, a3⟩ | ⟨hc, a2, a3, n, f, mem, kd, d1, d2, d3, d4, d5⟩
      · rw [a2, Option.bind_some, if_pos (show (0 : Int32) = 0 from rfl), if_pos a3]
        exact ⟨_, _, rfl, rfl, rfl, h'.up⟩
      · have e250 : (250 : Int32).toInt = 250 := by decide
        have hlt : b0 < nI 251 := by
          have a := Int32.le_iff_toInt_le.mp (Int32.not_lt.mp c2)
          rw [e250] at a
          refine Int32.lt_iff_toInt_lt.mpr ?_
          rw [nI_toInt (by omega)]
          omega
        obtain ⟨lim, l1, l2⟩ := lt_of (K := 251) (by omega) c1 hlt
        have exl : xlm lim = lim := if_pos (by omega)
        obtain ⟨q, q1, q2, q3, q4⟩ := go_X (lim := lim) (x := x.2.1) d3 (by omega) rfl
        rw [exl] at q1
        obtain ⟨r, A, r1, r2⟩ := runNow_M (lim := lim) d4 (by omega) (by omega) d1
        obtain ⟨n1, n2, n3⟩ := rn_le n f kd lim mem (d4.2.2.2.2.1 0 (by omega)) (d4.2.2.2.2.1 1 (by omega))
        obtain ⟨u, u1, u2, u3, u4, u5⟩ := tell_M r2 n2 (by omega)
        have hF := r2.1
        have hR15 := r2.2.2.2.1
        have hR17 := r2.2.2.2.2.2.1
        have ho := q2.2.2.2.2.1
        have hsz := q2.2.1
        rw [a2, Option.bind_some, if_neg (show ¬ (1 : Int32) = 0 by decide), if_neg a3, l2, q1, r1, Option.bind_some, Option.bind_some, u1, Option.bind_some, u3 15 (by omega) (by omega), u3 17 (by omega) (by omega), hR15, ho, hR17, hsz]
        have ks : ∀ i, (i < 14 ∨ 28 < i) → i ≠ 5 → i ≠ 41 → i ≠ 42 → upd u.1 5 (u.1 5 + 1) i = m.1 i := fun i i1 i2 i3 i4 => (if_neg i2).trans ((u3 i i3 i4).trans (hF.1 i i1))
        have ka : ∀ i, (i < 29 ∨ 48 < i) → u.2.2 i = m.2.2 i := fun i i1 => (u5 i (by omega)).trans (hF.2.2 i (by omega))
        have hRel : Rel (k + 1) (x.1, q, x.2.2.1, x.2.2.2.1, x.2.2.2.2.1, x.2.2.2.2.2.1, x.2.2.2.2.2.2.1, (x.2.2.2.2.2.2.2.1 + 1), x.2.2.2.2.2.2.2.2) (upd u.1 5 (u.1 5 + 1), u.2.1, u.2.2) := by
          refine ⟨h1.fr (ks 9 (by omega) (by omega) (by omega) (by omega)) (ka 10 (by omega)), ⟨c, by omega, ?_, h4, ?_, h6.fr (fun i _ _ => ks i (by omega) (by omega) (by omega) (by omega)) (fun i _ _ => ka i (by omega))⟩, ?_, ⟨rn n f kd lim mem, TX.of q2 q3 q4 n2 (by omega), u2.fr rfl rfl (fun _ _ _ => rfl)⟩, ?_⟩
          · show upd u.1 5 (u.1 5 + 1) 0 = nI c
            rw [ks 0 (by omega) (by omega) (by omega) (by omega)]
            exact h3
          · show TB c q.1 _
            rw [q2.1]
            exact h5.fr (ks 1 (by omega) (by omega) (by omega) (by omega)) (ks 2 (by omega) (by omega) (by omega) (by omega)) (ka 3 (by omega)) (ka 4 (by omega))
          · show SN x.2.2.1 (upd u.1 5 (u.1 5 + 1) 6) (u.2.2 7) (u.2.2 8)
            rw [ks 6 (by omega) (by omega) (by omega) (by omega), ka 7 (by omega), ka 8 (by omega)]
            exact h7
          · show x.2.2.2.2.2.2.2.1 + 1 = u.1 5 + 1
            rw [h10, u3 5 (by omega) (by omega), hF.1 5 (by omega)]
        by_cases cb : (rn n f kd lim mem).2.2.2 = true
        · rw [if_pos cb, if_neg (show ¬ (1 : Int32) = 0 by decide), if_neg (show ¬ (1 : Int32) = 0 by decide)]
          exact ⟨_, _, rfl, rfl, rfl, hRel⟩
        · rw [if_neg cb, if_pos (show (0 : Int32) = 0 from rfl), if_pos (show (0 : Int32) = 0 from rfl)]
          exact ⟨_, _, rfl, rfl, rfl, hRel⟩
