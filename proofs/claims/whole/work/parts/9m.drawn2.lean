def dC (x : SX7) (Y : SX3) : SX7 := (x.1, x.2.1, x.2.2.1, x.2.2.2.1, x.2.2.2.2.1, x.2.2.2.2.2.1, Y, x.2.2.2.2.2.2.2.1, x.2.2.2.2.2.2.2.2)
theorem lineAt_0 (y : SX3) : fX3_lineAt y 0 = some (y.2.2.2.1 0) := rfl
theorem lineAt_1 (y : SX3) : fX3_lineAt y 1 = some (y.2.2.2.1 1) := rfl
theorem drawn_L {x : SX7} {m : SX8} {n : Nat → Nat} {f : Nat → Nat → Int32} {mem kd T : Nat} {x3 : Int32} (hT : MT n f mem kd m) (hm : 1 ≤ mem) (hm9 : mem ≤ 9) (hTT : T ≤ 10) : ∀ r j s a b Y z w1 w2, j + r = T → s < 2147483648 → r < w1 → r < w2 → Y.1.2.2.1 = nI mem → Y.1.2.2.2 = nI kd → Fdw m s z → ∃ v Y' z', fX7_drawn_b86 w1 (nI T) x3 (nI s) a b (nI j) (dC x Y) = some (v, dC x Y') ∧ fX8_drawnNow_b77 w2 (nI T) x3 (m.2.2 4 0) (m.2.2 4 1) a b (nI j) z = some (v, z') ∧ Kp m z' := by
  intro r
  induction r with
  | zero =>
    intro j s a b Y z w1 w2 hj hs hw1 hw2 hY1 hY2 hz
    obtain ⟨w1, rfl⟩ : ∃ v, w1 = v + 1 := ⟨w1 - 1, by omega⟩
    obtain ⟨w2, rfl⟩ : ∃ v, w2 = v + 1 := ⟨w2 - 1, by omega⟩
    have ej : j = T := by omega
    rw [fX7_drawn_b86, fX8_drawnNow_b77, ej, if_pos (nI_le (Nat.le_refl T) (by omega)), if_pos (nI_le (Nat.le_refl T) (by omega))]
    obtain ⟨q, q1, q2, q3, q4, q5, q6⟩ := b195_M (z.1, z.2.1, va_up (va_up z.2.2 4 (upd (z.2.2 4) (0 : Int32).toNatClampNeg (m.2.2 4 0))) 4 (upd (upd (z.2.2 4) (0 : Int32).toNatClampNeg (m.2.2 4 0)) (1 : Int32).toNatClampNeg (m.2.2 4 1))) x3 a b
    obtain ⟨h1, h2, h3, h4, h5, h6, h7, h8⟩ := hz
    have e49 : ((z.2.1 49).toInt32 : Int32) = nI s := by rw [h3, nL_32]
    have hq : q.1 = if x3 = 0 then a else if x3 = 1 then b else nI s := by
      rw [q2, ← e49]
    have hk : Kp m q.2 := by
      refine ⟨fun i hi => by rw [q3]; exact h1 i (by omega), fun i hi => ?_⟩
      by_cases c3 : i = 3
      · rw [c3]
        funext p
        by_cases cp : p < 28
        · rw [q5 p cp]
          exact h4 p cp
        · rw [q6 p (by omega)]
          exact h5 p (by omega)
      · rw [q4 i c3]
        by_cases c4 : i = 4
        · rw [c4]
          funext p
          show upd (upd (z.2.2 4) 0 (m.2.2 4 0)) 1 (m.2.2 4 1) p = m.2.2 4 p
          unfold upd
          by_cases p1 : p = 1
          · rw [if_pos p1, p1]
          · rw [if_neg p1]
            by_cases p0 : p = 0
            · rw [if_pos p0, p0]
            · rw [if_neg p0]
              exact h8 p (by omega)
        · exact (if_neg c4).trans ((if_neg c4).trans (h2 i c3 c4 (by omega) (by omega)))
    refine ⟨q.1, Y, q.2, ?_, q1, hk⟩
    rw [hq]
    by_cases c0 : x3 = 0
    · rw [if_pos c0, if_pos c0]
    · rw [if_neg c0, if_neg c0]
      by_cases c1 : x3 = 1
      · rw [if_pos c1, if_pos c1]
      · rw [if_neg c1, if_neg c1]
  | succ r ih =>
    intro j s a b Y z w1 w2 hj hs hw1 hw2 hY1 hY2 hz
    obtain ⟨w1, rfl⟩ : ∃ v, w1 = v + 1 := ⟨w1 - 1, by omega⟩
    obtain ⟨w2, rfl⟩ : ∃ v, w2 = v + 1 := ⟨w2 - 1, by omega⟩
    have hlt : ¬ nI T ≤ nI j := nI_ge (by omega) (by omega)
    have h8 := sq_lt hs 8
    obtain ⟨u, u1, u2, u3⟩ := drawRows_X hs Y.1.1
    obtain ⟨v, v1, v2, v3⟩ := drawRows_X h8 Y.1.2.1
    rw [sq_add] at v2
    have hX : XT (u.2, v.2, Y.1.2.2.1, Y.1.2.2.2) (fun _ => 8) (fD s) mem kd := by
      refine ⟨u3, v3.cg (fun i hi => ?_), hY1, hY2, hT.2.2.2.2.2⟩
      show kv (sq (sq s 8) i) = kv (sq s (8 + i))
      rw [sq_add]
    obtain ⟨g, g1, g2, g3, g4⟩ := go_X (lim := 268435456) (x := ((u.2, v.2, Y.1.2.2.1, Y.1.2.2.2), Y.2.1, Y.2.2.1, Y.2.2.2.1, Y.2.2.2.2)) hX (by omega) rfl
    have gl : g.2.2.2.1 1 = (rn (fun _ => 8) (fD s) kd 268435456 mem).2.2.1 1 := g2.2.2.2.2.2.2.2.2.2.2.1 1 (by omega) (by omega)
    obtain ⟨y, y1, y2⟩ := b86_M hT hm hm9 hz (fX8_drawnNow_b77 w2) (nI T) x3 (m.2.2 4 0) (m.2.2 4 1) a b (nI j)
    obtain ⟨v', Y', z', i1, i2, i3⟩ := ih (j + 1) (sq s 16) (a + nI ((rn (fun _ => 8) (fD s) kd 268435456 mem).1 0)) (b + (rn (fun _ => 8) (fD s) kd 268435456 mem).2.2.1 1) g y w1 w2 (by omega) (sq_lt hs 16) (by omega) (by omega) (by rw [g2.1]; exact hY1) (by rw [g2.1]; exact hY2) y2
    refine ⟨v', Y', z', ?_, ?_, i3⟩
    · rw [fX7_drawn_b86, if_neg hlt]
      show (fX7_drawRows Y.1.1 (nI s)).bind _ = _
      rw [u1, Option.bind_some, u2]
      show (fX7_drawRows Y.1.2.1 (nI (sq s 8))).bind _ = _
      rw [v1, Option.bind_some, v2]
      show (fX3_go ((u.2, v.2, Y.1.2.2.1, Y.1.2.2.2), Y.2.1, Y.2.2.1, Y.2.2.2.1, Y.2.2.2.2) 250).bind _ = _
      rw [show fX3_go ((u.2, v.2, Y.1.2.2.1, Y.1.2.2.2), Y.2.1, Y.2.2.1, Y.2.2.2.1, Y.2.2.2.2) 250 = some g from g1, Option.bind_some, lineAt_0, Option.bind_some, lineAt_1, Option.bind_some, g3, gl, nI1]
      exact i1
    · rw [fX8_drawnNow_b77, if_neg hlt, y1, nI1]
      exact i2
theorem sm_drawn : Sm_drawn Rel := by
  intro k x m b0 b1 b2 hk h
  obtain ⟨c, h2, h3, h4, h5, h6⟩ := h.2.1
  unfold fX7_drawn fX8_drawn
  rw [within_M, within_M, Option.bind_some, Option.bind_some]
  by_cases c1 : b0 < 1
  · rw [if_pos c1, if_pos c1]
    exact ⟨_, _, rfl, rfl, rfl, h.up⟩
  rw [if_neg c1, if_neg c1]
  by_cases c2 : 10 < b0
  · rw [if_pos c2, if_pos c2]
    exact ⟨_, _, rfl, rfl, rfl, h.up⟩
  rw [if_neg c2, if_neg c2, if_neg (show ¬ (1 : Int32) = 0 by decide)]
  by_cases c3 : b1 < 0
  · rw [if_pos c3, if_pos c3]
    exact ⟨_, _, rfl, rfl, rfl, h.up⟩
  rw [if_neg c3, if_neg c3]
  by_cases c4 : b2 < 0
  · rw [if_pos c4, if_pos c4]
    exact ⟨_, _, rfl, rfl, rfl, h.up⟩
  rw [if_neg c4, if_neg c4]
  by_cases c5 : 2 < b2
  · rw [if_pos c5, if_neg (Int32.not_le.mpr c5)]
    exact ⟨_, _, rfl, rfl, rfl, h.up⟩
  rw [if_neg c5, if_pos (Int32.not_lt.mp c5), if_neg (show ¬ (1 : Int32) = 0 by decide)]
  rcases there_c hk h2 h3 h5 with ⟨-, a2, a3⟩ | ⟨hc, a2, a3, n, f, mem, kd, d1, d2, d3, d4, d5⟩
  · rw [a2, Option.bind_some, if_pos (show (0 : Int32) = 0 from rfl), if_pos a3]
    exact ⟨_, _, rfl, rfl, rfl, h.up⟩
  rw [a2, Option.bind_some, if_neg (show ¬ (1 : Int32) = 0 by decide), if_neg a3]
  obtain ⟨T, t1, t2, t3⟩ : ∃ T, 1 ≤ T ∧ T ≤ 10 ∧ b0 = nI T := by
    have e1 : (1 : Int32).toInt ≤ b0.toInt := Int32.le_iff_toInt_le.mp (Int32.not_lt.mp c1)
    have e2 : b0.toInt ≤ (10 : Int32).toInt := Int32.le_iff_toInt_le.mp (Int32.not_lt.mp c2)
    have f1 : (1 : Int32).toInt = 1 := by decide
    have f2 : (10 : Int32).toInt = 10 := by decide
    refine ⟨b0.toInt.toNat, by omega, by omega, ?_⟩
    apply Int32.toInt_inj.mp
    rw [nI_toInt (by omega)]
    omega
  obtain ⟨s, s1, s2⟩ : ∃ s, s < 2147483648 ∧ b1 = nI s := by
    have e1 : (0 : Int32).toInt ≤ b1.toInt := Int32.le_iff_toInt_le.mp (Int32.not_lt.mp c3)
    have f1 : (0 : Int32).toInt = 0 := by decide
    have f2 := b1.toInt_lt
    refine ⟨b1.toInt.toNat, by omega, ?_⟩
    apply Int32.toInt_inj.mp
    rw [nI_toInt (by omega)]
    omega
  rw [t3, s2]
  have hm : x.2.1.1.2.2.1 = nI mem := d3.2.2.1
  have hkd : x.2.1.1.2.2.2 = nI kd := d3.2.2.2.1
  have hN : ∃ v Y' z', fX7_drawn_b86 1000 (nI T) b2 (nI s) 0 0 (nI 0) (dC x ((x.2.2.2.2.2.2.1.1.1, x.2.2.2.2.2.2.1.1.2.1, x.2.1.1.2.2.1, x.2.1.1.2.2.2), x.2.2.2.2.2.2.1.2.1, x.2.2.2.2.2.2.1.2.2.1, x.2.2.2.2.2.2.1.2.2.2.1, x.2.2.2.2.2.2.1.2.2.2.2)) = some (v, dC x Y') ∧ fX8_drawnNow m (nI T) (nI s) b2 = some (v, z') ∧ Kp m z' := by
    unfold fX8_drawnNow
    obtain ⟨y, ⟨y1, y2, y3, y4⟩, y5⟩ := upS (fun w j (y : SX8) => fX8_drawnNow_b19 w (nI T) (nI s) b2 (m.2.2 4 (0 : Int32).toNatClampNeg) (m.2.2 4 (1 : Int32).toNatClampNeg) (nI j) y) (fun j y => y.1 = m.1 ∧ y.2.1 = m.2.1 ∧ (∀ i, i ≠ 50 → y.2.2 i = m.2.2 i) ∧ ∀ i, i < j → y.2.2 50 i = m.2.2 3 i) 28 (by
      intro w j y hj hI
      obtain ⟨i1, i2, i3, i4⟩ := hI
      have hin : ¬ (nI j < 0 ∨ 28 ≤ (nI j).toNatClampNeg) := nI_in hj (by omega)
      refine ⟨(y.1, y.2.1, va_up y.2.2 50 (upd (y.2.2 50) j (y.2.2 3 j))), ⟨i1, i2, fun i hi => (if_neg hi).trans (i3 i hi), ?_⟩, ?_⟩
      · intro i hi
        show upd (y.2.2 50) j (y.2.2 3 j) i = _
        unfold upd
        by_cases c : i = j
        · rw [if_pos c, c, i3 3 (by omega)]
        · rw [if_neg c]
          exact i4 i (by omega)
      · show fX8_drawnNow_b19 (w + 1) (nI T) (nI s) b2 _ _ (nI j) y = fX8_drawnNow_b19 w (nI T) (nI s) b2 _ _ (nI (j + 1)) _
        rw [fX8_drawnNow_b19, if_neg (cl 28 hj (by omega)), if_neg hin, if_neg hin, nI_clamp (by omega), nI1]) 28 972 0 m (by omega) ⟨rfl, rfl, fun _ _ => rfl, fun i hi => absurd hi (Nat.not_lt_zero i)⟩
    have hz : Fdw m s (y.1, va_up y.2.1 49 (nL s), va_up (va_up y.2.2 4 (upd (y.2.2 4) (0 : Int32).toNatClampNeg 8)) 4 (upd (upd (y.2.2 4) (0 : Int32).toNatClampNeg 8) (1 : Int32).toNatClampNeg 8)) := by
      refine ⟨fun i _ => by rw [y1], fun i i3 i4 i50 _ => (if_neg i4).trans ((if_neg i4).trans (y3 i i50)), rfl, ?_, ?_, rfl, rfl, ?_⟩
      · intro i hi
        exact y4 i hi
      · intro i hi
        show y.2.2 3 i = _
        rw [y3 3 (by omega)]
      · intro i hi
        show upd (upd (y.2.2 4) 0 8) 1 8 i = _
        unfold upd
        rw [if_neg (show ¬ i = 1 by omega), if_neg (show ¬ i = 0 by omega), y3 4 (by omega)]
    obtain ⟨v, Y', z', i1, i2, i3⟩ := drawn_L (x := x) (x3 := b2) d4 d1 d2 t2 T 0 s 0 0 ((x.2.2.2.2.2.2.1.1.1, x.2.2.2.2.2.2.1.1.2.1, x.2.1.1.2.2.1, x.2.1.1.2.2.2), x.2.2.2.2.2.2.1.2.1, x.2.2.2.2.2.2.1.2.2.1, x.2.2.2.2.2.2.1.2.2.2.1, x.2.2.2.2.2.2.1.2.2.2.2) _ 1000 1000 (by omega) s1 (by omega) (by omega) hm hkd hz
    refine ⟨v, Y', z', i1, ?_, i3⟩
    refine Eq.trans y5 ?_
    show fX8_drawnNow_b19 (971 + 1) (nI T) (nI s) b2 _ _ (nI 28) y = _
    rw [fX8_drawnNow_b19, if_pos (show (28 : Int32) ≤ nI 28 by decide), nI_64 (by omega)]
    exact i2
  obtain ⟨v, Y', z', i1, i2, i3⟩ := hN
  rw [i2]
  refine ⟨_, _, i1, rfl, rfl, ?_⟩
  exact h.kp i3
