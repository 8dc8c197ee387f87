theorem sm_tables : Sm_tables Rel := by
  intro k x m hk h
  have h' := h
  obtain ⟨h1, ⟨c, h2, h3, h4, h5, h6⟩, h7, ⟨R, h8, h9⟩, h10⟩ := h
  obtain ⟨L, g, hp⟩ := h1.pl
  obtain ⟨P, q, a1, a2, a3, a4, a5, a6⟩ := read_P hp
  have h36 := hp.1
  unfold fX7_tables fX8_tables
  rw [a2, Option.bind_some]
  rcases a6 with ⟨b1, b2⟩ | ⟨b1, b2, r1, r2, b3, b4, b5, b6, b7, b8, b9, b10, b11, b12, b13⟩
  · rw [b2, Option.bind_some, if_pos (show (0 : Int32) = 0 from rfl), if_pos (show q.1 11 = 0 from b1)]
    refine ⟨_, _, rfl, rfl, rfl, h'.kp ⟨fun i hi => a5 i (by omega) (by omega) (by omega), fun i hi => ?_⟩⟩
    show q.2.2 i = m.2.2 i
    rw [a4]
  · have gl : ∀ i, i < L → g i ≤ 126 := fun i hi => (hp.2.2.2 i hi).2.2.2
    have gm : ∀ i, i < L → m.2.2 10 i = nI (g i) := fun i hi => (hp.2.2.2 i hi).2.1
    rw [b2, Option.bind_some, if_neg (show ¬ (1 : Int32) = 0 by decide), if_neg (show ¬ q.1 11 = 0 by rw [b1]; decide), b3, Option.bind_some, show fX2_codeAt x.1 0 = some (nI (g 0)) from codeAt_L hp (i := 0) (by omega), Option.bind_some, show fX2_codeAt x.1 1 = some (nI (g 1)) from codeAt_L hp (i := 1) (by omega), Option.bind_some, kind_c _ (by have := gl 1 (by omega); omega), if_neg (show ¬ kdN (g 1) = 5 by omega), Option.bind_some]
    obtain ⟨s1, u1, u2, u3⟩ := readRows_L hp x.2.1.1.1 (a := 3) b6 (by omega)
    obtain ⟨s2, v1, v2, v3⟩ := readRows_L hp x.2.1.1.2.1 (a := 3 + r1 + 1) b7 (by omega)
    rw [show fX2_readRows (x.1, x.2.1.1.1) 3 (nI (3 + r1)) = some s1 from u1, Option.bind_some, u2, nI1, hp.2.1, show L = 3 + r1 + 1 + r2 by omega, v1, Option.bind_some]
    unfold fX2_clear fX4_clear
    rw [Option.bind_some, Option.bind_some]
    obtain ⟨t, t1, t2, t3⟩ := clear_T ((s1.2, s2.2, nI (g 0) - 48, nI (kdN (g 1))), x.2.1.2.1, x.2.1.2.2.1, x.2.1.2.2.2.1, x.2.1.2.2.2.2) 0
    rw [t1, Option.bind_some]
    unfold fX6_size
    rw [Option.bind_some]
    have eq2 : q.2.2 = m.2.2 := by rw [a4]
    rw [eq2, show m.2.2 10 (1 : Int32).toNatClampNeg = nI (g 1) from gm 1 (by omega), kindM_c _ (by have := gl 1 (by omega); omega), if_neg (show ¬ kdN (g 1) = 5 by omega), Option.bind_some]
    obtain ⟨r, w1, w2, w3, w4, w5, w6, w7, w8, w9, w10, w11⟩ := b63_M (y := (upd (upd q.1 1 ((m.2.2 10 (0 : Int32).toNatClampNeg) - 48)) 2 (nI (kdN (g 1))), q.2.1, va_up (va_up m.2.2 4 (upd (m.2.2 4) (0 : Int32).toNatClampNeg (q.1 12))) 4 (upd (upd (m.2.2 4) (0 : Int32).toNatClampNeg (q.1 12)) (1 : Int32).toNatClampNeg (q.1 13)))) (g := g) (r1 := r1) (r2 := r2) b6 b7 b4 b5 (fun i hi => ⟨gm (3 + i) (by omega), gl (3 + i) (by omega)⟩) (fun i hi => ⟨gm (4 + r1 + i) (by omega), gl (4 + r1 + i) (by omega)⟩)
    rw [w1]
    have e40 : va_up (va_up m.2.2 4 (upd (m.2.2 4) (0 : Int32).toNatClampNeg (q.1 12))) 4 (upd (upd (m.2.2 4) (0 : Int32).toNatClampNeg (q.1 12)) (1 : Int32).toNatClampNeg (q.1 13)) 4 0 = nI r1 := b4
    have e41 : va_up (va_up m.2.2 4 (upd (m.2.2 4) (0 : Int32).toNatClampNeg (q.1 12))) 4 (upd (upd (m.2.2 4) (0 : Int32).toNatClampNeg (q.1 12)) (1 : Int32).toNatClampNeg (q.1 13)) 4 1 = nI r2 := b5
    have em : nI (g 0) - 48 = nI (g 0 - 48) := pk_sub (b := 48) (by omega)
    refine ⟨_, r, rfl, rfl, ?_, ?_⟩
    · show t.1.1.2 + t.1.2.1.2 = r.1
      rw [w2, t2]
      show s1.2.2 + s2.2.2 = va_up (va_up m.2.2 4 (upd (m.2.2 4) (0 : Int32).toNatClampNeg (q.1 12))) 4 (upd (upd (m.2.2 4) (0 : Int32).toNatClampNeg (q.1 12)) (1 : Int32).toNatClampNeg (q.1 13)) 4 0 + va_up (va_up m.2.2 4 (upd (m.2.2 4) (0 : Int32).toNatClampNeg (q.1 12))) 4 (upd (upd (m.2.2 4) (0 : Int32).toNatClampNeg (q.1 12)) (1 : Int32).toNatClampNeg (q.1 13)) 4 1
      rw [e40, e41, u3.1, v3.1]
    · have e0 : r.2.1 0 = nI (c + 1) := by
        rw [w4]
        show q.1 0 + 1 = _
        rw [a5 0 (by omega) (by omega) (by omega), h3]
        exact nI_1 c
      refine ⟨⟨0, by omega, rfl, w7, fun i hi => absurd hi (Nat.not_lt_zero i)⟩, ⟨c + 1, by omega, e0, ?_, ?_, ?_⟩, ?_, ⟨R0, t3, w3⟩, ?_⟩
      · show x.2.2.2.2.2.2.2.2 + 1 = nI (c + 1)
        rw [h4]
        exact nI_1 c
      · refine Or.inr ⟨by omega, fun s => if s = 0 then r1 else r2, fun s i => if s = 0 then ky (g (3 + i)) else ky (g (4 + r1 + i)), g 0 - 48, kdN (g 1), by omega, by omega, ?_, ?_, ?_⟩
        · show XT t.1 _ _ _ _
          rw [t2]
          refine ⟨u3, ⟨v3.1, v3.2.1, fun i hi => ?_⟩, em, rfl, b13⟩
          refine (v3.2.2 i hi).trans ?_
          show ky (g (3 + r1 + 1 + i)) = ky (g (4 + r1 + i))
          rw [show 3 + r1 + 1 + i = 4 + r1 + i by omega]
        · refine ⟨?_, ?_, ?_, ?_, ?_, b13⟩
          · intro s hs
            rw [w9 4 (by omega) (by omega)]
            rcases (show s = 0 ∨ s = 1 by omega) with rfl | rfl
            · exact e40
            · exact e41
          · intro s i hs hi
            rcases (show s = 0 ∨ s = 1 by omega) with rfl | rfl
            · exact (show r.2.2.2 3 (14 * 0 + i) = r.2.2.2 3 i by rw [show 14 * 0 + i = i by omega]).trans (w10 i hi)
            · exact w11 i hi
          · rw [w8 1 (by omega) (by omega) (by omega) (by omega) (by omega) (by omega)]
            show m.2.2 10 0 - 48 = _
            rw [gm 0 (by omega)]
            exact em
          · rw [w8 2 (by omega) (by omega) (by omega) (by omega) (by omega) (by omega)]
            rfl
          · intro s hs
            rcases (show s = 0 ∨ s = 1 by omega) with rfl | rfl
            · exact b6
            · exact b7
        · intro s i hs hi
          rcases (show s = 0 ∨ s = 1 by omega) with rfl | rfl
          · exact ky_ok _ (by have := gl (3 + i) (by have : i < r1 := hi; omega); omega) (b9 i hi)
          · exact ky_ok _ (by have := gl (4 + r1 + i) (by have : i < r2 := hi; omega); omega) (b10 i hi)
      · refine Or.inl ⟨rfl, ?_⟩
        have k1 : ∀ i, 51 ≤ i → r.2.1 i = m.1 i := fun i hi => by
          rw [w8 i (by omega) (by omega) (by omega) (by omega) (by omega) (by omega)]
          exact (if_neg (show ¬ i = 2 by omega)).trans ((if_neg (show ¬ i = 1 by omega)).trans (a5 i (by omega) (by omega) (by omega)))
        rw [k1 51 (by omega), k1 52 (by omega)]
        rcases h6 with ⟨-, h6 | ⟨d, d1, d2⟩⟩ | ⟨-, -, -, h6, -⟩
        · exact Or.inl h6
        · exact Or.inr ⟨d, by omega, d2⟩
        · exact Or.inr ⟨c, by omega, h6⟩
      · refine ⟨0, by omega, rfl, w6, ?_, fun i hi => absurd hi (Nat.not_lt_zero i)⟩
        rw [kl_0]
        rfl
      · show (0 : Int32) = r.2.1 5
        rw [w5]
