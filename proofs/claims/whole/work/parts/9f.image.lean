/-! image, restore -/
theorem copy_X {z : SX5} {n : Nat} {f : Nat → Int32} (h : SdR z n f) (d : SX5) : ∃ q, fX5_copy (d, z) = some q ∧ q.2 = z ∧ SdR q.1 n f := by
  have hn := h.2.1
  unfold fX5_copy fX5_clear
  rw [Option.bind_some]
  refine upE (fun w j (s : SX5) => fX5_copy_b6 w (nI j) (s, z)) (fun j s => SdR s j f) (fun q => q.2 = z ∧ SdR q.1 n f) n ?_ ?_ 1000 0 (d.1, 0) (by omega) (by omega) ⟨rfl, by omega, fun i hi => absurd hi (Nat.not_lt_zero i)⟩
  · intro w j s hj hI
    left
    obtain ⟨s', s1, s2⟩ := add_X hI (show j < 14 by omega) (v := f j) rfl
    refine ⟨s', s2, ?_⟩
    show fX5_copy_b6 (w + 1) (nI j) (s, z) = fX5_copy_b6 w (nI (j + 1)) (s', z)
    rw [fX5_copy_b6, h.1, if_neg (nI_ge hj (by omega)), keyAt_X h hj, Option.bind_some, s1, Option.bind_some, nI1]
  · intro w s hI
    refine ⟨(s, z), ?_, rfl, hI⟩
    show fX5_copy_b6 (w + 1) (nI n) (s, z) = _
    rw [fX5_copy_b6, h.1, if_pos (nI_le (Nat.le_refl n) (by omega))]
theorem copy6_X {t : SX6} {n : Nat → Nat} {f : Nat → Nat → Int32} {mem kd : Nat} (h : XT t n f mem kd) (d : SX6) : ∃ q, fX6_copy (d, t) = some q ∧ q.2 = t ∧ XT q.1 n f mem kd := by
  obtain ⟨u, u1, u2, u3⟩ := copy_X h.1 d.1
  obtain ⟨v, v1, v2, v3⟩ := copy_X h.2.1 d.2.1
  unfold fX6_copy
  rw [u1, Option.bind_some, v1, Option.bind_some]
  refine ⟨_, rfl, ?_, u3, v3, h.2.2⟩
  show (u.2, v.2, t.2.2.1, t.2.2.2) = t
  rw [u2, v2]
theorem SN.cg {s : SX4} {c6 : Int32} {w b w' b' : Nat → Int32} (h : SN s c6 w b) (e : ∀ i, i < 6 → w' i = w i ∧ b' i = b i) : SN s c6 w' b' := by
  obtain ⟨c, c6, s1, s2, s3, s4⟩ := h
  refine ⟨c, c6, s1, s2, ?_, fun i hi => ?_⟩
  · rw [s3, kl_cg (w' := w') (b' := b') (fun i hi => ⟨(e i (by omega)).1.symm, (e i (by omega)).2.symm⟩)]
  · rw [(e i (by omega)).1, (e i (by omega)).2]
    exact s4 i hi
theorem b95_M (y : SX8) : ∃ q, fX8_image_b95 1000 0 y = some q ∧ q.1 = y.2.2 4 0 + y.2.2 4 1 ∧ q.2.1 = y.1 ∧ (∀ i, i ≠ 59 → i ≠ 60 → q.2.2.2 i = y.2.2 i) ∧ ∀ i, i < 6 → q.2.2.2 59 i = y.2.2 7 i ∧ q.2.2.2 60 i = y.2.2 8 i := by
  refine upE (fun w j (s : SX8) => fX8_image_b95 w (nI j) s) (fun j s => s.1 = y.1 ∧ (∀ i, i ≠ 59 → i ≠ 60 → s.2.2 i = y.2.2 i) ∧ ∀ i, i < j → s.2.2 59 i = y.2.2 7 i ∧ s.2.2 60 i = y.2.2 8 i) (fun q => q.1 = y.2.2 4 0 + y.2.2 4 1 ∧ q.2.1 = y.1 ∧ (∀ i, i ≠ 59 → i ≠ 60 → q.2.2.2 i = y.2.2 i) ∧ ∀ i, i < 6 → q.2.2.2 59 i = y.2.2 7 i ∧ q.2.2.2 60 i = y.2.2 8 i) 6 ?_ ?_ 1000 0 y (by omega) (by omega) ⟨rfl, fun _ _ _ => rfl, fun i hi => absurd hi (Nat.not_lt_zero i)⟩
  · intro w j s hj hI
    obtain ⟨i1, i2, i3⟩ := hI
    have hin : ¬ (nI j < 0 ∨ 6 ≤ (nI j).toNatClampNeg) := nI_in hj (by omega)
    left
    refine ⟨(s.1, s.2.1, va_up (va_up s.2.2 59 (upd (s.2.2 59) j (s.2.2 7 j))) 60 (upd (s.2.2 60) j (s.2.2 8 j))), ⟨i1, fun i h1 h2 => (if_neg h2).trans ((if_neg h1).trans (i2 i h1 h2)), ?_⟩, ?_⟩
    · intro i hi
      show upd (s.2.2 59) j (s.2.2 7 j) i = _ ∧ upd (s.2.2 60) j (s.2.2 8 j) i = _
      unfold upd
      by_cases c : i = j
      · rw [if_pos c, if_pos c, c, i2 7 (by omega) (by omega), i2 8 (by omega) (by omega)]
        exact ⟨rfl, rfl⟩
      · rw [if_neg c, if_neg c]
        exact i3 i (by omega)
    · show fX8_image_b95 (w + 1) (nI j) s = fX8_image_b95 w (nI (j + 1)) _
      rw [fX8_image_b95, if_neg (cl 6 hj (by omega)), if_neg hin, if_neg hin, if_neg hin, if_neg hin, nI_clamp (by omega), nI1]
  · intro w s hI
    obtain ⟨i1, i2, i3⟩ := hI
    refine ⟨_, (by show fX8_image_b95 (w + 1) (nI 6) s = _; rw [fX8_image_b95, if_pos (show (6 : Int32) ≤ nI 6 by decide)]), ?_, i1, i2, i3⟩
    show s.2.2 4 0 + s.2.2 4 1 = _
    rw [i2 4 (by omega) (by omega)]
theorem b69_M (y : SX8) : ∃ q, fX8_image_b69 1000 0 y = some q ∧ q.1 = y.2.2 4 0 + y.2.2 4 1 ∧ q.2.1 = y.1 ∧ (∀ i, i ≠ 58 → i ≠ 59 → i ≠ 60 → q.2.2.2 i = y.2.2 i) ∧ (∀ i, i < 6 → q.2.2.2 59 i = y.2.2 7 i ∧ q.2.2.2 60 i = y.2.2 8 i) ∧ ∀ i, i < 28 → q.2.2.2 58 i = y.2.2 3 i := by
  refine upE (fun w j (s : SX8) => fX8_image_b69 w (nI j) s) (fun j s => s.1 = y.1 ∧ (∀ i, i ≠ 58 → s.2.2 i = y.2.2 i) ∧ ∀ i, i < j → s.2.2 58 i = y.2.2 3 i) (fun q => q.1 = y.2.2 4 0 + y.2.2 4 1 ∧ q.2.1 = y.1 ∧ (∀ i, i ≠ 58 → i ≠ 59 → i ≠ 60 → q.2.2.2 i = y.2.2 i) ∧ (∀ i, i < 6 → q.2.2.2 59 i = y.2.2 7 i ∧ q.2.2.2 60 i = y.2.2 8 i) ∧ ∀ i, i < 28 → q.2.2.2 58 i = y.2.2 3 i) 28 ?_ ?_ 1000 0 y (by omega) (by omega) ⟨rfl, fun _ _ => rfl, fun i hi => absurd hi (Nat.not_lt_zero i)⟩
  · intro w j s hj hI
    obtain ⟨i1, i2, i3⟩ := hI
    have hin : ¬ (nI j < 0 ∨ 28 ≤ (nI j).toNatClampNeg) := nI_in hj (by omega)
    left
    refine ⟨(s.1, s.2.1, va_up s.2.2 58 (upd (s.2.2 58) j (s.2.2 3 j))), ⟨i1, fun i h1 => (if_neg h1).trans (i2 i h1), ?_⟩, ?_⟩
    · intro i hi
      show upd (s.2.2 58) j (s.2.2 3 j) i = _
      unfold upd
      by_cases c : i = j
      · rw [if_pos c, c, i2 3 (by omega)]
      · rw [if_neg c]
        exact i3 i (by omega)
    · show fX8_image_b69 (w + 1) (nI j) s = fX8_image_b69 w (nI (j + 1)) _
      rw [fX8_image_b69, if_neg (cl 28 hj (by omega)), if_neg hin, if_neg hin, nI_clamp (by omega), nI1]
  · intro w s hI
    obtain ⟨i1, i2, i3⟩ := hI
    obtain ⟨q, q1, q2, q3, q4, q5⟩ := b95_M s
    refine ⟨q, (by show fX8_image_b69 (w + 1) (nI 28) s = _; rw [fX8_image_b69, if_pos (show (28 : Int32) ≤ nI 28 by decide)]; exact q1), ?_, q3.trans i1, ?_, ?_, ?_⟩
    · rw [q2, i2 4 (by omega)]
    · intro i h1 h2 h3
      rw [q4 i h2 h3, i2 i h1]
    · intro i hi
      rw [(q5 i hi).1, (q5 i hi).2, i2 7 (by omega), i2 8 (by omega)]
      exact ⟨rfl, rfl⟩
    · intro i hi
      rw [q4 58 (by omega) (by omega), i3 i hi]
theorem b93_M (y : SX8) : ∃ q, fX8_restore_b93 1000 0 y = some q ∧ q.1 = y.2.2 4 0 + y.2.2 4 1 ∧ q.2.1 = y.1 ∧ (∀ i, i ≠ 7 → i ≠ 8 → q.2.2.2 i = y.2.2 i) ∧ ∀ i, i < 6 → q.2.2.2 7 i = y.2.2 59 i ∧ q.2.2.2 8 i = y.2.2 60 i := by
  refine upE (fun w j (s : SX8) => fX8_restore_b93 w (nI j) s) (fun j s => s.1 = y.1 ∧ (∀ i, i ≠ 7 → i ≠ 8 → s.2.2 i = y.2.2 i) ∧ ∀ i, i < j → s.2.2 7 i = y.2.2 59 i ∧ s.2.2 8 i = y.2.2 60 i) (fun q => q.1 = y.2.2 4 0 + y.2.2 4 1 ∧ q.2.1 = y.1 ∧ (∀ i, i ≠ 7 → i ≠ 8 → q.2.2.2 i = y.2.2 i) ∧ ∀ i, i < 6 → q.2.2.2 7 i = y.2.2 59 i ∧ q.2.2.2 8 i = y.2.2 60 i) 6 ?_ ?_ 1000 0 y (by omega) (by omega) ⟨rfl, fun _ _ _ => rfl, fun i hi => absurd hi (Nat.not_lt_zero i)⟩
  · intro w j s hj hI
    obtain ⟨i1, i2, i3⟩ := hI
    have hin : ¬ (nI j < 0 ∨ 6 ≤ (nI j).toNatClampNeg) := nI_in hj (by omega)
    left
    refine ⟨(s.1, s.2.1, va_up (va_up s.2.2 7 (upd (s.2.2 7) j (s.2.2 59 j))) 8 (upd (s.2.2 8) j (s.2.2 60 j))), ⟨i1, fun i h1 h2 => (if_neg h2).trans ((if_neg h1).trans (i2 i h1 h2)), ?_⟩, ?_⟩
    · intro i hi
      show upd (s.2.2 7) j (s.2.2 59 j) i = _ ∧ upd (s.2.2 8) j (s.2.2 60 j) i = _
      unfold upd
      by_cases c : i = j
      · rw [if_pos c, if_pos c, c, i2 59 (by omega) (by omega), i2 60 (by omega) (by omega)]
        exact ⟨rfl, rfl⟩
      · rw [if_neg c, if_neg c]
        exact i3 i (by omega)
    · show fX8_restore_b93 (w + 1) (nI j) s = fX8_restore_b93 w (nI (j + 1)) _
      rw [fX8_restore_b93, if_neg (cl 6 hj (by omega)), if_neg hin, if_neg hin, if_neg hin, if_neg hin, nI_clamp (by omega), nI1]
  · intro w s hI
    obtain ⟨i1, i2, i3⟩ := hI
    refine ⟨_, (by show fX8_restore_b93 (w + 1) (nI 6) s = _; rw [fX8_restore_b93, if_pos (show (6 : Int32) ≤ nI 6 by decide)]), ?_, i1, i2, i3⟩
    show s.2.2 4 0 + s.2.2 4 1 = _
    rw [i2 4 (by omega) (by omega)]
theorem b67_M (y : SX8) : ∃ q, fX8_restore_b67 1000 0 y = some q ∧ q.1 = y.2.2 4 0 + y.2.2 4 1 ∧ q.2.1 = y.1 ∧ (∀ i, i ≠ 3 → i ≠ 7 → i ≠ 8 → q.2.2.2 i = y.2.2 i) ∧ (∀ i, i < 6 → q.2.2.2 7 i = y.2.2 59 i ∧ q.2.2.2 8 i = y.2.2 60 i) ∧ ∀ i, i < 28 → q.2.2.2 3 i = y.2.2 58 i := by
  refine upE (fun w j (s : SX8) => fX8_restore_b67 w (nI j) s) (fun j s => s.1 = y.1 ∧ (∀ i, i ≠ 3 → s.2.2 i = y.2.2 i) ∧ ∀ i, i < j → s.2.2 3 i = y.2.2 58 i) (fun q => q.1 = y.2.2 4 0 + y.2.2 4 1 ∧ q.2.1 = y.1 ∧ (∀ i, i ≠ 3 → i ≠ 7 → i ≠ 8 → q.2.2.2 i = y.2.2 i) ∧ (∀ i, i < 6 → q.2.2.2 7 i = y.2.2 59 i ∧ q.2.2.2 8 i = y.2.2 60 i) ∧ ∀ i, i < 28 → q.2.2.2 3 i = y.2.2 58 i) 28 ?_ ?_ 1000 0 y (by omega) (by omega) ⟨rfl, fun _ _ => rfl, fun i hi => absurd hi (Nat.not_lt_zero i)⟩
  · intro w j s hj hI
    obtain ⟨i1, i2, i3⟩ := hI
    have hin : ¬ (nI j < 0 ∨ 28 ≤ (nI j).toNatClampNeg) := nI_in hj (by omega)
    left
    refine ⟨(s.1, s.2.1, va_up s.2.2 3 (upd (s.2.2 3) j (s.2.2 58 j))), ⟨i1, fun i h1 => (if_neg h1).trans (i2 i h1), ?_⟩, ?_⟩
    · intro i hi
      show upd (s.2.2 3) j (s.2.2 58 j) i = _
      unfold upd
      by_cases c : i = j
      · rw [if_pos c, c, i2 58 (by omega)]
      · rw [if_neg c]
        exact i3 i (by omega)
    · show fX8_restore_b67 (w + 1) (nI j) s = fX8_restore_b67 w (nI (j + 1)) _
      rw [fX8_restore_b67, if_neg (cl 28 hj (by omega)), if_neg hin, if_neg hin, nI_clamp (by omega), nI1]
  · intro w s hI
    obtain ⟨i1, i2, i3⟩ := hI
    obtain ⟨q, q1, q2, q3, q4, q5⟩ := b93_M s
    refine ⟨q, (by show fX8_restore_b67 (w + 1) (nI 28) s = _; rw [fX8_restore_b67, if_pos (show (28 : Int32) ≤ nI 28 by decide)]; exact q1), ?_, q3.trans i1, ?_, ?_, ?_⟩
    · rw [q2, i2 4 (by omega)]
    · intro i h1 h2 h3
      rw [q4 i h2 h3, i2 i h1]
    · intro i hi
      rw [(q5 i hi).1, (q5 i hi).2, i2 59 (by omega), i2 60 (by omega)]
      exact ⟨rfl, rfl⟩
    · intro i hi
      rw [q4 3 (by omega) (by omega), i3 i hi]
theorem sm_image : Sm_image Rel := by
  intro k x m hk h
  have h' := h
  obtain ⟨h1, ⟨c, h2, h3, h4, h5, h6⟩, h7, ⟨R, h8, h9⟩, h10⟩ := h
  unfold fX7_image fX8_image
  rcases there_c hk h2 h3 h5 with ⟨-, a2, a3⟩ | ⟨hc, a2, a3, n, f, mem, kd, d1, d2, d3, d4, d5⟩
  · rw [a2, Option.bind_some, if_pos (show (0 : Int32) = 0 from rfl), if_pos a3]
    exact ⟨_, _, rfl, rfl, rfl, h'.up⟩
  · obtain ⟨u, u1, u2, u3⟩ := copy6_X d3 x.2.2.2.1
    unfold fX4_copy fX6_size
    rw [a2, Option.bind_some, if_neg (show ¬ (1 : Int32) = 0 by decide), if_neg a3, u1, Option.bind_some, Option.bind_some, Option.bind_some, u2]
    obtain ⟨q, q1, q2, q3, q4, q5, q6⟩ := b69_M (upd (upd (upd (upd (upd (upd (upd m.1 51 1) 52 (m.1 0)) 53 (m.1 1)) 54 (m.1 2)) 55 ((m.2.2 4) (0 : Int32).toNatClampNeg)) 56 ((m.2.2 4) (1 : Int32).toNatClampNeg)) 57 (m.1 6), m.2.1, m.2.2)
    rw [q1]
    have ks : ∀ i, (i < 51 ∨ 57 < i) → q.2.1 i = m.1 i := fun i hi => by
      rw [q3]
      exact (if_neg (by omega)).trans ((if_neg (by omega)).trans ((if_neg (by omega)).trans ((if_neg (by omega)).trans ((if_neg (by omega)).trans ((if_neg (by omega)).trans (if_neg (by omega)))))))
    have ka : ∀ i, (i < 58 ∨ 60 < i) → q.2.2.2 i = m.2.2 i := fun i hi => q4 i (by omega) (by omega) (by omega)
    refine ⟨_, q, rfl, rfl, ?_, ?_⟩
    · show x.2.1.1.1.2 + x.2.1.1.2.1.2 = q.1
      rw [q2]
      show _ = m.2.2 4 0 + m.2.2 4 1
      rw [d3.1.1, d3.2.1.1, d4.1 0 (by omega), d4.1 1 (by omega)]
    · refine ⟨h1.fr (ks 9 (by omega)) (ka 10 (by omega)), ⟨c, by omega, ?_, h4, h5.fr (ks 1 (by omega)) (ks 2 (by omega)) (ka 3 (by omega)) (ka 4 (by omega)), Or.inr ⟨rfl, hc, ?_, ?_, ⟨n, f, mem, kd, d1, d2, u3, d5, ?_, ?_, ?_, ?_, ?_⟩, ?_⟩⟩, ?_, ⟨R, h8, h9.fr (ks 41 (by omega)) (ks 42 (by omega)) (fun i _ _ => ka i (by omega))⟩, ?_⟩
      · rw [ks 0 (by omega)]; exact h3
      · rw [q3]; rfl
      · rw [q3]; exact h3
      · rw [q3]; exact d4.2.2.1
      · rw [q3]; exact d4.2.2.2.1
      · rw [q3]; exact d4.1 0 (by omega)
      · rw [q3]; exact d4.1 1 (by omega)
      · intro s i hs hi
        have := d4.2.2.2.2.1 s hs
        rw [q6 _ (show 14 * s + i < 28 by omega)]
        exact d4.2.1 s i hs hi
      · have e57 : q.2.1 57 = m.1 6 := by rw [q3]; rfl
        rw [e57]
        exact SN.cg h7 q5
      · rw [ks 6 (by omega), ka 7 (by omega), ka 8 (by omega)]
        exact h7
      · rw [ks 5 (by omega)]; exact h10
theorem sm_restore : Sm_restore Rel := by
  intro k x m hk h
  have h' := h
  obtain ⟨h1, ⟨c, h2, h3, h4, h5, h6⟩, h7, ⟨R, h8, h9⟩, h10⟩ := h
  unfold fX7_restore fX8_restore
  rcases h6 with ⟨e0, e1 | ⟨d, d1, d2⟩⟩ | ⟨e0, hc, e51, e52, ⟨n, f, mem, kd, d1, d2, d3, d5, e53, e54, e55, e56, e58⟩, hS⟩
  · rw [if_pos e0, if_pos e1]
    exact ⟨_, _, rfl, rfl, rfl, h'.up⟩
  · rw [if_pos e0, if_neg (show ¬ m.1 52 = m.1 0 by
      rw [d2, h3]
      intro e
      have := (nI_eq (by omega) (by omega)).mp e
      omega), ite_self]
    exact ⟨_, _, rfl, rfl, rfl, h'.up⟩
  · obtain ⟨u, u1, u2, u3⟩ := copy6_X d3 x.2.1.1
    have hn0 := d3.le (s := 0) (by omega)
    have hn1 := d3.le (s := 1) (by omega)
    unfold fX4_copy fX6_size
    rw [if_neg (show ¬ x.2.2.2.2.2.1 = 0 by rw [e0]; decide), if_neg (show ¬ m.1 51 = 0 by rw [e51]; decide), if_pos (show m.1 52 = m.1 0 by rw [e52, h3]), u1, Option.bind_some, Option.bind_some, Option.bind_some, u2]
    obtain ⟨q, q1, q2, q3, q4, q5, q6⟩ := b67_M (upd (upd (upd m.1 1 (m.1 53)) 2 (m.1 54)) 6 (m.1 57), m.2.1, va_up (va_up m.2.2 4 (upd (m.2.2 4) (0 : Int32).toNatClampNeg (m.1 55))) 4 (upd (upd (m.2.2 4) (0 : Int32).toNatClampNeg (m.1 55)) (1 : Int32).toNatClampNeg (m.1 56)))
    rw [q1]
    have ks : ∀ i, i ≠ 1 → i ≠ 2 → i ≠ 6 → q.2.1 i = m.1 i := fun i i1 i2 i6 => by
      rw [q3]
      exact (if_neg i6).trans ((if_neg i2).trans (if_neg i1))
    have ka : ∀ i, i ≠ 3 → i ≠ 4 → i ≠ 7 → i ≠ 8 → q.2.2.2 i = m.2.2 i := fun i i3 i4 i7 i8 => (q4 i i3 i7 i8).trans ((if_neg i4).trans (if_neg i4))
    have f40 : q.2.2.2 4 0 = nI (n 0) := by
      rw [q4 4 (by omega) (by omega) (by omega)]
      exact e55
    have f41 : q.2.2.2 4 1 = nI (n 1) := by
      rw [q4 4 (by omega) (by omega) (by omega)]
      exact e56
    have iq : IM c x.2.2.2.1 x.2.2.2.2.1 x.2.2.2.2.2.1 q.2 := by
      refine IM.fr (m := m) (Or.inr ⟨e0, hc, e51, e52, ⟨n, f, mem, kd, d1, d2, d3, d5, e53, e54, e55, e56, e58⟩, hS⟩) (fun i _ _ => ks i (by omega) (by omega) (by omega)) (fun i _ _ => ka i (by omega) (by omega) (by omega) (by omega))
    refine ⟨_, q, rfl, rfl, ?_, ?_⟩
    · show u.1.1.2 + u.1.2.1.2 = q.1
      rw [q2, u3.1.1, u3.2.1.1]
      show _ = m.1 55 + m.1 56
      rw [e55, e56]
    · refine ⟨h1.fr (ks 9 (by omega) (by omega) (by omega)) (ka 10 (by omega) (by omega) (by omega) (by omega)), ⟨c, by omega, ?_, h4, Or.inr ⟨hc, n, f, mem, kd, d1, d2, u3, ⟨?_, ?_, ?_, ?_, ?_, d3.2.2.2.2⟩, d5⟩, iq⟩, ?_, ⟨R, h8, h9.fr (ks 41 (by omega) (by omega) (by omega)) (ks 42 (by omega) (by omega) (by omega)) (fun i _ _ => ka i (by omega) (by omega) (by omega) (by omega))⟩, ?_⟩
      · rw [ks 0 (by omega) (by omega) (by omega)]; exact h3
      · intro s hs
        rcases (show s = 0 ∨ s = 1 by omega) with rfl | rfl
        · exact f40
        · exact f41
      · intro s i hs hi
        have : i < 14 := by
          rcases (show s = 0 ∨ s = 1 by omega) with rfl | rfl <;> omega
        rw [q6 _ (show 14 * s + i < 28 by omega)]
        exact e58 s i hs hi
      · rw [q3]; exact e53
      · rw [q3]; exact e54
      · intro s hs
        exact d3.le hs
      · have e6 : q.2.1 6 = m.1 57 := by rw [q3]; rfl
        show SN (x.2.2.2.2.1.1, x.2.2.2.2.1.2) (q.2.1 6) _ _
        rw [e6]
        exact SN.cg hS q5
      · rw [ks 5 (by omega) (by omega) (by omega)]; exact h10
