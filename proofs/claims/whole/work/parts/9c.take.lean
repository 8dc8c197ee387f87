theorem TB.row {c : Nat} {t : SX6} {m : SX8} (h : TB c t m) (b0 b1 : Int32) : (fX6_hasRow t b0 b1 = some 0 ∧ fX8_isRow m b0 b1 = some 0) ∨ (1 ≤ c ∧ ∃ n f mem kd s i, 1 ≤ mem ∧ mem ≤ 9 ∧ XT t n f mem kd ∧ MT n f mem kd m ∧ (∀ s i, s < 2 → i < n s → kOk (f s i)) ∧ s < 2 ∧ i < n s ∧ b0 = nI s ∧ b1 = nI i ∧ fX6_hasRow t b0 b1 = some 1 ∧ fX8_isRow m b0 b1 = some 1) := by
  rcases h with ⟨-, a1, a2, -, -, -, -, a3, a4⟩ | ⟨hc, n, f, mem, kd, k1, k2, a1, a2, a3⟩
  · have hs : SB t m (fun _ => 0) (fun _ _ => 0) := by
      refine ⟨⟨a1, Nat.zero_le _, fun i hi => absurd hi (Nat.not_lt_zero i)⟩, ⟨a2, Nat.zero_le _, fun i hi => absurd hi (Nat.not_lt_zero i)⟩, fun s hs => ⟨?_, Nat.zero_le _⟩, fun s i _ hi => absurd hi (Nat.not_lt_zero i)⟩
      rcases (show s = 0 ∨ s = 1 by omega) with rfl | rfl
      · exact a3
      · exact a4
    rcases row_c hs b0 b1 with q | ⟨s, i, hs, hi, -⟩
    · exact Or.inl q
    · exact absurd hi (Nat.not_lt_zero i)
  · rcases row_c (SB.of a1 a2 a3) b0 b1 with q | ⟨s, i, hs, hi, e0, e1, q1, q2⟩
    · exact Or.inl q
    · exact Or.inr ⟨hc, n, f, mem, kd, s, i, k1, k2, a1, a2, a3, hs, hi, e0, e1, q1, q2⟩
theorem change_X {z : SX5} {n i : Nat} {f : Nat → Int32} {v : Int32} (h : SdR z n f) (hi : i < n) : fX5_change z (nI i) v = some (upd z.1 i v, z.2) := by
  have h2 := h.2.1
  unfold fX5_change
  rw [has_X h hi, Option.bind_some, if_neg (show ¬ (1 : Int32) = 0 by decide), if_neg (nI_in (show i < 14 by omega) (by omega)), nI_clamp (by omega)]
theorem c_not0 {c k : Nat} (hk : k < 512) (h2 : c ≤ k) (hc : 1 ≤ c) {v : Int32} (h3 : v = nI c) : ¬ v = 0 := fun e => by
  rw [h3] at e
  have := (nI_eq (b := 0) (by omega) (by omega)).mp e
  omega
theorem m14 {s : Nat} (hs : s < 2) : (14 : Int32) * nI s = nI (14 * s) := by
  rcases (show s = 0 ∨ s = 1 by omega) with rfl | rfl <;> rfl
theorem sm_key : Sm_key Rel := by
  intro k x m b0 b1 b2 hk h
  obtain ⟨c, h2, h3, h4, h5, h6⟩ := h.2.1
  unfold fX7_key fX8_key
  rcases h5.row b0 b1 with ⟨a1, a2⟩ | ⟨hc, n, f, mem, kd, s, i, d1, d2, d3, d4, d5, hs, hi, es, ei, a1, a2⟩
  · rw [a1, a2]
    exact ⟨_, _, rfl, rfl, rfl, h.up⟩
  · rw [a1, a2, Option.bind_some, Option.bind_some, if_neg (show ¬ (1 : Int32) = 0 by decide), if_neg (show ¬ (1 : Int32) = 0 by decide)]
    rcases key_c b2 with ⟨k1, k2⟩ | ⟨k0, k1, k2⟩
    · rw [k1, k2]
      exact ⟨_, _, rfl, rfl, rfl, h.up⟩
    · have a3 := c_not0 hk h2 hc h3
      have hn := d4.2.2.2.2.1 s hs
      rw [k1, k2, Option.bind_some, Option.bind_some, if_neg (show ¬ (1 : Int32) = 0 by decide), if_neg (show ¬ (1 : Int32) = 0 by decide), es, ei, keyAt_M d4 hs hi, Option.bind_some, m14 hs, nI_add, if_neg (nI_in (show 14 * s + i < 28 by omega) (by omega)), nI_clamp (show 14 * s + i < 2 ^ 31 by omega)]
      have hM : MT n (fS f s i b2) mem kd (m.1, m.2.1, va_up m.2.2 3 (upd (m.2.2 3) (14 * s + i) b2)) := by
        obtain ⟨g1, g2, g3, g4, g5, g6⟩ := d4
        refine ⟨g1, ?_, g3, g4, g5, g6⟩
        intro s' i' hs' hi'
        show upd (m.2.2 3) (14 * s + i) b2 (14 * s' + i') = fS f s i b2 s' i'
        have := g5 s' hs'
        unfold upd fS
        by_cases c : s' = s ∧ i' = i
        · rw [if_pos c, if_pos (show 14 * s' + i' = 14 * s + i by rw [c.1, c.2])]
        · rw [if_neg c, if_neg (show ¬ 14 * s' + i' = 14 * s + i from fun e => c (by omega))]
          exact g2 s' i' hs' hi'
      have k3 : ∀ i', i' ≠ 3 → i' ≠ 4 → va_up m.2.2 3 (upd (m.2.2 3) (14 * s + i) b2) i' = m.2.2 i' := fun i' i3 i4 => if_neg i3
      have hok : ∀ s' i', s' < 2 → i' < n s' → kOk (fS f s i b2 s' i') := fun s' i' hs' hi' => fS_ok d5 k0 hs' (Or.inl hi')
      have hz : ∀ z : SX5, SdR z (n s) (f s) → SdR (upd z.1 i b2, z.2) (n s) (fS f s i b2 s) := by
        intro z hz
        refine ⟨hz.1, hz.2.1, fun l hl => ?_⟩
        show upd z.1 i b2 l = fS f s i b2 s l
        unfold upd fS
        by_cases c : l = i
        · rw [if_pos c, if_pos ⟨rfl, c⟩]
        · rw [if_neg c, if_neg (fun q => c q.2)]
          exact hz.2.2 l hl
      rcases (show s = 0 ∨ s = 1 by omega) with rfl | rfl
      · rw [if_pos (show nI 0 = 0 from rfl), keyAt_X d3.1 hi, Option.bind_some, change_X d3.1 hi, Option.bind_some]
        refine ⟨_, _, rfl, rfl, rfl, h.tb a3 _ (fun d hd => Or.inr ⟨hd, n, fS f 0 i b2, mem, kd, d1, d2, ⟨hz _ d3.1, ?_, d3.2.2⟩, hM, hok⟩) (fun _ _ _ => rfl) k3⟩
        exact d3.2.1.cg (fun i hi => (fS_ne (fun q => by omega)).symm)
      · rw [if_neg (show ¬ nI 1 = 0 by decide), keyAt_X d3.2.1 hi, Option.bind_some, change_X d3.2.1 hi, Option.bind_some]
        refine ⟨_, _, rfl, rfl, rfl, h.tb a3 _ (fun d hd => Or.inr ⟨hd, n, fS f 1 i b2, mem, kd, d1, d2, ⟨?_, hz _ d3.2.1, d3.2.2⟩, hM, hok⟩) (fun _ _ _ => rfl) k3⟩
        exact d3.1.cg (fun i hi => (fS_ne (fun q => by omega)).symm)
/-! take -/
theorem nI_pr {j : Nat} (h : 1 ≤ j) : nI j - 1 = nI (j - 1) := pk_sub (b := 1) h
/-- the keys without row i -/
def fT (f : Nat → Int32) (i : Nat) : Nat → Int32 := fun l => if l < i then f l else f (l + 1)
theorem remove_X {z : SX5} {n i : Nat} {f : Nat → Int32} (h : SdR z n f) (hi : i < n) : ∃ q, fX5_remove z (nI i) = some q ∧ SdR q (n - 1) (fT f i) := by
  have hn := h.2.1
  unfold fX5_remove
  rw [has_X h hi, Option.bind_some, if_neg (show ¬ (1 : Int32) = 0 by decide), nI1]
  refine upE (fun w j (s : SX5) => fX5_remove_b12 w (nI j) s) (fun j s => i + 1 ≤ j ∧ s.2 = nI n ∧ (∀ l, l < j - 1 → s.1 l = fT f i l) ∧ ∀ l, j - 1 ≤ l → l < n → s.1 l = f l) (fun q => SdR q (n - 1) (fT f i)) n ?_ ?_ 1000 (i + 1) z (by omega) (by omega) ⟨Nat.le_refl _, h.1, ?_, fun l _ hl => h.2.2 l hl⟩
  · intro w j s hj hI
    obtain ⟨i0, i1, i2, i3⟩ := hI
    have hs : SdR s n s.1 := ⟨i1, hn, fun _ _ => rfl⟩
    left
    refine ⟨(upd s.1 (j - 1) (f j), s.2), ⟨by omega, i1, ?_, ?_⟩, ?_⟩
    · intro l hl
      show upd s.1 (j - 1) (f j) l = fT f i l
      unfold upd
      by_cases c : l = j - 1
      · rw [if_pos c]
        unfold fT
        rw [if_neg (show ¬ l < i by omega), show l + 1 = j by omega]
      · rw [if_neg c]
        exact i2 l (by omega)
    · intro l hl hl2
      show upd s.1 (j - 1) (f j) l = f l
      unfold upd
      rw [if_neg (show ¬ l = j - 1 by omega)]
      exact i3 l (by omega) hl2
    · show fX5_remove_b12 (w + 1) (nI j) s = fX5_remove_b12 w (nI (j + 1)) _
      rw [fX5_remove_b12, i1, if_neg (nI_ge hj (by omega)), keyAt_X hs hj, Option.bind_some, nI_pr (by omega), change_X hs (show j - 1 < n by omega), Option.bind_some, nI1, i3 j (by omega) hj, i1]
  · intro w s hI
    obtain ⟨i0, i1, i2, i3⟩ := hI
    show ∃ r, fX5_remove_b12 (w + 1) (nI n) s = some r ∧ _
    rw [fX5_remove_b12, i1, if_pos (nI_le (Nat.le_refl n) (by omega)), nI_pr (by omega)]
    exact ⟨_, rfl, rfl, by omega, i2⟩
  · intro l hl
    rw [h.2.2 l (by omega)]
    unfold fT
    rw [if_pos (show l < i by omega)]
theorem take_M {n : Nat → Nat} {f : Nat → Nat → Int32} {mem kd : Nat} {m : SX8} (h : MT n f mem kd m) {s i : Nat} (hs : s < 2) (hi : i < n s) (v : Int32) : ∃ q, fX8_take_b24 1000 (nI s) v (nI (i + 1)) m = some q ∧ q.1 = v ∧ MT (nS n s (n s - 1)) (fun s' => if s' = s then fT (f s) i else f s') mem kd q.2 ∧ q.2.1 = m.1 ∧ ∀ j, j ≠ 3 → j ≠ 4 → q.2.2.2 j = m.2.2 j := by
  obtain ⟨g1, g2, g3, g4, g5, g6⟩ := h
  have hn := g5 s hs
  have hin : ¬ (nI s < 0 ∨ 2 ≤ (nI s).toNatClampNeg) := nI_in hs (by omega)
  refine upE (fun w j (y : SX8) => fX8_take_b24 w (nI s) v (nI j) y) (fun j y => i + 1 ≤ j ∧ y.1 = m.1 ∧ (∀ l, l ≠ 3 → y.2.2 l = m.2.2 l) ∧ (∀ s' l, s' < 2 → s' ≠ s → l < n s' → y.2.2 3 (14 * s' + l) = f s' l) ∧ (∀ l, l < j - 1 → y.2.2 3 (14 * s + l) = fT (f s) i l) ∧ ∀ l, j - 1 ≤ l → l < n s → y.2.2 3 (14 * s + l) = f s l) (fun q => q.1 = v ∧ MT (nS n s (n s - 1)) (fun s' => if s' = s then fT (f s) i else f s') mem kd q.2 ∧ q.2.1 = m.1 ∧ ∀ j, j ≠ 3 → j ≠ 4 → q.2.2.2 j = m.2.2 j) (n s) ?_ ?_ 1000 (i + 1) m (by omega) (by omega) ⟨Nat.le_refl _, rfl, fun _ _ => rfl, fun s' l hs' _ hl => g2 s' l hs' hl, ?_, fun l _ hl => g2 s l hs hl⟩
  · intro w j y hj hI
    obtain ⟨i0, i1, i2, i3, i4, i5⟩ := hI
    left
    refine ⟨(y.1, y.2.1, va_up y.2.2 3 (upd (y.2.2 3) (14 * s + (j - 1)) (f s j))), ⟨by omega, i1, fun l hl => (if_neg hl).trans (i2 l hl), ?_, ?_, ?_⟩, ?_⟩
    · intro s' l hs' hne hl
      show upd (y.2.2 3) (14 * s + (j - 1)) (f s j) (14 * s' + l) = f s' l
      have := g5 s' hs'
      unfold upd
      rw [if_neg (show ¬ 14 * s' + l = 14 * s + (j - 1) by omega)]
      exact i3 s' l hs' hne hl
    · intro l hl
      show upd (y.2.2 3) (14 * s + (j - 1)) (f s j) (14 * s + l) = fT (f s) i l
      unfold upd
      by_cases c : l = j - 1
      · rw [if_pos (show 14 * s + l = 14 * s + (j - 1) by omega)]
        unfold fT
        rw [if_neg (show ¬ l < i by omega), show l + 1 = j by omega]
      · rw [if_neg (show ¬ 14 * s + l = 14 * s + (j - 1) by omega)]
        exact i4 l (by omega)
    · intro l hl hl2
      show upd (y.2.2 3) (14 * s + (j - 1)) (f s j) (14 * s + l) = f s l
      unfold upd
      rw [if_neg (show ¬ 14 * s + l = 14 * s + (j - 1) by omega)]
      exact i5 l (by omega) hl2
    · show fX8_take_b24 (w + 1) (nI s) v (nI j) y = fX8_take_b24 w (nI s) v (nI (j + 1)) _
      rw [fX8_take_b24, if_neg hin, nI_clamp (show s < 2 ^ 31 by omega), i2 4 (by omega), g1 s hs, if_neg (nI_ge hj (by omega))]
      unfold fX8_keyAt
      rw [m14 hs, nI_add, if_neg (nI_in (show 14 * s + j < 28 by omega) (by omega)), Option.bind_some, nI_clamp (show 14 * s + j < 2 ^ 31 by omega), i5 j (by omega) hj, nI_pr (by omega), show 14 * s + j - 1 = 14 * s + (j - 1) by omega, if_neg (nI_in (show 14 * s + (j - 1) < 28 by omega) (by omega)), nI_clamp (show 14 * s + (j - 1) < 2 ^ 31 by omega), nI1]
  · intro w y hI
    obtain ⟨i0, i1, i2, i3, i4, i5⟩ := hI
    show ∃ r, fX8_take_b24 (w + 1) (nI s) v (nI (n s)) y = some r ∧ _
    rw [fX8_take_b24, if_neg hin, if_neg hin, if_neg hin, nI_clamp (show s < 2 ^ 31 by omega), i2 4 (by omega), g1 s hs, if_pos (nI_le (Nat.le_refl (n s)) (by omega)), nI_pr (by omega)]
    refine ⟨_, rfl, rfl, ⟨?_, ?_, ?_, ?_, ?_, g6⟩, i1, fun j j3 j4 => (if_neg j4).trans (i2 j j3)⟩
    · intro s' hs'
      show upd (m.2.2 4) s (nI (n s - 1)) s' = nI (nS n s (n s - 1) s')
      unfold upd nS
      by_cases c : s' = s
      · rw [if_pos c, if_pos c]
      · rw [if_neg c, if_neg c]
        exact g1 s' hs'
    · intro s' l hs' hl
      show y.2.2 3 (14 * s' + l) = (if s' = s then fT (f s) i else f s') l
      unfold nS at hl
      by_cases c : s' = s
      · rw [if_pos c] at hl
        rw [if_pos c, c]
        exact i4 l (by omega)
      · rw [if_neg c] at hl
        rw [if_neg c]
        exact i3 s' l hs' c hl
    · show y.1 1 = _
      rw [i1]; exact g3
    · show y.1 2 = _
      rw [i1]; exact g4
    · intro s' hs'
      unfold nS
      split
      · omega
      · exact g5 s' hs'
  · intro l hl
    rw [g2 s l hs (by omega)]
    unfold fT
    rw [if_pos (show l < i by omega)]
theorem sm_take : Sm_take Rel := by
  intro k x m b0 b1 hk h
  obtain ⟨c, h2, h3, h4, h5, h6⟩ := h.2.1
  unfold fX7_take fX8_take
  rcases h5.row b0 b1 with ⟨a1, a2⟩ | ⟨hc, n, f, mem, kd, s, i, d1, d2, d3, d4, d5, hs, hi, es, ei, a1, a2⟩
  · rw [a1, a2]
    exact ⟨_, _, rfl, rfl, rfl, h.up⟩
  · have a3 := c_not0 hk h2 hc h3
    obtain ⟨q, q1, q2, q3, q4, q5⟩ := take_M d4 hs hi (f s i)
    rw [a1, a2, Option.bind_some, Option.bind_some, if_neg (show ¬ (1 : Int32) = 0 by decide), if_neg (show ¬ (1 : Int32) = 0 by decide), es, ei, keyAt_M d4 hs hi, Option.bind_some, nI1, q1]
    have hok : ∀ s' l, s' < 2 → l < nS n s (n s - 1) s' → kOk ((if s' = s then fT (f s) i else f s') l) := by
      intro s' l hs' hl
      unfold nS at hl
      by_cases c : s' = s
      · rw [if_pos c] at hl
        rw [if_pos c]
        unfold fT
        split
        · exact d5 s l hs (by omega)
        · exact d5 s (l + 1) hs (by omega)
      · rw [if_neg c] at hl
        rw [if_neg c]
        exact d5 s' l hs' hl
    rcases (show s = 0 ∨ s = 1 by omega) with rfl | rfl
    · obtain ⟨z, z1, z2⟩ := remove_X d3.1 hi
      rw [if_pos (show nI 0 = 0 from rfl), keyAt_X d3.1 hi, Option.bind_some, z1, Option.bind_some]
      exact ⟨_, q, rfl, rfl, q2.symm, h.tb a3 _ (fun d hd => Or.inr ⟨hd, nS n 0 (n 0 - 1), (fun s' => if s' = 0 then fT (f 0) i else f s'), mem, kd, d1, d2, ⟨z2, d3.2.1, d3.2.2⟩, q3, hok⟩) (fun j _ _ => by rw [q4]) q5⟩
    · obtain ⟨z, z1, z2⟩ := remove_X d3.2.1 hi
      rw [if_neg (show ¬ nI 1 = 0 by decide), keyAt_X d3.2.1 hi, Option.bind_some, z1, Option.bind_some]
      exact ⟨_, q, rfl, rfl, q2.symm, h.tb a3 _ (fun d hd => Or.inr ⟨hd, nS n 1 (n 1 - 1), (fun s' => if s' = 1 then fT (f 1) i else f s'), mem, kd, d1, d2, ⟨d3.1, z2, d3.2.2⟩, q3, hok⟩) (fun j _ _ => by rw [q4]) q5⟩
