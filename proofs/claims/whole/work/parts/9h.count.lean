/-! count -/
/-- the keys of the first rows, as a set -/
def ksF (f : Nat → Int32) : Nat → Nat
  | 0 => 0
  | i + 1 => if f i = -1 then ksF f i else ksF f i ||| 2 ^ (f i).toNatClampNeg
theorem ksF_lt {f : Nat → Int32} : ∀ n, (∀ i, i < n → kOk (f i)) → ksF f n < 65536 := by
  intro n
  induction n with
  | zero => intro _; exact Nat.zero_lt_succ _
  | succ n ih =>
    intro h
    rw [ksF]
    have h1 := ih (fun i hi => h i (by omega))
    by_cases c : f n = -1
    · rw [if_pos c]; exact h1
    · rw [if_neg c]
      rcases h n (by omega) with e | ⟨k, k1, k2⟩
      · exact absurd e c
      · rw [k2, nI_clamp (by omega)]
        exact Nat.or_lt_two_pow (n := 16) h1 (Nat.pow_lt_pow_right (by omega) k1)
theorem keySet_X {z : SX5} {n : Nat} {f : Nat → Int32} (h : SdR z n f) (hk : ∀ i, i < n → kOk (f i)) : fX5_keySet z = some (nI (ksF f n)) := by
  obtain ⟨h1, h2, h3⟩ := h
  refine upL (fun k j => fX5_keySet_b4 z k (nI (ksF f j)) (nI j)) n _ ?_ ?_ 1000 0 (by omega) (by omega)
  · intro k j hj
    show fX5_keySet_b4 z (k + 1) _ _ = fX5_keySet_b4 z k _ _
    rw [fX5_keySet_b4, h1, if_neg (nI_ge hj (by omega)), if_neg (cl 14 (by omega) (by omega)), if_neg (nI_in (show j < 14 by omega) (by omega)), if_neg (nI_in (show j < 14 by omega) (by omega)), nI_clamp (by omega), h3 j hj, nI1, ksF]
    by_cases c : f j = -1
    · rw [if_pos c, if_pos c]
    · rcases hk j hj with e | ⟨q, k1, k2⟩
      · exact absurd e c
      · rw [if_neg c, if_neg c, k2, or_bit _ _ (by omega), nI_clamp (by omega)]
  · intro k
    show fX5_keySet_b4 z (k + 1) _ _ = _
    rw [fX5_keySet_b4, h1, if_pos (nI_le (Nat.le_refl n) (by omega))]
section
variable {t : SX6} {m : SX8} {n : Nat → Nat} {f : Nat → Nat → Int32}
theorem keys11_M (h : SB t m n f) {s : Nat} (hs : s < 2) (a : Nat) (k4 : Int32 → Int32 → Option Int32) : fX8_keysOfAll_b11 k4 m 1000 (nI a) (nI s) 0 = k4 (nI (a ||| ksF (f s) (n s))) (nI (s + 1)) := by
  obtain ⟨h1, h2, h3, h4⟩ := h
  have hn := (h3 s hs).2
  have hin : ¬ (nI s < 0 ∨ 2 ≤ (nI s).toNatClampNeg) := nI_in hs (by omega)
  have q := stp (fun w j => fX8_keysOfAll_b11 k4 m w (nI (a ||| ksF (f s) j)) (nI s) (nI j)) (n s) (fun w j hj => by
    obtain ⟨g1, -, g3, -, -⟩ := h4 s j hs hj
    show fX8_keysOfAll_b11 k4 m (w + 1) (nI (a ||| ksF (f s) j)) (nI s) (nI j) = fX8_keysOfAll_b11 k4 m w (nI (a ||| ksF (f s) (j + 1))) (nI s) (nI (j + 1))
    rw [fX8_keysOfAll_b11, if_neg hin, nI_clamp (show s < 2 ^ 31 by omega), (h3 s hs).1, if_neg (nI_ge hj (by omega)), g3, Option.bind_some, Option.bind_some, nI1, ksF]
    by_cases c : f s j = -1
    · rw [if_pos c, if_pos c, show nI (a ||| ksF (f s) j) ||| 0 = _ from fa_or _ 0, Nat.or_zero]
    · rcases g1 with e | ⟨q, k1, k2⟩
      · exact absurd e c
      · rw [if_neg c, if_neg c, k2, or_bit _ _ (by omega), nI_clamp (by omega), Nat.or_assoc]) (n s) (999 - n s + 1) 0 (by omega)
  rw [show 999 - n s + 1 + n s = 1000 by omega, Nat.zero_add] at q
  have e0 : fX8_keysOfAll_b11 k4 m 1000 (nI a) (nI s) 0 = fX8_keysOfAll_b11 k4 m 1000 (nI (a ||| ksF (f s) 0)) (nI s) (nI 0) := by
    rw [ksF, Nat.or_zero]
    rfl
  rw [e0]
  refine Eq.trans q ?_
  show fX8_keysOfAll_b11 k4 m (999 - n s + 1) (nI (a ||| ksF (f s) (n s))) (nI s) (nI (n s)) = _
  rw [fX8_keysOfAll_b11, if_neg hin, nI_clamp (show s < 2 ^ 31 by omega), (h3 s hs).1, if_pos (nI_le (Nat.le_refl (n s)) (by omega)), nI1]
theorem keys_P (h : SB t m n f) : ∃ q, (fX5_keySet t.1).bind (fun q6 => (fX5_keySet t.2.1).bind fun q7 => (fJ6_bitCount_0f7a4 (q6 ||| q7)).bind fun q8 => some q8) = some q ∧ fX8_keysOfAll m = some q := by
  have k0 : ∀ s i, s < 2 → i < n s → kOk (f s i) := fun s i hs hi => (h.2.2.2 s i hs hi).1
  have l0 := ksF_lt (f := f 0) (n 0) (fun i hi => k0 0 i (by omega) hi)
  have l1 := ksF_lt (f := f 1) (n 1) (fun i hi => k0 1 i (by omega) hi)
  have lo : ksF (f 0) (n 0) ||| ksF (f 1) (n 1) < 65536 := Nat.or_lt_two_pow (n := 16) l0 l1
  rw [keySet_X h.1 (fun i hi => k0 0 i (by omega) hi), keySet_X h.2.1 (fun i hi => k0 1 i (by omega) hi), Option.bind_some, Option.bind_some, fa_or, bitCount_16 lo]
  refine ⟨_, rfl, ?_⟩
  unfold fX8_keysOfAll
  show fX8_keysOfAll_b4 m (999 + 1) (nI 0) (nI 0) = _
  rw [fX8_keysOfAll_b4, if_neg (cl 2 (show 0 < 2 by omega) (by omega)), keys11_M h (s := 0) (by omega)]
  show fX8_keysOfAll_b4 m (998 + 1) (nI (0 ||| ksF (f 0) (n 0))) (nI 1) = _
  rw [fX8_keysOfAll_b4, if_neg (cl 2 (show 1 < 2 by omega) (by omega)), keys11_M h (s := 1) (by omega)]
  show fX8_keysOfAll_b4 m (997 + 1) (nI (0 ||| ksF (f 0) (n 0) ||| ksF (f 1) (n 1))) (nI 2) = _
  rw [fX8_keysOfAll_b4, if_pos (show (2 : Int32) ≤ nI 2 by decide), Nat.zero_or, size_16 lo]
  rfl
theorem pairs_P (h : SB t m n f) : ∃ q, fX6_pairs t = some q ∧ fX8_pairs m = some q := by
  obtain ⟨h1, h2, h3, h4⟩ := h
  have hn := (h3 0 (by omega)).2
  refine ⟨nI (fb_sum (fun i => cnt (ptn n f 0 i)) (n 0)), ?_, ?_⟩
  · refine upL (fun k j => fX6_pairs_b4 t k (nI (fb_sum (fun i => cnt (ptn n f 0 i)) j)) (nI j)) (n 0) _ ?_ ?_ 1000 0 (by omega) (by omega)
    · intro k j hj
      obtain ⟨-, -, -, -, g5⟩ := h4 0 j (by omega) hj
      show fX6_pairs_b4 t (k + 1) _ _ = fX6_pairs_b4 t k _ _
      rw [fX6_pairs_b4, h1.1, if_neg (nI_ge hj (by omega)), show fX6_partners t 0 (nI j) = _ from g5, Option.bind_some, bitCount_eq (ptn_lt (h3 1 (by omega)).2), Option.bind_some, nI_add, nI1, fb_sum]
    · intro k
      show fX6_pairs_b4 t (k + 1) _ _ = _
      rw [fX6_pairs_b4, h1.1, if_pos (nI_le (Nat.le_refl (n 0)) (by omega))]
  · refine upL (fun k j => fX8_pairs_b4 m k (nI (fb_sum (fun i => cnt (ptn n f 0 i)) j)) (nI j)) (n 0) _ ?_ ?_ 1000 0 (by omega) (by omega)
    · intro k j hj
      obtain ⟨-, -, -, g4, -⟩ := h4 0 j (by omega) hj
      show fX8_pairs_b4 m (k + 1) _ _ = fX8_pairs_b4 m k _ _
      rw [fX8_pairs_b4, show m.2.2 4 (0 : Int32).toNatClampNeg = _ from (h3 0 (by omega)).1, if_neg (nI_ge hj (by omega)), show fX8_partnersOf m 0 (nI j) = _ from g4, Option.bind_some, nI_add, nI1, fb_sum]
    · intro k
      show fX8_pairs_b4 m (k + 1) _ _ = _
      rw [fX8_pairs_b4, show m.2.2 4 (0 : Int32).toNatClampNeg = _ from (h3 0 (by omega)).1, if_pos (nI_le (Nat.le_refl (n 0)) (by omega))]
end
theorem TB.mk2 {c : Nat} {t : SX6} {m : SX8} (h : TB c t m) : t.2.2.1 = m.1 1 ∧ t.2.2.2 = m.1 2 := by
  rcases h with ⟨-, -, -, a1, a2, a3, a4, -⟩ | ⟨-, n, f, mem, kd, -, -, a1, a2, -⟩
  · rw [a1, a2, a3, a4]
    exact ⟨rfl, rfl⟩
  · rw [a1.2.2.1, a1.2.2.2.1, a2.2.2.1, a2.2.2.2.1]
    exact ⟨rfl, rfl⟩
theorem count_P {k : Nat} {x : SX7} {m : SX8} (h : Rel k x m) (b0 : Int32) : ∃ q, fX7_count x b0 = some q ∧ fX8_howMany m b0 = some q := by
  obtain ⟨h1, ⟨c, h2, h3, h4, h5, h6⟩, ⟨d, -, s1, s2, -⟩, -, h10⟩ := h
  obtain ⟨L, -, p1, p2, -⟩ := h1
  obtain ⟨n, f, hs⟩ := h5.sb
  obtain ⟨u, u1, u2⟩ := keys_P hs
  obtain ⟨v, v1, v2⟩ := pairs_P hs
  obtain ⟨w1, w2⟩ := h5.mk2
  have e0 := (hs.2.2.1 0 (by omega)).1
  have e1 := (hs.2.2.1 1 (by omega)).1
  unfold fX7_count fX8_howMany
  by_cases c0 : b0 = 0
  · rw [if_pos c0, if_pos c0, c0, if_neg (show ¬ ((0 : Int32) < 0 ∨ 2 ≤ (0 : Int32).toNatClampNeg) by decide), hs.1.1]
    exact ⟨_, rfl, by rw [show m.2.2 4 (0 : Int32).toNatClampNeg = _ from e0]⟩
  rw [if_neg c0, if_neg c0]
  by_cases c1 : b0 = 1
  · rw [if_pos c1, if_pos c1, c1, if_neg (show ¬ ((1 : Int32) < 0 ∨ 2 ≤ (1 : Int32).toNatClampNeg) by decide), hs.2.1.1]
    exact ⟨_, rfl, by rw [show m.2.2 4 (1 : Int32).toNatClampNeg = _ from e1]⟩
  rw [if_neg c1, if_neg c1]
  by_cases c2 : b0 = 2
  · rw [if_pos c2, if_pos c2, w1]
    exact ⟨_, rfl, rfl⟩
  rw [if_neg c2, if_neg c2]
  by_cases c3 : b0 = 3
  · rw [if_pos c3, if_pos c3, w2]
    exact ⟨_, rfl, rfl⟩
  rw [if_neg c3, if_neg c3]
  by_cases c4 : b0 = 4
  · rw [if_pos c4, if_pos c4, u1, u2]
    exact ⟨_, rfl, rfl⟩
  rw [if_neg c4, if_neg c4]
  by_cases c5 : b0 = 5
  · rw [if_pos c5, if_pos c5, v1, v2]
    exact ⟨_, rfl, rfl⟩
  rw [if_neg c5, if_neg c5]
  by_cases c6 : b0 = 6
  · rw [if_pos c6, if_pos c6, h10]
    exact ⟨_, rfl, rfl⟩
  rw [if_neg c6, if_neg c6]
  by_cases c7 : b0 = 7
  · rw [if_pos c7, if_pos c7, s1, s2]
    exact ⟨_, rfl, rfl⟩
  rw [if_neg c7, if_neg c7]
  by_cases c8 : b0 = 8
  · rw [if_pos c8, if_pos c8, p1, p2]
    exact ⟨_, rfl, rfl⟩
  rw [if_neg c8, if_neg c8]
  by_cases c9 : b0 = 9
  · rw [if_pos c9, if_pos c9, h3, h4]
    exact ⟨_, rfl, rfl⟩
  rw [if_neg c9, if_neg c9]
  exact ⟨_, rfl, rfl⟩
theorem sm_count : Sm_count Rel := by
  intro k x m b0 hk h
  obtain ⟨q, q1, q2⟩ := count_P h b0
  unfold fX8_count
  rw [q2]
  exact ⟨q, q, q1, rfl, rfl, h.up⟩
