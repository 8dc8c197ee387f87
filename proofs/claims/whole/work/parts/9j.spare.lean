/-! spare -/
theorem one_X {z : SX5} {n : Nat → Nat} {f : Nat → Nat → Int32} {s a : Nat} (h : SdR z (n s) (f s)) (ha : Sb n f s a) : fX5_haveOneKey z (nI a) = some (if ¬ a = 0 ∧ oneK f s a = true then 1 else 0) := by
  by_cases c : a = 0
  · rw [if_neg (fun q => q.1 c), c]
    have hn := h.2.1
    unfold fX5_haveOneKey
    rw [ntz_0, Option.bind_some, has_Xn h (fun ⟨i, i1, i2⟩ => by have := (nI_eq (by omega) (by omega)).mp i2; omega), Option.bind_some, if_pos (show (0 : Int32) = 0 from rfl)]
  · rw [haveOneKey_X h ha c]
    by_cases d : oneK f s a = true
    · rw [if_pos d, if_pos ⟨c, d⟩]
    · rw [if_neg d, if_neg (fun q => d q.2)]
theorem tail_c {f : Nat → Nat → Int32} {s a : Nat} (ha : a < 16384) : (if (if ¬ a = 0 ∧ oneK f s a = true then (1 : Int32) else 0) = 0 then ((fJ6_bitCount_0f7a4 (nI a)).bind fun q11 => if 9 < (if 1 < q11 then q11 else 1) then (some (-1)) else (some (if 1 < q11 then q11 else 1))) else (some 1)) = some (if (if a = 0 ∨ oneK f s a = true then 1 else cnt a) ≤ 9 then nI (if a = 0 ∨ oneK f s a = true then 1 else cnt a) else -1) := by
  have hc := cnt_14 ha
  by_cases c : a = 0
  · rw [if_pos (show a = 0 ∨ oneK f s a = true from Or.inl c), if_neg (show ¬ (¬ a = 0 ∧ oneK f s a = true) from fun q => q.1 c), c]
    decide +kernel
  · by_cases d : oneK f s a = true
    · rw [if_pos (show a = 0 ∨ oneK f s a = true from Or.inr d), if_pos (show ¬ a = 0 ∧ oneK f s a = true from ⟨c, d⟩)]
      rfl
    · have h1 : 1 ≤ cnt a := by
        rcases Nat.eq_zero_or_pos (cnt a) with e | e
        · exact absurd (cnt_z ha e) c
        · exact e
      rw [if_neg (show ¬ (a = 0 ∨ oneK f s a = true) from fun q => q.elim c d), if_neg (show ¬ (¬ a = 0 ∧ oneK f s a = true) from fun q => d q.2), if_pos (show (0 : Int32) = 0 from rfl), bitCount_eq ha, Option.bind_some]
      have e : (if 1 < nI (cnt a) then nI (cnt a) else 1) = nI (cnt a) := by
        by_cases q : cnt a = 1
        · rw [q]; rfl
        · rw [if_pos (show (1 : Int32) < nI (cnt a) from nI_lt (a := 1) (by omega) (by omega))]
      rw [e]
      by_cases q : cnt a ≤ 9
      · rw [if_neg (show ¬ (9 : Int32) < nI (cnt a) from nI_nlt (a := 9) q (by omega)), if_pos q]
      · rw [if_pos (show (9 : Int32) < nI (cnt a) from nI_lt (a := 9) (by omega) (by omega)), if_neg q]
theorem spare_X {x : SX7} {n : Nat → Nat} {f : Nat → Nat → Int32} {mem kd : Nat} (h : XT x.2.1.1 n f mem kd) (ht : fX6_areThere x.2.1.1 = some 1) : fX7_spare x = some (if thr f (wk f 0 (n 0)) (wk f 1 (n 1)) ≤ 9 then nI (thr f (wk f 0 (n 0)) (wk f 1 (n 1))) else -1) := by
  have h0 : n 0 ≤ 14 := h.le (s := 0) (by omega)
  have h1 : n 1 ≤ 14 := h.le (s := 1) (by omega)
  have r0 : fX5_rowsWithKey x.2.1.1.1 = some (nI (wk f 0 (n 0))) := rowsWithKey_X h.1
  have r1 : fX5_rowsWithKey x.2.1.1.2.1 = some (nI (wk f 1 (n 1))) := rowsWithKey_X h.2.1
  have hl : wk f 0 (n 0) < 16384 := mkm_le _ h0
  have hr : wk f 1 (n 1) < 16384 := mkm_le _ h1
  have s0 := one_X (s := 0) h.1 (wk_Sb h0)
  have s1 := one_X (s := 1) h.2.1 (wk_Sb h1)
  unfold fX7_spare
  rw [ht, Option.bind_some, if_neg (show ¬ (1 : Int32) = 0 by decide), r0, r1, Option.bind_some, Option.bind_some, build_X hl hr, Option.bind_some, Option.bind_some, Option.bind_some]
  unfold thr
  rcases (show bsd (wk f 0 (n 0)) (wk f 1 (n 1)) = 0 ∨ bsd (wk f 0 (n 0)) (wk f 1 (n 1)) = 1 by have := bsd_lt (wk f 0 (n 0)) (wk f 1 (n 1)); omega) with e | e
  · rw [show bmm (wk f 0 (n 0)) (wk f 1 (n 1)) = wk f 0 (n 0) from if_pos e, e, if_pos (show nI 0 = 0 from rfl), if_pos (show nI 0 = 0 from rfl), s0, Option.bind_some]
    exact tail_c hl
  · rw [show bmm (wk f 0 (n 0)) (wk f 1 (n 1)) = wk f 1 (n 1) from if_neg (by rw [e]; decide), e, if_neg (show ¬ nI 1 = 0 by decide), if_neg (show ¬ nI 1 = 0 by decide), s1, Option.bind_some]
    exact tail_c hr
theorem thr_1 {f : Nat → Nat → Int32} {l r : Nat} (hl : l < 16384) (hr : r < 16384) : 1 ≤ thr f l r := by
  have hb : bmm l r < 16384 := by unfold bmm; split <;> assumption
  unfold thr
  split
  · exact Nat.le_refl 1
  · rename_i c
    rcases Nat.eq_zero_or_pos (cnt (bmm l r)) with e | e
    · exact absurd (Or.inl (cnt_z hb e)) c
    · exact e
/-- what spareNow keeps -/
def Fm (m z : SX8) : Prop := (∀ i, i ≠ 1 → (i < 14 ∨ 28 < i) → z.1 i = m.1 i) ∧ z.2.1 = m.2.1 ∧ ∀ i, (i < 29 ∨ 40 < i) → z.2.2 i = m.2.2 i
theorem b10_M {n : Nat → Nat} {f : Nat → Nat → Int32} {mem kd : Nat} {m : SX8} (h : MT n f mem kd m) (x1 : Int32) : ∀ d, d ≤ 9 → ∀ w x2 z, d < w → Fm m z → ∃ z', fX8_spareNow_b10 w x1 x2 (nI d) z = some (if thr f (wk f 0 (n 0)) (wk f 1 (n 1)) ≤ d then nI (thr f (wk f 0 (n 0)) (wk f 1 (n 1))) else x2, (upd z'.1 1 x1, z'.2.1, z'.2.2)) ∧ Fm m z' := by
  have h0 := h.2.2.2.2.1 0 (by omega)
  have h1 := h.2.2.2.2.1 1 (by omega)
  have ht := thr_1 (f := f) (l := wk f 0 (n 0)) (r := wk f 1 (n 1)) (mkm_le _ h0) (mkm_le _ h1)
  have hr := fun (mem' : Nat) (hm : 1 ≤ mem') => rn_0 (f := f) (kd := kd) (lim := 268435456) h0 h1 hm
  generalize thr f (wk f 0 (n 0)) (wk f 1 (n 1)) = th at *
  intro d
  induction d with
  | zero =>
    intro _ w x2 z hw hz
    obtain ⟨w, rfl⟩ : ∃ v, w = v + 1 := ⟨w - 1, by omega⟩
    rw [fX8_spareNow_b10, if_pos (show nI 0 ≤ 0 by decide), if_neg (show ¬ th ≤ 0 by omega)]
    exact ⟨z, rfl, hz⟩
  | succ d ih =>
    intro hd w x2 z hw hz
    obtain ⟨w, rfl⟩ : ∃ v, w = v + 1 := ⟨w - 1, by omega⟩
    have hM : MT n f (d + 1) kd (upd z.1 1 (nI (d + 1)), z.2.1, z.2.2) := by
      obtain ⟨g1, g2, g3, g4, g5, g6⟩ := h
      refine ⟨?_, ?_, rfl, ?_, g5, g6⟩
      · show ∀ s, s < 2 → z.2.2 4 s = nI (n s)
        rw [hz.2.2 4 (by omega)]
        exact g1
      · show ∀ s i, s < 2 → i < n s → z.2.2 3 (14 * s + i) = f s i
        rw [hz.2.2 3 (by omega)]
        exact g2
      · show z.1 2 = nI kd
        rw [hz.1 2 (by omega) (by omega)]
        exact g4
    obtain ⟨q, A, q1, q2⟩ := runNow_M (lim := 268435456) hM (by omega) (by omega) (by omega)
    have e18 : q.1 18 = (rn n f kd 268435456 (d + 1)).2.2.1 1 := q2.at (k := 1) (by omega) (by omega)
    have hq : Fm m q := by
      obtain ⟨f1, f2, f3⟩ := q2.1
      refine ⟨fun i i1 i2 => (f1 i i2).trans ((if_neg i1).trans (hz.1 i i1 i2)), f2.trans hz.2.1, fun i hi => (f3 i hi).trans (hz.2.2 i hi)⟩
    rw [fX8_spareNow_b10, if_neg (show ¬ nI (d + 1) ≤ 0 from (nI_ge (show 0 < d + 1 by omega) (by omega) : ¬ nI (d + 1) ≤ nI 0)), show fX8_runNow (upd z.1 1 (nI (d + 1)), z.2.1, z.2.2) 268435456 = some q from q1, Option.bind_some, nI_dec, e18]
    by_cases c : th ≤ d + 1
    · rw [if_pos ((hr (d + 1) (by omega)).mpr c)]
      obtain ⟨z', z1, z2⟩ := ih (by omega) w (nI (d + 1)) q (by omega) hq
      refine ⟨z', ?_, z2⟩
      rw [z1, if_pos c]
      by_cases c' : th ≤ d
      · rw [if_pos c']
      · rw [if_neg c', show th = d + 1 by omega]
    · rw [if_neg (fun e => c ((hr (d + 1) (by omega)).mp e))]
      obtain ⟨z', z1, z2⟩ := ih (by omega) w x2 q (by omega) hq
      refine ⟨z', ?_, z2⟩
      rw [z1, if_neg c, if_neg (show ¬ th ≤ d by omega)]
theorem spareNow_M {n : Nat → Nat} {f : Nat → Nat → Int32} {mem kd : Nat} {m : SX8} (h : MT n f mem kd m) : ∃ z, fX8_spareNow m = some (if thr f (wk f 0 (n 0)) (wk f 1 (n 1)) ≤ 9 then nI (thr f (wk f 0 (n 0)) (wk f 1 (n 1))) else -1, z) ∧ Fr m z := by
  obtain ⟨z', z1, z2⟩ := b10_M h (m.1 1) 9 (by omega) 1000 (-1) m (by omega) ⟨fun _ _ _ => rfl, rfl, fun _ _ => rfl⟩
  refine ⟨_, z1, ⟨fun i hi => ?_, z2.2.1, z2.2.2⟩⟩
  show upd z'.1 1 (m.1 1) i = m.1 i
  unfold upd
  by_cases c : i = 1
  · rw [if_pos c, c]
  · rw [if_neg c]
    exact z2.1 i c hi
theorem Fr.kp {m z : SX8} (h : Fr m z) : Kp m z := ⟨fun i hi => h.1 i (by omega), fun i hi => h.2.2 i (by omega)⟩
theorem sm_spare : Sm_spare Rel := by
  intro k x m hk h
  obtain ⟨c, h2, h3, h4, h5, h6⟩ := h.2.1
  rcases there_c hk h2 h3 h5 with ⟨-, a2, a3⟩ | ⟨hc, a2, a3, n, f, mem, kd, d1, d2, d3, d4, d5⟩
  · unfold fX7_spare fX8_spare
    rw [a2, Option.bind_some, if_pos (show (0 : Int32) = 0 from rfl), if_pos a3]
    exact ⟨_, _, rfl, rfl, rfl, h.up⟩
  · obtain ⟨z, z1, z2⟩ := spareNow_M d4
    rw [spare_X d3 a2]
    unfold fX8_spare
    rw [if_neg a3, z1]
    exact ⟨_, _, rfl, rfl, rfl, h.kp z2.kp⟩
