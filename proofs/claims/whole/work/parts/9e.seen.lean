/-! what is seen -/
def kM (a : Nat) : Nat := ([19, 22, 16, 8] : List Nat).getD a 0
theorem let_c : ∀ a, a < 4 → fX4_kindsThatLetOut (nI a) = some (nI (kM a)) := by decide +kernel
theorem could_c : ∀ kd, kd < 5 → ∀ a, a < 4 → fX8_could (nI kd) (nI a) = some (if cdB kd a then 1 else 0) := by decide +kernel
theorem all_cg {p q : Nat → Bool} : ∀ c, (∀ i, i < c → p i = q i) → (List.range c).all p = (List.range c).all q := by
  intro c
  induction c with
  | zero => intro _; rfl
  | succ c ih =>
    intro h
    rw [List.range_succ, List.all_append, List.all_append, ih (fun i hi => h i (by omega))]
    simp [h c (by omega)]
theorem all_S (p : Nat → Bool) (c : Nat) : (List.range (c + 1)).all p = ((List.range c).all p && p c) := by
  rw [List.range_succ, List.all_append]
  simp
theorem kl_lt (c : Nat) (w b : Nat → Int32) : kl c w b < 32 := mkm_lt _ 5
theorem kl_bit (c : Nat) (w b : Nat → Int32) (i : Nat) : (kl c w b).testBit i = (decide (i < 5) && (List.range c).all fun j => decide (cdB i (w j).toNatClampNeg = decide (b j = 1))) := mkm_bit _ _ _
theorem kl_cg {c : Nat} {w b w' b' : Nat → Int32} (h : ∀ i, i < c → w i = w' i ∧ b i = b' i) : kl c w b = kl c w' b' := by
  apply Nat.eq_of_testBit_eq
  intro i
  rw [kl_bit, kl_bit]
  congr 1
  exact all_cg c (fun j hj => by rw [(h j hj).1, (h j hj).2])
theorem kl_S {c a : Nat} {w b : Nat → Int32} (ha : a < 4) (v : Int32) (i : Nat) : (kl (c + 1) (upd w c (nI a)) (upd b c v)).testBit i = ((kl c w b).testBit i && decide ((kM a).testBit i = decide (v = 1))) := by
  rw [kl_bit, kl_bit, all_S, all_cg (q := fun j => decide (cdB i (w j).toNatClampNeg = decide (b j = 1))) c (fun j hj => by
    unfold upd
    rw [if_neg (show ¬ j = c by omega), if_neg (show ¬ j = c by omega)])]
  rw [show upd w c (nI a) c = nI a from if_pos rfl, show upd b c v c = v from if_pos rfl, nI_clamp (by omega), Bool.and_assoc]
  rfl
theorem kl_1 {c a : Nat} {w b : Nat → Int32} (ha : a < 4) : kl (c + 1) (upd w c (nI a)) (upd b c 1) = kl c w b &&& kM a := by
  apply Nat.eq_of_testBit_eq
  intro i
  rw [kl_S ha, Nat.testBit_and]
  cases (kM a).testBit i <;> rfl
theorem kl_n {c a : Nat} {w b : Nat → Int32} (ha : a < 4) : kl (c + 1) (upd w c (nI a)) (upd b c 0) = kl c w b &&& (kl c w b ^^^ (kl c w b &&& kM a)) := by
  apply Nat.eq_of_testBit_eq
  intro i
  rw [kl_S ha, Nat.testBit_and, Nat.testBit_xor, Nat.testBit_and]
  cases (kM a).testBit i <;> cases (kl c w b).testBit i <;> rfl
/-- what Rel keeps when nothing but what is seen changes -/
theorem Rel.sn {k : Nat} {x : SX7} {m m' : SX8} (h : Rel k x m) (s' : SX4) (hs : SN s' (m'.1 6) (m'.2.2 7) (m'.2.2 8)) (e1 : ∀ i, i ≠ 6 → m'.1 i = m.1 i) (e2 : ∀ i, i ≠ 7 → i ≠ 8 → m'.2.2 i = m.2.2 i) :
    Rel (k + 1) (x.1, x.2.1, s', x.2.2.2.1, x.2.2.2.2.1, x.2.2.2.2.2.1, x.2.2.2.2.2.2.1, x.2.2.2.2.2.2.2.1, x.2.2.2.2.2.2.2.2) m' := by
  obtain ⟨h1, ⟨c, h2, h3, h4, h5, h6⟩, h7, ⟨R, h8, h9⟩, h10⟩ := h
  refine ⟨h1.fr (e1 9 (by omega)) (e2 10 (by omega) (by omega)), ⟨c, by omega, ?_, h4, h5.fr (e1 1 (by omega)) (e1 2 (by omega)) (e2 3 (by omega) (by omega)) (e2 4 (by omega) (by omega)), h6.fr (fun i _ _ => e1 i (by omega)) (fun i _ _ => e2 i (by omega) (by omega))⟩, hs, ⟨R, h8, h9.fr (e1 41 (by omega)) (e1 42 (by omega)) (fun i _ _ => e2 i (by omega) (by omega))⟩, ?_⟩
  · rw [e1 0 (by omega)]; exact h3
  · rw [e1 5 (by omega)]; exact h10
theorem sm_forget : Sm_forget Rel := by
  intro k x m hk h
  obtain ⟨c, c6, s1, s2, s3, s4⟩ := h.2.2.1
  unfold fX7_forget fX8_forget fX4_clear
  rw [Option.bind_some]
  refine ⟨_, _, rfl, rfl, s1.trans s2.symm, h.sn _ ⟨0, by omega, rfl, rfl, ?_, fun i hi => absurd hi (Nat.not_lt_zero i)⟩ (fun i hi => if_neg hi) (fun _ _ _ => rfl)⟩
  rw [kl_0]
  rfl
theorem sm_see : Sm_see Rel := by
  intro k x m b0 b1 hk hb h
  obtain ⟨c, h2, h3, h4, h5, h6⟩ := h.2.1
  obtain ⟨d, d6, s1, s2, s3, s4⟩ := h.2.2.1
  unfold fX7_see fX8_see
  rw [within_M, Option.bind_some]
  have q4 : (3 : Int32) < b0 ↔ ¬ b0 < 4 := by
    rw [Int32.lt_iff_toInt_lt, Int32.lt_iff_toInt_lt, show (3 : Int32).toInt = 3 by decide, show (4 : Int32).toInt = 4 by decide]
    omega
  by_cases c1 : b0 < 0
  · rw [if_pos c1, if_pos c1]
    exact ⟨_, _, rfl, rfl, rfl, h.up⟩
  · rw [if_neg c1, if_neg c1]
    by_cases c2 : b0 < 4
    · obtain ⟨a, a1, a2⟩ := lt_of (K := 4) (by omega) c1 c2
      rw [if_pos c2, if_neg (fun e => q4.mp e c2), if_neg (show ¬ (1 : Int32) = 0 by decide)]
      rcases there_c hk h2 h3 h5 with ⟨-, t2, t3⟩ | ⟨-, t2, t3, -⟩
      · rw [t2, Option.bind_some, if_pos (show (0 : Int32) = 0 from rfl), if_pos t3]
        exact ⟨_, _, rfl, rfl, rfl, h.up⟩
      · rw [t2, Option.bind_some, if_neg (show ¬ (1 : Int32) = 0 by decide), if_neg t3, s1, s2]
        by_cases e6 : d = 6
        · rw [if_neg (show ¬ nI d < 6 by rw [e6]; decide), if_pos (show nI d = 6 by rw [e6]; rfl)]
          exact ⟨_, _, rfl, rfl, rfl, h.up⟩
        · have hd : d < 6 := by omega
          have hin : ¬ (nI d < 0 ∨ 6 ≤ (nI d).toNatClampNeg) := nI_in hd (by omega)
          unfold fX4_add fX8_see_b61
          rw [if_pos (show nI d < 6 from nI_lt (b := 6) hd (by omega)), if_neg (show ¬ nI d = 6 from fun e => e6 ((nI_eq (b := 6) (by omega) (by omega)).mp e)), a2, let_c a a1, Option.bind_some, if_neg hin, if_neg hin, if_neg hin, nI_clamp (by omega), s1, s3]
          have hnew : ∀ v : Int32, (v = 0 ∨ v = 1) → ∀ i, i < d + 1 → (∃ a', a' < 4 ∧ upd (m.2.2 7) d (nI a) i = nI a') ∧ (upd (m.2.2 8) d v i = 0 ∨ upd (m.2.2 8) d v i = 1) := by
            intro v hv i hi
            unfold upd
            by_cases c : i = d
            · rw [if_pos c, if_pos c]
              exact ⟨⟨a, a1, rfl⟩, hv⟩
            · rw [if_neg c, if_neg c]
              exact s4 i (by omega)
          rcases hb with e | e
          · rw [if_pos e, if_pos e, fa_andn _ _ (Nat.lt_trans (kl_lt _ _ _) (by omega)), ← kl_n a1, Option.bind_some]
            refine ⟨_, _, rfl, rfl, ?_, h.sn _ ⟨d + 1, by omega, nI_1 d, ?_, rfl, hnew 0 (Or.inl rfl)⟩ (fun i hi => if_neg hi) (fun i i7 i8 => (if_neg i8).trans (if_neg i7))⟩
            · show nI d + 1 = m.1 6 + 1
              rw [s2]
            · show m.1 6 + 1 = nI (d + 1)
              rw [s2]
              exact nI_1 d
          · have ne : ¬ b1 = 0 := by rw [e]; decide
            rw [if_neg ne, if_neg ne, fa_and, ← kl_1 a1, Option.bind_some]
            refine ⟨_, _, rfl, rfl, ?_, h.sn _ ⟨d + 1, by omega, nI_1 d, ?_, rfl, hnew 1 (Or.inr rfl)⟩ (fun i hi => if_neg hi) (fun i i7 i8 => (if_neg i8).trans (if_neg i7))⟩
            · show nI d + 1 = m.1 6 + 1
              rw [s2]
            · show m.1 6 + 1 = nI (d + 1)
              rw [s2]
              exact nI_1 d
    · rw [if_neg c2, if_pos (q4.mpr c2)]
      exact ⟨_, _, rfl, rfl, rfl, h.up⟩
/-! sorts -/
theorem sorts_M {m : SX8} {c : Nat} (hc : c ≤ 6) (h6 : m.1 6 = nI c) (hs : ∀ i, i < c → (∃ a, a < 4 ∧ m.2.2 7 i = nI a) ∧ (m.2.2 8 i = 0 ∨ m.2.2 8 i = 1)) : fX8_sortsNow m = some (nI (kl c (m.2.2 7) (m.2.2 8))) := by
  have one : ∀ (k4 : Int32 → Int32 → Option Int32) (x1 : Int32) (kd : Nat), kd < 5 → fX8_sortsNow_b14 k4 m 1000 x1 (nI kd) 1 0 = if (List.range c).all (fun i => decide (cdB kd (m.2.2 7 i).toNatClampNeg = decide (m.2.2 8 i = 1))) then k4 (x1 ||| (1 <<< (nI kd &&& 31))) (nI kd + 1) else k4 (x1 ||| 0) (nI kd + 1) := by
    intro k4 x1 kd hkd
    have q := stp (fun w j => fX8_sortsNow_b14 k4 m w x1 (nI kd) (if (List.range j).all (fun i => decide (cdB kd (m.2.2 7 i).toNatClampNeg = decide (m.2.2 8 i = 1))) then 1 else 0) (nI j)) c (fun w j hj => by
      obtain ⟨⟨a, a1, a2⟩, b1⟩ := hs j hj
      show fX8_sortsNow_b14 k4 m (w + 1) x1 (nI kd) _ (nI j) = fX8_sortsNow_b14 k4 m w x1 (nI kd) _ (nI (j + 1))
      rw [fX8_sortsNow_b14, h6, if_neg (nI_ge hj (by omega)), all_S, nI1]
      have hin : ¬ (nI j < 0 ∨ 6 ≤ (nI j).toNatClampNeg) := nI_in (show j < 6 by omega) (by omega)
      by_cases e : (List.range j).all (fun i => decide (cdB kd (m.2.2 7 i).toNatClampNeg = decide (m.2.2 8 i = 1))) = true
      · rw [e, if_pos (show true = true from rfl), if_neg (show ¬ (1 : Int32) = 0 by decide), if_neg hin, show fX8_could (nI kd) (m.2.2 7 (nI j).toNatClampNeg) = some (if cdB kd a then 1 else 0) by rw [nI_clamp (show j < 2 ^ 31 by omega), a2, could_c kd hkd a a1], Option.bind_some, if_neg hin, nI_clamp (show j < 2 ^ 31 by omega), a2, nI_clamp (show a < 2 ^ 31 by omega), Bool.true_and]
        rcases b1 with b1 | b1
        · rw [b1, if_neg (show ¬ (0 : Int32) = 1 by decide)]
          cases cdB kd a <;> rfl
        · rw [b1, if_pos (show (1 : Int32) = 1 from rfl)]
          cases cdB kd a <;> rfl
      · have e' : (List.range j).all (fun i => decide (cdB kd (m.2.2 7 i).toNatClampNeg = decide (m.2.2 8 i = 1))) = false := by simpa using e
        rw [e', Bool.false_and, if_neg (show ¬ false = true by decide), if_pos (show (0 : Int32) = 0 from rfl)]) c (999 - c + 1) 0 (by omega)
    rw [show 999 - c + 1 + c = 1000 by omega, Nat.zero_add] at q
    refine Eq.trans q ?_
    show fX8_sortsNow_b14 k4 m (999 - c + 1) x1 (nI kd) _ (nI c) = _
    rw [fX8_sortsNow_b14, h6, if_pos (nI_le (Nat.le_refl c) (by omega))]
    by_cases e : (List.range c).all (fun i => decide (cdB kd (m.2.2 7 i).toNatClampNeg = decide (m.2.2 8 i = 1))) = true
    · rw [if_pos e, if_pos e, if_neg (show ¬ (1 : Int32) = 0 by decide)]
    · rw [if_neg e, if_neg e, if_pos (show (0 : Int32) = 0 from rfl)]
  refine upL (fun w j => fX8_sortsNow_b4 m w (nI (mkm (fun kd => (List.range c).all fun i => decide (cdB kd (m.2.2 7 i).toNatClampNeg = decide (m.2.2 8 i = 1))) j)) (nI j)) 5 _ ?_ ?_ 1000 0 (by omega) (by omega)
  · intro w j hj
    show fX8_sortsNow_b4 m (w + 1) _ (nI j) = fX8_sortsNow_b4 m w _ (nI (j + 1))
    rw [fX8_sortsNow_b4, if_neg (show ¬ (4 : Int32) < nI j from nI_nlt (a := 4) (by omega) (by omega)), one _ _ j hj, or_bit _ _ (by omega), nI1, mkm]
    by_cases e : (List.range c).all (fun i => decide (cdB j (m.2.2 7 i).toNatClampNeg = decide (m.2.2 8 i = 1))) = true
    · rw [if_pos e, if_pos e]
    · rw [if_neg e, if_neg e, show nI (mkm (fun kd => (List.range c).all fun i => decide (cdB kd (m.2.2 7 i).toNatClampNeg = decide (m.2.2 8 i = 1))) j) ||| 0 = _ from fa_or _ 0, Nat.or_zero]
  · intro w
    show fX8_sortsNow_b4 m (w + 1) _ (nI 5) = _
    rw [fX8_sortsNow_b4, if_pos (show (4 : Int32) < nI 5 by decide)]
    rfl
theorem ask_30 (k14 : Int32 → Int32 → Int32 → Int32 → Option Int32) (z z' : SX8) : ∀ n x1 x2 x3 x4 x5 x6, fX8_askNow_b30 k14 z n x1 x2 x3 x4 x5 x6 = fX8_askNow_b30 k14 z' n x1 x2 x3 x4 x5 x6 := by
  intro n
  induction n with
  | zero => intros; rfl
  | succ n ih =>
    intro x1 x2 x3 x4 x5 x6
    rw [fX8_askNow_b30, fX8_askNow_b30]
    simp only [ih]
    rfl
theorem ask_14 (z z' : SX8) : ∀ n x1 x2 x3 x4, fX8_askNow_b14 z n x1 x2 x3 x4 = fX8_askNow_b14 z' n x1 x2 x3 x4 := by
  intro n
  induction n with
  | zero => intros; rfl
  | succ n ih =>
    intro x1 x2 x3 x4
    have e : fX8_askNow_b14 z n = fX8_askNow_b14 z' n := by
      funext a b c d
      exact ih a b c d
    rw [fX8_askNow_b14, fX8_askNow_b14, e, ask_30 _ z z']
theorem best_16 (s s' : SX4) (h : s.2 = s'.2) : ∀ n x1 x2 x3 x4, fX4_bestQuestion_b16 s n x1 x2 x3 x4 = fX4_bestQuestion_b16 s' n x1 x2 x3 x4 := by
  intro n
  induction n with
  | zero => intros; rfl
  | succ n ih =>
    intro x1 x2 x3 x4
    rw [fX4_bestQuestion_b16, fX4_bestQuestion_b16, h]
    simp only [ih]
theorem ask_K : ∀ K, K < 32 → fX4_bestQuestion (0, nI K) = fX8_askNow_b14 (fun _ => 0, fun _ => 0, fun _ _ => 0) 1000 (nI K) (-1) 268435456 0 ∧ (fX4_bestQuestion (0, nI K)).isSome = true := by decide +kernel
theorem seen_P {s : SX4} {m : SX8} (h : SN s (m.1 6) (m.2.2 7) (m.2.2 8)) : ∃ v, fX8_sortsNow m = some s.2 ∧ fX8_askNow m = some v ∧ fX4_bestQuestion s = some v := by
  obtain ⟨c, c6, s1, s2, s3, s4⟩ := h
  have e := sorts_M c6 s2 s4
  obtain ⟨k1, k2⟩ := ask_K _ (kl_lt c (m.2.2 7) (m.2.2 8))
  obtain ⟨v, hv⟩ := Option.isSome_iff_exists.mp k2
  refine ⟨v, by rw [s3]; exact e, ?_, ?_⟩
  · unfold fX8_askNow
    rw [e, Option.bind_some, ask_14 m (fun _ => 0, fun _ => 0, fun _ _ => 0), ← k1]
    exact hv
  · rw [← hv]
    unfold fX4_bestQuestion
    show (fJ6_bitCount_0f7a4 s.2).bind _ = (fJ6_bitCount_0f7a4 (nI (kl c (m.2.2 7) (m.2.2 8)))).bind _
    rw [s3]
    congr 1
    funext q1
    exact best_16 _ _ s3 _ _ _ _ _
theorem sm_sorts : Sm_sorts Rel := by
  intro k x m b0 hk h
  obtain ⟨v, v1, v2, v3⟩ := seen_P h.2.2.1
  unfold fX7_sorts fX8_sorts
  rw [within_M, Option.bind_some, v1, v2, v3]
  by_cases c1 : b0 < 0
  · rw [if_pos c1, if_pos c1]
    exact ⟨_, _, rfl, rfl, rfl, h.up⟩
  · rw [if_neg c1, if_neg c1]
    by_cases c2 : 1 < b0
    · rw [if_pos c2, if_neg (Int32.not_le.mpr c2)]
      exact ⟨_, _, rfl, rfl, rfl, h.up⟩
    · rw [if_neg c2, if_pos (Int32.not_lt.mp c2), if_neg (show ¬ (1 : Int32) = 0 by decide)]
      by_cases c3 : b0 = 0
      · rw [if_pos c3, if_pos c3]
        exact ⟨_, _, rfl, rfl, rfl, h.up⟩
      · rw [if_neg c3, if_neg c3]
        exact ⟨_, _, rfl, rfl, rfl, h.up⟩
