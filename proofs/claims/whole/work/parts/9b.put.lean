/-! what is done to the tables -/
theorem Rel.tb {k : Nat} {x : SX7} {m m' : SX8} (h : Rel k x m) (h0 : ¬ m.1 0 = 0) (t' : SX6) (ht : ∀ c, 1 ≤ c → TB c t' m') (e1 : ∀ i, i ≠ 1 → i ≠ 2 → m'.1 i = m.1 i) (e2 : ∀ i, i ≠ 3 → i ≠ 4 → m'.2.2 i = m.2.2 i) :
    Rel (k + 1) (x.1, (t', x.2.1.2.1, x.2.1.2.2.1, x.2.1.2.2.2.1, x.2.1.2.2.2.2), x.2.2.1, x.2.2.2.1, x.2.2.2.2.1, x.2.2.2.2.2.1, x.2.2.2.2.2.2.1, x.2.2.2.2.2.2.2.1, x.2.2.2.2.2.2.2.2) m' := by
  obtain ⟨h1, ⟨c, h2, h3, h4, h5, h6⟩, h7, ⟨R, h8, h9⟩, h10⟩ := h
  have hc : 1 ≤ c := by
    rcases Nat.eq_zero_or_pos c with e | e
    · exact absurd (by rw [h3, e]; rfl) h0
    · exact e
  refine ⟨h1.fr (e1 9 (by omega) (by omega)) (e2 10 (by omega) (by omega)), ⟨c, by omega, ?_, h4, ht c hc, h6.fr (fun i _ _ => e1 i (by omega) (by omega)) (fun i _ _ => e2 i (by omega) (by omega))⟩, ?_, ⟨R, h8, h9.fr (e1 41 (by omega) (by omega)) (e1 42 (by omega) (by omega)) (fun i _ _ => e2 i (by omega) (by omega))⟩, ?_⟩
  · rw [e1 0 (by omega) (by omega)]; exact h3
  · rw [e1 6 (by omega) (by omega), e2 7 (by omega) (by omega), e2 8 (by omega) (by omega)]; exact h7
  · rw [e1 5 (by omega) (by omega)]; exact h10
theorem nine_c {x : Int32} (h1 : ¬ x < 1) (h2 : ¬ 9 < x) : ∃ j, 1 ≤ j ∧ j ≤ 9 ∧ x = nI j := by
  have a1 : (1 : Int32).toInt ≤ x.toInt := Int32.le_iff_toInt_le.mp (Int32.not_lt.mp h1)
  have a2 : x.toInt ≤ (9 : Int32).toInt := Int32.le_iff_toInt_le.mp (Int32.not_lt.mp h2)
  have b1 : (1 : Int32).toInt = 1 := by decide
  have b2 : (9 : Int32).toInt = 9 := by decide
  refine ⟨x.toInt.toNat, by omega, by omega, ?_⟩
  apply Int32.toInt_inj.mp
  rw [nI_toInt (by omega)]
  omega
theorem sm_memory : Sm_memory Rel := by
  intro k x m b0 hk h
  obtain ⟨c, h2, h3, h4, h5, h6⟩ := h.2.1
  unfold fX7_memory fX8_memory
  rw [within_M, Option.bind_some]
  by_cases c1 : b0 < 1
  · rw [if_pos c1, if_pos c1]
    exact ⟨_, _, rfl, rfl, rfl, h.up⟩
  · rw [if_neg c1, if_neg c1]
    by_cases c2 : 9 < b0
    · rw [if_pos c2, if_neg (Int32.not_le.mpr c2)]
      exact ⟨_, _, rfl, rfl, rfl, h.up⟩
    · rw [if_neg c2, if_pos (Int32.not_lt.mp c2), if_neg (show ¬ (1 : Int32) = 0 by decide)]
      rcases there_c hk h2 h3 h5 with ⟨-, a2, a3⟩ | ⟨-, a2, a3, n, f, mem, kd, b1, b2, b3, b4, b5⟩
      · rw [a2, Option.bind_some, if_pos (show (0 : Int32) = 0 from rfl), if_pos a3]
        exact ⟨_, _, rfl, rfl, rfl, h.up⟩
      · obtain ⟨j, j1, j2, j3⟩ := nine_c c1 c2
        rw [a2, Option.bind_some, if_neg (show ¬ (1 : Int32) = 0 by decide), if_neg a3]
        refine ⟨_, _, rfl, rfl, ?_, h.tb a3 _ ?_ ?_ ?_⟩
        · show x.2.1.1.2.2.1 = m.1 1
          rw [b3.2.2.1, b4.2.2.1]
        · intro d hd
          exact Or.inr ⟨hd, n, f, j, kd, j1, j2, ⟨b3.1, b3.2.1, j3, b3.2.2.2⟩, ⟨b4.1, b4.2.1, j3, b4.2.2.2⟩, b5⟩
        · intro i i1 i2
          exact if_neg i1
        · intro i i1 i2
          rfl
theorem sm_be : Sm_be Rel := by
  intro k x m b0 hk h
  obtain ⟨c, h2, h3, h4, h5, h6⟩ := h.2.1
  obtain ⟨f1, f2⟩ := four_c b0
  unfold fX7_be fX8_be
  rw [f1, within_M, Option.bind_some, Option.bind_some]
  by_cases c1 : b0 < 0
  · rw [if_pos c1]
    exact ⟨_, _, rfl, rfl, rfl, h.up⟩
  · rw [if_neg c1]
    by_cases c2 : 4 < b0
    · rw [if_pos c2]
      exact ⟨_, _, rfl, rfl, rfl, h.up⟩
    · rw [if_neg c2, if_neg (show ¬ (1 : Int32) = 0 by decide), if_neg (show ¬ (1 : Int32) = 0 by decide)]
      rcases there_c hk h2 h3 h5 with ⟨-, a2, a3⟩ | ⟨-, a2, a3, n, f, mem, kd, b1, b2, b3, b4, b5⟩
      · rw [a2, Option.bind_some, if_pos (show (0 : Int32) = 0 from rfl), if_pos a3]
        exact ⟨_, _, rfl, rfl, rfl, h.up⟩
      · obtain ⟨j, j1, j3⟩ := f2 c1 c2
        rw [a2, Option.bind_some, if_neg (show ¬ (1 : Int32) = 0 by decide), if_neg a3]
        refine ⟨_, _, rfl, rfl, ?_, h.tb a3 _ ?_ ?_ ?_⟩
        · show x.2.1.1.2.2.2 = m.1 2
          rw [b3.2.2.2.1, b4.2.2.2.1]
        · intro d hd
          exact Or.inr ⟨hd, n, f, mem, j, b1, b2, ⟨b3.1, b3.2.1, b3.2.2.1, j3, j1⟩, ⟨b4.1, b4.2.1, b4.2.2.1, j3, b4.2.2.2.2.1, j1⟩, b5⟩
        · intro i i1 i2
          exact if_neg i2
        · intro i i1 i2
          rfl
theorem key_c (x : Int32) : (fX7_isKeyOrNone x = some 0 ∧ fX8_isKey x = some 0) ∨ (kOk x ∧ fX7_isKeyOrNone x = some 1 ∧ fX8_isKey x = some 1) := by
  unfold fX7_isKeyOrNone fX8_isKey
  rw [within_M, Option.bind_some]
  by_cases c1 : x < -1
  · rw [if_pos c1, if_pos c1]
    exact Or.inl ⟨rfl, rfl⟩
  · rw [if_neg c1, if_neg c1]
    by_cases c2 : 15 < x
    · rw [if_pos c2, if_pos c2]
      exact Or.inl ⟨rfl, rfl⟩
    · rw [if_neg c2, if_neg c2]
      refine Or.inr ⟨?_, rfl, rfl⟩
      have a1 : (-1 : Int32).toInt ≤ x.toInt := Int32.le_iff_toInt_le.mp (Int32.not_lt.mp c1)
      have a2 : x.toInt ≤ (15 : Int32).toInt := Int32.le_iff_toInt_le.mp (Int32.not_lt.mp c2)
      have e1 : (-1 : Int32).toInt = -1 := by decide
      have e2 : (15 : Int32).toInt = 15 := by decide
      rcases (show x.toInt = -1 ∨ 0 ≤ x.toInt by omega) with e | e
      · exact Or.inl (Int32.toInt_inj.mp (by rw [e, e1]))
      · refine Or.inr ⟨x.toInt.toNat, by omega, ?_⟩
        apply Int32.toInt_inj.mp
        rw [nI_toInt (by omega)]
        omega
theorem SdR.cg {z : SX5} {n : Nat} {f f' : Nat → Int32} (h : SdR z n f) (e : ∀ i, i < n → f i = f' i) : SdR z n f' := ⟨h.1, h.2.1, fun i hi => (h.2.2 i hi).trans (e i hi)⟩
/-- row i of side s has now the key v -/
def fS (f : Nat → Nat → Int32) (s i : Nat) (v : Int32) : Nat → Nat → Int32 := fun s' i' => if s' = s ∧ i' = i then v else f s' i'
/-- side s has now a rows -/
def nS (n : Nat → Nat) (s a : Nat) : Nat → Nat := fun s' => if s' = s then a else n s'
theorem fS_eq {f : Nat → Nat → Int32} {s i : Nat} {v : Int32} : fS f s i v s i = v := if_pos ⟨rfl, rfl⟩
theorem fS_ne {f : Nat → Nat → Int32} {s i s' i' : Nat} {v : Int32} (h : ¬ (s' = s ∧ i' = i)) : fS f s i v s' i' = f s' i' := if_neg h
theorem fS_ok {f : Nat → Nat → Int32} {n : Nat → Nat} {s i : Nat} {v : Int32} (h : ∀ s i, s < 2 → i < n s → kOk (f s i)) (hv : kOk v) {s' i' : Nat} (hs : s' < 2) (hi : i' < n s' ∨ (s' = s ∧ i' = i)) : kOk (fS f s i v s' i') := by
  by_cases c : s' = s ∧ i' = i
  · rw [fS, if_pos c]; exact hv
  · rw [fS_ne c]
    rcases hi with hi | hi
    · exact h s' i' hs hi
    · exact absurd hi c
theorem MT.put {n : Nat → Nat} {f : Nat → Nat → Int32} {mem kd : Nat} {m : SX8} (h : MT n f mem kd m) {s : Nat} (hs : s < 2) (hn : n s < 14) (v : Int32) : MT (nS n s (n s + 1)) (fS f s (n s) v) mem kd (m.1, m.2.1, va_up (va_up m.2.2 3 (upd (m.2.2 3) (14 * s + n s) v)) 4 (upd (m.2.2 4) s (nI (n s + 1)))) := by
  obtain ⟨h1, h2, h3, h4, h5, h6⟩ := h
  refine ⟨?_, ?_, h3, h4, ?_, h6⟩
  · intro s' hs'
    show upd (m.2.2 4) s (nI (n s + 1)) s' = nI (nS n s (n s + 1) s')
    unfold upd nS
    by_cases c : s' = s
    · rw [if_pos c, if_pos c]
    · rw [if_neg c, if_neg c]
      exact h1 s' hs'
  · intro s' i' hs' hi'
    show upd (m.2.2 3) (14 * s + n s) v (14 * s' + i') = fS f s (n s) v s' i'
    unfold nS at hi'
    unfold upd
    by_cases c : s' = s
    · rw [if_pos c] at hi'
      by_cases d : i' = n s
      · rw [if_pos (show 14 * s' + i' = 14 * s + n s by rw [c, d]), c, d, fS_eq]
      · rw [if_neg (show ¬ 14 * s' + i' = 14 * s + n s by omega), fS_ne (fun q => d q.2), c]
        exact h2 s i' hs (by omega)
    · rw [if_neg c] at hi'
      have := h5 s' hs'
      rw [if_neg (show ¬ 14 * s' + i' = 14 * s + n s by omega), fS_ne (fun q => c q.1)]
      exact h2 s' i' hs' hi'
  · intro s' hs'
    show nS n s (n s + 1) s' ≤ 14
    unfold nS
    split
    · omega
    · exact h5 s' hs'
theorem sm_put : Sm_put Rel := by
  intro k x m b0 b1 hk h
  obtain ⟨c, h2, h3, h4, h5, h6⟩ := h.2.1
  unfold fX7_put fX8_put
  rcases side_c b0 with ⟨a1, a2⟩ | ⟨s, hs, es, a1, a2⟩
  · rw [a1, a2]
    exact ⟨_, _, rfl, rfl, rfl, h.up⟩
  · rw [a1, a2, Option.bind_some, Option.bind_some, if_neg (show ¬ (1 : Int32) = 0 by decide), if_neg (show ¬ (1 : Int32) = 0 by decide)]
    rcases key_c b1 with ⟨k1, k2⟩ | ⟨k0, k1, k2⟩
    · rw [k1, k2]
      exact ⟨_, _, rfl, rfl, rfl, h.up⟩
    · rw [k1, k2, Option.bind_some, Option.bind_some, if_neg (show ¬ (1 : Int32) = 0 by decide), if_neg (show ¬ (1 : Int32) = 0 by decide)]
      rcases there_c hk h2 h3 h5 with ⟨-, a2, a3⟩ | ⟨-, a2, a3, n, f, mem, kd, d1, d2, d3, d4, d5⟩
      · rw [a2, Option.bind_some, if_pos (show (0 : Int32) = 0 from rfl), if_pos a3]
        exact ⟨_, _, rfl, rfl, rfl, h.up⟩
      · have hn := d4.2.2.2.2.1 s hs
        have e3 := d4.1 s hs
        have hin : ¬ (nI s < 0 ∨ 2 ≤ (nI s).toNatClampNeg) := nI_in hs (by omega)
        rw [a2, Option.bind_some, if_neg (show ¬ (1 : Int32) = 0 by decide), if_neg a3, es, if_neg hin, if_neg hin, if_neg hin, if_neg hin, if_neg hin, nI_clamp (show s < 2 ^ 31 by omega), e3]
        by_cases c14 : n s = 14
        · rw [if_pos (show nI (n s) = 14 by rw [c14]; rfl)]
          rcases (show s = 0 ∨ s = 1 by omega) with rfl | rfl
          · rw [if_pos (show nI 0 = 0 from rfl), d3.1.1, if_neg (show ¬ nI (n 0) < 14 by rw [c14]; decide)]
            exact ⟨_, _, rfl, rfl, rfl, h.up⟩
          · rw [if_neg (show ¬ nI 1 = 0 by decide), d3.2.1.1, if_neg (show ¬ nI (n 1) < 14 by rw [c14]; decide)]
            exact ⟨_, _, rfl, rfl, rfl, h.up⟩
        · have hn' : n s < 14 := by omega
          have e14 : (14 : Int32) * nI s = nI (14 * s) := by
            rcases (show s = 0 ∨ s = 1 by omega) with rfl | rfl <;> rfl
          have hin2 : ¬ (nI (14 * s + n s) < 0 ∨ 28 ≤ (nI (14 * s + n s)).toNatClampNeg) := nI_in (show 14 * s + n s < 28 by omega) (by omega)
          have hM := d4.put hs hn' b1
          have hlt : nI (n s) < 14 := nI_lt (b := 14) hn' (by omega)
          rw [if_neg (show ¬ nI (n s) = 14 from fun e => c14 ((nI_eq (b := 14) (by omega) (by omega)).mp e)), e14, nI_add, if_neg hin2, nI_clamp (show 14 * s + n s < 2 ^ 31 by omega), nI1]
          have eS : upd (m.2.2 4) s (nI (n s + 1)) s = nI (n s + 1) := if_pos rfl
          rw [eS]
          have k3 : ∀ i, i ≠ 3 → i ≠ 4 → va_up (va_up m.2.2 3 (upd (m.2.2 3) (14 * s + n s) b1)) 4 (upd (m.2.2 4) s (nI (n s + 1))) i = m.2.2 i := fun i i3 i4 => (if_neg i4).trans (if_neg i3)
          have hok : ∀ s' i, s' < 2 → i < nS n s (n s + 1) s' → kOk (fS f s (n s) b1 s' i) := by
            intro s' i hs' hi
            refine fS_ok d5 k0 hs' ?_
            unfold nS at hi
            by_cases c : s' = s
            · rw [if_pos c] at hi
              by_cases d : i = n s
              · exact Or.inr ⟨c, d⟩
              · rw [c]; exact Or.inl (by omega)
            · rw [if_neg c] at hi
              exact Or.inl hi
          rcases (show s = 0 ∨ s = 1 by omega) with rfl | rfl
          · obtain ⟨z, z1, z2⟩ := add_X (d3.1.cg (f' := fS f 0 (n 0) b1 0) (fun i hi => (fS_ne (fun q => by omega)).symm)) hn' (v := b1) fS_eq
            rw [if_pos (show nI 0 = 0 from rfl), d3.1.1, if_pos hlt, z1, Option.bind_some]
            refine ⟨_, _, rfl, rfl, z2.1, h.tb a3 _ (fun d hd => Or.inr ⟨hd, nS n 0 (n 0 + 1), fS f 0 (n 0) b1, mem, kd, d1, d2, ⟨z2, ?_, d3.2.2⟩, hM, hok⟩) (fun _ _ _ => rfl) k3⟩
            exact d3.2.1.cg (fun i hi => (fS_ne (fun q => by omega)).symm)
          · obtain ⟨z, z1, z2⟩ := add_X (d3.2.1.cg (f' := fS f 1 (n 1) b1 1) (fun i hi => (fS_ne (fun q => by omega)).symm)) hn' (v := b1) fS_eq
            rw [if_neg (show ¬ nI 1 = 0 by decide), d3.2.1.1, if_pos hlt, z1, Option.bind_some]
            refine ⟨_, _, rfl, rfl, z2.1, h.tb a3 _ (fun d hd => Or.inr ⟨hd, nS n 1 (n 1 + 1), fS f 1 (n 1) b1, mem, kd, d1, d2, ⟨?_, z2, d3.2.2⟩, hM, hok⟩) (fun _ _ _ => rfl) k3⟩
            exact d3.1.cg (fun i hi => (fS_ne (fun q => by omega)).symm)
