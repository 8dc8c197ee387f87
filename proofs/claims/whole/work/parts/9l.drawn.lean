/-! drawn -/
theorem upS {σ τ : Type} (F : Nat → Nat → σ → Option τ) (I : Nat → σ → Prop) (N : Nat) (hs : ∀ n j s, j < N → I j s → ∃ s', I (j + 1) s' ∧ F (n + 1) j s = F n (j + 1) s') : ∀ d n j s, j + d ≤ N → I j s → ∃ s', I (j + d) s' ∧ F (n + d) j s = F n (j + d) s' := by
  intro d
  induction d with
  | zero => intro n j s _ h; exact ⟨s, h, rfl⟩
  | succ d ih =>
    intro n j s hj h
    obtain ⟨s', h1, h2⟩ := hs (n + d) j s (by omega) h
    obtain ⟨s'', h3, h4⟩ := ih n (j + 1) s' (by omega) h1
    refine ⟨s'', ?_, ?_⟩
    · rw [show j + (d + 1) = j + 1 + d by omega]; exact h3
    · rw [show n + (d + 1) = n + d + 1 by omega, h2, h4, show j + 1 + d = j + (d + 1) by omega]
theorem draw_M {z : SX8} {s : Nat} (h : z.2.1 49 = nL s) : fX8_draw z 17 = some (nI (dv s), (z.1, va_up z.2.1 49 (nL (lc s)), z.2.2)) := by
  unfold fX8_draw
  rw [if_neg (show ¬ (17 : Int32).toInt64 = 0 by decide), h, lc_M, show (17 : Int32).toInt64 = (17 : Int64) by decide, dv_L]
/-- while tables are drawn -/
def Fdw (m : SX8) (s : Nat) (z : SX8) : Prop := (∀ i, (i < 14 ∨ 28 < i) → z.1 i = m.1 i) ∧ (∀ i, i ≠ 3 → i ≠ 4 → i ≠ 50 → (i < 29 ∨ 40 < i) → z.2.2 i = m.2.2 i) ∧ z.2.1 49 = nL s ∧ (∀ i, i < 28 → z.2.2 50 i = m.2.2 3 i) ∧ (∀ i, 28 ≤ i → z.2.2 3 i = m.2.2 3 i) ∧ z.2.2 4 0 = nI 8 ∧ z.2.2 4 1 = nI 8 ∧ ∀ i, 2 ≤ i → z.2.2 4 i = m.2.2 4 i
def ps (i : Nat) : Nat := if i < 8 then i else 6 + i
theorem Fdw.key {m z : SX8} {s p : Nat} (h : Fdw m s z) (hp : p < 28) (v : Int32) (s' : Nat) : Fdw m s' (z.1, va_up z.2.1 49 (nL s'), va_up z.2.2 3 (upd (z.2.2 3) p v)) := by
  obtain ⟨h1, h2, h3, h4, h5, h6, h7, h8⟩ := h
  refine ⟨h1, fun i i3 i4 i50 hi => (if_neg i3).trans (h2 i i3 i4 i50 hi), rfl, h4, fun i hi => ?_, h6, h7, h8⟩
  show upd (z.2.2 3) p v i = _
  unfold upd
  rw [if_neg (show ¬ i = p by omega)]
  exact h5 i hi
theorem Fdw.run {m z q : SX8} {s : Nat} (h : Fdw m s z) (hf : Fr z q) : Fdw m s q := by
  obtain ⟨h1, h2, h3, h4, h5, h6, h7, h8⟩ := h
  obtain ⟨f1, f2, f3⟩ := hf
  refine ⟨fun i hi => (f1 i hi).trans (h1 i hi), fun i i3 i4 i50 hi => (f3 i hi).trans (h2 i i3 i4 i50 hi), by rw [f2]; exact h3, ?_, ?_, ?_, ?_, ?_⟩
  · rw [f3 50 (by omega)]; exact h4
  · rw [f3 3 (by omega)]; exact h5
  · rw [f3 4 (by omega)]; exact h6
  · rw [f3 4 (by omega)]; exact h7
  · rw [f3 4 (by omega)]; exact h8
/-- the tables that are drawn -/
def fD (s : Nat) : Nat → Nat → Int32 := fun s' i => if s' = 0 then kv (sq s i) else kv (sq s (8 + i))
theorem b86_M {m z : SX8} {n : Nat → Nat} {f : Nat → Nat → Int32} {mem kd s : Nat} (hT : MT n f mem kd m) (hm : 1 ≤ mem) (hm9 : mem ≤ 9) (h : Fdw m s z) (k77 : Int32 → Int32 → Int32 → Int32 → Int32 → Int32 → Int32 → SX8 → Option (Int32 × SX8)) (x1 x3 x4 x5 x6 x7 x8 : Int32) :
    ∃ q, fX8_drawnNow_b86 k77 1000 x1 x3 x4 x5 x6 x7 x8 0 z = k77 x1 x3 x4 x5 (x6 + nI ((rn (fun _ => 8) (fD s) kd 268435456 mem).1 0)) (x7 + (rn (fun _ => 8) (fD s) kd 268435456 mem).2.2.1 1) (x8 + 1) q ∧ Fdw m (sq s 16) q := by
  obtain ⟨y, ⟨y1, y2⟩, y3⟩ := upS (fun w j (y : SX8) => fX8_drawnNow_b86 k77 w x1 x3 x4 x5 x6 x7 x8 (nI j) y) (fun j y => Fdw m (sq s j) y ∧ ∀ i, i < j → y.2.2 3 (ps i) = kv (sq s i)) 16 (by
    intro w j y hj hI
    obtain ⟨i1, i2⟩ := hI
    have hp : ps j < 28 := by unfold ps; split <;> omega
    have hd := dv_lt (sq s j)
    refine ⟨(y.1, va_up y.2.1 49 (nL (lc (sq s j))), va_up y.2.2 3 (upd (y.2.2 3) (ps j) (kv (sq s j)))), ⟨i1.key hp _ _, ?_⟩, ?_⟩
    · intro i hi
      show upd (y.2.2 3) (ps j) (kv (sq s j)) (ps i) = _
      unfold upd
      by_cases c : i = j
      · rw [c, if_pos rfl]
      · rw [if_neg (show ¬ ps i = ps j by unfold ps; split <;> split <;> omega)]
        exact i2 i (by omega)
    · show fX8_drawnNow_b86 k77 (w + 1) x1 x3 x4 x5 x6 x7 x8 (nI j) y = fX8_drawnNow_b86 k77 w x1 x3 x4 x5 x6 x7 x8 (nI (j + 1)) _
      rw [fX8_drawnNow_b86, if_neg (cl 16 hj (by omega)), draw_M i1.2.2.1, Option.bind_some, show (14 : Int32) + nI j = nI (14 + j) from nI_add 14 j, show nI (14 + j) - 8 = nI (14 + j - 8) from pk_sub (b := 8) (by omega), show 14 + j - 8 = 6 + j by omega, nI1]
      by_cases c : j < 8
      · have e : ps j = j := if_pos c
        rw [if_neg (cl 8 c (by omega)), if_neg (nI_in (show j < 28 by omega) (by omega)), if_neg (nI_in (show j < 28 by omega) (by omega)), nI_clamp (by omega), e]
        unfold kv
        by_cases d : dv (sq s j) ≤ 15
        · rw [if_pos d, if_neg (show ¬ nI (dv (sq s j)) = 16 from fun e => by have := (nI_eq (b := 16) (by omega) (by omega)).mp e; omega)]
        · rw [if_neg d, if_pos (show nI (dv (sq s j)) = 16 by rw [show dv (sq s j) = 16 by omega]; rfl)]
      · have e : ps j = 6 + j := if_neg c
        rw [if_pos (cle 8 (show 8 ≤ j by omega) (by omega)), if_neg (nI_in (show 6 + j < 28 by omega) (by omega)), if_neg (nI_in (show 6 + j < 28 by omega) (by omega)), nI_clamp (by omega), e]
        unfold kv
        by_cases d : dv (sq s j) ≤ 15
        · rw [if_pos d, if_neg (show ¬ nI (dv (sq s j)) = 16 from fun e => by have := (nI_eq (b := 16) (by omega) (by omega)).mp e; omega)]
        · rw [if_neg d, if_pos (show nI (dv (sq s j)) = 16 by rw [show dv (sq s j) = 16 by omega]; rfl)]) 16 984 0 z (by omega) ⟨h, fun i hi => absurd hi (Nat.not_lt_zero i)⟩
  have hM : MT (fun _ => 8) (fD s) mem kd y := by
    refine ⟨?_, ?_, ?_, ?_, fun _ _ => (by show 8 ≤ 14; omega), hT.2.2.2.2.2⟩
    · intro s' hs'
      rcases (show s' = 0 ∨ s' = 1 by omega) with rfl | rfl
      · exact y1.2.2.2.2.2.1
      · exact y1.2.2.2.2.2.2.1
    · intro s' i hs' hi
      have hi8 : i < 8 := hi
      rcases (show s' = 0 ∨ s' = 1 by omega) with rfl | rfl
      · have q := y2 i (by omega)
        rw [show ps i = i from if_pos hi8] at q
        rw [show 14 * 0 + i = i by omega]
        exact q
      · have q := y2 (8 + i) (by omega)
        rw [show ps (8 + i) = 6 + (8 + i) from if_neg (by omega)] at q
        rw [show 14 * 1 + i = 6 + (8 + i) by omega]
        exact q
    · rw [y1.1 1 (by omega)]; exact hT.2.2.1
    · rw [y1.1 2 (by omega)]; exact hT.2.2.2.1
  obtain ⟨q, A, q1, q2⟩ := runNow_M (lim := 268435456) hM (by omega) (by omega) hm
  refine ⟨q, ?_, y1.run q2.1⟩
  refine Eq.trans y3 ?_
  show fX8_drawnNow_b86 k77 (983 + 1) x1 x3 x4 x5 x6 x7 x8 (nI 16) y = _
  rw [fX8_drawnNow_b86, if_pos (show (16 : Int32) ≤ nI 16 by decide), show fX8_runNow y 268435456 = some q from q1, Option.bind_some, q2.2.2.2.2.2.1, show q.1 18 = _ from q2.at (k := 1) (by omega) (by omega)]
theorem b195_M (y : SX8) (x3 x6 x7 : Int32) : ∃ q, fX8_drawnNow_b195 1000 x3 x6 x7 0 y = some q ∧ q.1 = (if x3 = 0 then x6 else if x3 = 1 then x7 else (y.2.1 49).toInt32) ∧ q.2.1 = y.1 ∧ (∀ i, i ≠ 3 → q.2.2.2 i = y.2.2 i) ∧ (∀ i, i < 28 → q.2.2.2 3 i = y.2.2 50 i) ∧ ∀ i, 28 ≤ i → q.2.2.2 3 i = y.2.2 3 i := by
  refine upE (fun w j (s : SX8) => fX8_drawnNow_b195 w x3 x6 x7 (nI j) s) (fun j s => s.1 = y.1 ∧ s.2.1 = y.2.1 ∧ (∀ i, i ≠ 3 → s.2.2 i = y.2.2 i) ∧ (∀ i, i < j → s.2.2 3 i = y.2.2 50 i) ∧ ∀ i, 28 ≤ i → s.2.2 3 i = y.2.2 3 i) (fun q => q.1 = (if x3 = 0 then x6 else if x3 = 1 then x7 else (y.2.1 49).toInt32) ∧ q.2.1 = y.1 ∧ (∀ i, i ≠ 3 → q.2.2.2 i = y.2.2 i) ∧ (∀ i, i < 28 → q.2.2.2 3 i = y.2.2 50 i) ∧ ∀ i, 28 ≤ i → q.2.2.2 3 i = y.2.2 3 i) 28 ?_ ?_ 1000 0 y (by omega) (by omega) ⟨rfl, rfl, fun _ _ => rfl, fun i hi => absurd hi (Nat.not_lt_zero i), fun _ _ => rfl⟩
  · intro w j s hj hI
    obtain ⟨i1, i2, i3, i4, i5⟩ := hI
    have hin : ¬ (nI j < 0 ∨ 28 ≤ (nI j).toNatClampNeg) := nI_in hj (by omega)
    left
    refine ⟨(s.1, s.2.1, va_up s.2.2 3 (upd (s.2.2 3) j (s.2.2 50 j))), ⟨i1, i2, fun i h1 => (if_neg h1).trans (i3 i h1), ?_, ?_⟩, ?_⟩
    · intro i hi
      show upd (s.2.2 3) j (s.2.2 50 j) i = _
      unfold upd
      by_cases c : i = j
      · rw [if_pos c, c, i3 50 (by omega)]
      · rw [if_neg c]
        exact i4 i (by omega)
    · intro i hi
      show upd (s.2.2 3) j (s.2.2 50 j) i = _
      unfold upd
      rw [if_neg (show ¬ i = j by omega)]
      exact i5 i hi
    · show fX8_drawnNow_b195 (w + 1) x3 x6 x7 (nI j) s = fX8_drawnNow_b195 w x3 x6 x7 (nI (j + 1)) _
      rw [fX8_drawnNow_b195, if_neg (cl 28 hj (by omega)), if_neg hin, if_neg hin, nI_clamp (by omega), nI1]
  · intro w s hI
    obtain ⟨i1, i2, i3, i4, i5⟩ := hI
    show ∃ r, fX8_drawnNow_b195 (w + 1) x3 x6 x7 (nI 28) s = some r ∧ _
    rw [fX8_drawnNow_b195, if_pos (show (28 : Int32) ≤ nI 28 by decide), i2]
    by_cases c0 : x3 = 0
    · rw [if_pos c0, if_pos c0]
      exact ⟨_, rfl, rfl, i1, i3, i4, i5⟩
    · rw [if_neg c0, if_neg c0]
      by_cases c1 : x3 = 1
      · rw [if_pos c1, if_pos c1]
        exact ⟨_, rfl, rfl, i1, i3, i4, i5⟩
      · rw [if_neg c1, if_neg c1]
        exact ⟨_, rfl, rfl, i1, i3, i4, i5⟩
