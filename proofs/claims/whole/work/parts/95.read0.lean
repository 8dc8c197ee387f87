/-! reading the page -/
theorem stp {τ : Type} (F : Nat → Nat → Option τ) (N : Nat) (hs : ∀ n j, j < N → F (n + 1) j = F n (j + 1)) : ∀ d n j, j + d ≤ N → F (n + d) j = F n (j + d) := by
  intro d
  induction d with
  | zero => intro n j _; rfl
  | succ d ih =>
    intro n j h
    rw [show n + (d + 1) = (n + d) + 1 by omega, hs (n + d) j (by omega), ih n (j + 1) (by omega), show j + 1 + d = j + (d + 1) by omega]
/-- both pages hold the letters g, L of them -/
def PL (p : SX2) (m : SX8) (L : Nat) (g : Nat → Nat) : Prop := L ≤ 36 ∧ p.2 = nI L ∧ m.1 9 = nI L ∧ ∀ i, i < L → p.1 i = nI (g i) ∧ m.2.2 10 i = nI (g i) ∧ 32 ≤ g i ∧ g i ≤ 126
theorem PG.pl {p : SX2} {m : SX8} (h : PG p m) : ∃ L g, PL p m L g := by
  obtain ⟨L, h1, h2, h3, h4⟩ := h
  refine ⟨L, fun i => (p.1 i).toNatClampNeg, h1, h2, h3, fun i hi => ?_⟩
  obtain ⟨e, c, c1, c2, c3⟩ := h4 i hi
  have q : (p.1 i).toNatClampNeg = c := by rw [c3, nI_clamp (by omega)]
  show p.1 i = nI (p.1 i).toNatClampNeg ∧ m.2.2 10 i = nI (p.1 i).toNatClampNeg ∧ 32 ≤ (p.1 i).toNatClampNeg ∧ (p.1 i).toNatClampNeg ≤ 126
  rw [q]
  exact ⟨c3, e.symm.trans c3, c1, c2⟩
theorem PL.pg {p : SX2} {m : SX8} {L : Nat} {g : Nat → Nat} (h : PL p m L g) : PG p m := by
  obtain ⟨h1, h2, h3, h4⟩ := h
  exact ⟨L, h1, h2, h3, fun i hi => ⟨(h4 i hi).1.trans (h4 i hi).2.1.symm, g i, (h4 i hi).2.2.1, (h4 i hi).2.2.2, (h4 i hi).1⟩⟩
def isR (c : Nat) : Bool := Nat.beq c 45 || (Nat.ble 97 c && Nat.ble c 112)
def kdN (c : Nat) : Nat := if c = 97 then 2 else if c = 102 then 4 else if c = 106 then 0 else if c = 108 then 1 else if c = 115 then 3 else 5
theorem isRow_c : ∀ c, c < 127 → fX2_isRow (nI c) = some (if isR c then 1 else 0) := by decide +kernel
theorem isRowM_c : ∀ c, c < 127 → (if nI c = 45 then (some 1) else (fX8_within (nI c - 97) 0 15).bind fun q4 => if q4 = 0 then (some 0) else (some (1 : Int32))) = some (if isR c then 1 else 0) := by decide +kernel
theorem kind_c : ∀ c, c < 127 → fX2_kindOf (nI c) = some (if kdN c = 5 then -1 else nI (kdN c)) := by decide +kernel
theorem kindM_c : ∀ c, c < 127 → fX8_kindBy (nI c) = some (if kdN c = 5 then -1 else nI (kdN c)) := by decide +kernel
theorem head0_c : ∀ c, c < 127 → fX2_isHead (nI 0) (nI c) = some (if 49 ≤ c ∧ c ≤ 57 then 1 else 0) := by decide +kernel
theorem head1_c : ∀ c, c < 127 → fX2_isHead (nI 1) (nI c) = some (if kdN c = 5 then 0 else 1) := by decide +kernel
theorem head2_c : ∀ c, c < 127 → fX2_isHead (nI 2) (nI c) = some (if c = 59 then 1 else 0) := by decide +kernel
theorem mem_c : ∀ c, c < 127 → fX8_within (nI c - 48) 1 9 = some (if 49 ≤ c ∧ c ≤ 57 then 1 else 0) := by decide +kernel
theorem kdN_le (c : Nat) : kdN c ≤ 5 := by
  unfold kdN
  repeat' split
  all_goals omega
section
variable {p : SX2} {m : SX8} {L : Nat} {g : Nat → Nat}
theorem codeAt_L (h : PL p m L g) {i : Nat} (hi : i < L) : fX2_codeAt p (nI i) = some (nI (g i)) := by
  obtain ⟨h1, h2, h3, h4⟩ := h
  unfold fX2_codeAt
  rw [if_neg (nI_pos (n := i) (by omega)), h2, if_neg (nI_ge hi (by omega)), if_neg (cl 36 (show i < 36 by omega) (by omega)), if_neg (nI_in (show i < 36 by omega) (by omega)), nI_clamp (by omega), (h4 i hi).1]
theorem at_L (h : PL p m L g) {i : Nat} (hi : i < L) : fX8_at m (nI i) = some (nI (g i)) := by
  obtain ⟨h1, h2, h3, h4⟩ := h
  unfold fX8_at
  rw [h3, if_neg (nI_ge hi (by omega)), if_neg (nI_in (show i < 36 by omega) (by omega)), nI_clamp (by omega), (h4 i hi).2.1]
theorem at_E (h : PL p m L g) {i : Nat} (hi : L ≤ i) (h2 : i < 1000) : fX8_at m (nI i) = some 0 := by
  unfold fX8_at
  rw [h.2.2.1, if_pos (nI_le hi (by omega))]
theorem isRowAt_L (h : PL p m L g) {i : Nat} (hi : i < L) : fX8_isRowAt m (nI i) = some (if isR (g i) then 1 else 0) := by
  unfold fX8_isRowAt
  rw [at_L h hi, Option.bind_some, Option.bind_some]
  exact isRowM_c (g i) (by have := (h.2.2.2 i hi).2.2.2; omega)
theorem isRowAt_E (h : PL p m L g) {i : Nat} (hi : L ≤ i) (h2 : i < 1000) : fX8_isRowAt m (nI i) = some 0 := by
  unfold fX8_isRowAt
  rw [at_E h hi h2, Option.bind_some, Option.bind_some]
  rfl
/-- from place a on there are r rows -/
def RF (g : Nat → Nat) (L a r : Nat) : Prop := r ≤ 14 ∧ (∀ i, i < r → a + i < L ∧ isR (g (a + i)) = true) ∧ (r = 14 ∨ L ≤ a + r ∨ (a + r < L ∧ isR (g (a + r)) = false))
theorem rowsFrom_L (h : PL p m L g) {a : Nat} (ha : a < 100) : ∃ r, RF g L a r ∧ fX8_rowsFrom m (nI a) = some (nI r) := by
  have q : ∃ v, fX8_rowsFrom m (nI a) = some v ∧ ∃ r, RF g L a r ∧ v = nI r := by
    refine upE (fun w j (_ : Unit) => fX8_rowsFrom_b2 m w (nI a) (nI j)) (fun j _ => ∀ i, i < j → a + i < L ∧ isR (g (a + i)) = true) (fun v => ∃ r, RF g L a r ∧ v = nI r) 14 ?_ ?_ 1000 0 () (by omega) (by omega) (fun i hi => by omega)
    · intro w j _ hj hI
      show (∃ s' : Unit, _ ∧ fX8_rowsFrom_b2 m (w + 1) (nI a) (nI j) = fX8_rowsFrom_b2 m w (nI a) (nI (j + 1))) ∨ ∃ r, fX8_rowsFrom_b2 m (w + 1) (nI a) (nI j) = some r ∧ _
      rw [fX8_rowsFrom_b2, if_neg (cl 14 hj (by omega)), nI_add, nI1]
      by_cases c : a + j < L
      · rw [isRowAt_L h c, Option.bind_some]
        by_cases d : isR (g (a + j)) = true
        · left
          refine ⟨(), fun i hi => ?_, ?_⟩
          · by_cases e : i = j
            · rw [e]; exact ⟨c, d⟩
            · exact hI i (by omega)
          · rw [if_pos d, if_neg (show ¬ (1 : Int32) = 0 by decide)]
        · right
          rw [if_neg d, if_pos (show (0 : Int32) = 0 from rfl)]
          exact ⟨_, rfl, j, ⟨by omega, hI, Or.inr (Or.inr ⟨c, by simpa using d⟩)⟩, rfl⟩
      · right
        rw [isRowAt_E h (by omega) (by omega), Option.bind_some, if_pos (show (0 : Int32) = 0 from rfl)]
        exact ⟨_, rfl, j, ⟨by omega, hI, Or.inr (Or.inl (by omega))⟩, rfl⟩
    · intro w _ hI
      show ∃ r, fX8_rowsFrom_b2 m (w + 1) (nI a) (nI 14) = some r ∧ _
      rw [fX8_rowsFrom_b2, if_pos (show (14 : Int32) ≤ nI 14 by decide)]
      exact ⟨_, rfl, 14, ⟨by omega, hI, Or.inl rfl⟩, rfl⟩
  obtain ⟨v, q1, r, q2, q3⟩ := q
  exact ⟨r, q2, by rw [q1, q3]⟩
theorem isR_59 {c : Nat} (h : isR c = true) : c ≠ 59 := by
  intro e
  rw [e] at h
  exact absurd h (by decide)
/-- the class goes over the rows -/
theorem ff_rows (h : PL p m L g) {a r : Nat} (ha : 3 ≤ a) (h2 : RF g L a r) (x : Int32) : ∀ d k j, j + d ≤ r → fX2_firstFault_b6 p (k + d) x (nI j) (nI (a + j)) = fX2_firstFault_b6 p k x (nI (j + d)) (nI (a + (j + d))) := by
  refine stp (fun k j => fX2_firstFault_b6 p k x (nI j) (nI (a + j))) r ?_
  intro k j hj
  obtain ⟨r1, r2, r3⟩ := h2
  obtain ⟨b1, b2⟩ := r2 j hj
  have hg := (h.2.2.2 (a + j) b1).2.2.2
  have h36 := h.1
  show fX2_firstFault_b6 p (k + 1) x (nI j) (nI (a + j)) = fX2_firstFault_b6 p k x (nI (j + 1)) (nI (a + (j + 1)))
  rw [fX2_firstFault_b6, h.2.1, if_neg (nI_ge b1 (by omega)), codeAt_L h b1, Option.bind_some, if_pos (cle 3 (show 3 ≤ a + j by omega) (by omega)), if_neg (show ¬ nI (g (a + j)) = 59 from fun e => isR_59 b2 ((nI_eq (b := 59) (by omega) (by omega)).mp e))]
  unfold fX2_firstFault_b55
  rw [isRow_c _ (by omega), if_pos b2, Option.bind_some, if_neg (show ¬ (1 : Int32) = 0 by decide), if_neg (cl 14 (show j < 14 by omega) (by omega)), nI1, nI1]
  rfl
/-- the second side ends -/
theorem ff_end2 (h : PL p m L g) {a r : Nat} (ha : 3 ≤ a) (haL : a ≤ L) (h2 : RF g L a r) (k : Nat) : fX2_firstFault_b6 p (k + 1) 1 (nI r) (nI (a + r)) = some (nI (a + r)) := by
  obtain ⟨r1, r2, r3⟩ := h2
  have h36 := h.1
  have hle : a + r ≤ L := by
    rcases Nat.eq_zero_or_pos r with e | e
    · omega
    · have := (r2 (r - 1) (by omega)).1
      omega
  rw [fX2_firstFault_b6, h.2.1]
  by_cases c : a + r < L
  · have hg := (h.2.2.2 (a + r) c).2.2.2
    rw [if_neg (nI_ge c (by omega)), codeAt_L h c, Option.bind_some, if_pos (cle 3 (show 3 ≤ a + r by omega) (by omega)), if_neg (show ¬ (1 : Int32) = 0 by decide)]
    have e55 : fX2_firstFault_b55 (fX2_firstFault_b6 p k) p 1 (nI r) (nI (a + r)) (nI (g (a + r))) = some (nI (a + r)) := by
      unfold fX2_firstFault_b55
      rw [isRow_c _ (by omega), Option.bind_some]
      by_cases d : isR (g (a + r)) = true
      · have e14 : r = 14 := by
          rcases r3 with q | q | q
          · exact q
          · omega
          · rw [q.2] at d; exact absurd d (by decide)
        rw [if_pos d, if_neg (show ¬ (1 : Int32) = 0 by decide), if_pos (show (14 : Int32) ≤ nI r by rw [e14]; decide)]
      · rw [if_neg d, if_pos (show (0 : Int32) = 0 from rfl)]
    rw [e55, ite_self]
  · rw [if_pos (nI_le (show L ≤ a + r by omega) (by omega)), show L = a + r by omega]
end
