/-! THE RELATION -/
def TB (c : Nat) (t : SX6) (m : SX8) : Prop := (c = 0 ∧ t.1.2 = 0 ∧ t.2.1.2 = 0 ∧ t.2.2.1 = 0 ∧ t.2.2.2 = -1 ∧ m.1 1 = 0 ∧ m.1 2 = -1 ∧ m.2.2 4 0 = 0 ∧ m.2.2 4 1 = 0) ∨ (1 ≤ c ∧ ∃ n f mem kd, 1 ≤ mem ∧ mem ≤ 9 ∧ XT t n f mem kd ∧ MT n f mem kd m ∧ ∀ s i, s < 2 → i < n s → kOk (f s i))
/-- kind kd lets out a -/
def cdB (kd a : Nat) : Bool := (([19, 22, 16, 8] : List Nat).getD a 0).testBit kd
/-- the kinds that what is seen leaves -/
def kl (c : Nat) (w b : Nat → Int32) : Nat := mkm (fun kd => (List.range c).all fun i => decide (cdB kd (w i).toNatClampNeg = decide (b i = 1))) 5
theorem kl_0 (w b : Nat → Int32) : kl 0 w b = 31 := by
  unfold kl
  simp [mkm]
def SN (s : SX4) (c6 : Int32) (w b : Nat → Int32) : Prop := ∃ c, c ≤ 6 ∧ s.1 = nI c ∧ c6 = nI c ∧ s.2 = nI (kl c w b) ∧ ∀ i, i < c → (∃ a, a < 4 ∧ w i = nI a) ∧ (b i = 0 ∨ b i = 1)
def IM (c : Nat) (t : SX6) (s : SX4) (fl : Int32) (m : SX8) : Prop := (fl = 0 ∧ (m.1 51 = 0 ∨ ∃ d, d < c ∧ m.1 52 = nI d)) ∨
  (fl = 1 ∧ 1 ≤ c ∧ m.1 51 = 1 ∧ m.1 52 = nI c ∧ (∃ n f mem kd, 1 ≤ mem ∧ mem ≤ 9 ∧ XT t n f mem kd ∧ (∀ s i, s < 2 → i < n s → kOk (f s i)) ∧ m.1 53 = nI mem ∧ m.1 54 = nI kd ∧ m.1 55 = nI (n 0) ∧ m.1 56 = nI (n 1) ∧ ∀ s i, s < 2 → i < n s → m.2.2 58 (14 * s + i) = f s i) ∧ SN s (m.1 57) (m.2.2 59) (m.2.2 60))
def Rel (k : Nat) (x : SX7) (m : SX8) : Prop := PG x.1 m ∧ (∃ c, c ≤ k ∧ m.1 0 = nI c ∧ x.2.2.2.2.2.2.2.2 = nI c ∧ TB c x.2.1.1 m ∧ IM c x.2.2.2.1 x.2.2.2.2.1 x.2.2.2.2.2.1 m) ∧ SN x.2.2.1 (m.1 6) (m.2.2 7) (m.2.2 8) ∧ (∃ R, TX x.2.1 R ∧ TM m R) ∧ x.2.2.2.2.2.2.2.1 = m.1 5
theorem PG.fr {p : SX2} {m m' : SX8} (h : PG p m) (e1 : m'.1 9 = m.1 9) (e2 : m'.2.2 10 = m.2.2 10) : PG p m' := by
  unfold PG at *
  rw [e1, e2]
  exact h
theorem MT.mv {n : Nat → Nat} {f : Nat → Nat → Int32} {mem kd : Nat} {m m' : SX8} (h : MT n f mem kd m) (e1 : m'.1 1 = m.1 1) (e2 : m'.1 2 = m.1 2) (e3 : m'.2.2 3 = m.2.2 3) (e4 : m'.2.2 4 = m.2.2 4) : MT n f mem kd m' := by
  unfold MT at *
  rw [e1, e2, e3, e4]
  exact h
theorem TB.fr {c : Nat} {t : SX6} {m m' : SX8} (h : TB c t m) (e1 : m'.1 1 = m.1 1) (e2 : m'.1 2 = m.1 2) (e3 : m'.2.2 3 = m.2.2 3) (e4 : m'.2.2 4 = m.2.2 4) : TB c t m' := by
  rcases h with h | ⟨h1, n, f, mem, kd, a1, a2, a3, a4, a5⟩
  · refine Or.inl ?_
    rw [e1, e2, e4]
    exact h
  · exact Or.inr ⟨h1, n, f, mem, kd, a1, a2, a3, a4.mv e1 e2 e3 e4, a5⟩
theorem IM.fr {c : Nat} {t : SX6} {s : SX4} {fl : Int32} {m m' : SX8} (h : IM c t s fl m) (e : ∀ i, 51 ≤ i → i ≤ 57 → m'.1 i = m.1 i) (e2 : ∀ i, 58 ≤ i → i ≤ 60 → m'.2.2 i = m.2.2 i) : IM c t s fl m' := by
  unfold IM at *
  rw [e 51 (by omega) (by omega), e 52 (by omega) (by omega), e 53 (by omega) (by omega), e 54 (by omega) (by omega), e 55 (by omega) (by omega), e 56 (by omega) (by omega), e 57 (by omega) (by omega), e2 58 (by omega) (by omega), e2 59 (by omega) (by omega), e2 60 (by omega) (by omega)]
  exact h
theorem TM.fr {m m' : SX8} {R : RS} (h : TM m R) (e1 : m'.1 41 = m.1 41) (e2 : m'.1 42 = m.1 42) (e : ∀ i, 43 ≤ i → i ≤ 48 → m'.2.2 i = m.2.2 i) : TM m' R := by
  unfold TM at *
  rw [e1, e2, e 43 (by omega) (by omega), e 44 (by omega) (by omega), e 45 (by omega) (by omega), e 46 (by omega) (by omega), e 47 (by omega) (by omega), e 48 (by omega) (by omega)]
  exact h
/-- nothing that shows is changed -/
def Kp (m m' : SX8) : Prop := (∀ i, (i < 11 ∨ 40 < i) → m'.1 i = m.1 i) ∧ ∀ i, (i < 29 ∨ (40 < i ∧ i ≠ 50)) → m'.2.2 i = m.2.2 i
theorem Rel.up {k : Nat} {x : SX7} {m : SX8} (h : Rel k x m) : Rel (k + 1) x m := by
  obtain ⟨h1, ⟨c, h2, h3⟩, h4⟩ := h
  exact ⟨h1, ⟨c, by omega, h3⟩, h4⟩
theorem Rel.kp {k : Nat} {x : SX7} {m m' : SX8} (h : Rel k x m) (e : Kp m m') : Rel (k + 1) x m' := by
  obtain ⟨h1, ⟨c, h2, h3, h4, h5, h6⟩, h7, ⟨R, h8, h9⟩, h10⟩ := h
  obtain ⟨e1, e2⟩ := e
  refine ⟨h1.fr (e1 9 (by omega)) (e2 10 (by omega)), ⟨c, by omega, ?_, h4, h5.fr (e1 1 (by omega)) (e1 2 (by omega)) (e2 3 (by omega)) (e2 4 (by omega)), h6.fr (fun i _ _ => e1 i (by omega)) (fun i _ _ => e2 i (by omega))⟩, ?_, ⟨R, h8, h9.fr (e1 41 (by omega)) (e1 42 (by omega)) (fun i _ _ => e2 i (by omega))⟩, ?_⟩
  · rw [e1 0 (by omega)]; exact h3
  · rw [e1 6 (by omega), e2 7 (by omega), e2 8 (by omega)]; exact h7
  · rw [e1 5 (by omega)]; exact h10
theorem Rel.zero {q0 : SX8} (h : fX8_clearTold iX8a = some q0) : Rel 0 iX7 q0 := by
  obtain ⟨q, a1, a2, a3, a4, a5⟩ := clearTold_M iX8a
  rw [h] at a1
  have e : q0 = q := Option.some.inj a1
  subst e
  refine ⟨⟨0, by omega, rfl, ?_, fun i hi => absurd hi (Nat.not_lt_zero i)⟩, ⟨0, Nat.le_refl 0, ?_, rfl, Or.inl ⟨rfl, rfl, rfl, rfl, rfl, ?_, ?_, ?_, ?_⟩, Or.inl ⟨rfl, Or.inl ?_⟩⟩, ⟨0, by omega, rfl, ?_, ?_, fun i hi => absurd hi (Nat.not_lt_zero i)⟩, ⟨R0, ⟨rfl, fun i hi => absurd hi (Nat.not_lt_zero i), rfl, fun i hi => absurd hi (Nat.not_lt_zero i), rfl, fun j _ _ => rfl, rfl, Nat.zero_le _, Nat.zero_le _⟩, a2⟩, ?_⟩
  · rw [a3 9 (by omega) (by omega)]; rfl
  · rw [a3 0 (by omega) (by omega)]; rfl
  · rw [a3 1 (by omega) (by omega)]; rfl
  · rw [a3 2 (by omega) (by omega)]; rfl
  · rw [a5 4 (by omega)]; rfl
  · rw [a5 4 (by omega)]; rfl
  · rw [a3 51 (by omega) (by omega)]; rfl
  · rw [a3 6 (by omega) (by omega)]; rfl
  · rw [kl_0]; rfl
  · rw [a3 5 (by omega) (by omega)]; rfl
/-! the first methods -/
theorem sm_letter : Sm_letter Rel := by
  intro k x m b0 hk h
  obtain ⟨h1, ⟨c, h2, h3, h4, h5, h6⟩, h7, ⟨R, h8, h9⟩, h10⟩ := h
  obtain ⟨q, r, q1, q2, q3, q4, q5, q6, q7, q8⟩ := letter_P (b0 := b0) h1
  refine ⟨q, r, q1, q2, q3, q4, ?_⟩
  rw [q5]
  refine ⟨⟨c, by omega, ?_, h4, h5.fr (q6 1 (by omega)) (q6 2 (by omega)) (q8 3 (by omega)) (q8 4 (by omega)), h6.fr (fun i _ _ => q6 i (by omega)) (fun i _ _ => q8 i (by omega))⟩, ?_, ⟨R, h8, h9.fr (q6 41 (by omega)) (q6 42 (by omega)) (fun i _ _ => q8 i (by omega))⟩, ?_⟩
  · rw [q6 0 (by omega)]; exact h3
  · rw [q6 6 (by omega), q8 7 (by omega), q8 8 (by omega)]; exact h7
  · rw [q6 5 (by omega)]; exact h10
theorem sm_blank : Sm_blank Rel := by
  intro k x m hk h
  obtain ⟨h1, ⟨c, h2, h3, h4, h5, h6⟩, h7, ⟨R, h8, h9⟩, h10⟩ := h
  obtain ⟨q, r, q1, q2, q3, q4, q5, q6, q7, q8⟩ := blank_P h1
  refine ⟨q, r, q1, q2, q3, q4, ?_⟩
  rw [q5]
  refine ⟨⟨c, by omega, ?_, h4, h5.fr (q6 1 (by omega)) (q6 2 (by omega)) (q8 3 (by omega)) (q8 4 (by omega)), h6.fr (fun i _ _ => q6 i (by omega)) (fun i _ _ => q8 i (by omega))⟩, ?_, ⟨R, h8, h9.fr (q6 41 (by omega)) (q6 42 (by omega)) (fun i _ _ => q8 i (by omega))⟩, ?_⟩
  · rw [q6 0 (by omega)]; exact h3
  · rw [q6 6 (by omega), q8 7 (by omega), q8 8 (by omega)]; exact h7
  · rw [q6 5 (by omega)]; exact h10
theorem sm_fault : Sm_fault Rel := by
  intro k x m hk h
  obtain ⟨L, g, hp⟩ := h.1.pl
  obtain ⟨P, q, a1, a2, a3⟩ := read_P hp
  unfold fX7_fault fX8_fault
  rw [a1, a2]
  refine ⟨_, _, rfl, rfl, rfl, h.kp ⟨fun i hi => a3.2.2.1 i (by omega) (by omega) (by omega), fun i hi => ?_⟩⟩
  show q.2.2 i = m.2.2 i
  rw [a3.2.1]
theorem sm_out : Sm_out Rel := by
  intro k x m b0 b1 hk h
  obtain ⟨R, h8, h9⟩ := h.2.2.2.1
  obtain ⟨q, q1, q2⟩ := out_P (a := b0) (b := b1) h8 h9
  exact ⟨q, q, q1, q2, rfl, h.up⟩
theorem sm_log : Sm_log Rel := by
  intro k x m b0 b1 hk h
  obtain ⟨R, h8, h9⟩ := h.2.2.2.1
  obtain ⟨q, q1, q2⟩ := log_P (a := b0) (b := b1) h8 h9
  exact ⟨q, q, q1, q2, rfl, h.up⟩
theorem sm_ledger : Sm_ledger Rel := by
  intro k x m b0 hk h
  obtain ⟨R, h8, h9⟩ := h.2.2.2.1
  obtain ⟨q, q1, q2⟩ := ledger_P (b0 := b0) h8 h9
  exact ⟨q, q, q1, q2, rfl, h.up⟩
