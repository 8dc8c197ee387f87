/-! PURE ROWS. Small numbers as nI n; sets of rows as numbers (bit i: row i). -/
theorem s_l : ∀ n, n < 32 → ((nI n &&& 31).toBitVec.smod 32).toNat = n := by decide +kernel
theorem fa_lit (n : Nat) : (OfNat.ofNat n : Int32) = nI n := rfl
theorem fa_and (a b : Nat) : nI a &&& nI b = nI (a &&& b) := by
  apply Int32.toBitVec_inj.1
  show BitVec.ofNat 32 a &&& BitVec.ofNat 32 b = BitVec.ofNat 32 (a &&& b)
  apply BitVec.eq_of_getLsbD_eq
  intro i hi
  simp [hi]
theorem fa_or (a b : Nat) : nI a ||| nI b = nI (a ||| b) := by
  apply Int32.toBitVec_inj.1
  show BitVec.ofNat 32 a ||| BitVec.ofNat 32 b = BitVec.ofNat 32 (a ||| b)
  apply BitVec.eq_of_getLsbD_eq
  intro i hi
  simp [hi]
theorem fa_andn (a b : Nat) (ha : a < 2 ^ 31) : nI a &&& (nI b ^^^ (-1)) = nI (a &&& (a ^^^ (a &&& b))) := by
  apply Int32.toBitVec_inj.1
  show BitVec.ofNat 32 a &&& (BitVec.ofNat 32 b ^^^ BitVec.allOnes 32) = BitVec.ofNat 32 (a &&& (a ^^^ (a &&& b)))
  apply BitVec.eq_of_getLsbD_eq
  intro i hi
  rw [BitVec.getLsbD_and, BitVec.getLsbD_xor, BitVec.getLsbD_allOnes, BitVec.getLsbD_ofNat, BitVec.getLsbD_ofNat, BitVec.getLsbD_ofNat, Nat.testBit_and, Nat.testBit_xor, Nat.testBit_and]
  simp only [hi, decide_true, Bool.true_and]
  cases a.testBit i <;> cases b.testBit i <;> rfl
theorem one_shl {j : Nat} (h : j < 31) : (1 : Int32) <<< (nI j &&& 31) = nI (2 ^ j) := by
  have e := pk_shlN (n := 1) (nI j &&& 31) j (s_l j (by omega)) (by
    rw [Nat.one_mul]
    exact Nat.pow_lt_pow_right (by omega) (by omega))
  rw [Nat.one_mul] at e
  exact e
theorem shr_bit {a j : Nat} (ha : a < 2 ^ 31) (hj : j < 32) : (nI a >>> (nI j &&& 31)) &&& 1 = nI (if a.testBit j then 1 else 0) := by
  rw [pk_shrN ha (nI j &&& 31) j (s_l j hj)]
  show nI (a / 2 ^ j) &&& nI 1 = _
  rw [fa_and, Nat.and_one_is_mod, Nat.testBit_eq_decide_div_mod_eq]
  rcases Nat.mod_two_eq_zero_or_one (a / 2 ^ j) with q | q <;> simp [q]
/-- conditions on small numbers -/
theorem iL {α : Type} {a b : Nat} {x y : α} (h : a ≤ b) (hb : b < 2 ^ 31) : (if nI a ≤ nI b then x else y) = x := if_pos (nI_le h hb)
theorem iLn {α : Type} {a b : Nat} {x y : α} (h : b < a) (hb : a < 2 ^ 31) : (if nI a ≤ nI b then x else y) = y := if_neg (nI_ge h hb)
theorem iT {α : Type} {a b : Nat} {x y : α} (h : a < b) (hb : b < 2 ^ 31) : (if nI a < nI b then x else y) = x := if_pos (nI_lt h hb)
theorem iTn {α : Type} {a b : Nat} {x y : α} (h : b ≤ a) (hb : a < 2 ^ 31) : (if nI a < nI b then x else y) = y := if_neg (nI_nlt h hb)
theorem iE {α : Type} {a b : Nat} {x y : α} (h : a = b) : (if nI a = nI b then x else y) = x := if_pos (by rw [h])
theorem iEn {α : Type} {a b : Nat} {x y : α} (h : a ≠ b) (ha : a < 2 ^ 31) (hb : b < 2 ^ 31) : (if nI a = nI b then x else y) = y := if_neg (fun e => h ((nI_eq ha hb).mp e))
theorem iB {α : Type} {a N : Nat} {x y : α} (h : a < N) (hN : N < 2 ^ 31) : (if nI a < 0 ∨ N ≤ (nI a).toNatClampNeg then x else y) = y := if_neg (nI_in h hN)
/-- loops that count up -/
theorem upL {τ : Type} (F : Nat → Nat → Option τ) (N : Nat) (r : τ) (hs : ∀ n j, j < N → F (n + 1) j = F n (j + 1)) (he : ∀ n, F (n + 1) N = some r) : ∀ n j, j ≤ N → N - j < n → F n j = some r := by
  intro n
  induction n with
  | zero => intro j h1 h2; omega
  | succ n ih =>
    intro j h1 h2
    rcases Nat.lt_or_ge j N with h | h
    · rw [hs n j h]
      exact ih (j + 1) h (by omega)
    · have e : j = N := by omega
      subst e
      exact he n
theorem upE {σ τ : Type} (F : Nat → Nat → σ → Option τ) (I : Nat → σ → Prop) (post : τ → Prop) (N : Nat) (hs : ∀ n j s, j < N → I j s → (∃ s', I (j + 1) s' ∧ F (n + 1) j s = F n (j + 1) s') ∨ ∃ r, F (n + 1) j s = some r ∧ post r) (he : ∀ n s, I N s → ∃ r, F (n + 1) N s = some r ∧ post r) :
    ∀ n j s, j ≤ N → N - j < n → I j s → ∃ r, F n j s = some r ∧ post r := by
  intro n
  induction n with
  | zero => intro j s h1 h2; omega
  | succ n ih =>
    intro j s h1 h2 hI
    rcases Nat.lt_or_ge j N with h | h
    · rcases hs n j s h hI with ⟨s', q1, q2⟩ | q
      · rw [q2]
        exact ih (j + 1) s' h (by omega) q1
      · exact q
    · have e : j = N := by omega
      subst e
      exact he n s hI
/-- the set of the places below n that have p -/
def mkm (p : Nat → Bool) : Nat → Nat
  | 0 => 0
  | n + 1 => if p n then mkm p n ||| 2 ^ n else mkm p n
theorem mkm_bit (p : Nat → Bool) (i : Nat) : ∀ n, (mkm p n).testBit i = (decide (i < n) && p i) := by
  intro n
  induction n with
  | zero => simp [mkm]
  | succ n ih =>
    rw [mkm]
    by_cases h : p n
    · rw [if_pos h, Nat.testBit_or, ih, Nat.testBit_two_pow]
      by_cases e : n = i
      · subst e
        simp [h]
      · have e2 : decide (i < n + 1) = decide (i < n) := by
          apply decide_eq_decide.mpr
          omega
        simp [e, e2]
    · rw [if_neg h, ih]
      by_cases e : i = n
      · subst e
        simp [h]
      · have e2 : decide (i < n + 1) = decide (i < n) := by
          apply decide_eq_decide.mpr
          omega
        rw [e2]
theorem mkm_lt (p : Nat → Bool) : ∀ n, mkm p n < 2 ^ n := by
  intro n
  induction n with
  | zero => simp [mkm]
  | succ n ih =>
    rw [mkm]
    have h2 : 2 ^ n < 2 ^ (n + 1) := Nat.pow_lt_pow_right (by omega) (by omega)
    by_cases h : p n
    · rw [if_pos h]
      exact Nat.or_lt_two_pow (Nat.lt_trans ih h2) h2
    · rw [if_neg h]
      exact Nat.lt_trans ih h2
theorem mkm_le (p : Nat → Bool) {n : Nat} (h : n ≤ 14) : mkm p n < 16384 := Nat.lt_of_lt_of_le (mkm_lt p n) (Nat.pow_le_pow_right (by omega) h)
/-- how many places below n are in a set -/
def cntB (a : Nat) : Nat → Nat
  | 0 => 0
  | n + 1 => cntB a n + (if a.testBit n then 1 else 0)
abbrev cnt (a : Nat) : Nat := cntB a 16
theorem cntB_le (a : Nat) : ∀ n, cntB a n ≤ n := by
  intro n
  induction n with
  | zero => simp [cntB]
  | succ n ih => rw [cntB]; split <;> omega
