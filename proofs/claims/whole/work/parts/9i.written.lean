/-! what is written by a run -/
def K1 (g : RS → RS) : Prop := ∀ R : RS, (g R).2.2.1 1 = R.2.2.1 1
theorem K1.cp {g h : RS → RS} (hg : K1 g) (hh : K1 h) : K1 (fun R => h (g R)) := fun R => (hh (g R)).trans (hg R)
theorem K1.it {c : Prop} [Decidable c] {g h : RS → RS} (hg : K1 g) (hh : K1 h) : K1 (fun R => if c then g R else h R) := fun R => by
  show (if c then g R else h R).2.2.1 1 = _
  split
  · exact hg R
  · exact hh R
theorem K1.rf : K1 (fun R => R) := fun _ => rfl
theorem co_K {lim : Nat} {a b : Int32} : K1 (co lim a b) := fun R => by
  unfold co
  split
  · rfl
  · split <;> rfl
theorem mt_K {kd lim l r : Nat} : K1 (mt kd lim l r) := fun R => by
  unfold mt
  split
  · rfl
  · split
    · split
      · rfl
      · exact co_K _
    · split
      · rfl
      · exact co_K _
theorem al_K {kd lim s i : Nat} : K1 (al kd lim s i) := fun R => by
  unfold al
  split
  · split <;> exact co_K _
  · rfl
theorem fo_K {g : Nat → RS → RS} (h : ∀ k, K1 (g k)) : ∀ m, K1 (fo g m) := by
  intro m
  induction m with
  | zero => intro R; rfl
  | succ m ih => intro R; exact (h m _).trans (ih R)
theorem ma_K {f : Nat → Nat → Int32} {kd lim s pr bm : Nat} : K1 (ma f kd lim s pr bm) := fo_K (fun _ => K1.it (K1.it mt_K mt_K) K1.rf) 14
theorem ao_K {n : Nat → Nat} {f : Nat → Nat → Int32} {kd lim s set : Nat} : K1 (ao n f kd lim s set) := fo_K (fun _ => K1.it al_K K1.rf) 14
theorem pk_K {c : Nat} : K1 (pk c) := fun _ => rfl
theorem ho_K {n : Nat → Nat} {f : Nat → Nat → Int32} {kd lim s bm pm : Nat} : K1 (ho n f kd lim s bm pm) := fun R =>
  (ao_K _).trans ((fo_K (fun _ => K1.it (K1.it (ma_K.cp al_K) ma_K) K1.rf) 14 _).trans (pk_K R))
theorem bl_K {f : Nat → Nat → Int32} {kd lim mem s pm : Nat} : ∀ (k left : Nat), K1 (bl f kd lim mem s pm k left) := by
  intro k
  induction k with
  | zero => intro left R; rfl
  | succ k ih =>
    intro left R
    rw [bl]
    split
    · rfl
    · exact (ih _ _).trans (fo_K (fun _ => K1.it ma_K K1.rf) 14 _)
theorem bk_K {n : Nat → Nat} {f : Nat → Nat → Int32} {kd lim mem s bm pm : Nat} : K1 (bk n f kd lim mem s bm pm) := fun R => (ao_K _).trans ((ao_K _).trans (bl_K 14 bm R))
theorem sh_K {d : Nat} : K1 (sh d) := fun R => by
  have e := (shN_keep (R.1 2 - d) R).2.2.2.2.2.2.2.1
  show (shN (R.1 2 - d) R).2.2.1 1 = _
  rw [e]
theorem ent_K {lv s j : Nat} (hj : 1 ≠ j) : K1 (ent lv s j) := fun R => by
  show (if s = 0 then ad 8 1 (ad j 1 R) else ad j 1 R).2.2.1 1 = _
  split
  · exact if_neg hj
  · exact if_neg hj
theorem opn_K {w : Int32} : K1 (opn w) := fun _ => rfl
/-- what is written grows by at most a -/
def WG (a : Nat) (R Q : RS) : Prop := ∀ w, R.2.2.1 1 = nI w → ∃ w', Q.2.2.1 1 = nI w' ∧ w ≤ w' ∧ w' ≤ w + a
theorem WG.k {R Q : RS} (h : Q.2.2.1 1 = R.2.2.1 1) (a : Nat) : WG a R Q := fun w hw => ⟨w, h.trans hw, Nat.le_refl w, Nat.le_add_right w a⟩
theorem WG.tr {a b : Nat} {R Q S : RS} (h1 : WG a R Q) (h2 : WG b Q S) : WG (a + b) R S := fun w hw => by
  obtain ⟨u, u1, u2, u3⟩ := h1 w hw
  obtain ⟨v, v1, v2, v3⟩ := h2 u u1
  exact ⟨v, v1, by omega, by omega⟩
theorem WG.le {a b : Nat} {R Q : RS} (h : WG a R Q) (hab : a ≤ b) : WG b R Q := fun w hw => by
  obtain ⟨u, u1, u2, u3⟩ := h w hw
  exact ⟨u, u1, u2, by omega⟩
theorem spl_e {b p w : Nat} {R : RS} (hw : R.2.2.1 1 = nI w) : (spl b p R).2.2.1 1 = nI (w + if b ||| p = 0 then 0 else cnt b + cnt p) := by
  unfold spl
  by_cases c : b ||| p = 0
  · rw [if_pos c, if_pos c, hw, Nat.add_zero]
  · rw [if_neg c, if_neg c]
    show R.2.2.1 1 + (nI (cnt b) + nI (cnt p)) = _
    rw [hw, nI_add, nI_add]
theorem spl_W {b p : Nat} {R : RS} : WG 32 R (spl b p R) := fun w hw => by
  have h1 : cnt b ≤ 16 := cntB_le b 16
  have h2 : cnt p ≤ 16 := cntB_le p 16
  refine ⟨_, spl_e hw, by omega, ?_⟩
  split <;> omega
def wT : Nat → Nat
  | 0 => 0
  | k + 1 => 64 + 2 * wT k
theorem gon_W {a s x y : Nat} {t : Nat → Nat → RS → RS} {R : RS} (ht : ∀ l r Q, WG a Q (t l r Q)) : WG a R (gon t s x y R) := by
  unfold gon
  split
  · exact WG.k rfl a
  · have e : WG 0 R (ad 2 (nI (cnt x) + nI (cnt y)) R) := WG.k rfl 0
    exact (e.tr (ht (if s = 0 then x else y) (if s = 0 then y else x) (ad 2 (nI (cnt x) + nI (cnt y)) R))).le (by omega)
theorem sp5_K {n : Nat → Nat} {f : Nat → Nat → Int32} {kd lim s st b0 b1 p0 p1 : Nat} : K1 (sp5 n f kd lim s st b0 b1 p0 p1) := fun R => by
  unfold sp5
  split
  · exact ho_K R
  · split
    · exact ho_K R
    · rfl
theorem sp67_W {a s st b0 b1 p0 p1 : Nat} {t : Nat → Nat → RS → RS} {R : RS} (ht : ∀ l r Q, WG a Q (t l r Q)) : WG (2 * a) R (sp7 t s st b1 p1 (sp6 t s st b0 p0 R)) := by
  have q6 : WG a R (sp6 t s st b0 p0 R) := by
    unfold sp6
    split
    · exact WG.k rfl a
    · exact gon_W ht
  have q7 : ∀ Q, WG a Q (sp7 t s st b1 p1 Q) := by
    intro Q
    unfold sp7
    split
    · exact WG.k rfl a
    · exact gon_W ht
  exact (q6.tr (q7 _)).le (by omega)
theorem sp_W {n : Nat → Nat} {f : Nat → Nat → Int32} {kd lim mem s b0 b1 p0 p1 a : Nat} {t : Nat → Nat → RS → RS} {R : RS} (ht : ∀ l r Q, WG a Q (t l r Q)) : WG (64 + 2 * a) R (sp t n f kd lim mem s b0 b1 p0 p1 R) := by
  unfold sp
  generalize rsd mem (cnt b0) (cnt b1) = st
  have q3 : WG 32 R (sp3 st b0 p0 R) := by
    unfold sp3
    split
    · exact WG.k rfl 32
    · exact spl_W
  have q4 : ∀ Q, WG 32 Q (sp4 st b1 p1 Q) := by
    intro Q
    unfold sp4
    split
    · exact WG.k rfl 32
    · exact spl_W
  exact (((q3.tr (q4 _)).tr (WG.k (sp5_K _) 0)).tr (sp67_W ht)).le (by omega)
theorem tn_W {n : Nat → Nat} {f : Nat → Nat → Int32} {kd lim mem : Nat} : ∀ (k lv l r : Nat) (R : RS), WG (wT k) R (tn n f kd lim mem k lv l r R) := by
  intro k
  induction k with
  | zero => intro lv l r R; exact WG.k rfl _
  | succ k ih =>
    intro lv l r R
    rw [tn_eq, wT]
    split
    · exact WG.k ((sh_K _).trans ((ho_K _).trans ((ent_K (by omega) _).trans (opn_K R)))) _
    · split
      · exact WG.k ((sh_K _).trans ((bk_K _).trans ((ent_K (by omega) _).trans (opn_K R)))) _
      · exact (((WG.k ((ent_K (by omega) _).trans (opn_K R)) 0 : WG 0 R (ent lv (bsd l r) 7 (opn 2 R))).tr (sp_W (fun l r Q => ih (lv + 1) l r Q))).tr (WG.k (sh_K _) 0)).le (by omega)
/-- nothing is written iff the first part isn't split -/
theorem tn_0 {n : Nat → Nat} {f : Nat → Nat → Int32} {kd lim mem l r : Nat} (hl : l < 16384) (hr : r < 16384) : (tn n f kd lim mem 6 0 l r R0).2.2.1 1 = 0 ↔ (cnt (bmm l r) ≤ mem ∨ oneK f (bsd l r) (bmm l r) = true) := by
  have hb : bmm l r < 16384 := by unfold bmm; split <;> assumption
  rw [tn_eq]
  by_cases c1 : cnt (bmm l r) ≤ mem
  · rw [if_pos c1]
    exact ⟨fun _ => Or.inl c1, fun _ => (sh_K _).trans ((ho_K _).trans ((ent_K (by omega) _).trans (opn_K R0)))⟩
  · rw [if_neg c1]
    by_cases c2 : oneK f (bsd l r) (bmm l r) = true
    · rw [if_pos (Or.inr c2)]
      exact ⟨fun _ => Or.inr c2, fun _ => (sh_K _).trans ((bk_K _).trans ((ent_K (by omega) _).trans (opn_K R0)))⟩
    · rw [if_neg (show ¬ (0 = 4 ∨ oneK f (bsd l r) (bmm l r) = true) from fun q => q.elim (fun e => by omega) c2)]
      refine ⟨fun h => ?_, fun h => h.elim (fun h => absurd h c1) (fun h => absurd h c2)⟩
      exfalso
      have hh := cnt_hf (f := f) (s := bsd l r) (b := 0) hb
      have e0 : (ent 0 (bsd l r) 7 (opn 2 R0)).2.2.1 1 = nI 0 := (ent_K (by omega) _).trans (opn_K R0)
      rw [sh_K] at h
      unfold sp at h
      have hl0 : hf f (bsd l r) (bmm l r) 0 0 < 16384 := hf_lt
      have hl1 : hf f (bsd l r) (bmm l r) 0 1 < 16384 := hf_lt
      revert h
      generalize hb0 : hf f (bsd l r) (bmm l r) 0 0 = b0 at *
      generalize hb1 : hf f (bsd l r) (bmm l r) 0 1 = b1 at *
      generalize hf f (1 - bsd l r) (pmm l r) 0 0 = p0
      generalize hf f (1 - bsd l r) (pmm l r) 0 1 = p1
      have z0 : ∀ p, b0 ||| p = 0 → cnt b0 = 0 := fun p e => by
        have : b0 = 0 := (Nat.or_eq_zero_iff.mp e).1
        rw [this]
        exact cntB_zero 16 (fun k _ => Nat.zero_testBit k)
      have z1 : ∀ p, b1 ||| p = 0 → cnt b1 = 0 := fun p e => by
        have : b1 = 0 := (Nat.or_eq_zero_iff.mp e).1
        rw [this]
        exact cntB_zero 16 (fun k _ => Nat.zero_testBit k)
      have hst : (rsd mem (cnt b0) (cnt b1) = 0 ∧ cnt b0 ≤ mem) ∨ (rsd mem (cnt b0) (cnt b1) = 1 ∧ cnt b1 ≤ mem) ∨ rsd mem (cnt b0) (cnt b1) = 2 := by
        unfold rsd
        split
        · exact Or.inl ⟨rfl, by omega⟩
        · split
          · exact Or.inr (Or.inl ⟨rfl, by omega⟩)
          · exact Or.inr (Or.inr rfl)
      generalize rsd mem (cnt b0) (cnt b1) = st at hst
      have b160 : cnt b0 ≤ 16 := cntB_le b0 16
      have b161 : cnt b1 ≤ 16 := cntB_le b1 16
      have b162 : cnt p0 ≤ 16 := cntB_le p0 16
      have b163 : cnt p1 ≤ 16 := cntB_le p1 16
      have q : ∃ w, (sp4 st b1 p1 (sp3 st b0 p0 (ent 0 (bsd l r) 7 (opn 2 R0)))).2.2.1 1 = nI w ∧ 1 ≤ w ∧ w ≤ 64 := by
        unfold sp3 sp4
        rcases hst with ⟨e, e1⟩ | ⟨e, e1⟩ | e
        · rw [e, if_pos rfl, if_neg (show ¬ (0 : Nat) = 1 by omega)]
          refine ⟨_, spl_e e0, ?_, ?_⟩
          · split
            · rename_i c; have := z1 _ c; omega
            · omega
          · split <;> omega
        · rw [e, if_neg (show ¬ (1 : Nat) = 0 by omega), if_pos rfl]
          refine ⟨_, spl_e e0, ?_, ?_⟩
          · split
            · rename_i c; have := z0 _ c; omega
            · omega
          · split <;> omega
        · rw [e, if_neg (show ¬ (2 : Nat) = 0 by omega), if_neg (show ¬ (2 : Nat) = 1 by omega)]
          refine ⟨_, spl_e (spl_e e0), ?_, ?_⟩
          · split
            · rename_i c; have := z0 _ c
              split
              · rename_i c'; have := z1 _ c'; omega
              · omega
            · split
              · rename_i c'; have := z1 _ c'; omega
              · omega
          · split <;> split <;> omega
      obtain ⟨w, w1, w2, w3⟩ := q
      obtain ⟨v, v1, v2, v3⟩ := ((WG.k (sp5_K (n := n) (f := f) (kd := kd) (lim := lim) (s := bsd l r) (st := st) (b0 := b0) (b1 := b1) (p0 := p0) (p1 := p1) _) 0).tr (sp67_W (s := bsd l r) (st := st) (b0 := b0) (b1 := b1) (p0 := p0) (p1 := p1) (fun l r Q => tn_W (n := n) (f := f) (kd := kd) (lim := lim) (mem := mem) 5 (0 + 1) l r Q))) w w1
      intro h
      rw [v1] at h
      have hv : v < 2 ^ 31 := by
        have : wT 5 = 1984 := rfl
        omega
      have := (nI_z hv).mp h
      omega
/-- the least memory by which nothing is written -/
def thr (f : Nat → Nat → Int32) (l r : Nat) : Nat := if bmm l r = 0 ∨ oneK f (bsd l r) (bmm l r) = true then 1 else cnt (bmm l r)
theorem rn_0 {n : Nat → Nat} {f : Nat → Nat → Int32} {kd lim mem : Nat} (h0 : n 0 ≤ 14) (h1 : n 1 ≤ 14) (hm : 1 ≤ mem) : (rn n f kd lim mem).2.2.1 1 = 0 ↔ thr f (wk f 0 (n 0)) (wk f 1 (n 1)) ≤ mem := by
  have hl : wk f 0 (n 0) < 16384 := mkm_le _ h0
  have hr : wk f 1 (n 1) < 16384 := mkm_le _ h1
  rw [rn_eq, ao_K, ao_K]
  unfold rn1 thr
  generalize wk f 0 (n 0) = l at *
  generalize wk f 1 (n 1) = r at *
  have cz : cnt 0 = 0 := cntB_zero 16 (fun k _ => Nat.zero_testBit k)
  by_cases c : l ||| r = 0
  · obtain ⟨e1, e2⟩ := Nat.or_eq_zero_iff.mp c
    rw [if_pos c, if_pos (Or.inl (show bmm l r = 0 by unfold bmm; split <;> assumption))]
    exact ⟨fun _ => hm, fun _ => rfl⟩
  · rw [if_neg c, tn_0 hl hr]
    by_cases d : bmm l r = 0 ∨ oneK f (bsd l r) (bmm l r) = true
    · rw [if_pos d]
      refine ⟨fun _ => hm, fun _ => ?_⟩
      rcases d with d | d
      · left
        rw [d, cz]
        omega
      · exact Or.inr d
    · rw [if_neg d]
      constructor
      · intro h
        rcases h with h | h
        · exact h
        · exact absurd (Or.inr h) d
      · exact fun h => Or.inl h
