theorem log_N {z : SX8} {R : RS} (g : TM z R) (h2 : R.1 1 ≤ 200) {j : Nat} (hj : j < R.1 1) {c : Int32} (hc : ¬ c < 0) (hc2 : ¬ 2 < c) {q : Int32} (h : fX8_log z (nI j) c = some q) : fX8_logNow z (nI j) c = some q := by
  unfold fX8_log at h
  have h0 : ¬ nI j < 0 := nI_pos (n := j) (by omega)
  rw [within_M, Option.bind_some, g.2.1, if_neg h0, if_neg (fun q => (sub1_of (by omega) h0).mp q (nI_lt hj (by omega))), if_neg (show ¬ (1 : Int32) = 0 by decide), within_M, Option.bind_some, if_neg hc, if_neg hc2, if_neg (show ¬ (1 : Int32) = 0 by decide)] at h
  cases e : fX8_logNow z (nI j) c with
  | none => rw [e] at h; exact absurd h (by simp)
  | some w => rw [e] at h; exact h
theorem out_N {z : SX8} {R : RS} (g : TM z R) (h2 : R.1 0 ≤ 250) {j : Nat} (hj : j < R.1 0) {c : Int32} (hc : ¬ c < 0) (hc2 : ¬ 1 < c) {q : Int32} (h : fX8_out z (nI j) c = some q) : fX8_outNow z (nI j) c = some q := by
  unfold fX8_out at h
  have h0 : ¬ nI j < 0 := nI_pos (n := j) (by omega)
  rw [within_M, Option.bind_some, g.1, if_neg h0, if_neg (fun q => (sub1_of (by omega) h0).mp q (nI_lt hj (by omega))), if_neg (show ¬ (1 : Int32) = 0 by decide), within_M, Option.bind_some, if_neg hc, if_neg hc2, if_neg (show ¬ (1 : Int32) = 0 by decide)] at h
  cases e : fX8_outNow z (nI j) c with
  | none => rw [e] at h; exact absurd h (by simp)
  | some w => rw [e] at h; exact h
theorem TM.kp {m z : SX8} {R : RS} (h : TM m R) (e : Kp m z) : TM z R := h.fr (e.1 41 (by omega)) (e.1 42 (by omega)) (fun i _ _ => e.2 i (by omega))
section
variable {x : SX7} {m : SX8} {R : RS}
/-- the log -/
theorem dg_L (hX : TX x.2.1 R) (hM : TM m R) {v : Int64} {z : SX8} (h : HV m v z) : ∃ v' z', HV m v' z' ∧ fX7_digest_b89 x 1000 v 0 = ((fX6_areThere x.2.1.1).bind fun q2 => if q2 = 0 then (fX7_digest_b161 x v') else ((fX7_spare x).bind fun q4 => (fX7_mix v' (q4.toInt64)).bind fun q5 => fX7_digest_b161 x q5)) ∧ fX8_mixTold_b65 1000 0 z = some z' := by
  have hb := hX.2.2.2.2.2.2.2.2
  have hs := hX.2.2.1
  obtain ⟨v', z', h1, h2, h3⟩ := upT (fun w j (v : Int64) => fX7_digest_b89 x w v (nI j)) (fun w j (z : SX8) => fX8_mixTold_b65 w (nI j) z) (HV m) (R.1 1) (by
    intro w w' j v z hj hz
    obtain ⟨q0, a0, b0⟩ := log_P (x := x) (a := nI j) (b := 0) hX (hM.kp hz.1)
    have c0 := log_N (hM.kp hz.1) hb hj (c := 0) (by decide) (by decide) b0
    obtain ⟨z1, e1, f1, -⟩ := hz.mix q0.toInt64
    obtain ⟨q1, a1, b1⟩ := log_P (x := x) (a := nI j) (b := 1) hX (hM.kp f1.1)
    have c1 := log_N (hM.kp f1.1) hb hj (c := 1) (by decide) (by decide) b1
    obtain ⟨z2, e2, f2, -⟩ := f1.mix q1.toInt64
    obtain ⟨q2, a2, b2⟩ := log_P (x := x) (a := nI j) (b := 2) hX (hM.kp f2.1)
    have c2 := log_N (hM.kp f2.1) hb hj (c := 2) (by decide) (by decide) b2
    obtain ⟨z3, e3, f3, -⟩ := f2.mix q2.toInt64
    refine ⟨_, z3, f3, ?_, ?_⟩
    · show fX7_digest_b89 x (w + 1) v (nI j) = fX7_digest_b89 x w _ (nI (j + 1))
      rw [fX7_digest_b89, hs, if_neg (nI_ge hj (by omega)), a0, Option.bind_some, mix_X, Option.bind_some, a1, Option.bind_some, mix_X, Option.bind_some, a2, Option.bind_some, mix_X, Option.bind_some, nI1]
    · show fX8_mixTold_b65 (w' + 1) (nI j) z = fX8_mixTold_b65 w' (nI (j + 1)) z3
      rw [fX8_mixTold_b65, (hM.kp hz.1).2.1, if_neg (nI_ge hj (by omega))]
      show fX8_mixTold_b75 (fX8_mixTold_b65 w') (999 + 1) (nI j) 0 z = _
      rw [fX8_mixTold_b75, if_neg (show ¬ (3 : Int32) ≤ 0 by decide), c0, Option.bind_some, e1, Option.bind_some]
      show fX8_mixTold_b75 (fX8_mixTold_b65 w') (998 + 1) (nI j) 1 z1 = _
      rw [fX8_mixTold_b75, if_neg (show ¬ (3 : Int32) ≤ 1 by decide), c1, Option.bind_some, e2, Option.bind_some]
      show fX8_mixTold_b75 (fX8_mixTold_b65 w') (997 + 1) (nI j) 2 z2 = _
      rw [fX8_mixTold_b75, if_neg (show ¬ (3 : Int32) ≤ 2 by decide), c2, Option.bind_some, e3, Option.bind_some]
      show fX8_mixTold_b75 (fX8_mixTold_b65 w') (996 + 1) (nI j) 3 z3 = _
      rw [fX8_mixTold_b75, if_pos (show (3 : Int32) ≤ 3 by decide), nI1]) (R.1 1) (999 - R.1 1 + 1) (999 - R.1 1 + 1) 0 v z (by omega) h
  rw [show 999 - R.1 1 + 1 + R.1 1 = 1000 by omega, Nat.zero_add] at h2 h3
  refine ⟨v', z', h1, Eq.trans h2 ?_, Eq.trans h3 ?_⟩
  · show fX7_digest_b89 x (999 - R.1 1 + 1) v' (nI (R.1 1)) = _
    rw [fX7_digest_b89, hs, if_pos (nI_le (Nat.le_refl _) (by omega))]
  · show fX8_mixTold_b65 (999 - R.1 1 + 1) (nI (R.1 1)) z' = _
    rw [fX8_mixTold_b65, (hM.kp h1.1).2.1, if_pos (nI_le (Nat.le_refl _) (by omega))]
/-- what came out -/
theorem dg_O (hX : TX x.2.1 R) (hM : TM m R) {v : Int64} {z : SX8} (h : HV m v z) : ∃ v' z', HV m v' z' ∧ fX7_digest_b45 x 1000 v 0 = ((fX6_areThere x.2.1.1).bind fun q2 => if q2 = 0 then (fX7_digest_b161 x v') else ((fX7_spare x).bind fun q4 => (fX7_mix v' (q4.toInt64)).bind fun q5 => fX7_digest_b161 x q5)) ∧ fX8_mixTold_b27 1000 0 z = some z' := by
  have hb := hX.2.2.2.2.2.2.2.1
  have hs := hX.1
  obtain ⟨v', z', h1, h2, h3⟩ := upT (fun w j (v : Int64) => fX7_digest_b45 x w v (nI j)) (fun w j (z : SX8) => fX8_mixTold_b27 w (nI j) z) (HV m) (R.1 0) (by
    intro w w' j v z hj hz
    have hin : ¬ (nI j < 0 ∨ 256 ≤ (nI j).toNatClampNeg) := nI_in (show j < 256 by omega) (by omega)
    obtain ⟨q0, a0, b0⟩ := out_P (x := x) (a := nI j) (b := 0) hX (hM.kp hz.1)
    have c0 := out_N (hM.kp hz.1) hb hj (c := 0) (by decide) (by decide) b0
    unfold fX8_outNow at c0
    rw [if_pos (show (0 : Int32) = 0 from rfl), if_neg hin] at c0
    obtain ⟨z1, e1, f1, g1, g2⟩ := hz.mix q0.toInt64
    obtain ⟨q1, a1, b1⟩ := out_P (x := x) (a := nI j) (b := 1) hX (hM.kp f1.1)
    have c1 := out_N (hM.kp f1.1) hb hj (c := 1) (by decide) (by decide) b1
    unfold fX8_outNow at c1
    rw [if_neg (show ¬ (1 : Int32) = 0 by decide), if_neg hin] at c1
    obtain ⟨z2, e2, f2, -⟩ := f1.mix q1.toInt64
    refine ⟨_, z2, f2, ?_, ?_⟩
    · show fX7_digest_b45 x (w + 1) v (nI j) = fX7_digest_b45 x w _ (nI (j + 1))
      rw [fX7_digest_b45, hs, if_neg (nI_ge hj (by omega)), a0, Option.bind_some, mix_X, Option.bind_some, a1, Option.bind_some, mix_X, Option.bind_some, nI1]
    · show fX8_mixTold_b27 (w' + 1) (nI j) z = fX8_mixTold_b27 w' (nI (j + 1)) z2
      rw [fX8_mixTold_b27, (hM.kp hz.1).1, if_neg (nI_ge hj (by omega)), if_neg hin, Option.some.inj c0, e1, Option.bind_some, if_neg hin, Option.some.inj c1, e2, Option.bind_some, nI1]) (R.1 0) (999 - R.1 0 + 1) (999 - R.1 0 + 1) 0 v z (by omega) h
  rw [show 999 - R.1 0 + 1 + R.1 0 = 1000 by omega, Nat.zero_add] at h2 h3
  obtain ⟨v'', z'', i1, i2, i3⟩ := dg_L hX hM h1
  refine ⟨v'', z'', i1, Eq.trans h2 ?_, Eq.trans h3 ?_⟩
  · show fX7_digest_b45 x (999 - R.1 0 + 1) v' (nI (R.1 0)) = _
    rw [fX7_digest_b45, hs, if_pos (nI_le (Nat.le_refl _) (by omega))]
    exact i2
  · show fX8_mixTold_b27 (999 - R.1 0 + 1) (nI (R.1 0)) z' = _
    rw [fX8_mixTold_b27, (hM.kp h1.1).1, if_pos (nI_le (Nat.le_refl _) (by omega))]
    exact i3
/-- the ledger -/
theorem dg_B (hX : TX x.2.1 R) (hM : TM m R) {v : Int64} {z : SX8} (h : HV m v z) : ∃ v' z', HV m v' z' ∧ fX7_digest_b20 x 1000 v 0 = ((fX6_areThere x.2.1.1).bind fun q2 => if q2 = 0 then (fX7_digest_b161 x v') else ((fX7_spare x).bind fun q4 => (fX7_mix v' (q4.toInt64)).bind fun q5 => fX7_digest_b161 x q5)) ∧ fX8_mixTold z = some z' := by
  obtain ⟨v', z', h1, h2, h3⟩ := upT (fun w j (v : Int64) => fX7_digest_b20 x w v (nI j)) (fun w j (z : SX8) => fX8_mixTold_b2 w (nI j) z) (HV m) 10 (by
    intro w w' j v z hj hz
    have hin : ¬ (nI j < 0 ∨ 10 ≤ (nI j).toNatClampNeg) := nI_in hj (by omega)
    obtain ⟨q0, a0, b0⟩ := ledger_P (x := x) (b0 := nI j) hX (hM.kp hz.1)
    unfold fX8_ledger at b0
    rw [within_M, Option.bind_some, if_neg (nI_pos (n := j) (by omega)), if_neg (show ¬ (9 : Int32) < nI j from nI_nlt (a := 9) (by omega) (by omega)), if_neg (show ¬ (1 : Int32) = 0 by decide), if_neg hin] at b0
    obtain ⟨z1, e1, f1, -⟩ := hz.mix q0.toInt64
    refine ⟨_, z1, f1, ?_, ?_⟩
    · show fX7_digest_b20 x (w + 1) v (nI j) = fX7_digest_b20 x w _ (nI (j + 1))
      rw [fX7_digest_b20, if_neg (cl 10 hj (by omega)), a0, Option.bind_some, mix_X, Option.bind_some, nI1]
    · show fX8_mixTold_b2 (w' + 1) (nI j) z = fX8_mixTold_b2 w' (nI (j + 1)) z1
      rw [fX8_mixTold_b2, if_neg (cl 10 hj (by omega)), if_neg hin, Option.some.inj b0, e1, Option.bind_some, nI1]) 10 990 990 0 v z (by omega) h
  obtain ⟨v'', z'', i1, i2, i3⟩ := dg_O hX hM h1
  refine ⟨v'', z'', i1, Eq.trans h2 ?_, Eq.trans h3 ?_⟩
  · show fX7_digest_b20 x (989 + 1) v' (nI 10) = _
    rw [fX7_digest_b20, if_pos (show (10 : Int32) ≤ nI 10 by decide)]
    exact i2
  · show fX8_mixTold_b2 (989 + 1) (nI 10) z' = _
    rw [fX8_mixTold_b2, if_pos (show (10 : Int32) ≤ nI 10 by decide)]
    exact i3
end
theorem row_X {x : SX7} {m : SX8} {n : Nat → Nat} {f : Nat → Nat → Int32} (h : SB x.2.1.1 m n f) {s i : Nat} (hs : s < 2) (hi : i < n s) : fX7_row x (nI s) (nI i) 0 = some (f s i) ∧ fX7_row x (nI s) (nI i) 1 = some (nI (cnt (ptn n f s i))) := by
  obtain ⟨h1, h2, h3, h4⟩ := h
  obtain ⟨k1, k2, k3, k4, k5⟩ := h4 s i hs hi
  have hr : fX6_hasRow x.2.1.1 (nI s) (nI i) = some 1 := by
    unfold fX6_hasRow
    rcases (show s = 0 ∨ s = 1 by omega) with rfl | rfl
    · rw [show fX7_isSide (nI 0) = some 1 by decide, Option.bind_some, if_neg (show ¬ (1 : Int32) = 0 by decide), if_pos (show nI 0 = 0 from rfl), has_X h1 hi]
      rfl
    · rw [show fX7_isSide (nI 1) = some 1 by decide, Option.bind_some, if_neg (show ¬ (1 : Int32) = 0 by decide), if_neg (show ¬ nI 1 = 0 by decide), has_X h2 hi]
      rfl
  unfold fX7_row
  rw [hr, Option.bind_some, if_neg (show ¬ (1 : Int32) = 0 by decide)]
  constructor
  · rw [if_neg (show ¬ (0 : Int32) < 0 by decide), if_pos (show (0 : Int32) ≤ 1 by decide), if_pos (show (0 : Int32) = 0 from rfl)]
    rcases (show s = 0 ∨ s = 1 by omega) with rfl | rfl
    · rw [if_pos (show nI 0 = 0 from rfl), keyAt_X h1 hi]
      rfl
    · rw [if_neg (show ¬ nI 1 = 0 by decide), keyAt_X h2 hi]
      rfl
  · rw [Option.bind_some, if_neg (show ¬ (1 : Int32) = 0 by decide), if_neg (show ¬ (1 : Int32) = 0 by decide), if_neg (show ¬ (1 : Int32) < 0 by decide), if_pos (show (1 : Int32) ≤ 1 by decide), k5, Option.bind_some, bitCount_eq (ptn_lt (h3 (1 - s) (by omega)).2)]
    rfl
theorem dg_R {k : Nat} {x : SX7} {m : SX8} (hR : Rel k x m) {s : Nat} (hs : s < 2) (k2 : Int32 → SX8 → Option SX8) {v : Int64} {z : SX8} (h : HV m v z) : ∃ v' z', HV m v' z' ∧ fX7_mixRows x v (nI s) = some v' ∧ fX8_mixRows_b9 k2 1000 (nI s) 0 z = k2 (nI (s + 1)) z' := by
  obtain ⟨c, -, -, -, h5, -⟩ := hR.2.1
  obtain ⟨n, f, hB⟩ := h5.sb
  have hn := (hB.2.2.1 s hs).2
  have hin : ¬ (nI s < 0 ∨ 2 ≤ (nI s).toNatClampNeg) := nI_in hs (by omega)
  have hm4 : ∀ z, Kp m z → z.2.2 4 s = nI (n s) := fun z hz => by rw [hz.2 4 (by omega)]; exact (hB.2.2.1 s hs).1
  have hst : ∀ (w : Nat) (v : Int64) (i : Nat), fX7_mixRows_b6 x (w + 1) (nI s) v (nI i) = if nI (n s) ≤ nI i then some v else ((fX7_row x (nI s) (nI i) 0).bind fun q3 => (fX7_mix v (q3.toInt64)).bind fun q4 => (fX7_row x (nI s) (nI i) 1).bind fun q5 => (fX7_mix q4 (q5.toInt64)).bind fun q6 => fX7_mixRows_b6 x w (nI s) q6 (nI i + 1)) := by
    intro w v i
    rw [fX7_mixRows_b6]
    rcases (show s = 0 ∨ s = 1 by omega) with rfl | rfl
    · rw [if_pos (show nI 0 = 0 from rfl), hB.1.1]
    · rw [if_neg (show ¬ nI 1 = 0 by decide), hB.2.1.1]
  obtain ⟨v', z', h1, h2, h3⟩ := upT (fun w j (v : Int64) => fX7_mixRows_b6 x w (nI s) v (nI j)) (fun w j (z : SX8) => fX8_mixRows_b9 k2 w (nI s) (nI j) z) (HV m) (n s) (by
    intro w w' j v z hj hz
    obtain ⟨r1, r2⟩ := row_X hB hs hj
    obtain ⟨z1, e1, f1, g1, g2⟩ := hz.mix (f s j).toInt64
    obtain ⟨z2, e2, f2, -⟩ := f1.mix (nI (cnt (ptn n f s j))).toInt64
    have hk : ∀ y, Kp m y → fX8_keyAt y (nI s) (nI j) = some (f s j) := by
      intro y hy
      have q := (hB.2.2.2 s j hs hj).2.2.1
      unfold fX8_keyAt at *
      rw [hy.2 3 (by omega)]
      exact q
    have hp : fX8_partnersOf z1 (nI s) (nI j) = some (nI (cnt (ptn n f s j))) := by
      rcases h5.fr (f1.1.1 1 (by omega)) (f1.1.1 2 (by omega)) (f1.1.2 3 (by omega)) (f1.1.2 4 (by omega)) with q | q
      · exfalso
        have e0 := (hm4 _ f1.1).symm.trans (by
          rcases (show s = 0 ∨ s = 1 by omega) with rfl | rfl
          · exact q.2.2.2.2.2.2.2.1
          · exact q.2.2.2.2.2.2.2.2 : z1.2.2 4 s = nI 0)
        have := (nI_eq (by omega) (by omega)).mp e0
        omega
      · obtain ⟨hc, n', f', mem, kd, -, -, q3, q4, -⟩ := q
        have en : n' s = n s := by
          have e1 := q4.1 s hs
          have e2 := hm4 _ f1.1
          rw [e1] at e2
          have := q4.2.2.2.2.1 s hs
          exact (nI_eq (by omega) (by omega)).mp e2
        have en1 : n' (1 - s) = n (1 - s) := by
          have e1 := q4.1 (1 - s) (by omega)
          have e2 : z1.2.2 4 (1 - s) = nI (n (1 - s)) := by rw [f1.1.2 4 (by omega)]; exact (hB.2.2.1 (1 - s) (by omega)).1
          rw [e1] at e2
          have a1 := q4.2.2.2.2.1 (1 - s) (by omega)
          have a2 := (hB.2.2.1 (1 - s) (by omega)).2
          exact (nI_eq (by omega) (by omega)).mp e2
        have ef : ∀ s' i, s' < 2 → i < n' s' → i < n s' → f' s' i = f s' i := by
          intro s' i hs' hi hi2
          have e1 := q4.2.1 s' i hs' hi
          have e2 := (hB.2.2.2 s' i hs' hi2).2.1
          rw [f1.1.2 3 (by omega), e2] at e1
          exact e1.symm
        rw [partnersOf_M q4 hs (by omega)]
        have ep : ptn n' f' s j = ptn n f s j := by
          unfold ptn
          rw [ef s j hs (by omega) hj, en1]
          congr 1
          have : ∀ N, N ≤ n (1 - s) → mkm (fun k => decide (f' (1 - s) k = f s j)) N = mkm (fun k => decide (f (1 - s) k = f s j)) N := by
            intro N
            induction N with
            | zero => intro _; rfl
            | succ N ih =>
              intro hN
              rw [mkm, mkm, ih (by omega), ef (1 - s) N (by omega) (by omega) (by omega)]
          exact this _ (Nat.le_refl _)
        rw [ep]
    refine ⟨_, z2, f2, ?_, ?_⟩
    · show fX7_mixRows_b6 x (w + 1) (nI s) v (nI j) = fX7_mixRows_b6 x w (nI s) _ (nI (j + 1))
      rw [hst, if_neg (nI_ge hj (by omega)), r1, Option.bind_some, mix_X, Option.bind_some, r2, Option.bind_some, mix_X, Option.bind_some, nI1]
    · show fX8_mixRows_b9 k2 (w' + 1) (nI s) (nI j) z = fX8_mixRows_b9 k2 w' (nI s) (nI (j + 1)) z2
      rw [fX8_mixRows_b9, if_neg hin, nI_clamp (show s < 2 ^ 31 by omega), hm4 z hz.1, if_neg (nI_ge hj (by omega)), hk z hz.1, Option.bind_some, e1, Option.bind_some, hp, Option.bind_some, e2, Option.bind_some, nI1]) (n s) (999 - n s + 1) (999 - n s + 1) 0 v z (by omega) h
  rw [show 999 - n s + 1 + n s = 1000 by omega, Nat.zero_add] at h2 h3
  refine ⟨v', z', h1, Eq.trans h2 ?_, Eq.trans h3 ?_⟩
  · show fX7_mixRows_b6 x (999 - n s + 1) (nI s) v' (nI (n s)) = _
    rw [hst, if_pos (nI_le (Nat.le_refl _) (by omega))]
  · show fX8_mixRows_b9 k2 (999 - n s + 1) (nI s) (nI (n s)) z' = _
    rw [fX8_mixRows_b9, if_neg hin, nI_clamp (show s < 2 ^ 31 by omega), hm4 z' h1.1, if_pos (nI_le (Nat.le_refl _) (by omega)), nI1]
theorem sm_digest : Sm_digest Rel := by
  intro k x m hk h
  obtain ⟨R, h8, h9⟩ := h.2.2.2.1
  have s0 : HV m 1373 (m.1, va_up m.2.1 61 1373, m.2.2) := ⟨⟨fun _ _ => rfl, fun _ _ => rfl⟩, rfl⟩
  obtain ⟨v1, z1, a1, a2, a3⟩ := dg_R h (s := 0) (by omega) (fX8_mixRows_b2 999) s0
  obtain ⟨v2, z2, b1, b2, b3⟩ := dg_R h (s := 1) (by omega) (fX8_mixRows_b2 998) a1
  obtain ⟨v3, z3, c1, c2, c3⟩ := dg_B h8 h9 b1
  obtain ⟨v4, z4, d1, d2, d3⟩ := digest_1 h hk c1
  have hr : fX8_mixRows (m.1, va_up m.2.1 61 1373, m.2.2) = some z2 := by
    unfold fX8_mixRows
    show fX8_mixRows_b2 (999 + 1) 0 _ = _
    rw [fX8_mixRows_b2, if_neg (show ¬ (2 : Int32) ≤ 0 by decide)]
    refine Eq.trans a3 ?_
    show fX8_mixRows_b2 (998 + 1) (nI 1) z1 = _
    rw [fX8_mixRows_b2, if_neg (show ¬ (2 : Int32) ≤ nI 1 by decide)]
    refine Eq.trans b3 ?_
    show fX8_mixRows_b2 (997 + 1) (nI 2) z2 = _
    rw [fX8_mixRows_b2, if_pos (show (2 : Int32) ≤ nI 2 by decide)]
  refine ⟨v4, (v4, z4), ?_, ?_, rfl, h.kp d3⟩
  · unfold fX7_digest
    rw [show fX7_mixRows x 1373 0 = some v1 from a2, Option.bind_some, show fX7_mixRows x v1 1 = some v2 from b2, Option.bind_some, c2]
    exact d1
  · unfold fX8_digest
    rw [hr, Option.bind_some, c3, Option.bind_some]
    exact d2
