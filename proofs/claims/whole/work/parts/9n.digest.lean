/-! digest -/
theorem upT {σ σ' τ τ' : Type} (F : Nat → Nat → σ → Option τ) (G : Nat → Nat → σ' → Option τ') (I : σ → σ' → Prop) (N : Nat) (hs : ∀ n n' j a b, j < N → I a b → ∃ a' b', I a' b' ∧ F (n + 1) j a = F n (j + 1) a' ∧ G (n' + 1) j b = G n' (j + 1) b') : ∀ d n n' j a b, j + d ≤ N → I a b → ∃ a' b', I a' b' ∧ F (n + d) j a = F n (j + d) a' ∧ G (n' + d) j b = G n' (j + d) b' := by
  intro d
  induction d with
  | zero => intro n n' j a b _ h; exact ⟨a, b, h, rfl, rfl⟩
  | succ d ih =>
    intro n n' j a b hj h
    obtain ⟨a', b', h1, h2, h3⟩ := hs (n + d) (n' + d) j a b (by omega) h
    obtain ⟨a'', b'', h4, h5, h6⟩ := ih n n' (j + 1) a' b' (by omega) h1
    refine ⟨a'', b'', h4, ?_, ?_⟩
    · rw [show n + (d + 1) = n + d + 1 by omega, h2, h5, show j + 1 + d = j + (d + 1) by omega]
    · rw [show n' + (d + 1) = n' + d + 1 by omega, h3, h6, show j + 1 + d = j + (d + 1) by omega]
/-- the hash so far is v -/
def HV (m : SX8) (v : Int64) (z : SX8) : Prop := Kp m z ∧ z.2.1 61 = v
theorem HV.mix {m z : SX8} {v : Int64} (h : HV m v z) (y : Int64) : ∃ z', fX8_mix z y = some z' ∧ HV m (31 * v + y) z' ∧ z'.1 = z.1 ∧ z'.2.2 = z.2.2 := by
  refine ⟨_, rfl, ⟨h.1, ?_⟩, rfl, rfl⟩
  show 31 * z.2.1 61 + y = _
  rw [h.2]
theorem mix_X (v y : Int64) : fX7_mix v y = some (31 * v + y) := rfl
section
variable {k : Nat} {x : SX7} {m : SX8}
/-- counts -/
theorem dg_4 (hR : Rel k x m) {v : Int64} {z : SX8} (h : HV m v z) : ∃ v' z', fX7_digest_b216 x 1000 v 0 = some v' ∧ fX8_digest_b78 1000 0 z = some (v', z') ∧ Kp m z' := by
  obtain ⟨v', z', h1, h2, h3⟩ := upT (fun w j (v : Int64) => fX7_digest_b216 x w v (nI j)) (fun w j (z : SX8) => fX8_digest_b78 w (nI j) z) (HV m) 10 (by
    intro w w' j v z hj hz
    obtain ⟨q, q1, q2⟩ := count_P (hR.kp hz.1) (nI j)
    obtain ⟨z', z1, z2, -⟩ := hz.mix q.toInt64
    refine ⟨_, z', z2, ?_, ?_⟩
    · show fX7_digest_b216 x (w + 1) v (nI j) = fX7_digest_b216 x w _ (nI (j + 1))
      rw [fX7_digest_b216, if_neg (show ¬ (9 : Int32) < nI j from nI_nlt (a := 9) (by omega) (by omega)), q1, Option.bind_some, mix_X, Option.bind_some, nI1]
    · show fX8_digest_b78 (w' + 1) (nI j) z = fX8_digest_b78 w' (nI (j + 1)) z'
      rw [fX8_digest_b78, if_neg (cl 10 hj (by omega)), q2, Option.bind_some, z1, Option.bind_some, nI1]) 10 990 990 0 v z (by omega) h
  refine ⟨v', z', Eq.trans h2 ?_, Eq.trans h3 ?_, h1.1⟩
  · show fX7_digest_b216 x (989 + 1) v' (nI 10) = _
    rw [fX7_digest_b216, if_pos (show (9 : Int32) < nI 10 by decide)]
  · show fX8_digest_b78 (989 + 1) (nI 10) z' = _
    rw [fX8_digest_b78, if_pos (show (10 : Int32) ≤ nI 10 by decide), h1.2]
/-- the page -/
theorem dg_3 (hR : Rel k x m) {v : Int64} {z : SX8} (h : HV m v z) : ∃ v' z', fX7_digest_b183 x 1000 v 0 = some v' ∧ fX8_digest_b51 1000 0 z = some (v', z') ∧ Kp m z' := by
  obtain ⟨L, g, hp⟩ := hR.1.pl
  have h36 := hp.1
  obtain ⟨v', z', h1, h2, h3⟩ := upT (fun w j (v : Int64) => fX7_digest_b183 x w v (nI j)) (fun w j (z : SX8) => fX8_digest_b51 w (nI j) z) (HV m) L (by
    intro w w' j v z hj hz
    obtain ⟨z', z1, z2, -⟩ := hz.mix (nI (g j)).toInt64
    refine ⟨_, z', z2, ?_, ?_⟩
    · show fX7_digest_b183 x (w + 1) v (nI j) = fX7_digest_b183 x w _ (nI (j + 1))
      rw [fX7_digest_b183, hp.2.1, if_neg (nI_ge hj (by omega)), codeAt_L hp hj, Option.bind_some, mix_X, Option.bind_some, nI1]
    · show fX8_digest_b51 (w' + 1) (nI j) z = fX8_digest_b51 w' (nI (j + 1)) z'
      rw [fX8_digest_b51, hz.1.1 9 (by omega), hp.2.2.1, if_neg (nI_ge hj (by omega)), if_neg (nI_in (show j < 36 by omega) (by omega)), nI_clamp (by omega), hz.1.2 10 (by omega), (hp.2.2.2 j hj).2.1, z1, Option.bind_some, nI1]) L (999 - L + 1) (999 - L + 1) 0 v z (by omega) h
  rw [show 999 - L + 1 + L = 1000 by omega, Nat.zero_add] at h2 h3
  obtain ⟨v'', z'', i1, i2, i3⟩ := dg_4 hR h1
  refine ⟨v'', z'', Eq.trans h2 ?_, Eq.trans h3 ?_, i3⟩
  · show fX7_digest_b183 x (999 - L + 1) v' (nI L) = _
    rw [fX7_digest_b183, hp.2.1, if_pos (nI_le (Nat.le_refl L) (by omega))]
    exact i1
  · show fX8_digest_b51 (999 - L + 1) (nI L) z' = _
    rw [fX8_digest_b51, h1.1.1 9 (by omega), hp.2.2.1, if_pos (nI_le (Nat.le_refl L) (by omega))]
    exact i2
/-- what is seen -/
theorem dg_2 (hR : Rel k x m) {v : Int64} {z : SX8} (h : HV m v z) : ∃ v' z', fX7_digest_b161 x v = some v' ∧ fX8_digest_b31 z = some (v', z') ∧ Kp m z' := by
  obtain ⟨a, a1, a2, a3⟩ := seen_P (hR.kp h.1).2.2.1
  obtain ⟨y, y1, y2, -⟩ := h.mix x.2.2.1.2.toInt64
  obtain ⟨b, b1, b2, b3⟩ := seen_P (hR.kp y2.1).2.2.1
  obtain ⟨u, u1, u2, -⟩ := y2.mix b.toInt64
  obtain ⟨v', z', i1, i2, i3⟩ := dg_3 hR u2
  have s0 : fX7_sorts x 0 = some x.2.2.1.2 := rfl
  have s1 : fX7_sorts x 1 = (fX4_bestQuestion x.2.2.1).bind fun q => some q := rfl
  refine ⟨v', z', ?_, ?_, i3⟩
  · unfold fX7_digest_b161
    rw [s0, Option.bind_some, mix_X, Option.bind_some, s1, b3, Option.bind_some, Option.bind_some, mix_X, Option.bind_some]
    exact i1
  · unfold fX8_digest_b31
    rw [a1, Option.bind_some, y1, Option.bind_some, b2, Option.bind_some, u1, Option.bind_some]
    exact i2
end
theorem Kp.tr {m z y : SX8} (h : Kp m z) (g : Kp z y) : Kp m y := ⟨fun i hi => (g.1 i hi).trans (h.1 i hi), fun i hi => (g.2 i hi).trans (h.2 i hi)⟩
theorem digest_1 {k : Nat} {x : SX7} {m : SX8} (hR : Rel k x m) (hk : k < 512) {v : Int64} {z : SX8} (h : HV m v z) : ∃ v' z', ((fX6_areThere x.2.1.1).bind fun q2 => if q2 = 0 then (fX7_digest_b161 x v) else ((fX7_spare x).bind fun q4 => (fX7_mix v (q4.toInt64)).bind fun q5 => fX7_digest_b161 x q5)) = some v' ∧ (if (z.1 0) ≤ 0 then (fX8_digest_b31 z) else ((fX8_spareNow z).bind fun q4 => (fX8_mix q4.2 (q4.1.toInt64)).bind fun q5 => fX8_digest_b31 q5)) = some (v', z') ∧ Kp m z' := by
  obtain ⟨c, h2, h3, h4, h5, h6⟩ := hR.2.1
  have e0 : z.1 0 = nI c := by rw [h.1.1 0 (by omega), h3]
  rcases there_c hk h2 h3 h5 with ⟨ec, a2, a3⟩ | ⟨hc, a2, a3, n, f, mem, kd, d1, d2, d3, d4, d5⟩
  · rw [a2, Option.bind_some, if_pos (show (0 : Int32) = 0 from rfl), e0, ec, if_pos (show nI 0 ≤ 0 by decide)]
    exact dg_2 hR h
  · have dz : MT n f mem kd z := d4.mv (h.1.1 1 (by omega)) (h.1.1 2 (by omega)) (h.1.2 3 (by omega)) (h.1.2 4 (by omega))
    obtain ⟨y, y1, y2⟩ := spareNow_M dz
    have hy : HV m v y := ⟨h.1.tr y2.kp, by rw [y2.2.1]; exact h.2⟩
    rw [a2, Option.bind_some, if_neg (show ¬ (1 : Int32) = 0 by decide), e0, if_neg (show ¬ nI c ≤ 0 from (nI_ge (show 0 < c by omega) (by omega) : ¬ nI c ≤ nI 0)), spare_X d3 a2, Option.bind_some, y1, Option.bind_some]
    generalize (if thr f (wk f 0 (n 0)) (wk f 1 (n 1)) ≤ 9 then nI (thr f (wk f 0 (n 0)) (wk f 1 (n 1))) else -1) = sv
    obtain ⟨u, u1, u2, -⟩ := hy.mix sv.toInt64
    rw [mix_X, Option.bind_some, u1, Option.bind_some]
    exact dg_2 hR u2
