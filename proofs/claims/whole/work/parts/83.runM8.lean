theorem shN_add : ∀ (a b : Nat) (R : RS), shN (a + b) R = shN b (shN a R) := by
  intro a
  induction a with
  | zero => intro b R; rw [Nat.zero_add]; rfl
  | succ a ih =>
    intro b R
    rw [show a + 1 + b = (a + b) + 1 by omega]
    exact ih b (sh1 R)
theorem sh_sh {d e : Nat} (h : d ≤ e) (R : RS) : sh d (sh e R) = sh d R := by
  obtain ⟨-, -, -, -, -, -, -, -, -, a10⟩ := shN_keep (R.1 2 - e) R
  unfold sh
  rw [a10]
  rcases Nat.le_total (R.1 2) e with q | q
  · rw [show R.1 2 - e = 0 by omega]
    rfl
  · rw [← shN_add]
    congr 1
    omega
theorem sh_off {d : Nat} {R : RS} : (sh d R).2.2.2 = R.2.2.2 := by
  obtain ⟨-, -, -, -, -, -, -, a8, -, -⟩ := shN_keep (R.1 2 - d) R
  unfold sh
  rw [a8]
theorem sh_2 {d : Nat} {R : RS} (h : d ≤ R.1 2) : (sh d R).1 2 = d := by
  obtain ⟨-, -, -, -, -, -, -, -, -, a10⟩ := shN_keep (R.1 2 - d) R
  unfold sh
  rw [a10]
  omega
theorem gon_NN {t : Nat → Nat → RS → RS} {s b p : Nat} {R : RS} (ht : ∀ Q, NN Q → NN (t (if s = 0 then b else p) (if s = 0 then p else b) Q)) (h : NN R) : NN (gon t s b p R) := by
  unfold gon
  split
  · exact h
  · exact ht _ (ad_NN (by omega) h)
theorem tn_NN {n : Nat → Nat} {f : Nat → Nat → Int32} {kd lim mem : Nat} : ∀ (k lv l r : Nat) (R : RS), NN R → NN (tn n f kd lim mem k lv l r R) := by
  intro k
  induction k with
  | zero => intro lv l r R h; exact h
  | succ k ih =>
    intro lv l r R h
    rw [tn_eq]
    split
    · exact sh_NN (ho_NN (ent_NN (by omega) h))
    · split
      · exact sh_NN (bk_NN (ent_NN (by omega) h))
      · refine sh_NN ?_
        have h1 : NN (ent lv (bsd l r) 7 (opn 2 R)) := ent_NN (by omega) h
        unfold sp sp7 sp6 sp5 sp4 sp3
        have a3 : ∀ (st b p : Nat) (Q : RS), NN Q → NN (if st = 0 then Q else spl b p Q) := by
          intro st b p Q hQ
          split
          · exact hQ
          · exact spl_NN hQ
        have a4 : ∀ (st b p : Nat) (Q : RS), NN Q → NN (if st = 1 then Q else spl b p Q) := by
          intro st b p Q hQ
          split
          · exact hQ
          · exact spl_NN hQ
        have a5 : ∀ (st s b0 p0 b1 p1 : Nat) (Q : RS), NN Q → NN (if st = 0 then ho n f kd lim s b0 p0 Q else if st = 1 then ho n f kd lim s b1 p1 Q else Q) := by
          intro st s b0 p0 b1 p1 Q hQ
          split
          · exact ho_NN hQ
          · split
            · exact ho_NN hQ
            · exact hQ
        have a6 : ∀ (st s b p : Nat) (Q : RS), NN Q → NN (if st = 0 then Q else gon (tn n f kd lim mem k (lv + 1)) s b p Q) := by
          intro st s b p Q hQ
          split
          · exact hQ
          · exact gon_NN (fun Q' h' => ih _ _ _ Q' h') hQ
        have a7 : ∀ (st s b p : Nat) (Q : RS), NN Q → NN (if st = 1 then Q else gon (tn n f kd lim mem k (lv + 1)) s b p Q) := by
          intro st s b p Q hQ
          split
          · exact hQ
          · exact gon_NN (fun Q' h' => ih _ _ _ Q' h') hQ
        exact a7 _ _ _ _ _ (a6 _ _ _ _ _ (a5 _ _ _ _ _ _ _ (a4 _ _ _ _ (a3 _ _ _ _ h1))))
theorem tA_NN {n : Nat → Nat} {f : Nat → Nat → Int32} {kd lim mem lv l r : Nat} {R : RS} (h : NN R) : NN (tA n f kd lim mem lv l r R) := by
  unfold tA
  split
  · exact ho_NN (ent_NN (by omega) h)
  · split
    · exact bk_NN (ent_NN (by omega) h)
    · have h1 : NN (ent lv (bsd l r) 7 (opn 2 R)) := ent_NN (by omega) h
      have a3 : ∀ (st b p : Nat) (Q : RS), NN Q → NN (sp3 st b p Q) := by
        intro st b p Q hQ
        unfold sp3
        split
        · exact hQ
        · exact spl_NN hQ
      have a4 : ∀ (st b p : Nat) (Q : RS), NN Q → NN (sp4 st b p Q) := by
        intro st b p Q hQ
        unfold sp4
        split
        · exact hQ
        · exact spl_NN hQ
      have a5 : ∀ (st s b0 b1 p0 p1 : Nat) (Q : RS), NN Q → NN (sp5 n f kd lim s st b0 b1 p0 p1 Q) := by
        intro st s b0 b1 p0 p1 Q hQ
        unfold sp5
        split
        · exact ho_NN hQ
        · split
          · exact ho_NN hQ
          · exact hQ
      exact a5 _ _ _ _ _ _ _ (a4 _ _ _ _ (a3 _ _ _ _ h1))
/-- what the halves that go on may need -/
def nH (f : Nat → Nat → Int32) (l r lv w : Nat) : Nat := nd (hf f 0 l lv w) (hf f 1 r lv w)
theorem nH_eq {f : Nat → Nat → Int32} {s l r lv w : Nat} (hs : s < 2) : nd (hB f s l r lv w) (hP f s l r lv w) = nH f l r lv w := by
  rcases (show s = 0 ∨ s = 1 by omega) with rfl | rfl
  · rfl
  · exact nd_comm _ _
def nN (f : Nat → Nat → Int32) (l r lv st nx : Nat) : Nat := (if nx = 0 ∧ st ≠ 0 then nH f l r lv 0 else 0) + (if nx ≤ 1 ∧ st ≠ 1 then nH f l r lv 1 else 0)
theorem tA_TP {n : Nat → Nat} {f : Nat → Nat → Int32} {kd lim mem lv l r : Nat} (hl : Sb n f 0 l) (hr : Sb n f 1 r) (R : RS) : TP lim (nd l r) 5 5 R (tA n f kd lim mem lv l r R) ∧ (¬ spt f mem lv l r → (tA n f kd lim mem lv l r R).1 2 = R.1 2 + 1) ∧ (spt f mem lv l r → NN R → CO lim (nd l r) R → CO lim (nN f l r lv (rsM f mem (bsd l r) l r lv) 0) (tA n f kd lim mem lv l r R)) := by
  have hs := bsd_lt l r
  have hnd : nd (bmm l r) (pmm l r) = nd l r := nd_if (bsd l r) l r
  have en2 : ∀ (j : Nat) (w : Int32), (ent lv (bsd l r) j (opn w R)).1 2 = R.1 2 + 1 := by
    intro j w
    rw [ent_2]
    rfl
  by_cases c1 : cnt (bmm l r) ≤ mem
  · have eA : tA n f kd lim mem lv l r R = ho n f kd lim (bsd l r) (bmm l r) (pmm l r) (ent lv (bsd l r) 5 (opn 0 R)) := if_pos c1
    rw [eA]
    have hg := ho_Gr (n := n) (f := f) (kd := kd) (lim := lim) (s := bsd l r) (bm := bmm l r) (pm := pmm l r)
    refine ⟨?_, fun _ => (hg _).2.2.2.1.trans (en2 5 0), fun z => absurd c1 z.1⟩
    have q := ((opn_TP (lim := lim) 0 R).tr (ent_TP (lv := lv) (s := bsd l r) (j := 5) _)).tr (TP.of hg _)
    rw [hnd] at q
    exact q.le (by omega) (by omega) (by omega)
  · by_cases c2 : lv = 4 ∨ oneK f (bsd l r) (bmm l r) = true
    · have eA : tA n f kd lim mem lv l r R = bk n f kd lim mem (bsd l r) (bmm l r) (pmm l r) (ent lv (bsd l r) 6 (opn 1 R)) := by
        unfold tA
        rw [if_neg c1, if_pos c2]
      rw [eA]
      have hg := bk_Gr (n := n) (f := f) (kd := kd) (lim := lim) (mem := mem) (s := bsd l r) (bm := bmm l r) (pm := pmm l r)
      refine ⟨?_, fun _ => (hg _).2.2.2.1.trans (en2 6 1), fun z => absurd c2 z.2⟩
      have q := ((opn_TP (lim := lim) 1 R).tr (ent_TP (lv := lv) (s := bsd l r) (j := 6) _)).tr (TP.of hg _)
      rw [hnd] at q
      exact q.le (by omega) (by omega) (by omega)
    · have hSb : bmm l r < 16384 := by unfold bmm; split; exact hl.1; exact hr.1
      have hSp : pmm l r < 16384 := by unfold pmm; split; exact hr.1; exact hl.1
      have hsp := nd_split (f := f) (s := bsd l r) (lv := lv) hSb hSp
      rw [hnd] at hsp
      have hsp' : nd (hB f (bsd l r) l r lv 0) (hP f (bsd l r) l r lv 0) + nd (hB f (bsd l r) l r lv 1) (hP f (bsd l r) l r lv 1) ≤ nd l r := hsp
      have eA : tA n f kd lim mem lv l r R = sp5 n f kd lim (bsd l r) (rsd mem (cnt (hB f (bsd l r) l r lv 0)) (cnt (hB f (bsd l r) l r lv 1))) (hB f (bsd l r) l r lv 0) (hB f (bsd l r) l r lv 1) (hP f (bsd l r) l r lv 0) (hP f (bsd l r) l r lv 1) (sp4 (rsd mem (cnt (hB f (bsd l r) l r lv 0)) (cnt (hB f (bsd l r) l r lv 1))) (hB f (bsd l r) l r lv 1) (hP f (bsd l r) l r lv 1) (sp3 (rsd mem (cnt (hB f (bsd l r) l r lv 0)) (cnt (hB f (bsd l r) l r lv 1))) (hB f (bsd l r) l r lv 0) (hP f (bsd l r) l r lv 0) (ent lv (bsd l r) 7 (opn 2 R)))) := by
        unfold tA
        rw [if_neg c1, if_neg c2]
      have q1 := (opn_TP (lim := lim) 2 R).tr (ent_TP (lv := lv) (s := bsd l r) (j := 7) _)
      have q3 : ∀ (st : Nat) (Q : RS), TP lim 0 2 2 Q (sp3 st (hB f (bsd l r) l r lv 0) (hP f (bsd l r) l r lv 0) Q) := by
        intro st Q
        unfold sp3
        split
        · exact TP.rf _ _ _ Q
        · exact spl_TP Q
      have q4 : ∀ (st : Nat) (Q : RS), TP lim 0 2 2 Q (sp4 st (hB f (bsd l r) l r lv 1) (hP f (bsd l r) l r lv 1) Q) := by
        intro st Q
        unfold sp4
        split
        · exact TP.rf _ _ _ Q
        · exact spl_TP Q
      have hN4 : NN R → ∀ st, NN (sp4 st (hB f (bsd l r) l r lv 1) (hP f (bsd l r) l r lv 1) (sp3 st (hB f (bsd l r) l r lv 0) (hP f (bsd l r) l r lv 0) (ent lv (bsd l r) 7 (opn 2 R)))) := by
        intro h st
        have h1 : NN (ent lv (bsd l r) 7 (opn 2 R)) := ent_NN (by omega) h
        have h3 : NN (sp3 st (hB f (bsd l r) l r lv 0) (hP f (bsd l r) l r lv 0) (ent lv (bsd l r) 7 (opn 2 R))) := by
          unfold sp3
          split
          · exact h1
          · exact spl_NN h1
        unfold sp4
        split
        · exact h3
        · exact spl_NN h3
      have q14 := (q1.tr (q3 (rsd mem (cnt (hB f (bsd l r) l r lv 0)) (cnt (hB f (bsd l r) l r lv 1))) _)).tr (q4 (rsd mem (cnt (hB f (bsd l r) l r lv 0)) (cnt (hB f (bsd l r) l r lv 1))) _)
      rw [eA]
      refine ⟨?_, fun z => absurd ⟨c1, c2⟩ z, fun _ hN hc => ?_⟩
      · have q5 : ∀ (st : Nat) (Q : RS), TP lim (nd l r) 0 0 Q (sp5 n f kd lim (bsd l r) st (hB f (bsd l r) l r lv 0) (hB f (bsd l r) l r lv 1) (hP f (bsd l r) l r lv 0) (hP f (bsd l r) l r lv 1) Q) := by
          intro st Q
          unfold sp5
          split
          · exact (TP.of ho_Gr Q).le (by omega) (by omega) (by omega)
          · split
            · exact (TP.of ho_Gr Q).le (by omega) (by omega) (by omega)
            · exact TP.rf _ _ _ Q
        exact (q14.tr (q5 _ _)).le (by omega) (by omega) (by omega)
      · rw [← sp5_eq hs (hN4 hN _)]
        rw [nH_eq hs, nH_eq hs] at hsp'
        have hst := rsM_lt (f := f) (mem := mem) (s := bsd l r) (l := l) (r := r) (lv := lv)
        unfold nN
        have hc4 := (show CO lim (0 + 0 + 0 + 0 + (nH f l r lv 0 + nH f l r lv 1)) R from hc.le (by omega)).tp q14
        generalize rsM f mem (bsd l r) l r lv = st' at *
        by_cases e2 : st' = 2
        · rw [if_pos e2, if_pos ⟨rfl, by omega⟩, if_pos ⟨by omega, by omega⟩]
          exact hc4
        · rw [if_neg e2]
          have hg := TP.of (ho_Gr (n := n) (f := f) (kd := kd) (lim := lim) (s := bsd l r) (bm := hB f (bsd l r) l r lv st') (pm := hP f (bsd l r) l r lv st'))
          rcases (show st' = 0 ∨ st' = 1 by omega) with e | e
          · rw [if_neg (by omega), if_pos ⟨by omega, by omega⟩]
            subst e
            have hg0 := hg (sp4 (rsd mem (cnt (hB f (bsd l r) l r lv 0)) (cnt (hB f (bsd l r) l r lv 1))) (hB f (bsd l r) l r lv 1) (hP f (bsd l r) l r lv 1) (sp3 (rsd mem (cnt (hB f (bsd l r) l r lv 0)) (cnt (hB f (bsd l r) l r lv 1))) (hB f (bsd l r) l r lv 0) (hP f (bsd l r) l r lv 0) (ent lv (bsd l r) 7 (opn 2 R))))
            rw [nH_eq hs] at hg0
            exact (hc4.tp hg0).le (by omega)
          · rw [if_pos ⟨rfl, by omega⟩, if_neg (by omega)]
            subst e
            have hg0 := hg (sp4 (rsd mem (cnt (hB f (bsd l r) l r lv 0)) (cnt (hB f (bsd l r) l r lv 1))) (hB f (bsd l r) l r lv 1) (hP f (bsd l r) l r lv 1) (sp3 (rsd mem (cnt (hB f (bsd l r) l r lv 0)) (cnt (hB f (bsd l r) l r lv 1))) (hB f (bsd l r) l r lv 0) (hP f (bsd l r) l r lv 0) (ent lv (bsd l r) 7 (opn 2 R))))
            rw [nH_eq hs] at hg0
            exact ((hc4.le (show nH f l r lv 1 + nH f l r lv 0 ≤ _ by omega)).tp hg0).le (by omega)
