theorem kwMaxC : (Cond.code Lib.Math.max.name Lib.Math.max.code 2 (some .int)) ∈ tb := tb_mem 391 (by decide +kernel) rfl
theorem kwMaxS : (Cond.static Lib.Math.max.name) ∈ tb := tb_mem 390 (by decide +kernel) rfl
theorem kwMaxI : (Cond.initialized "java/lang/Math") ∈ tb := tb_mem 118 (by decide +kernel) rfl
section Max
variable {p : Program} {l : Launch} {e : Env} {R : Room} {s : State} {m : MethodId} {args : Array Value} {below : List Frame} {meth : Method} {c : Code} {H : Heap} {locs : List Loc} {cells slots : Nat} {Q : State → Prop}
variable {own : String} {cc : ByteArray} {nL : Nat} {ret : Option FieldType} {d : Nat} {A : Nat → Prop} {g : Nat → Nat} {D : va_G} {tys : List (ClassId × FieldType)} {pc : Nat} {ls : Array Slot} {rest : List Value}
theorem kMax {idx : Nat} {x y : Int32} (B : Bd own cc nL ret d A g D tys p R s m args meth c) (hl : Cond.methodLink own idx Lib.Math.max.name ∈ tb) (hd : 1 ≤ d) (hr : (rest.map fun v => v.category).sum ≤ 8) (hls : ls.size = nL) (hcs : cells ≤ R.cells ∧ slots ≤ R.slots) (hdg : decode cc pc = .ok (.invokestatic idx, 3))
    (kk : W p l e R s m args below meth c H locs cells slots Q (F0 m (pc + 3) ls (.int (if x < y then y else x) :: rest))) : W p l e R s m args below meth c H locs cells slots Q (F0 m pc ls (.int y :: .int x :: rest)) := by
  obtain ⟨b1, b2, b3, b4, b5, b6, b7, b8, b9, b10, b11, b12⟩ := B
  exact va_mmax b1 b2 (b3.trans hls.symm) b4 (b5 _ hl) (b5 _ kwMaxS) (b5 _ kwMaxI) (b5 _ kwMaxC) (by omega) (by omega) hcs.1 hcs.2 hdg kk
end Max
theorem sw_out {x : Int32} (n : Nat) (hn : n < 2 ^ 31) (h : ∀ k, k < n → ¬ x = nI k) : x.toInt < 0 ∨ ((n : Int) - 1) < x.toInt := by
  rcases pk_ix x hn with q | q | ⟨j, q1, q2⟩
  · exact Or.inl (Int32.lt_iff_toInt_lt.mp q)
  · refine Or.inr ?_
    have q2 := Int32.le_iff_toInt_le.mp q
    rw [nI_toInt hn] at q2
    omega
  · exact absurd q2 (h j q1)
theorem lk_ne {x : Int32} (k : Int) (hk : (Int32.ofInt k).toInt = k) (h : ¬ x = Int32.ofInt k) : ¬ k = x.toInt := fun e => h (Int32.toInt_inj.mp (by rw [hk]; exact e.symm))
theorem kwMinC : (Cond.code Lib.Math.min.name Lib.Math.min.code 2 (some .int)) ∈ tb := tb_mem 394 (by decide +kernel) rfl
theorem kwMinS : (Cond.static Lib.Math.min.name) ∈ tb := tb_mem 393 (by decide +kernel) rfl
section Txt
variable {p : Program} {l : Launch} {e : Env} {R : Room} {s : State} {m : MethodId} {args : Array Value} {below : List Frame} {meth : Method} {c : Code} {H : Heap} {locs : List Loc} {cells slots : Nat} {Q : State → Prop}
variable {own : String} {cc : ByteArray} {nL : Nat} {ret : Option FieldType} {d : Nat} {A : Nat → Prop} {g : Nat → Nat} {D : va_G} {tys : List (ClassId × FieldType)} {pc : Nat} {ls : Array Slot} {rest : List Value} {w w1 : va_W}
theorem kMin {idx : Nat} {x y : Int32} (B : Bd own cc nL ret d A g D tys p R s m args meth c) (hl : Cond.methodLink own idx Lib.Math.min.name ∈ tb) (hd : 1 ≤ d) (hr : (rest.map fun v => v.category).sum ≤ 8) (hls : ls.size = nL) (hcs : cells ≤ R.cells ∧ slots ≤ R.slots) (hdg : decode cc pc = .ok (.invokestatic idx, 3))
    (kk : W p l e R s m args below meth c H locs cells slots Q (F0 m (pc + 3) ls (.int (if y < x then y else x) :: rest))) : W p l e R s m args below meth c H locs cells slots Q (F0 m pc ls (.int y :: .int x :: rest)) := by
  obtain ⟨b1, b2, b3, b4, b5, b6, b7, b8, b9, b10, b11, b12⟩ := B
  exact va_mmin b1 b2 (b3.trans hls.symm) b4 (b5 _ hl) (b5 _ kwMinS) (b5 _ kwMaxI) (b5 _ kwMinC) (by omega) (by omega) hcs.1 hcs.2 hdg kk
theorem Nt.coder {U : State} (h : Nt A g U) : va_OF "java/lang/String" "coder" "B" (.int 0) (g 1) A U U.heap := (h.2.2.2.2.1.1 0 (by decide)).2.1
theorem Nt.val {U : State} (h : Nt A g U) : va_OF "java/lang/String" "value" "[B" (.ref (g 2)) (g 1) A U U.heap := (h.2.2.2.2.1.1 0 (by decide)).2.2.1
theorem Nt.bytes {U : State} (h : Nt A g U) : va_T .byte (g 2) 5 (fun j => .int (klL.getD j 0)) A U U.heap := (h.2.2.2.2.1.1 0 (by decide)).2.2.2
theorem rB {v r : Int32} (B : Bd own cc nL (some .byte) d A g D tys p R s m args meth c) (X : Hx A D s.heap w H locs) (hw : w = w1) (hr : v = r) (hn : narrow .byte (.int v) = .int v) (hd : decode cc pc = .ok (.ireturn, 1)) :
    W p l e R s m args below meth c H locs 0 0 (MQ below (QI A D w1 r) args s 0 0 A) (F0 m pc ls [.int v]) := by
  subst hw; subst hr
  obtain ⟨b1, b2, b3, b4, b5, b6, b7, b8, b9, b10, -⟩ := B
  exact W.zret b1 b2 b9 hn (fun t ht hW => ⟨⟨v, (), rfl, rfl, by rw [ht]; exact X.1, X.2.1⟩, X.2.2.F ht⟩) X.2.2.2.2 hd b10
variable {y : MethodName} {cc' : ByteArray} {nL' n idx d' : Nat} {ret' : Option FieldType} {As : List Value} {Qc : Array Value → State → Outcome → State → Prop}
theorem cVS (B : Bd own cc nL ret d A g D tys p R s m args meth c) (X : Hx A D s.heap w H locs) (hM : Ct l y cc' nL' ret' d' A g D tys (.ref (g 1) :: As) w Qc) (F : MF y cc' nL' ret' n) (hl : Cond.methodLink own idx y ∈ tb) (hd : d' + 1 ≤ d) (hn : As.length = n)
    (hr : (rest.map fun v => v.category).sum ≤ 8) (hls : ls.size = nL) (hcs : cells ≤ R.cells ∧ slots ≤ R.slots) (hdg : decode cc pc = .ok (.invokevirtual idx, 3)) (hy : y.cls = "java/lang/String" := by rfl) :
    va_Run p l e R s m args below meth c H locs cells slots 0 0 (F0 m pc ls (As.reverse ++ .ref (g 1) :: rest)) rest (Qc (Value.ref (g 1) :: As).toArray) A := by
  have B0 := B
  obtain ⟨b1, b2, b3, b4, b5, b6, b7, b8, b9, b10, b11, b12⟩ := B
  obtain ⟨f1, f2, f3, f4, f5, f6⟩ := F
  exact va_runV (As := As) (rest := rest) ⟨b1, b2, b3, b4, b5⟩ hM ⟨callB_of n b5 (tb_good f1) rfl rfl rfl (b5 _ f4) (b5 _ hl) f5 (rmd_ok hd b11 b12 f6), b5 _ f2, b5 _ f3⟩ ⟨Pre0.blind, by rw [hy]; exact vk_recv (i := 0) b8.2.2.2.2.1 (by decide) X.2.2, fun U hU hW => ⟨rfl, Pre0.at B0 X hU hW⟩⟩ rfl hn hls rfl (lv_room hr) hdg hcs
end Txt
