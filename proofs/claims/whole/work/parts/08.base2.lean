theorem kwMaxC : (Cond.code Lib.Math.max.name Lib.Math.max.code 2 (some .int)) ∈ tb := tb_mem 391 (by decide +kernel) rfl
theorem kwMaxS : (Cond.static Lib.Math.max.name) ∈ tb := tb_mem 390 (by decide +kernel) rfl
theorem kwMaxI : (Cond.initialized "java/lang/Math") ∈ tb := tb_mem 118 (by decide +kernel) rfl
section Max
variable {p : Program} {l : Launch} {e : Env} {R : Room} {s : State} {m : MethodId} {args : Array Value} {below : List Frame} {meth : Method} {c : Code} {H : Heap} {locs : List Loc} {cells slots : Nat} {Q : State → Prop}
variable {own : String} {cc : ByteArray} {nL : Nat} {ret : Option FieldType} {d : Nat} {A : Nat → Prop} {g : Nat → Nat} {D : va_G} {tys : List (ClassId × FieldType)} {pc : Nat} {ls : Array Slot} {rest : List Value}
theorem kMax {idx : Nat} {x y : Int32} (B : Bd own cc nL ret d A g D tys p R s m args meth c) (hl : Cond.methodLink own idx Lib.Math.max.name ∈ tb) (hd : 1 ≤ d) (hr : (rest.map fun v => v.category).sum ≤ 8) (hls : ls.size = nL) (hcs : cells ≤ R.cells ∧ slots ≤ R.slots) (hdg : decode cc pc = .ok (.invokestatic idx, 3))
    (kk : W p l e R s m args below meth c H locs cells slots Q (F0 m (pc + 3) ls (.int (if x < y then y else x) :: rest))) : W p l e R s m args below meth c H locs cells slots Q (F0 m pc ls (.int y :: .int x :: rest)) := by
  obtain ⟨b1, b2, b3, b4, b5, b6, b7, b8, b9, b10, b11, b12⟩ := B
  exact va_mmax b1 b2 (b3.trans hls.symm) b4 (b5 _ hl) (b5 _ kwMaxS) (b5 _ kwMaxI) (b5 _ kwMaxC) (by omega) (by omega) hcs.1 hcs.2 hdg kk
end Max
theorem sw_out {x : Int32} (n : Nat) (hn : n < 2 ^ 31) (h : ∀ k, k < n → ¬ x = nI k) : x.toInt < 0 ∨ ((n : Int) - 1) < x.toInt := by
  rcases pk_ix x hn with q | q | ⟨j, q1, q2⟩
  · exact Or.inl (Int32.lt_iff_toInt_lt.mp q)
  · refine Or.inr ?_
    have q2 := Int32.le_iff_toInt_le.mp q
    rw [nI_toInt hn] at q2
    omega
  · exact absurd q2 (h j q1)
theorem lk_ne {x : Int32} (k : Int) (hk : (Int32.ofInt k).toInt = k) (h : ¬ x = Int32.ofInt k) : ¬ k = x.toInt := fun e => h (Int32.toInt_inj.mp (by rw [hk]; exact e.symm))
