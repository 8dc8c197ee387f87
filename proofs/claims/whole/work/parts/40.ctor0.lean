/-! CONSTRUCTORS: an object under construction is the last cell of its world; behind it come the cells that it makes. -/
def rmn (d mc ms : Nat) : Room := { frames := d, cells := mc, slots := ms, locals := 40 * d }
def Ctn (l : Launch) (y : MethodName) (cc : ByteArray) (nL : Nat) (d mc ms : Nat) (A : Nat → Prop) (g : Nat → Nat) (D : va_G) (tys : List (ClassId × FieldType)) (av : List Value) (w0 : va_W) (Qc : Array Value → State → Outcome → State → Prop) : Prop :=
  Met l y (.code y cc nL none :: tb) (rmn d mc ms) (va_Pc av (Pre0 A g D tys w0)) Qc mc ms A
theorem kwOC : (Cond.code objectInit ⟨#[0xb1]⟩ 1 none) ∈ tb := tb_mem 131 (by decide +kernel) rfl
theorem pA {pre l : va_W} {k : Nat} {x : Nat × va_E} (h : l[k]? = some x) : (pre ++ l)[pre.length + k]? = some x := by
  rw [List.getElem?_append_right (by omega)]
  rw [show pre.length + k - pre.length = k by omega]
  exact h
theorem sA {pre l l' : va_W} {k : Nat} {x : Nat × va_E} (h : l.set k x = l') : (pre ++ l).set (pre.length + k) x = pre ++ l' := by
  rw [List.set_append_right _ _ (by omega)]
  rw [show pre.length + k - pre.length = k by omega, h]
theorem mkN {l : Launch} {y : MethodName} {cc : ByteArray} {nL : Nat} {d mc ms : Nat} {A : Nat → Prop} {g : Nat → Nat} {D : va_G} {tys : List (ClassId × FieldType)} {av : List Value} {w0 : va_W} {Qc : Array Value → State → Outcome → State → Prop}
    (hy : plainName y.cls = true) (hn : (lg_sl av).length ≤ nL)
    (body : ∀ (p : Program) (e : Env) (s : State) (m : MethodId) (args : Array Value) (below : List Frame) (meth : Method) (c : Code), Bd y.cls cc nL none d A g D tys p (rmn d mc ms) s m args meth c → meth.name = y.name → Hx A D s.heap w0 s.heap [] → ∀ ls : Array Slot, lv_has ls nL (lv_args 0 av) →
      W p l e (rmn d mc ms) s m args below meth c s.heap [] 0 0 (MQ below Qc args s mc ms A) (F0 m 0 ls [])) : Ctn l y cc nL d mc ms A g D tys av w0 Qc := by
  unfold Ctn
  refine Met.ofW (cc := cc) (maxL := nL) (ret := none) hy rfl ?_
  intro p e s m args below meth c s₁ B hml hv
  obtain ⟨rfl, qP, qD, qK, qA, qN⟩ := hv
  have hts := atoms_spec (ws := .code y cc nL none :: tb) B.pre
  have hl := lv_entry av (n := nL) hn
  rw [lg_entry_eq]
  exact body p e s m av.toArray below meth c ⟨B.exec, B.bytes, hml, findClass_of_methodNamed B.named, fun w h => hts w (List.mem_cons_of_mem _ h), qK, qA, qN, B.returns, B.notSynchronized, Nat.le_refl _, Nat.le_refl _⟩ (name_of_methodNamed B.named B.method).1 ⟨qP, qD, va_S.rf⟩ _ hl
section RowsN
variable {p : Program} {l : Launch} {e : Env} {R : Room} {s : State} {m : MethodId} {args : Array Value} {below : List Frame} {meth : Method} {c : Code} {H : Heap} {locs : List Loc} {cells slots : Nat} {Q : State → Prop}
variable {own : String} {cc : ByteArray} {nL : Nat} {ret : Option FieldType} {d : Nat} {A : Nat → Prop} {g : Nat → Nat} {D : va_G} {cI cB : ClassId} {w w1 pre lc : va_W} {pc : Nat} {ls : Array Slot} {rest : List Value} {a : Nat}
theorem oI {idx : Nat} (B : Bd own cc nL ret d A g D [(cI, .int), (cB, .byte)] p R s m args meth c) (hl : Cond.methodLink own idx objectInit ∈ tb) (hd : 1 ≤ d) (hls : ls.size = nL) (hr : (rest.map fun v => v.category).sum ≤ 8) (hdg : decode cc pc = .ok (.invokespecial idx, 3))
    (kk : W p l e R s m args below meth c H locs cells slots Q (F0 m (pc + 3) ls rest)) : W p l e R s m args below meth c H locs cells slots Q (F0 m pc ls (.ref a :: rest)) := by
  obtain ⟨b1, b2, b3, b4, b5, b6, b7, b8, b9, b10, b11, b12⟩ := B
  refine W.objInit b1 b2 b4 (b5 _ hl) (b5 _ kw130) (b5 _ kwOC) rfl (by rw [b3]; exact hls) rfl hdg (by omega) ?_ ?_
  · have := lv_room (m := m) (pc := pc) (ls := ls) (rest := .ref a :: rest) hr
    omega
  · exact W.eq (g2 := F0 m (pc + 3) ls rest) rfl kk
theorem nwO {C : String} {T : u_T} {N ci idx : Nat} {fs : List Value} (ty : Nat → FieldType) (B : Bd own cc nL ret d A g D [(cI, .int), (cB, .byte)] p R s m args meth c) (X : Hx A D s.heap (pre ++ lc) H locs) (hc : vwCl[ci]? = some (C, T, N)) (hin : ∀ w ∈ u_ws C T N, w ∈ tb) (hty : ∀ k, k < N → parseFieldDescriptor (T k).2.2.1 = some (ty k)) (hl : Cond.classLink own idx C ∈ tb) (hi : Cond.instantiable C N ∈ tb) (hini : Cond.initialized C ∈ tb) (hfs : ∀ j, j < N → defaultValue (ty j) = vp_V fs j) (hcells : cells + 1 ≤ R.cells) (hslots : slots + N ≤ R.slots) (hdg : decode cc pc = .ok (.new idx, 3))
    (kk : ∀ (q : Nat) (H1 : Heap), Hx A D s.heap (pre ++ (lc ++ [(q, .inr (ci, fs))])) H1 locs → W p l e R s m args below meth c H1 locs (cells + 1) (slots + N) Q (F0 m (pc + 3) ls (.ref q :: rest))) : W p l e R s m args below meth c H locs cells slots Q (F0 m pc ls rest) := by
  obtain ⟨b1, b2, b3, b4, b5, b6, b7, b8, b9, b10, b11, b12⟩ := B
  refine va_new (fs := fs) b1 b2 b5 hin ty hty b4 (b5 _ hl) (b5 _ hi) (b5 _ hini) b6 X.1 X.2.1 X.2.2 b7 hc hfs hcells hslots hdg (fun q H1 q1 q2 q3 => kk q H1 ?_)
  rw [← List.append_assoc]
  exact ⟨q1, q2, q3⟩
theorem nwI {n : Int32} {N : Nat} (B : Bd own cc nL ret d A g D [(cI, .int), (cB, .byte)] p R s m args meth c) (X : Hx A D s.heap (pre ++ lc) H locs) (hn : ¬ n < 0) (hN : n.toNatClampNeg = N) (hb : N ≤ 1000) (hcells : cells + 1 ≤ R.cells) (hslots : slots + N ≤ R.slots) (hdg : decode cc pc = .ok (.newarray .int, 2))
    (kk : ∀ (q : Nat) (H1 : Heap), Hx A D s.heap (pre ++ (lc ++ [(q, .inl (cI, N, .inl (fun _ => 0)))])) H1 locs → W p l e R s m args below meth c H1 locs (cells + 1) (slots + N) Q (F0 m (pc + 2) ls (.ref q :: rest))) : W p l e R s m args below meth c H locs cells slots Q (F0 m pc ls (.int n :: rest)) := by
  obtain ⟨b1, b2, b3, b4, b5, b6, b7, b8, b9, b10, b11, b12⟩ := B
  refine va_newa (atype := .int) (ty := .int) (a0 := (N, .inl (fun _ => 0))) b1 b2 (b5 _ kw146) rfl b6 X.1 X.2.1 X.2.2 b7 (fun _ => rfl) hn hN (by show N * 4 ≤ 536870912; omega) hcells hslots hdg (fun q cA H1 q0 q1 q2 q3 => ?_)
  have e1 := (q0.2 0 _ rfl).2
  have e2 := (q0.2 2 _ rfl).2
  have e3 : cA = cI := Option.some.inj (Eq.trans (Eq.symm e2) e1)
  subst e3
  refine kk q H1 ?_
  rw [← List.append_assoc]
  exact ⟨q1, q2, q3⟩
theorem nwB {n : Int32} {N : Nat} (B : Bd own cc nL ret d A g D [(cI, .int), (cB, .byte)] p R s m args meth c) (X : Hx A D s.heap (pre ++ lc) H locs) (hn : ¬ n < 0) (hN : n.toNatClampNeg = N) (hb : N ≤ 1000) (hcells : cells + 1 ≤ R.cells) (hslots : slots + N ≤ R.slots) (hdg : decode cc pc = .ok (.newarray .byte, 2))
    (kk : ∀ (q : Nat) (H1 : Heap), Hx A D s.heap (pre ++ (lc ++ [(q, .inl (cB, N, .inl (fun _ => 0)))])) H1 locs → W p l e R s m args below meth c H1 locs (cells + 1) (slots + N) Q (F0 m (pc + 2) ls (.ref q :: rest))) : W p l e R s m args below meth c H locs cells slots Q (F0 m pc ls (.int n :: rest)) := by
  obtain ⟨b1, b2, b3, b4, b5, b6, b7, b8, b9, b10, b11, b12⟩ := B
  refine va_newa (atype := .byte) (ty := .byte) (a0 := (N, .inl (fun _ => 0))) b1 b2 (b5 _ kw450) rfl b6 X.1 X.2.1 X.2.2 b7 (fun _ => rfl) hn hN (by show N * 1 ≤ 536870912; omega) hcells hslots hdg (fun q cA H1 q0 q1 q2 q3 => ?_)
  have e1 := (q0.2 1 _ rfl).2
  have e2 := (q0.2 2 _ rfl).2
  have e3 : cA = cB := Option.some.inj (Eq.trans (Eq.symm e2) e1)
  subst e3
  refine kk q H1 ?_
  rw [← List.append_assoc]
  exact ⟨q1, q2, q3⟩
theorem fF {C : String} {T : u_T} {N ci idx : Nat} {fs : List Value} {v : Value} (ty0 : Nat → FieldType) {ty : FieldType} (B : Bd own cc nL ret d A g D [(cI, .int), (cB, .byte)] p R s m args meth c) (hin2 : meth.name = "<init>") (X : Hx A D s.heap w H locs) {q0 : Nat} (he : w[q0]? = some (a, .inr (ci, fs))) (k : Nat) (hs : w.set q0 (a, .inr (ci, fs.set k v)) = w1) (hc : vwCl[ci]? = some (C, T, N)) (hin : ∀ w ∈ u_ws C T N, w ∈ tb) (hty : ∀ k, k < N → parseFieldDescriptor (T k).2.2.1 = some (ty0 k)) (hnm : ∀ a, a < N → ∀ b, b < N → a ≠ b → (T a).2.1 ≠ (T b).2.1) (hk : k < N)
    (hl : Cond.fieldLink own idx (T k).1 (T k).2.1 (T k).2.2.1 ∈ tb) (hfin : (T k).2.2.2 = true) (hdecl : (T k).1 = own) (hyk : ty0 k = ty) (hn : narrow ty v = v) (hfit : fits ty v = true) (hlen : k < fs.length) (hdg : decode cc pc = .ok (.putfield idx, 3)) (kk : ∀ (H1 : Heap) (locs1 : List Loc), Hx A D s.heap w1 H1 locs1 → W p l e R s m args below meth c H1 locs1 cells slots Q (F0 m (pc + 3) ls rest)) :
    W p l e R s m args below meth c H locs cells slots Q (F0 m pc ls (v :: .ref a :: rest)) := by
  obtain ⟨b1, b2, b3, b4, b5, b6, -⟩ := B
  subst hs
  exact va_putF b1 b2 b5 hin ty0 hty hnm b4 b6 X.1 X.2.1 X.2.2 q0 he hc k hk (b5 _ hl) (fun _ h => h) hfin hin2 hdecl ((hty k hk).trans (congrArg some hyk)) hn hfit hlen hdg (fun H1 locs1 q1 q2 q3 => kk H1 locs1 ⟨q1, q2, q3⟩)
variable {y : MethodName} {cc' : ByteArray} {nL' idx d' mc ms b : Nat} {host : String} {Qc : Array Value → State → Outcome → State → Prop}
abbrev QN (A : Nat → Prop) (D : va_G) (b : Nat) (w : (Nat → Nat) → va_W) : Array Value → State → Outcome → State → Prop := va_Qv (fun u : Nat → Nat => u 0 = b) (fun u => Pos0 A D (w u)) A
def MI (y : MethodName) (cc : ByteArray) (nL : Nat) : Prop :=
  Cond.code y cc nL none ∈ tb ∧ Cond.instanceMethod y ∈ tb ∧ Cond.initialized y.cls ∈ tb ∧ (y.cls ≠ "java/lang/invoke/MethodHandle" ∧ y.cls ≠ "java/lang/invoke/VarHandle" ∧ (parseMethodDescriptor y.desc).map (fun d => d.parameters.length) = some 0) ∧ nL ≤ 21 ∧ y.name = "<init>"
theorem kN {e0 : va_E} {wr : (Nat → Nat) → va_W} (B : Bd own cc nL ret d A g D [(cI, .int), (cB, .byte)] p R s m args meth c) (X : Hx A D s.heap (pre ++ (lc ++ [(b, e0)])) H locs) (hM : Ctn l y cc' nL' d' mc ms A g D [(cI, .int), (cB, .byte)] [.ref b] ((pre ++ lc) ++ [(b, e0)]) (QN A D b (fun u => (pre ++ lc) ++ wr u))) (F : MI y cc' nL') (hl : Cond.methodLinkNest own idx y host ∈ nst) (hd : d' + 1 ≤ d)
    (hr : (rest.map fun v => v.category).sum ≤ 8) (hls : ls.size = nL) (hcs : cells + mc ≤ R.cells ∧ slots + ms ≤ R.slots) (hdg : decode cc pc = .ok (.invokespecial idx, 3))
    (kk : ∀ (u : Nat → Nat) (H1 : Heap) (locs1 : List Loc), u 0 = b → Hx A D s.heap (pre ++ (lc ++ wr u)) H1 locs1 → W p l e R s m args below meth c H1 locs1 (cells + mc) (slots + ms) Q (F0 m (pc + 3) ls rest)) : W p l e R s m args below meth c H locs cells slots Q (F0 m pc ls (.ref b :: rest)) := by
  have B0 := B
  rw [← List.append_assoc] at X
  obtain ⟨b1, b2, b3, b4, b5, b6, b7, b8, b9, b10, b11, b12⟩ := B
  obtain ⟨f1, f2, f4, f5, f6, f7⟩ := F
  refine va_callv (va_runIN (As := []) (rest := rest) ⟨b1, b2, b3, b4, b5⟩ hM ⟨va_cnB 0 b5 (tb_good f1) rfl rfl rfl (b8.1 _ hl) (b5 _ f4) f5 (rmd_ok hd b11 b12 f6), f7, b5 _ f2⟩ ⟨Pre0.blind, fun U hU hW => ⟨rfl, Pre0.at B0 X hU hW⟩⟩ rfl rfl hls rfl (lv_room hr) hdg hcs) X.2.2 (fun _ _ h => h) (fun _ h => h) (fun u t H1 locs1 ht hvm hw hB hz hk hS => ?_)
  refine kk u H1 locs1 hw ?_
  rw [← List.append_assoc]
  exact ⟨by rw [← ht]; exact hB.1, hB.2, hS⟩
theorem kNP {e0 : va_E} {wr : (Nat → Nat) → va_W} (B : Bd own cc nL ret d A g D [(cI, .int), (cB, .byte)] p R s m args meth c) (X : Hx A D s.heap (pre ++ [(b, e0)]) H locs) (hM : Ctn l y cc' nL' d' mc ms A g D [(cI, .int), (cB, .byte)] [.ref b] (pre ++ [(b, e0)]) (QN A D b (fun u => pre ++ wr u))) (F : MI y cc' nL') (hl : Cond.methodLink own idx y ∈ tb) (hd : d' + 1 ≤ d)
    (hr : (rest.map fun v => v.category).sum ≤ 8) (hls : ls.size = nL) (hcs : cells + mc ≤ R.cells ∧ slots + ms ≤ R.slots) (hdg : decode cc pc = .ok (.invokespecial idx, 3))
    (kk : ∀ (u : Nat → Nat) (H1 : Heap) (locs1 : List Loc), u 0 = b → Hx A D s.heap (pre ++ wr u) H1 locs1 → W p l e R s m args below meth c H1 locs1 (cells + mc) (slots + ms) Q (F0 m (pc + 3) ls rest)) : W p l e R s m args below meth c H locs cells slots Q (F0 m pc ls (.ref b :: rest)) := by
  have B0 := B
  obtain ⟨b1, b2, b3, b4, b5, b6, b7, b8, b9, b10, b11, b12⟩ := B
  obtain ⟨f1, f2, f4, f5, f6, f7⟩ := F
  refine va_callv (va_runI (As := []) (rest := rest) ⟨b1, b2, b3, b4, b5⟩ hM ⟨callB_of 0 b5 (tb_good f1) rfl rfl rfl (b5 _ f4) (b5 _ hl) f5 (rmd_ok hd b11 b12 f6), f7, b5 _ f2⟩ ⟨Pre0.blind, fun U hU hW => ⟨rfl, Pre0.at B0 X hU hW⟩⟩ rfl rfl hls rfl (lv_room hr) hdg hcs) X.2.2 (fun _ _ h => h) (fun _ h => h) (fun u t H1 locs1 ht hvm hw hB hz hk hS => ?_)
  exact kk u H1 locs1 hw ⟨by rw [← ht]; exact hB.1, hB.2, hS⟩
theorem rN {wr : (Nat → Nat) → va_W} (u : Nat → Nat) (B : Bd own cc nL none d A g D [(cI, .int), (cB, .byte)] p R s m args meth c) (hu : u 0 = b) (X : Hx A D s.heap (wr u) H locs) (hd : decode cc pc = .ok (.return_, 1)) :
    W p l e R s m args below meth c H locs cells slots (MQ below (QN A D b wr) args s cells slots A) (F0 m pc ls []) := by
  obtain ⟨b1, b2, b3, b4, b5, b6, b7, b8, b9, b10, -⟩ := B
  exact W.vret b1 b2 b9 (fun t ht hW => ⟨⟨u, rfl, hu, by rw [ht]; exact X.1, X.2.1⟩, X.2.2.F ht⟩) X.2.2.2.2 hd b10
end RowsN

def iX5 : SX5 := ((fun _ => 0), 0)
def clX5 (u : Nat → Nat) (cI : ClassId) (z : SX5) : va_W := [(u 0, .inr (5, [.ref (u 1), .int z.2])), (u 1, .inl (cI, 14, .inl z.1))]
def iX1 : SX1 := ((fun _ => 0), (fun _ => 0), 0, 0, 0)
def clX1 (u : Nat → Nat) (cI : ClassId) (z : SX1) : va_W := [(u 0, .inr (1, [.ref (u 1), .ref (u 2), .int z.2.2.1, .int z.2.2.2.1, .int z.2.2.2.2])), (u 1, .inl (cI, 250, .inl z.1)), (u 2, .inl (cI, 250, .inl z.2.1))]
def iX0 : SX0 := ((fun _ => 0), (fun _ => 0), (fun _ => 0), 0, (fun _ => 0), (fun _ => 0), 0, 0)
def clX0 (u : Nat → Nat) (cI : ClassId) (z : SX0) : va_W := [(u 0, .inr (0, [.ref (u 1), .ref (u 2), .ref (u 3), .int z.2.2.2.1, .ref (u 4), .ref (u 5), .int z.2.2.2.2.2.2.1, .int z.2.2.2.2.2.2.2])), (u 1, .inl (cI, 200, .inl z.1)), (u 2, .inl (cI, 200, .inl z.2.1)), (u 3, .inl (cI, 200, .inl z.2.2.1)), (u 4, .inl (cI, 30, .inl z.2.2.2.2.1)), (u 5, .inl (cI, 30, .inl z.2.2.2.2.2.1))]
def iX2 : SX2 := ((fun _ => 0), 0)
def clX2 (u : Nat → Nat) (cI : ClassId) (z : SX2) : va_W := [(u 0, .inr (2, [.ref (u 1), .int z.2])), (u 1, .inl (cI, 36, .inl z.1))]
def iX4 : SX4 := (0, 31)
def clX4 (u : Nat → Nat) (cI : ClassId) (z : SX4) : va_W := [(u 0, .inr (4, [.int z.1, .int z.2]))]
def iX6 : SX6 := (iX5, iX5, 0, -1)
def clX6 (u : Nat → Nat) (cI : ClassId) (z : SX6) : va_W := [(u 0, .inr (6, [.ref (u 1), .ref (u 3), .int z.2.2.1, .int z.2.2.2])), (u 1, .inr (5, [.ref (u 2), .int z.1.2])), (u 2, .inl (cI, 14, .inl z.1.1)), (u 3, .inr (5, [.ref (u 4), .int z.2.1.2])), (u 4, .inl (cI, 14, .inl z.2.1.1))]
def iX3 : SX3 := (iX6, iX1, iX0, (upd (fun _ => 0) (4 : Int32).toNatClampNeg (-1)), 0)
def clX3 (u : Nat → Nat) (cI : ClassId) (z : SX3) : va_W := [(u 0, .inr (3, [.ref (u 1), .ref (u 6), .ref (u 9), .ref (u 15), .int z.2.2.2.2])), (u 1, .inr (6, [.ref (u 2), .ref (u 4), .int z.1.2.2.1, .int z.1.2.2.2])), (u 2, .inr (5, [.ref (u 3), .int z.1.1.2])), (u 3, .inl (cI, 14, .inl z.1.1.1)), (u 4, .inr (5, [.ref (u 5), .int z.1.2.1.2])), (u 5, .inl (cI, 14, .inl z.1.2.1.1)), (u 6, .inr (1, [.ref (u 7), .ref (u 8), .int z.2.1.2.2.1, .int z.2.1.2.2.2.1, .int z.2.1.2.2.2.2])), (u 7, .inl (cI, 250, .inl z.2.1.1)), (u 8, .inl (cI, 250, .inl z.2.1.2.1)), (u 9, .inr (0, [.ref (u 10), .ref (u 11), .ref (u 12), .int z.2.2.1.2.2.2.1, .ref (u 13), .ref (u 14), .int z.2.2.1.2.2.2.2.2.2.1, .int z.2.2.1.2.2.2.2.2.2.2])), (u 10, .inl (cI, 200, .inl z.2.2.1.1)), (u 11, .inl (cI, 200, .inl z.2.2.1.2.1)), (u 12, .inl (cI, 200, .inl z.2.2.1.2.2.1)), (u 13, .inl (cI, 30, .inl z.2.2.1.2.2.2.2.1)), (u 14, .inl (cI, 30, .inl z.2.2.1.2.2.2.2.2.1)), (u 15, .inl (cI, 10, .inl z.2.2.2.1))]
def iX7 : SX7 := (iX2, iX3, iX4, iX6, iX4, 0, iX3, 0, 0)
def clX7 (u : Nat → Nat) (cI : ClassId) (z : SX7) : va_W := [(u 0, .inr (7, [.ref (u 1), .ref (u 3), .ref (u 4), .ref (u 19), .ref (u 20), .ref (u 25), .int z.2.2.2.2.2.1, .ref (u 26), .int z.2.2.2.2.2.2.2.1, .int z.2.2.2.2.2.2.2.2])), (u 1, .inr (2, [.ref (u 2), .int z.1.2])), (u 2, .inl (cI, 36, .inl z.1.1)), (u 3, .inr (3, [.ref (u 4), .ref (u 9), .ref (u 12), .ref (u 18), .int z.2.1.2.2.2.2])), (u 4, .inr (6, [.ref (u 5), .ref (u 7), .int z.2.1.1.2.2.1, .int z.2.1.1.2.2.2])), (u 5, .inr (5, [.ref (u 6), .int z.2.1.1.1.2])), (u 6, .inl (cI, 14, .inl z.2.1.1.1.1)), (u 7, .inr (5, [.ref (u 8), .int z.2.1.1.2.1.2])), (u 8, .inl (cI, 14, .inl z.2.1.1.2.1.1)), (u 9, .inr (1, [.ref (u 10), .ref (u 11), .int z.2.1.2.1.2.2.1, .int z.2.1.2.1.2.2.2.1, .int z.2.1.2.1.2.2.2.2])), (u 10, .inl (cI, 250, .inl z.2.1.2.1.1)), (u 11, .inl (cI, 250, .inl z.2.1.2.1.2.1)), (u 12, .inr (0, [.ref (u 13), .ref (u 14), .ref (u 15), .int z.2.1.2.2.1.2.2.2.1, .ref (u 16), .ref (u 17), .int z.2.1.2.2.1.2.2.2.2.2.2.1, .int z.2.1.2.2.1.2.2.2.2.2.2.2])), (u 13, .inl (cI, 200, .inl z.2.1.2.2.1.1)), (u 14, .inl (cI, 200, .inl z.2.1.2.2.1.2.1)), (u 15, .inl (cI, 200, .inl z.2.1.2.2.1.2.2.1)), (u 16, .inl (cI, 30, .inl z.2.1.2.2.1.2.2.2.2.1)), (u 17, .inl (cI, 30, .inl z.2.1.2.2.1.2.2.2.2.2.1)), (u 18, .inl (cI, 10, .inl z.2.1.2.2.2.1)), (u 19, .inr (4, [.int z.2.2.1.1, .int z.2.2.1.2])), (u 20, .inr (6, [.ref (u 21), .ref (u 23), .int z.2.2.2.1.2.2.1, .int z.2.2.2.1.2.2.2])), (u 21, .inr (5, [.ref (u 22), .int z.2.2.2.1.1.2])), (u 22, .inl (cI, 14, .inl z.2.2.2.1.1.1)), (u 23, .inr (5, [.ref (u 24), .int z.2.2.2.1.2.1.2])), (u 24, .inl (cI, 14, .inl z.2.2.2.1.2.1.1)), (u 25, .inr (4, [.int z.2.2.2.2.1.1, .int z.2.2.2.2.1.2])), (u 26, .inr (3, [.ref (u 27), .ref (u 32), .ref (u 35), .ref (u 41), .int z.2.2.2.2.2.2.1.2.2.2.2])), (u 27, .inr (6, [.ref (u 28), .ref (u 30), .int z.2.2.2.2.2.2.1.1.2.2.1, .int z.2.2.2.2.2.2.1.1.2.2.2])), (u 28, .inr (5, [.ref (u 29), .int z.2.2.2.2.2.2.1.1.1.2])), (u 29, .inl (cI, 14, .inl z.2.2.2.2.2.2.1.1.1.1)), (u 30, .inr (5, [.ref (u 31), .int z.2.2.2.2.2.2.1.1.2.1.2])), (u 31, .inl (cI, 14, .inl z.2.2.2.2.2.2.1.1.2.1.1)), (u 32, .inr (1, [.ref (u 33), .ref (u 34), .int z.2.2.2.2.2.2.1.2.1.2.2.1, .int z.2.2.2.2.2.2.1.2.1.2.2.2.1, .int z.2.2.2.2.2.2.1.2.1.2.2.2.2])), (u 33, .inl (cI, 250, .inl z.2.2.2.2.2.2.1.2.1.1)), (u 34, .inl (cI, 250, .inl z.2.2.2.2.2.2.1.2.1.2.1)), (u 35, .inr (0, [.ref (u 36), .ref (u 37), .ref (u 38), .int z.2.2.2.2.2.2.1.2.2.1.2.2.2.1, .ref (u 39), .ref (u 40), .int z.2.2.2.2.2.2.1.2.2.1.2.2.2.2.2.2.1, .int z.2.2.2.2.2.2.1.2.2.1.2.2.2.2.2.2.2])), (u 36, .inl (cI, 200, .inl z.2.2.2.2.2.2.1.2.2.1.1)), (u 37, .inl (cI, 200, .inl z.2.2.2.2.2.2.1.2.2.1.2.1)), (u 38, .inl (cI, 200, .inl z.2.2.2.2.2.2.1.2.2.1.2.2.1)), (u 39, .inl (cI, 30, .inl z.2.2.2.2.2.2.1.2.2.1.2.2.2.2.1)), (u 40, .inl (cI, 30, .inl z.2.2.2.2.2.2.1.2.2.1.2.2.2.2.2.1)), (u 41, .inl (cI, 10, .inl z.2.2.2.2.2.2.1.2.2.2.1))]
def clX8 (a : Nat → Nat) (cI cB : ClassId) (z : SX8) : va_W := [(a 0, .inr (8, mF a z)), (a 3, .inl (cI, 28, .inl (z.2.2 3))), (a 4, .inl (cI, 2, .inl (z.2.2 4))), (a 7, .inl (cI, 6, .inl (z.2.2 7))), (a 8, .inl (cI, 6, .inl (z.2.2 8))), (a 10, .inl (cB, 36, .inl (z.2.2 10))), (a 29, .inl (cI, 64, .inl (z.2.2 29))), (a 30, .inl (cI, 64, .inl (z.2.2 30))), (a 31, .inl (cI, 256, .inl (z.2.2 31))), (a 32, .inl (cI, 256, .inl (z.2.2 32))), (a 33, .inl (cI, 512, .inl (z.2.2 33))), (a 34, .inl (cI, 512, .inl (z.2.2 34))), (a 35, .inl (cI, 512, .inl (z.2.2 35))), (a 36, .inl (cI, 6, .inl (z.2.2 36))), (a 37, .inl (cI, 6, .inl (z.2.2 37))), (a 38, .inl (cI, 6, .inl (z.2.2 38))), (a 39, .inl (cI, 6, .inl (z.2.2 39))), (a 40, .inl (cI, 6, .inl (z.2.2 40))), (a 43, .inl (cI, 10, .inl (z.2.2 43))), (a 44, .inl (cI, 256, .inl (z.2.2 44))), (a 45, .inl (cI, 256, .inl (z.2.2 45))), (a 46, .inl (cI, 512, .inl (z.2.2 46))), (a 47, .inl (cI, 512, .inl (z.2.2 47))), (a 48, .inl (cI, 512, .inl (z.2.2 48))), (a 50, .inl (cI, 28, .inl (z.2.2 50))), (a 58, .inl (cI, 28, .inl (z.2.2 58))), (a 59, .inl (cI, 6, .inl (z.2.2 59))), (a 60, .inl (cI, 6, .inl (z.2.2 60)))]
theorem miX0 : MI yX0_init cX0_init 1 := ⟨kw225, kw224, kw113, by decide +kernel, by decide, rfl⟩
theorem miX1 : MI yX1_init cX1_init 1 := ⟨kw199, kw198, kw112, by decide +kernel, by decide, rfl⟩
theorem miX2 : MI yX2_init cX2_init 1 := ⟨kw136, kw135, kw108, by decide +kernel, by decide, rfl⟩
theorem miX3 : MI yX3_init cX3_init 1 := ⟨kw151, kw150, kw109, by decide +kernel, by decide, rfl⟩
theorem miX4 : MI yX4_init cX4_init 1 := ⟨kw278, kw277, kw114, by decide +kernel, by decide, rfl⟩
theorem miX5 : MI yX5_init cX5_init 1 := ⟨kw163, kw162, kw111, by decide +kernel, by decide, rfl⟩
theorem miX6 : MI yX6_init cX6_init 1 := ⟨kw157, kw156, kw110, by decide +kernel, by decide, rfl⟩
theorem miX7 : MI yX7_init cX7_init 1 := ⟨kw128, kw127, kw107, by decide +kernel, by decide, rfl⟩
theorem miX8 : MI yX8_init cX8_init 1 := ⟨kw841, kw840, kw115, by decide +kernel, by decide, rfl⟩
