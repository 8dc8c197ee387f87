/-! THE BASE: one context for all methods. Words: the whole table tb. The world: a list of cells; contracts say which world a call leaves behind. -/
def rmd (d : Nat) : Room := { frames := d, cells := 0, slots := 0, locals := 40 * d }
abbrev coF : Nat → Value := fun j => .int (([1, 3, 2, 8, 7] : List Int32).getD j 0)
abbrev klL : List Int32 := [106, 108, 97, 115, 102]
/-- what stands beside the world: words on nest mates; the static array; the text constant -/
def Nt (A : Nat → Prop) (g : Nat → Nat) (U : State) : Prop :=
  (∀ w ∈ nst, va_Nw w U) ∧ va_Z "SpillJoin" "COMES_OUT" "[I" (.ref (g 0)) A U U.heap ∧ va_T .int (g 0) 5 coF A U U.heap ∧
  vk_R "SpillJoin$Page" 15 "jlasf" (g 1) U ∧ vk_S 1 [5] [klL] (fun _ => g 1) (fun _ => g 2) A U U.heap ∧ va_Z "java/lang/String" "COMPACT_STRINGS" "Z" (.int 1) A U U.heap
theorem nst_form {w : Cond} (h : w ∈ nst) : (∃ a i b n d h, w = .fieldLinkNest a i b n d h) ∨ ∃ a i x h, w = .methodLinkNest a i x h := by
  have h2 := (List.mem_filter.mp h).2
  cases w <;> first | (exact Or.inl ⟨_, _, _, _, _, _, rfl⟩) | (exact Or.inr ⟨_, _, _, _, rfl⟩) | (cases h2)
theorem nst_tab {w : Cond} (h : w ∈ nst) : w.onTables = true := by
  rcases nst_form h with ⟨_, _, _, _, _, _, rfl⟩ | ⟨_, _, _, _, rfl⟩ <;> rfl
theorem Nt.moved {A : Nat → Prop} {g : Nat → Nat} {s U : State} {H : Heap} {locs : List Loc} (h : Nt A g s) (hW : s.WarmedH U.vm) (hS : va_S A s.heap H locs) (hU : U.heap = H) : Nt A g U := by
  obtain ⟨h1, h2, h3, h4, h5, h6⟩ := h
  subst hU
  refine ⟨fun w hw => ?_, (va_Z.moved hW.alike h2).kept hS.2.1, (va_T.moved hW.alike h3).kept hS.2.1, h4.warm hW, (vk_S.moved hW.alike h5).kept hS.2.1, (va_Z.moved hW.alike h6).kept hS.2.1⟩
  have q := h1 w hw
  rcases nst_form hw with ⟨_, _, _, _, _, _, rfl⟩ | ⟨_, _, _, _, rfl⟩
  · exact va_Nw.warmF hW q
  · exact va_Nw.warmM hW q
theorem Nt.blind {A : Nat → Prop} {g : Nat → Nat} {U V : State} (h : Nt A g U) (hv : V.vm = U.vm) (hh : V.heap = U.heap) : Nt A g V := by
  obtain ⟨h1, h2, h3, h4, h5, h6⟩ := h
  have ha : U.vm.Alike V.vm := by rw [hv]; exact Vm.Alike.refl U.vm
  refine ⟨fun w hw => va_Nw.same (nst_tab hw) hv.symm (h1 w hw), ?_, ?_, h4.same hv, ?_, ?_⟩
  · rw [hh]; exact va_Z.moved ha h2
  · rw [hh]; exact va_T.moved ha h3
  · rw [hh]; exact vk_S.moved ha h5
  · rw [hh]; exact va_Z.moved ha h6
def Bd (own : String) (cc : ByteArray) (nL : Nat) (ret : Option FieldType) (d : Nat) (A : Nat → Prop) (g : Nat → Nat) (D : va_G) (tys : List (ClassId × FieldType)) (p : Program) (R : Room) (s : State) (m : MethodId) (args : Array Value) (meth : Method) (c : Code) : Prop :=
  p.tables.exec = Jvm.exec ∧ c.code = cc ∧ c.maxLocals = nL ∧ s.vm.findClass own = some m.cls ∧ (∀ w ∈ tb, w.before args s = true) ∧ va_K D vwCl tys s ∧ (∀ q : Nat, s.heap.size ≤ q → A q) ∧ Nt A g s ∧ meth.sig.returnType = ret ∧ meth.locks = false ∧ d ≤ R.frames ∧ 40 * d ≤ R.locals
def Hx (A : Nat → Prop) (D : va_G) (H0 : Heap) (w : va_W) (H : Heap) (locs : List Loc) : Prop := va_P D vwCl w H ∧ va_D A w ∧ va_S A H0 H locs
def Pre0 (A : Nat → Prop) (g : Nat → Nat) (D : va_G) (tys : List (ClassId × FieldType)) (w : va_W) (U : State) : Prop :=
  va_P D vwCl w U.heap ∧ va_D A w ∧ va_K D vwCl tys U ∧ (∀ q : Nat, U.heap.size ≤ q → A q) ∧ Nt A g U
def Pos0 (A : Nat → Prop) (D : va_G) (w : va_W) (t : State) : Prop := va_P D vwCl w t.heap ∧ va_D A w
abbrev QI (A : Nat → Prop) (D : va_G) (w : va_W) (r : Int32) : Array Value → State → Outcome → State → Prop := va_Qi (fun (x : Int32) (_ : Unit) => x = r) (fun _ => Pos0 A D w) A
abbrev QJ (A : Nat → Prop) (D : va_G) (w : va_W) (r : Int64) : Array Value → State → Outcome → State → Prop := va_Ql (fun (x : Int64) (_ : Unit) => x = r) (fun _ => Pos0 A D w) A
abbrev QV (A : Nat → Prop) (D : va_G) (w : va_W) : Array Value → State → Outcome → State → Prop := va_Qv (fun (_ : Unit) => True) (fun _ => Pos0 A D w) A
abbrev QR (A : Nat → Prop) (D : va_G) (w : va_W) (b : Nat) : Array Value → State → Outcome → State → Prop := va_Qr (fun (_ : Unit) => True) (fun _ a t => a = b ∧ Pos0 A D w t) A
/-- a method's contract: called with av in the world w0, it ends as Qc says -/
def Ct (l : Launch) (y : MethodName) (cc : ByteArray) (nL : Nat) (ret : Option FieldType) (d : Nat) (A : Nat → Prop) (g : Nat → Nat) (D : va_G) (tys : List (ClassId × FieldType)) (av : List Value) (w0 : va_W) (Qc : Array Value → State → Outcome → State → Prop) : Prop :=
  Met l y (.code y cc nL ret :: tb) (rmd d) (va_Pc av (Pre0 A g D tys w0)) Qc 0 0 A
theorem Pre0.blind {A : Nat → Prop} {g : Nat → Nat} {D : va_G} {tys : List (ClassId × FieldType)} {w : va_W} {av : List Value} : FrameBlind (va_Pc av (Pre0 A g D tys w)) := by
  intro a U gg mk q
  obtain ⟨q0, qP, qD, qK, qA, qN⟩ := q
  exact ⟨q0, qP, qD, va_K.moved (u := U) (U := U.calling gg mk a) (Vm.Alike.refl U.vm) qK, qA, Nt.blind qN rfl rfl⟩
theorem Pre0.at {A : Nat → Prop} {g : Nat → Nat} {D : va_G} {tys : List (ClassId × FieldType)} {w : va_W} {own : String} {cc : ByteArray} {nL : Nat} {ret : Option FieldType} {d : Nat} {p : Program} {R : Room} {s : State} {m : MethodId} {args : Array Value} {meth : Method} {c : Code} {H : Heap} {locs : List Loc}
    (B : Bd own cc nL ret d A g D tys p R s m args meth c) (X : Hx A D s.heap w H locs) {U : State} (hU : U.heap = H) (hW : s.WarmedH U.vm) : Pre0 A g D tys w U := by
  obtain ⟨-, -, -, -, -, bK, bA, bN, -⟩ := B
  obtain ⟨xP, xD, xS⟩ := X
  refine ⟨by rw [hU]; exact xP, xD, va_K.moved hW.alike bK, fun q hq => bA q ?_, bN.moved hW xS hU⟩
  rw [hU] at hq
  exact Nat.le_trans xS.1 hq
theorem mkM {l : Launch} {y : MethodName} {cc : ByteArray} {nL : Nat} {ret : Option FieldType} {d : Nat} {A : Nat → Prop} {g : Nat → Nat} {D : va_G} {tys : List (ClassId × FieldType)} {av : List Value} {w0 : va_W} {Qc : Array Value → State → Outcome → State → Prop}
    (hy : plainName y.cls = true) (hn : (lg_sl av).length ≤ nL)
    (body : ∀ (p : Program) (e : Env) (s : State) (m : MethodId) (args : Array Value) (below : List Frame) (meth : Method) (c : Code), Bd y.cls cc nL ret d A g D tys p (rmd d) s m args meth c → Hx A D s.heap w0 s.heap [] → ∀ ls : Array Slot, lv_has ls nL (lv_args 0 av) →
      W p l e (rmd d) s m args below meth c s.heap [] 0 0 (MQ below Qc args s 0 0 A) (F0 m 0 ls [])) : Ct l y cc nL ret d A g D tys av w0 Qc := by
  unfold Ct
  refine Met.ofW (cc := cc) (maxL := nL) (ret := ret) hy rfl ?_
  intro p e s m args below meth c s₁ B hml hv
  obtain ⟨rfl, qP, qD, qK, qA, qN⟩ := hv
  have hts := atoms_spec (ws := .code y cc nL ret :: tb) B.pre
  have hl := lv_entry av (n := nL) hn
  rw [lg_entry_eq]
  exact body p e s m av.toArray below meth c ⟨B.exec, B.bytes, hml, findClass_of_methodNamed B.named, fun w h => hts w (List.mem_cons_of_mem _ h), qK, qA, qN, B.returns, B.notSynchronized, Nat.le_refl _, Nat.le_refl _⟩ ⟨qP, qD, va_S.rf⟩ _ hl
section Rows
variable {p : Program} {l : Launch} {e : Env} {R : Room} {s : State} {m : MethodId} {args : Array Value} {below : List Frame} {meth : Method} {c : Code} {H : Heap} {locs : List Loc} {cells slots : Nat} {Q : State → Prop}
variable {own : String} {cc : ByteArray} {nL : Nat} {ret : Option FieldType} {d : Nat} {A : Nat → Prop} {g : Nat → Nat} {D : va_G} {tys : List (ClassId × FieldType)} {w w1 : va_W} {pc : Nat} {ls : Array Slot} {rest st : List Value} {a : Nat}
theorem rI {v r : Int32} (B : Bd own cc nL (some .int) d A g D tys p R s m args meth c) (X : Hx A D s.heap w H locs) (hw : w = w1) (hr : v = r) (hd : decode cc pc = .ok (.ireturn, 1)) :
    W p l e R s m args below meth c H locs 0 0 (MQ below (QI A D w1 r) args s 0 0 A) (F0 m pc ls [.int v]) := by
  subst hw; subst hr
  obtain ⟨b1, b2, b3, b4, b5, b6, b7, b8, b9, b10, -⟩ := B
  exact W.iret b1 b2 b9 (fun t ht hW => ⟨⟨v, (), rfl, rfl, by rw [ht]; exact X.1, X.2.1⟩, X.2.2.F ht⟩) X.2.2.2.2 hd b10
theorem rZ {v r : Int32} (B : Bd own cc nL (some .boolean) d A g D tys p R s m args meth c) (X : Hx A D s.heap w H locs) (hw : w = w1) (hr : v = r) (hn : narrow .boolean (.int v) = .int v) (hd : decode cc pc = .ok (.ireturn, 1)) :
    W p l e R s m args below meth c H locs 0 0 (MQ below (QI A D w1 r) args s 0 0 A) (F0 m pc ls [.int v]) := by
  subst hw; subst hr
  obtain ⟨b1, b2, b3, b4, b5, b6, b7, b8, b9, b10, -⟩ := B
  exact W.zret b1 b2 b9 hn (fun t ht hW => ⟨⟨v, (), rfl, rfl, by rw [ht]; exact X.1, X.2.1⟩, X.2.2.F ht⟩) X.2.2.2.2 hd b10
theorem rJ {v r : Int64} (B : Bd own cc nL (some .long) d A g D tys p R s m args meth c) (X : Hx A D s.heap w H locs) (hw : w = w1) (hr : v = r) (hd : decode cc pc = .ok (.lreturn, 1)) :
    W p l e R s m args below meth c H locs 0 0 (MQ below (QJ A D w1 r) args s 0 0 A) (F0 m pc ls [.long v]) := by
  subst hw; subst hr
  obtain ⟨b1, b2, b3, b4, b5, b6, b7, b8, b9, b10, -⟩ := B
  exact W.lret b1 b2 b9 (fun t ht hW => ⟨⟨v, (), rfl, rfl, by rw [ht]; exact X.1, X.2.1⟩, X.2.2.F ht⟩) X.2.2.2.2 hd b10
theorem rV (B : Bd own cc nL none d A g D tys p R s m args meth c) (X : Hx A D s.heap w H locs) (hw : w = w1) (hd : decode cc pc = .ok (.return_, 1)) :
    W p l e R s m args below meth c H locs 0 0 (MQ below (QV A D w1) args s 0 0 A) (F0 m pc ls []) := by
  subst hw
  obtain ⟨b1, b2, b3, b4, b5, b6, b7, b8, b9, b10, -⟩ := B
  exact W.vret b1 b2 b9 (fun t ht hW => ⟨⟨(), rfl, trivial, by rw [ht]; exact X.1, X.2.1⟩, X.2.2.F ht⟩) X.2.2.2.2 hd b10
theorem rR {b b' : Nat} {o : String} (B : Bd own cc nL (some (.object o)) d A g D tys p R s m args meth c) (X : Hx A D s.heap w H locs) (hw : w = w1) (hr : b = b') (hd : decode cc pc = .ok (.areturn, 1)) :
    W p l e R s m args below meth c H locs 0 0 (MQ below (QR A D w1 b') args s 0 0 A) (F0 m pc ls [.ref b]) := by
  subst hw; subst hr
  obtain ⟨b1, b2, b3, b4, b5, b6, b7, b8, b9, b10, -⟩ := B
  exact W.aret b1 b2 b9 (Or.inl ⟨_, rfl⟩) (Or.inr ⟨_, rfl⟩) (fun t ht hW => ⟨⟨(), b, rfl, trivial, rfl, by rw [ht]; exact X.1, X.2.1⟩, X.2.2.F ht⟩) X.2.2.2.2 hd b10
/-- fields -/
theorem fG {C : String} {T : u_T} {N ci idx : Nat} {fs : List Value} {v : Value} (B : Bd own cc nL ret d A g D tys p R s m args meth c) (X : Hx A D s.heap w H locs) {q0 : Nat} (he : w[q0]? = some (a, .inr (ci, fs))) (k : Nat) (hc : vwCl[ci]? = some (C, T, N)) (hin : ∀ w ∈ u_ws C T N, w ∈ tb) (hk : k < N)
    (hl : Cond.fieldLink own idx (T k).1 (T k).2.1 (T k).2.2.1 ∈ tb) (hv : fs[k]? = some v) (hdg : decode cc pc = .ok (.getfield idx, 3)) (kk : W p l e R s m args below meth c H locs cells slots Q (F0 m (pc + 3) ls (v :: rest))) :
    W p l e R s m args below meth c H locs cells slots Q (F0 m pc ls (.ref a :: rest)) := by
  obtain ⟨b1, b2, b3, b4, b5, b6, -⟩ := B
  exact va_get b1 b2 b5 hin b4 b6 X.1 q0 he hc k hk (b5 _ hl) (fun _ h => h) hv hdg kk
theorem fGN {C host : String} {T : u_T} {N ci idx : Nat} {fs : List Value} {v : Value} (B : Bd own cc nL ret d A g D tys p R s m args meth c) (X : Hx A D s.heap w H locs) {q0 : Nat} (he : w[q0]? = some (a, .inr (ci, fs))) (k : Nat) (hc : vwCl[ci]? = some (C, T, N)) (hin : ∀ w ∈ u_ws C T N, w ∈ tb) (hk : k < N)
    (hl : Cond.fieldLinkNest own idx (T k).1 (T k).2.1 (T k).2.2.1 host ∈ nst) (hv : fs[k]? = some v) (hdg : decode cc pc = .ok (.getfield idx, 3)) (kk : W p l e R s m args below meth c H locs cells slots Q (F0 m (pc + 3) ls (v :: rest))) :
    W p l e R s m args below meth c H locs cells slots Q (F0 m pc ls (.ref a :: rest)) := by
  obtain ⟨b1, b2, b3, b4, b5, b6, b7, b8, -⟩ := B
  exact va_getN b1 b2 b5 hin b4 b6 X.1 q0 he hc k hk (va_Nw.use (nst_tab hl) (b8.1 _ hl)) (fun _ h => h) hv hdg kk
theorem fP {C : String} {T : u_T} {N ci idx : Nat} {fs : List Value} {v : Value} (ty0 : Nat → FieldType) {ty : FieldType} (B : Bd own cc nL ret d A g D tys p R s m args meth c) (X : Hx A D s.heap w H locs) {q0 : Nat} (he : w[q0]? = some (a, .inr (ci, fs))) (k : Nat) (hs : w.set q0 (a, .inr (ci, fs.set k v)) = w1) (hc : vwCl[ci]? = some (C, T, N)) (hin : ∀ w ∈ u_ws C T N, w ∈ tb) (hty : ∀ k, k < N → parseFieldDescriptor (T k).2.2.1 = some (ty0 k)) (hnm : ∀ a, a < N → ∀ b, b < N → a ≠ b → (T a).2.1 ≠ (T b).2.1) (hk : k < N)
    (hl : Cond.fieldLink own idx (T k).1 (T k).2.1 (T k).2.2.1 ∈ tb) (hfin : (T k).2.2.2 = false) (hyk : ty0 k = ty) (hn : narrow ty v = v) (hfit : fits ty v = true) (hlen : k < fs.length) (hdg : decode cc pc = .ok (.putfield idx, 3)) (kk : ∀ (H1 : Heap) (locs1 : List Loc), Hx A D s.heap w1 H1 locs1 → W p l e R s m args below meth c H1 locs1 cells slots Q (F0 m (pc + 3) ls rest)) :
    W p l e R s m args below meth c H locs cells slots Q (F0 m pc ls (v :: .ref a :: rest)) := by
  obtain ⟨b1, b2, b3, b4, b5, b6, -⟩ := B
  subst hs
  exact va_put b1 b2 b5 hin ty0 hty hnm b4 b6 X.1 X.2.1 X.2.2 q0 he hc k hk (b5 _ hl) (fun _ h => h) hfin ((hty k hk).trans (congrArg some hyk)) hn hfit hlen hdg (fun H1 locs1 q1 q2 q3 => kk H1 locs1 ⟨q1, q2, q3⟩)
theorem fPN {C host : String} {T : u_T} {N ci idx : Nat} {fs : List Value} {v : Value} (ty0 : Nat → FieldType) {ty : FieldType} (B : Bd own cc nL ret d A g D tys p R s m args meth c) (X : Hx A D s.heap w H locs) {q0 : Nat} (he : w[q0]? = some (a, .inr (ci, fs))) (k : Nat) (hs : w.set q0 (a, .inr (ci, fs.set k v)) = w1) (hc : vwCl[ci]? = some (C, T, N)) (hin : ∀ w ∈ u_ws C T N, w ∈ tb) (hty : ∀ k, k < N → parseFieldDescriptor (T k).2.2.1 = some (ty0 k)) (hnm : ∀ a, a < N → ∀ b, b < N → a ≠ b → (T a).2.1 ≠ (T b).2.1) (hk : k < N)
    (hl : Cond.fieldLinkNest own idx (T k).1 (T k).2.1 (T k).2.2.1 host ∈ nst) (hfin : (T k).2.2.2 = false) (hyk : ty0 k = ty) (hn : narrow ty v = v) (hfit : fits ty v = true) (hlen : k < fs.length) (hdg : decode cc pc = .ok (.putfield idx, 3)) (kk : ∀ (H1 : Heap) (locs1 : List Loc), Hx A D s.heap w1 H1 locs1 → W p l e R s m args below meth c H1 locs1 cells slots Q (F0 m (pc + 3) ls rest)) :
    W p l e R s m args below meth c H locs cells slots Q (F0 m pc ls (v :: .ref a :: rest)) := by
  obtain ⟨b1, b2, b3, b4, b5, b6, b7, b8, -⟩ := B
  subst hs
  exact va_putN b1 b2 b5 hin ty0 hty hnm b4 b6 X.1 X.2.1 X.2.2 q0 he hc k hk (va_Nw.use (nst_tab hl) (b8.1 _ hl)) (fun _ h => h) hfin ((hty k hk).trans (congrArg some hyk)) hn hfit hlen hdg (fun H1 locs1 q1 q2 q3 => kk H1 locs1 ⟨q1, q2, q3⟩)
/-- int arrays -/
theorem aG {cA : ClassId} {n : Nat} {f : Nat → Int32} {i : Int32} (B : Bd own cc nL ret d A g D tys p R s m args meth c) (X : Hx A D s.heap w H locs) {q0 : Nat} (he : w[q0]? = some (a, .inl (cA, n, .inl f))) (t0 : Nat) (ht : tys[t0]? = some (cA, .int)) (hin : ¬ (i < 0 ∨ n ≤ i.toNatClampNeg)) (hdg : decode cc pc = .ok (.iaload, 1))
    (kk : W p l e R s m args below meth c H locs cells slots Q (F0 m (pc + 1) ls (.int (f i.toNatClampNeg) :: rest))) : W p l e R s m args below meth c H locs cells slots Q (F0 m pc ls (.int i :: .ref a :: rest)) :=
  va_iald B.1 B.2.1 B.2.2.2.2.2.1 X.1 q0 t0 he ht hin hdg kk
theorem aGb {cA : ClassId} {n : Nat} {f : Nat → Int32} {i : Int32} (B : Bd own cc nL ret d A g D tys p R s m args meth c) (X : Hx A D s.heap w H locs) {q0 : Nat} (he : w[q0]? = some (a, .inl (cA, n, .inl f))) (t0 : Nat) (ht : tys[t0]? = some (cA, .byte)) (hin : ¬ (i < 0 ∨ n ≤ i.toNatClampNeg)) (hdg : decode cc pc = .ok (.baload, 1))
    (kk : W p l e R s m args below meth c H locs cells slots Q (F0 m (pc + 1) ls (.int (f i.toNatClampNeg) :: rest))) : W p l e R s m args below meth c H locs cells slots Q (F0 m pc ls (.int i :: .ref a :: rest)) :=
  va_bald B.1 B.2.1 B.2.2.2.2.2.1 X.1 q0 t0 he ht hin hdg kk
theorem aP {cA : ClassId} {n : Nat} {f : Nat → Int32} {i x : Int32} (B : Bd own cc nL ret d A g D tys p R s m args meth c) (X : Hx A D s.heap w H locs) {q0 : Nat} (he : w[q0]? = some (a, .inl (cA, n, .inl f))) (hs : w.set q0 (a, .inl (cA, n, .inl (upd f i.toNatClampNeg x))) = w1) (t0 : Nat) (ht : tys[t0]? = some (cA, .int)) (hin : ¬ (i < 0 ∨ n ≤ i.toNatClampNeg)) (hdg : decode cc pc = .ok (.iastore, 1))
    (kk : ∀ (H1 : Heap) (locs1 : List Loc), Hx A D s.heap w1 H1 locs1 → W p l e R s m args below meth c H1 locs1 cells slots Q (F0 m (pc + 1) ls rest)) : W p l e R s m args below meth c H locs cells slots Q (F0 m pc ls (.int x :: .int i :: .ref a :: rest)) := by
  subst hs
  exact va_iast B.1 B.2.1 B.2.2.2.2.2.1 X.1 X.2.1 X.2.2 q0 t0 he ht hin hdg (fun H1 locs1 q1 q2 q3 => kk H1 locs1 ⟨q1, q2, q3⟩)
theorem aPb {cA : ClassId} {n : Nat} {f : Nat → Int32} {i x : Int32} (B : Bd own cc nL ret d A g D tys p R s m args meth c) (X : Hx A D s.heap w H locs) {q0 : Nat} (he : w[q0]? = some (a, .inl (cA, n, .inl f))) (hs : w.set q0 (a, .inl (cA, n, .inl (upd f i.toNatClampNeg (vp_nar .byte x)))) = w1) (t0 : Nat) (ht : tys[t0]? = some (cA, .byte)) (hin : ¬ (i < 0 ∨ n ≤ i.toNatClampNeg)) (hdg : decode cc pc = .ok (.bastore, 1))
    (kk : ∀ (H1 : Heap) (locs1 : List Loc), Hx A D s.heap w1 H1 locs1 → W p l e R s m args below meth c H1 locs1 cells slots Q (F0 m (pc + 1) ls rest)) : W p l e R s m args below meth c H locs cells slots Q (F0 m pc ls (.int x :: .int i :: .ref a :: rest)) := by
  subst hs
  exact va_bast B.1 B.2.1 B.2.2.2.2.2.1 X.1 X.2.1 X.2.2 q0 t0 he ht hin hdg (fun H1 locs1 q1 q2 q3 => kk H1 locs1 ⟨q1, q2, q3⟩)
end Rows
/-- a method's words: an object's method, a static one -/
def MF (y : MethodName) (cc : ByteArray) (nL : Nat) (ret : Option FieldType) (n : Nat) : Prop :=
  Cond.code y cc nL ret ∈ tb ∧ Cond.instanceMethod y ∈ tb ∧ Cond.selects y.cls y y ∈ tb ∧ Cond.initialized y.cls ∈ tb ∧ (y.cls ≠ "java/lang/invoke/MethodHandle" ∧ y.cls ≠ "java/lang/invoke/VarHandle" ∧ (parseMethodDescriptor y.desc).map (fun d => d.parameters.length) = some n) ∧ nL ≤ 21
def MS (y : MethodName) (cc : ByteArray) (nL : Nat) (ret : Option FieldType) (n : Nat) : Prop :=
  Cond.code y cc nL ret ∈ tb ∧ Cond.static y ∈ tb ∧ Cond.initialized y.cls ∈ tb ∧ (y.cls ≠ "java/lang/invoke/MethodHandle" ∧ y.cls ≠ "java/lang/invoke/VarHandle" ∧ (parseMethodDescriptor y.desc).map (fun d => d.parameters.length) = some n) ∧ nL ≤ 21
theorem tb_good {y : MethodName} {cc : ByteArray} {nL : Nat} {ret : Option FieldType} (h : Cond.code y cc nL ret ∈ tb) : GoodIn tb (.code y cc nL ret :: tb) := by
  intro w hw
  have hm : w ∈ tb := (List.mem_cons.mp hw).elim (fun e => by rw [e]; exact h) id
  exact ⟨hm, good_of_word (List.mem_filter.mp hm).2⟩
theorem rmd_ok {d' d nL' : Nat} {R : Room} (hd : d' + 1 ≤ d) (hR1 : d ≤ R.frames) (hR2 : 40 * d ≤ R.locals) (hn : nL' ≤ 21) : (rmd d').frames + 1 ≤ R.frames ∧ 8 + (nL' + 11) + (rmd d').locals ≤ R.locals := by
  show d' + 1 ≤ R.frames ∧ 8 + (nL' + 11) + 40 * d' ≤ R.locals
  omega
section Calls1
variable {p : Program} {l : Launch} {e : Env} {R : Room} {s : State} {m : MethodId} {args : Array Value} {below : List Frame} {meth : Method} {c : Code} {H : Heap} {locs : List Loc} {cells slots : Nat} {Q : State → Prop}
variable {own : String} {cc : ByteArray} {nL : Nat} {ret : Option FieldType} {d : Nat} {A : Nat → Prop} {g : Nat → Nat} {D : va_G} {tys : List (ClassId × FieldType)} {w w1 : va_W} {pc : Nat} {ls : Array Slot} {rest : List Value}
variable {y : MethodName} {cc' : ByteArray} {nL' n idx d' ci q0 N b : Nat} {ret' : Option FieldType} {T : u_T} {fs As : List Value} {host : String} {Qc : Array Value → State → Outcome → State → Prop}
theorem cV (B : Bd own cc nL ret d A g D tys p R s m args meth c) (X : Hx A D s.heap w H locs) (hM : Ct l y cc' nL' ret' d' A g D tys (.ref b :: As) w Qc) (F : MF y cc' nL' ret' n) (hl : Cond.methodLink own idx y ∈ tb) (hd : d' + 1 ≤ d) (he : w[q0]? = some (b, .inr (ci, fs))) (hc : vwCl[ci]? = some (y.cls, T, N)) (hn : As.length = n)
    (hr : (rest.map fun v => v.category).sum ≤ 8) (hls : ls.size = nL) (hcs : cells ≤ R.cells ∧ slots ≤ R.slots) (hdg : decode cc pc = .ok (.invokevirtual idx, 3)) :
    va_Run p l e R s m args below meth c H locs cells slots 0 0 (F0 m pc ls (As.reverse ++ .ref b :: rest)) rest (Qc (Value.ref b :: As).toArray) A := by
  have B0 := B
  obtain ⟨b1, b2, b3, b4, b5, b6, b7, b8, b9, b10, b11, b12⟩ := B
  obtain ⟨f1, f2, f3, f4, f5, f6⟩ := F
  exact va_runV (As := As) (rest := rest) ⟨b1, b2, b3, b4, b5⟩ hM ⟨callB_of n b5 (tb_good f1) rfl rfl rfl (b5 _ f4) (b5 _ hl) f5 (rmd_ok hd b11 b12 f6), b5 _ f2, b5 _ f3⟩ ⟨Pre0.blind, va_recv b6 X.1 hc he, fun U hU hW => ⟨rfl, Pre0.at B0 X hU hW⟩⟩ rfl hn hls rfl (lv_room hr) hdg hcs
theorem cVN (B : Bd own cc nL ret d A g D tys p R s m args meth c) (X : Hx A D s.heap w H locs) (hM : Ct l y cc' nL' ret' d' A g D tys (.ref b :: As) w Qc) (F : MF y cc' nL' ret' n) (hl : Cond.methodLinkNest own idx y host ∈ nst) (hd : d' + 1 ≤ d) (he : w[q0]? = some (b, .inr (ci, fs))) (hc : vwCl[ci]? = some (y.cls, T, N)) (hn : As.length = n)
    (hr : (rest.map fun v => v.category).sum ≤ 8) (hls : ls.size = nL) (hcs : cells ≤ R.cells ∧ slots ≤ R.slots) (hdg : decode cc pc = .ok (.invokevirtual idx, 3)) :
    va_Run p l e R s m args below meth c H locs cells slots 0 0 (F0 m pc ls (As.reverse ++ .ref b :: rest)) rest (Qc (Value.ref b :: As).toArray) A := by
  have B0 := B
  obtain ⟨b1, b2, b3, b4, b5, b6, b7, b8, b9, b10, b11, b12⟩ := B
  obtain ⟨f1, f2, f3, f4, f5, f6⟩ := F
  exact va_runVN (As := As) (rest := rest) ⟨b1, b2, b3, b4, b5⟩ hM ⟨va_cnB n b5 (tb_good f1) rfl rfl rfl (b8.1 _ hl) (b5 _ f4) f5 (rmd_ok hd b11 b12 f6), b5 _ f2, b5 _ f3⟩ ⟨Pre0.blind, va_recv b6 X.1 hc he, fun U hU hW => ⟨rfl, Pre0.at B0 X hU hW⟩⟩ rfl hn hls rfl (lv_room hr) hdg hcs
theorem cS (B : Bd own cc nL ret d A g D tys p R s m args meth c) (X : Hx A D s.heap w H locs) (hM : Ct l y cc' nL' ret' d' A g D tys As w Qc) (F : MS y cc' nL' ret' n) (hl : Cond.methodLink own idx y ∈ tb) (hd : d' + 1 ≤ d) (hn : As.length = n)
    (hr : (rest.map fun v => v.category).sum ≤ 8) (hls : ls.size = nL) (hcs : cells ≤ R.cells ∧ slots ≤ R.slots) (hdg : decode cc pc = .ok (.invokestatic idx, 3)) :
    va_Run p l e R s m args below meth c H locs cells slots 0 0 (F0 m pc ls (As.reverse ++ rest)) rest (Qc As.toArray) A := by
  have B0 := B
  obtain ⟨b1, b2, b3, b4, b5, b6, b7, b8, b9, b10, b11, b12⟩ := B
  obtain ⟨f1, f2, f4, f5, f6⟩ := F
  exact va_runS (As := As) (rest := rest) ⟨b1, b2, b3, b4, b5⟩ hM ⟨callB_of n b5 (tb_good f1) rfl rfl rfl (b5 _ f4) (b5 _ hl) f5 (rmd_ok hd b11 b12 f6), b5 _ f2⟩ ⟨Pre0.blind, fun U hU hW => ⟨rfl, Pre0.at B0 X hU hW⟩⟩ rfl hn hls rfl (lv_room hr) hdg hcs
theorem cSN (B : Bd own cc nL ret d A g D tys p R s m args meth c) (X : Hx A D s.heap w H locs) (hM : Ct l y cc' nL' ret' d' A g D tys As w Qc) (F : MS y cc' nL' ret' n) (hl : Cond.methodLinkNest own idx y host ∈ nst) (hd : d' + 1 ≤ d) (hn : As.length = n)
    (hr : (rest.map fun v => v.category).sum ≤ 8) (hls : ls.size = nL) (hcs : cells ≤ R.cells ∧ slots ≤ R.slots) (hdg : decode cc pc = .ok (.invokestatic idx, 3)) :
    va_Run p l e R s m args below meth c H locs cells slots 0 0 (F0 m pc ls (As.reverse ++ rest)) rest (Qc As.toArray) A := by
  have B0 := B
  obtain ⟨b1, b2, b3, b4, b5, b6, b7, b8, b9, b10, b11, b12⟩ := B
  obtain ⟨f1, f2, f4, f5, f6⟩ := F
  exact va_runSN (As := As) (rest := rest) ⟨b1, b2, b3, b4, b5⟩ hM ⟨va_cnB n b5 (tb_good f1) rfl rfl rfl (b8.1 _ hl) (b5 _ f4) f5 (rmd_ok hd b11 b12 f6), b5 _ f2, trivial⟩ ⟨Pre0.blind, fun U hU hW => ⟨rfl, Pre0.at B0 X hU hW⟩⟩ rfl hn hls rfl (lv_room hr) hdg hcs
variable {st0 : List Value} {av : Array Value}
theorem kI {r : Int32} (X : Hx A D s.heap w H locs) (hr : va_Run p l e R s m args below meth c H locs cells slots 0 0 (F0 m pc ls st0) rest (QI A D w1 r av) A)
    (kk : ∀ (H1 : Heap) (locs1 : List Loc), Hx A D s.heap w1 H1 locs1 → W p l e R s m args below meth c H1 locs1 cells slots Q (F0 m (pc + 3) ls (.int r :: rest))) : W p l e R s m args below meth c H locs cells slots Q (F0 m pc ls st0) :=
  va_calli hr X.2.2 (fun _ _ h => h) (fun _ h => h) (fun r' u t H1 locs1 ht hvm hw hB hz hk hS => by
    subst hw
    exact kk H1 locs1 ⟨by rw [← ht]; exact hB.1, hB.2, hS⟩)
theorem kJ {r : Int64} (X : Hx A D s.heap w H locs) (hr : va_Run p l e R s m args below meth c H locs cells slots 0 0 (F0 m pc ls st0) rest (QJ A D w1 r av) A)
    (kk : ∀ (H1 : Heap) (locs1 : List Loc), Hx A D s.heap w1 H1 locs1 → W p l e R s m args below meth c H1 locs1 cells slots Q (F0 m (pc + 3) ls (.long r :: rest))) : W p l e R s m args below meth c H locs cells slots Q (F0 m pc ls st0) :=
  va_calll hr X.2.2 (fun _ _ h => h) (fun _ h => h) (fun r' u t H1 locs1 ht hvm hw hB hz hk hS => by
    subst hw
    exact kk H1 locs1 ⟨by rw [← ht]; exact hB.1, hB.2, hS⟩)
theorem kV (X : Hx A D s.heap w H locs) (hr : va_Run p l e R s m args below meth c H locs cells slots 0 0 (F0 m pc ls st0) rest (QV A D w1 av) A)
    (kk : ∀ (H1 : Heap) (locs1 : List Loc), Hx A D s.heap w1 H1 locs1 → W p l e R s m args below meth c H1 locs1 cells slots Q (F0 m (pc + 3) ls rest)) : W p l e R s m args below meth c H locs cells slots Q (F0 m pc ls st0) :=
  va_callv hr X.2.2 (fun _ _ h => h) (fun _ h => h) (fun u t H1 locs1 ht hvm hw hB hz hk hS => by
    exact kk H1 locs1 ⟨by rw [← ht]; exact hB.1, hB.2, hS⟩)
theorem kR {r : Nat} (X : Hx A D s.heap w H locs) (hr : va_Run p l e R s m args below meth c H locs cells slots 0 0 (F0 m pc ls st0) rest (QR A D w1 r av) A)
    (kk : ∀ (H1 : Heap) (locs1 : List Loc), Hx A D s.heap w1 H1 locs1 → W p l e R s m args below meth c H1 locs1 cells slots Q (F0 m (pc + 3) ls (.ref r :: rest))) : W p l e R s m args below meth c H locs cells slots Q (F0 m pc ls st0) := by
  refine va_callr hr X.2.2 (fun _ _ h => h) (fun _ h => h) ?_
  intro u b t H1 locs1 ht hvm hw hB hz hk hS
  obtain ⟨rfl, hB⟩ := hB
  exact kk H1 locs1 ⟨by rw [← ht]; exact hB.1, hB.2, hS⟩
end Calls1
/-- an option that is there, and what goes on -/
theorem bs {α β : Type} {o : Option α} {f : α → Option β} {b : β} (h : o.bind f = some b) : ∃ q, o = some q ∧ f q = some b := by
  cases o with
  | none => cases h
  | some q => exact ⟨q, rfl, h⟩
theorem it {α : Type} {c : Prop} {i : Decidable c} {x y z : α} (h : (if c then x else y) = z) (hc : c) : x = z := (if_pos hc).symm.trans h
theorem ie {α : Type} {c : Prop} {i : Decidable c} {x y z : α} (h : (if c then x else y) = z) (hc : ¬ c) : y = z := (if_neg hc).symm.trans h
