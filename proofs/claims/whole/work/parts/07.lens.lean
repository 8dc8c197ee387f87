/-! THE LENSES: how a state of a class lies in a world of cells, at which addresses (a..) and places (p..). -/
def LnA (a0 p0 N0 : Nat) (cI : ClassId) (wf : (Nat → Int32) → va_W) : Prop := (∀ z, (wf z)[p0]? = some (a0, .inl (cI, N0, .inl z))) ∧ ∀ z f, (wf z).set p0 (a0, .inl (cI, N0, .inl f)) = wf f
abbrev SX5 : Type := (Nat → Int32) × Int32
def LnX5 (a0 a1 p0 p1 : Nat) (cI : ClassId) (wf : SX5 → va_W) : Prop :=
  (∀ z : SX5, (wf z)[p0]? = some (a0, .inr (5, [.ref a1, .int z.2]))) ∧
  (∀ z : SX5, (wf z)[p1]? = some (a1, .inl (cI, 14, .inl z.1))) ∧
  (∀ (z : SX5) (f : Nat → Int32), (wf z).set p1 (a1, .inl (cI, 14, .inl f)) = wf (f, z.2)) ∧
  (∀ (z : SX5) (v : Int32), (wf z).set p0 (a0, .inr (5, [.ref a1, .int v])) = wf (z.1, v))
theorem LnX5_g {a0 a1 p0 p1 : Nat} {cI : ClassId} {wf : SX5 → va_W} (L : LnX5 a0 a1 p0 p1 cI wf) (z : SX5) : (wf z)[p0]? = some (a0, .inr (5, [.ref a1, .int z.2])) := L.1 z
theorem LnX5_a0 {a0 a1 p0 p1 : Nat} {cI : ClassId} {wf : SX5 → va_W} (L : LnX5 a0 a1 p0 p1 cI wf) (z : SX5) : (wf z)[p1]? = some (a1, .inl (cI, 14, .inl z.1)) := L.2.1 z
theorem LnX5_b0 {a0 a1 p0 p1 : Nat} {cI : ClassId} {wf : SX5 → va_W} (L : LnX5 a0 a1 p0 p1 cI wf) (z : SX5) (f : Nat → Int32) : (wf z).set p1 (a1, .inl (cI, 14, .inl f)) = wf (f, z.2) := L.2.2.1 z f
theorem LnX5_i1 {a0 a1 p0 p1 : Nat} {cI : ClassId} {wf : SX5 → va_W} (L : LnX5 a0 a1 p0 p1 cI wf) (z : SX5) (v : Int32) : (wf z).set p0 (a0, .inr (5, [.ref a1, .int v])) = wf (z.1, v) := L.2.2.2 z v
abbrev SX1 : Type := (Nat → Int32) × (Nat → Int32) × Int32 × Int32 × Int32
def LnX1 (a0 a1 a2 p0 p1 p2 : Nat) (cI : ClassId) (wf : SX1 → va_W) : Prop :=
  (∀ z : SX1, (wf z)[p0]? = some (a0, .inr (1, [.ref a1, .ref a2, .int z.2.2.1, .int z.2.2.2.1, .int z.2.2.2.2]))) ∧
  (∀ z : SX1, (wf z)[p1]? = some (a1, .inl (cI, 250, .inl z.1))) ∧
  (∀ (z : SX1) (f : Nat → Int32), (wf z).set p1 (a1, .inl (cI, 250, .inl f)) = wf (f, z.2.1, z.2.2.1, z.2.2.2.1, z.2.2.2.2)) ∧
  (∀ z : SX1, (wf z)[p2]? = some (a2, .inl (cI, 250, .inl z.2.1))) ∧
  (∀ (z : SX1) (f : Nat → Int32), (wf z).set p2 (a2, .inl (cI, 250, .inl f)) = wf (z.1, f, z.2.2.1, z.2.2.2.1, z.2.2.2.2)) ∧
  (∀ (z : SX1) (v : Int32), (wf z).set p0 (a0, .inr (1, [.ref a1, .ref a2, .int v, .int z.2.2.2.1, .int z.2.2.2.2])) = wf (z.1, z.2.1, v, z.2.2.2.1, z.2.2.2.2)) ∧
  (∀ (z : SX1) (v : Int32), (wf z).set p0 (a0, .inr (1, [.ref a1, .ref a2, .int z.2.2.1, .int v, .int z.2.2.2.2])) = wf (z.1, z.2.1, z.2.2.1, v, z.2.2.2.2)) ∧
  (∀ (z : SX1) (v : Int32), (wf z).set p0 (a0, .inr (1, [.ref a1, .ref a2, .int z.2.2.1, .int z.2.2.2.1, .int v])) = wf (z.1, z.2.1, z.2.2.1, z.2.2.2.1, v))
theorem LnX1_g {a0 a1 a2 p0 p1 p2 : Nat} {cI : ClassId} {wf : SX1 → va_W} (L : LnX1 a0 a1 a2 p0 p1 p2 cI wf) (z : SX1) : (wf z)[p0]? = some (a0, .inr (1, [.ref a1, .ref a2, .int z.2.2.1, .int z.2.2.2.1, .int z.2.2.2.2])) := L.1 z
theorem LnX1_a0 {a0 a1 a2 p0 p1 p2 : Nat} {cI : ClassId} {wf : SX1 → va_W} (L : LnX1 a0 a1 a2 p0 p1 p2 cI wf) (z : SX1) : (wf z)[p1]? = some (a1, .inl (cI, 250, .inl z.1)) := L.2.1 z
theorem LnX1_b0 {a0 a1 a2 p0 p1 p2 : Nat} {cI : ClassId} {wf : SX1 → va_W} (L : LnX1 a0 a1 a2 p0 p1 p2 cI wf) (z : SX1) (f : Nat → Int32) : (wf z).set p1 (a1, .inl (cI, 250, .inl f)) = wf (f, z.2.1, z.2.2.1, z.2.2.2.1, z.2.2.2.2) := L.2.2.1 z f
theorem LnX1_a1 {a0 a1 a2 p0 p1 p2 : Nat} {cI : ClassId} {wf : SX1 → va_W} (L : LnX1 a0 a1 a2 p0 p1 p2 cI wf) (z : SX1) : (wf z)[p2]? = some (a2, .inl (cI, 250, .inl z.2.1)) := L.2.2.2.1 z
theorem LnX1_b1 {a0 a1 a2 p0 p1 p2 : Nat} {cI : ClassId} {wf : SX1 → va_W} (L : LnX1 a0 a1 a2 p0 p1 p2 cI wf) (z : SX1) (f : Nat → Int32) : (wf z).set p2 (a2, .inl (cI, 250, .inl f)) = wf (z.1, f, z.2.2.1, z.2.2.2.1, z.2.2.2.2) := L.2.2.2.2.1 z f
theorem LnX1_i2 {a0 a1 a2 p0 p1 p2 : Nat} {cI : ClassId} {wf : SX1 → va_W} (L : LnX1 a0 a1 a2 p0 p1 p2 cI wf) (z : SX1) (v : Int32) : (wf z).set p0 (a0, .inr (1, [.ref a1, .ref a2, .int v, .int z.2.2.2.1, .int z.2.2.2.2])) = wf (z.1, z.2.1, v, z.2.2.2.1, z.2.2.2.2) := L.2.2.2.2.2.1 z v
theorem LnX1_i3 {a0 a1 a2 p0 p1 p2 : Nat} {cI : ClassId} {wf : SX1 → va_W} (L : LnX1 a0 a1 a2 p0 p1 p2 cI wf) (z : SX1) (v : Int32) : (wf z).set p0 (a0, .inr (1, [.ref a1, .ref a2, .int z.2.2.1, .int v, .int z.2.2.2.2])) = wf (z.1, z.2.1, z.2.2.1, v, z.2.2.2.2) := L.2.2.2.2.2.2.1 z v
theorem LnX1_i4 {a0 a1 a2 p0 p1 p2 : Nat} {cI : ClassId} {wf : SX1 → va_W} (L : LnX1 a0 a1 a2 p0 p1 p2 cI wf) (z : SX1) (v : Int32) : (wf z).set p0 (a0, .inr (1, [.ref a1, .ref a2, .int z.2.2.1, .int z.2.2.2.1, .int v])) = wf (z.1, z.2.1, z.2.2.1, z.2.2.2.1, v) := L.2.2.2.2.2.2.2 z v
abbrev SX0 : Type := (Nat → Int32) × (Nat → Int32) × (Nat → Int32) × Int32 × (Nat → Int32) × (Nat → Int32) × Int32 × Int32
def LnX0 (a0 a1 a2 a3 a4 a5 p0 p1 p2 p3 p4 p5 : Nat) (cI : ClassId) (wf : SX0 → va_W) : Prop :=
  (∀ z : SX0, (wf z)[p0]? = some (a0, .inr (0, [.ref a1, .ref a2, .ref a3, .int z.2.2.2.1, .ref a4, .ref a5, .int z.2.2.2.2.2.2.1, .int z.2.2.2.2.2.2.2]))) ∧
  (∀ z : SX0, (wf z)[p1]? = some (a1, .inl (cI, 200, .inl z.1))) ∧
  (∀ (z : SX0) (f : Nat → Int32), (wf z).set p1 (a1, .inl (cI, 200, .inl f)) = wf (f, z.2.1, z.2.2.1, z.2.2.2.1, z.2.2.2.2.1, z.2.2.2.2.2.1, z.2.2.2.2.2.2.1, z.2.2.2.2.2.2.2)) ∧
  (∀ z : SX0, (wf z)[p2]? = some (a2, .inl (cI, 200, .inl z.2.1))) ∧
  (∀ (z : SX0) (f : Nat → Int32), (wf z).set p2 (a2, .inl (cI, 200, .inl f)) = wf (z.1, f, z.2.2.1, z.2.2.2.1, z.2.2.2.2.1, z.2.2.2.2.2.1, z.2.2.2.2.2.2.1, z.2.2.2.2.2.2.2)) ∧
  (∀ z : SX0, (wf z)[p3]? = some (a3, .inl (cI, 200, .inl z.2.2.1))) ∧
  (∀ (z : SX0) (f : Nat → Int32), (wf z).set p3 (a3, .inl (cI, 200, .inl f)) = wf (z.1, z.2.1, f, z.2.2.2.1, z.2.2.2.2.1, z.2.2.2.2.2.1, z.2.2.2.2.2.2.1, z.2.2.2.2.2.2.2)) ∧
  (∀ (z : SX0) (v : Int32), (wf z).set p0 (a0, .inr (0, [.ref a1, .ref a2, .ref a3, .int v, .ref a4, .ref a5, .int z.2.2.2.2.2.2.1, .int z.2.2.2.2.2.2.2])) = wf (z.1, z.2.1, z.2.2.1, v, z.2.2.2.2.1, z.2.2.2.2.2.1, z.2.2.2.2.2.2.1, z.2.2.2.2.2.2.2)) ∧
  (∀ z : SX0, (wf z)[p4]? = some (a4, .inl (cI, 30, .inl z.2.2.2.2.1))) ∧
  (∀ (z : SX0) (f : Nat → Int32), (wf z).set p4 (a4, .inl (cI, 30, .inl f)) = wf (z.1, z.2.1, z.2.2.1, z.2.2.2.1, f, z.2.2.2.2.2.1, z.2.2.2.2.2.2.1, z.2.2.2.2.2.2.2)) ∧
  (∀ z : SX0, (wf z)[p5]? = some (a5, .inl (cI, 30, .inl z.2.2.2.2.2.1))) ∧
  (∀ (z : SX0) (f : Nat → Int32), (wf z).set p5 (a5, .inl (cI, 30, .inl f)) = wf (z.1, z.2.1, z.2.2.1, z.2.2.2.1, z.2.2.2.2.1, f, z.2.2.2.2.2.2.1, z.2.2.2.2.2.2.2)) ∧
  (∀ (z : SX0) (v : Int32), (wf z).set p0 (a0, .inr (0, [.ref a1, .ref a2, .ref a3, .int z.2.2.2.1, .ref a4, .ref a5, .int v, .int z.2.2.2.2.2.2.2])) = wf (z.1, z.2.1, z.2.2.1, z.2.2.2.1, z.2.2.2.2.1, z.2.2.2.2.2.1, v, z.2.2.2.2.2.2.2)) ∧
  (∀ (z : SX0) (v : Int32), (wf z).set p0 (a0, .inr (0, [.ref a1, .ref a2, .ref a3, .int z.2.2.2.1, .ref a4, .ref a5, .int z.2.2.2.2.2.2.1, .int v])) = wf (z.1, z.2.1, z.2.2.1, z.2.2.2.1, z.2.2.2.2.1, z.2.2.2.2.2.1, z.2.2.2.2.2.2.1, v))
theorem LnX0_g {a0 a1 a2 a3 a4 a5 p0 p1 p2 p3 p4 p5 : Nat} {cI : ClassId} {wf : SX0 → va_W} (L : LnX0 a0 a1 a2 a3 a4 a5 p0 p1 p2 p3 p4 p5 cI wf) (z : SX0) : (wf z)[p0]? = some (a0, .inr (0, [.ref a1, .ref a2, .ref a3, .int z.2.2.2.1, .ref a4, .ref a5, .int z.2.2.2.2.2.2.1, .int z.2.2.2.2.2.2.2])) := L.1 z
theorem LnX0_a0 {a0 a1 a2 a3 a4 a5 p0 p1 p2 p3 p4 p5 : Nat} {cI : ClassId} {wf : SX0 → va_W} (L : LnX0 a0 a1 a2 a3 a4 a5 p0 p1 p2 p3 p4 p5 cI wf) (z : SX0) : (wf z)[p1]? = some (a1, .inl (cI, 200, .inl z.1)) := L.2.1 z
theorem LnX0_b0 {a0 a1 a2 a3 a4 a5 p0 p1 p2 p3 p4 p5 : Nat} {cI : ClassId} {wf : SX0 → va_W} (L : LnX0 a0 a1 a2 a3 a4 a5 p0 p1 p2 p3 p4 p5 cI wf) (z : SX0) (f : Nat → Int32) : (wf z).set p1 (a1, .inl (cI, 200, .inl f)) = wf (f, z.2.1, z.2.2.1, z.2.2.2.1, z.2.2.2.2.1, z.2.2.2.2.2.1, z.2.2.2.2.2.2.1, z.2.2.2.2.2.2.2) := L.2.2.1 z f
theorem LnX0_a1 {a0 a1 a2 a3 a4 a5 p0 p1 p2 p3 p4 p5 : Nat} {cI : ClassId} {wf : SX0 → va_W} (L : LnX0 a0 a1 a2 a3 a4 a5 p0 p1 p2 p3 p4 p5 cI wf) (z : SX0) : (wf z)[p2]? = some (a2, .inl (cI, 200, .inl z.2.1)) := L.2.2.2.1 z
theorem LnX0_b1 {a0 a1 a2 a3 a4 a5 p0 p1 p2 p3 p4 p5 : Nat} {cI : ClassId} {wf : SX0 → va_W} (L : LnX0 a0 a1 a2 a3 a4 a5 p0 p1 p2 p3 p4 p5 cI wf) (z : SX0) (f : Nat → Int32) : (wf z).set p2 (a2, .inl (cI, 200, .inl f)) = wf (z.1, f, z.2.2.1, z.2.2.2.1, z.2.2.2.2.1, z.2.2.2.2.2.1, z.2.2.2.2.2.2.1, z.2.2.2.2.2.2.2) := L.2.2.2.2.1 z f
theorem LnX0_a2 {a0 a1 a2 a3 a4 a5 p0 p1 p2 p3 p4 p5 : Nat} {cI : ClassId} {wf : SX0 → va_W} (L : LnX0 a0 a1 a2 a3 a4 a5 p0 p1 p2 p3 p4 p5 cI wf) (z : SX0) : (wf z)[p3]? = some (a3, .inl (cI, 200, .inl z.2.2.1)) := L.2.2.2.2.2.1 z
theorem LnX0_b2 {a0 a1 a2 a3 a4 a5 p0 p1 p2 p3 p4 p5 : Nat} {cI : ClassId} {wf : SX0 → va_W} (L : LnX0 a0 a1 a2 a3 a4 a5 p0 p1 p2 p3 p4 p5 cI wf) (z : SX0) (f : Nat → Int32) : (wf z).set p3 (a3, .inl (cI, 200, .inl f)) = wf (z.1, z.2.1, f, z.2.2.2.1, z.2.2.2.2.1, z.2.2.2.2.2.1, z.2.2.2.2.2.2.1, z.2.2.2.2.2.2.2) := L.2.2.2.2.2.2.1 z f
theorem LnX0_i3 {a0 a1 a2 a3 a4 a5 p0 p1 p2 p3 p4 p5 : Nat} {cI : ClassId} {wf : SX0 → va_W} (L : LnX0 a0 a1 a2 a3 a4 a5 p0 p1 p2 p3 p4 p5 cI wf) (z : SX0) (v : Int32) : (wf z).set p0 (a0, .inr (0, [.ref a1, .ref a2, .ref a3, .int v, .ref a4, .ref a5, .int z.2.2.2.2.2.2.1, .int z.2.2.2.2.2.2.2])) = wf (z.1, z.2.1, z.2.2.1, v, z.2.2.2.2.1, z.2.2.2.2.2.1, z.2.2.2.2.2.2.1, z.2.2.2.2.2.2.2) := L.2.2.2.2.2.2.2.1 z v
theorem LnX0_a4 {a0 a1 a2 a3 a4 a5 p0 p1 p2 p3 p4 p5 : Nat} {cI : ClassId} {wf : SX0 → va_W} (L : LnX0 a0 a1 a2 a3 a4 a5 p0 p1 p2 p3 p4 p5 cI wf) (z : SX0) : (wf z)[p4]? = some (a4, .inl (cI, 30, .inl z.2.2.2.2.1)) := L.2.2.2.2.2.2.2.2.1 z
theorem LnX0_b4 {a0 a1 a2 a3 a4 a5 p0 p1 p2 p3 p4 p5 : Nat} {cI : ClassId} {wf : SX0 → va_W} (L : LnX0 a0 a1 a2 a3 a4 a5 p0 p1 p2 p3 p4 p5 cI wf) (z : SX0) (f : Nat → Int32) : (wf z).set p4 (a4, .inl (cI, 30, .inl f)) = wf (z.1, z.2.1, z.2.2.1, z.2.2.2.1, f, z.2.2.2.2.2.1, z.2.2.2.2.2.2.1, z.2.2.2.2.2.2.2) := L.2.2.2.2.2.2.2.2.2.1 z f
theorem LnX0_a5 {a0 a1 a2 a3 a4 a5 p0 p1 p2 p3 p4 p5 : Nat} {cI : ClassId} {wf : SX0 → va_W} (L : LnX0 a0 a1 a2 a3 a4 a5 p0 p1 p2 p3 p4 p5 cI wf) (z : SX0) : (wf z)[p5]? = some (a5, .inl (cI, 30, .inl z.2.2.2.2.2.1)) := L.2.2.2.2.2.2.2.2.2.2.1 z
theorem LnX0_b5 {a0 a1 a2 a3 a4 a5 p0 p1 p2 p3 p4 p5 : Nat} {cI : ClassId} {wf : SX0 → va_W} (L : LnX0 a0 a1 a2 a3 a4 a5 p0 p1 p2 p3 p4 p5 cI wf) (z : SX0) (f : Nat → Int32) : (wf z).set p5 (a5, .inl (cI, 30, .inl f)) = wf (z.1, z.2.1, z.2.2.1, z.2.2.2.1, z.2.2.2.2.1, f, z.2.2.2.2.2.2.1, z.2.2.2.2.2.2.2) := L.2.2.2.2.2.2.2.2.2.2.2.1 z f
theorem LnX0_i6 {a0 a1 a2 a3 a4 a5 p0 p1 p2 p3 p4 p5 : Nat} {cI : ClassId} {wf : SX0 → va_W} (L : LnX0 a0 a1 a2 a3 a4 a5 p0 p1 p2 p3 p4 p5 cI wf) (z : SX0) (v : Int32) : (wf z).set p0 (a0, .inr (0, [.ref a1, .ref a2, .ref a3, .int z.2.2.2.1, .ref a4, .ref a5, .int v, .int z.2.2.2.2.2.2.2])) = wf (z.1, z.2.1, z.2.2.1, z.2.2.2.1, z.2.2.2.2.1, z.2.2.2.2.2.1, v, z.2.2.2.2.2.2.2) := L.2.2.2.2.2.2.2.2.2.2.2.2.1 z v
theorem LnX0_i7 {a0 a1 a2 a3 a4 a5 p0 p1 p2 p3 p4 p5 : Nat} {cI : ClassId} {wf : SX0 → va_W} (L : LnX0 a0 a1 a2 a3 a4 a5 p0 p1 p2 p3 p4 p5 cI wf) (z : SX0) (v : Int32) : (wf z).set p0 (a0, .inr (0, [.ref a1, .ref a2, .ref a3, .int z.2.2.2.1, .ref a4, .ref a5, .int z.2.2.2.2.2.2.1, .int v])) = wf (z.1, z.2.1, z.2.2.1, z.2.2.2.1, z.2.2.2.2.1, z.2.2.2.2.2.1, z.2.2.2.2.2.2.1, v) := L.2.2.2.2.2.2.2.2.2.2.2.2.2 z v
abbrev SX2 : Type := (Nat → Int32) × Int32
def LnX2 (a0 a1 p0 p1 : Nat) (cI : ClassId) (wf : SX2 → va_W) : Prop :=
  (∀ z : SX2, (wf z)[p0]? = some (a0, .inr (2, [.ref a1, .int z.2]))) ∧
  (∀ z : SX2, (wf z)[p1]? = some (a1, .inl (cI, 36, .inl z.1))) ∧
  (∀ (z : SX2) (f : Nat → Int32), (wf z).set p1 (a1, .inl (cI, 36, .inl f)) = wf (f, z.2)) ∧
  (∀ (z : SX2) (v : Int32), (wf z).set p0 (a0, .inr (2, [.ref a1, .int v])) = wf (z.1, v))
theorem LnX2_g {a0 a1 p0 p1 : Nat} {cI : ClassId} {wf : SX2 → va_W} (L : LnX2 a0 a1 p0 p1 cI wf) (z : SX2) : (wf z)[p0]? = some (a0, .inr (2, [.ref a1, .int z.2])) := L.1 z
theorem LnX2_a0 {a0 a1 p0 p1 : Nat} {cI : ClassId} {wf : SX2 → va_W} (L : LnX2 a0 a1 p0 p1 cI wf) (z : SX2) : (wf z)[p1]? = some (a1, .inl (cI, 36, .inl z.1)) := L.2.1 z
theorem LnX2_b0 {a0 a1 p0 p1 : Nat} {cI : ClassId} {wf : SX2 → va_W} (L : LnX2 a0 a1 p0 p1 cI wf) (z : SX2) (f : Nat → Int32) : (wf z).set p1 (a1, .inl (cI, 36, .inl f)) = wf (f, z.2) := L.2.2.1 z f
theorem LnX2_i1 {a0 a1 p0 p1 : Nat} {cI : ClassId} {wf : SX2 → va_W} (L : LnX2 a0 a1 p0 p1 cI wf) (z : SX2) (v : Int32) : (wf z).set p0 (a0, .inr (2, [.ref a1, .int v])) = wf (z.1, v) := L.2.2.2 z v
abbrev SX4 : Type := Int32 × Int32
def LnX4 (a0 p0 : Nat) (cI : ClassId) (wf : SX4 → va_W) : Prop :=
  (∀ z : SX4, (wf z)[p0]? = some (a0, .inr (4, [.int z.1, .int z.2]))) ∧
  (∀ (z : SX4) (v : Int32), (wf z).set p0 (a0, .inr (4, [.int v, .int z.2])) = wf (v, z.2)) ∧
  (∀ (z : SX4) (v : Int32), (wf z).set p0 (a0, .inr (4, [.int z.1, .int v])) = wf (z.1, v))
theorem LnX4_g {a0 p0 : Nat} {cI : ClassId} {wf : SX4 → va_W} (L : LnX4 a0 p0 cI wf) (z : SX4) : (wf z)[p0]? = some (a0, .inr (4, [.int z.1, .int z.2])) := L.1 z
theorem LnX4_i0 {a0 p0 : Nat} {cI : ClassId} {wf : SX4 → va_W} (L : LnX4 a0 p0 cI wf) (z : SX4) (v : Int32) : (wf z).set p0 (a0, .inr (4, [.int v, .int z.2])) = wf (v, z.2) := L.2.1 z v
theorem LnX4_i1 {a0 p0 : Nat} {cI : ClassId} {wf : SX4 → va_W} (L : LnX4 a0 p0 cI wf) (z : SX4) (v : Int32) : (wf z).set p0 (a0, .inr (4, [.int z.1, .int v])) = wf (z.1, v) := L.2.2 z v
abbrev SX6 : Type := SX5 × SX5 × Int32 × Int32
def LnX6 (a0 a1 a2 a3 a4 p0 p1 p2 p3 p4 : Nat) (cI : ClassId) (wf : SX6 → va_W) : Prop :=
  (∀ z : SX6, (wf z)[p0]? = some (a0, .inr (6, [.ref a1, .ref a3, .int z.2.2.1, .int z.2.2.2]))) ∧
  (∀ z : SX6, LnX5 a1 a2 p1 p2 cI (fun x => wf (x, z.2.1, z.2.2.1, z.2.2.2))) ∧
  (∀ z : SX6, LnX5 a3 a4 p3 p4 cI (fun x => wf (z.1, x, z.2.2.1, z.2.2.2))) ∧
  (∀ (z : SX6) (v : Int32), (wf z).set p0 (a0, .inr (6, [.ref a1, .ref a3, .int v, .int z.2.2.2])) = wf (z.1, z.2.1, v, z.2.2.2)) ∧
  (∀ (z : SX6) (v : Int32), (wf z).set p0 (a0, .inr (6, [.ref a1, .ref a3, .int z.2.2.1, .int v])) = wf (z.1, z.2.1, z.2.2.1, v))
theorem LnX6_g {a0 a1 a2 a3 a4 p0 p1 p2 p3 p4 : Nat} {cI : ClassId} {wf : SX6 → va_W} (L : LnX6 a0 a1 a2 a3 a4 p0 p1 p2 p3 p4 cI wf) (z : SX6) : (wf z)[p0]? = some (a0, .inr (6, [.ref a1, .ref a3, .int z.2.2.1, .int z.2.2.2])) := L.1 z
theorem LnX6_s0 {a0 a1 a2 a3 a4 p0 p1 p2 p3 p4 : Nat} {cI : ClassId} {wf : SX6 → va_W} (L : LnX6 a0 a1 a2 a3 a4 p0 p1 p2 p3 p4 cI wf) (z : SX6) : LnX5 a1 a2 p1 p2 cI (fun x => wf (x, z.2.1, z.2.2.1, z.2.2.2)) := L.2.1 z
theorem LnX6_s1 {a0 a1 a2 a3 a4 p0 p1 p2 p3 p4 : Nat} {cI : ClassId} {wf : SX6 → va_W} (L : LnX6 a0 a1 a2 a3 a4 p0 p1 p2 p3 p4 cI wf) (z : SX6) : LnX5 a3 a4 p3 p4 cI (fun x => wf (z.1, x, z.2.2.1, z.2.2.2)) := L.2.2.1 z
theorem LnX6_i2 {a0 a1 a2 a3 a4 p0 p1 p2 p3 p4 : Nat} {cI : ClassId} {wf : SX6 → va_W} (L : LnX6 a0 a1 a2 a3 a4 p0 p1 p2 p3 p4 cI wf) (z : SX6) (v : Int32) : (wf z).set p0 (a0, .inr (6, [.ref a1, .ref a3, .int v, .int z.2.2.2])) = wf (z.1, z.2.1, v, z.2.2.2) := L.2.2.2.1 z v
theorem LnX6_i3 {a0 a1 a2 a3 a4 p0 p1 p2 p3 p4 : Nat} {cI : ClassId} {wf : SX6 → va_W} (L : LnX6 a0 a1 a2 a3 a4 p0 p1 p2 p3 p4 cI wf) (z : SX6) (v : Int32) : (wf z).set p0 (a0, .inr (6, [.ref a1, .ref a3, .int z.2.2.1, .int v])) = wf (z.1, z.2.1, z.2.2.1, v) := L.2.2.2.2 z v
abbrev SX3 : Type := SX6 × SX1 × SX0 × (Nat → Int32) × Int32
def LnX3 (a0 a1 a2 a3 a4 a5 a6 a7 a8 a9 a10 a11 a12 a13 a14 a15 p0 p1 p2 p3 p4 p5 p6 p7 p8 p9 p10 p11 p12 p13 p14 p15 : Nat) (cI : ClassId) (wf : SX3 → va_W) : Prop :=
  (∀ z : SX3, (wf z)[p0]? = some (a0, .inr (3, [.ref a1, .ref a6, .ref a9, .ref a15, .int z.2.2.2.2]))) ∧
  (∀ z : SX3, LnX6 a1 a2 a3 a4 a5 p1 p2 p3 p4 p5 cI (fun x => wf (x, z.2.1, z.2.2.1, z.2.2.2.1, z.2.2.2.2))) ∧
  (∀ z : SX3, LnX1 a6 a7 a8 p6 p7 p8 cI (fun x => wf (z.1, x, z.2.2.1, z.2.2.2.1, z.2.2.2.2))) ∧
  (∀ z : SX3, LnX0 a9 a10 a11 a12 a13 a14 p9 p10 p11 p12 p13 p14 cI (fun x => wf (z.1, z.2.1, x, z.2.2.2.1, z.2.2.2.2))) ∧
  (∀ z : SX3, (wf z)[p15]? = some (a15, .inl (cI, 10, .inl z.2.2.2.1))) ∧
  (∀ (z : SX3) (f : Nat → Int32), (wf z).set p15 (a15, .inl (cI, 10, .inl f)) = wf (z.1, z.2.1, z.2.2.1, f, z.2.2.2.2)) ∧
  (∀ (z : SX3) (v : Int32), (wf z).set p0 (a0, .inr (3, [.ref a1, .ref a6, .ref a9, .ref a15, .int v])) = wf (z.1, z.2.1, z.2.2.1, z.2.2.2.1, v))
theorem LnX3_g {a0 a1 a2 a3 a4 a5 a6 a7 a8 a9 a10 a11 a12 a13 a14 a15 p0 p1 p2 p3 p4 p5 p6 p7 p8 p9 p10 p11 p12 p13 p14 p15 : Nat} {cI : ClassId} {wf : SX3 → va_W} (L : LnX3 a0 a1 a2 a3 a4 a5 a6 a7 a8 a9 a10 a11 a12 a13 a14 a15 p0 p1 p2 p3 p4 p5 p6 p7 p8 p9 p10 p11 p12 p13 p14 p15 cI wf) (z : SX3) : (wf z)[p0]? = some (a0, .inr (3, [.ref a1, .ref a6, .ref a9, .ref a15, .int z.2.2.2.2])) := L.1 z
theorem LnX3_s0 {a0 a1 a2 a3 a4 a5 a6 a7 a8 a9 a10 a11 a12 a13 a14 a15 p0 p1 p2 p3 p4 p5 p6 p7 p8 p9 p10 p11 p12 p13 p14 p15 : Nat} {cI : ClassId} {wf : SX3 → va_W} (L : LnX3 a0 a1 a2 a3 a4 a5 a6 a7 a8 a9 a10 a11 a12 a13 a14 a15 p0 p1 p2 p3 p4 p5 p6 p7 p8 p9 p10 p11 p12 p13 p14 p15 cI wf) (z : SX3) : LnX6 a1 a2 a3 a4 a5 p1 p2 p3 p4 p5 cI (fun x => wf (x, z.2.1, z.2.2.1, z.2.2.2.1, z.2.2.2.2)) := L.2.1 z
theorem LnX3_s1 {a0 a1 a2 a3 a4 a5 a6 a7 a8 a9 a10 a11 a12 a13 a14 a15 p0 p1 p2 p3 p4 p5 p6 p7 p8 p9 p10 p11 p12 p13 p14 p15 : Nat} {cI : ClassId} {wf : SX3 → va_W} (L : LnX3 a0 a1 a2 a3 a4 a5 a6 a7 a8 a9 a10 a11 a12 a13 a14 a15 p0 p1 p2 p3 p4 p5 p6 p7 p8 p9 p10 p11 p12 p13 p14 p15 cI wf) (z : SX3) : LnX1 a6 a7 a8 p6 p7 p8 cI (fun x => wf (z.1, x, z.2.2.1, z.2.2.2.1, z.2.2.2.2)) := L.2.2.1 z
theorem LnX3_s2 {a0 a1 a2 a3 a4 a5 a6 a7 a8 a9 a10 a11 a12 a13 a14 a15 p0 p1 p2 p3 p4 p5 p6 p7 p8 p9 p10 p11 p12 p13 p14 p15 : Nat} {cI : ClassId} {wf : SX3 → va_W} (L : LnX3 a0 a1 a2 a3 a4 a5 a6 a7 a8 a9 a10 a11 a12 a13 a14 a15 p0 p1 p2 p3 p4 p5 p6 p7 p8 p9 p10 p11 p12 p13 p14 p15 cI wf) (z : SX3) : LnX0 a9 a10 a11 a12 a13 a14 p9 p10 p11 p12 p13 p14 cI (fun x => wf (z.1, z.2.1, x, z.2.2.2.1, z.2.2.2.2)) := L.2.2.2.1 z
theorem LnX3_a3 {a0 a1 a2 a3 a4 a5 a6 a7 a8 a9 a10 a11 a12 a13 a14 a15 p0 p1 p2 p3 p4 p5 p6 p7 p8 p9 p10 p11 p12 p13 p14 p15 : Nat} {cI : ClassId} {wf : SX3 → va_W} (L : LnX3 a0 a1 a2 a3 a4 a5 a6 a7 a8 a9 a10 a11 a12 a13 a14 a15 p0 p1 p2 p3 p4 p5 p6 p7 p8 p9 p10 p11 p12 p13 p14 p15 cI wf) (z : SX3) : (wf z)[p15]? = some (a15, .inl (cI, 10, .inl z.2.2.2.1)) := L.2.2.2.2.1 z
theorem LnX3_b3 {a0 a1 a2 a3 a4 a5 a6 a7 a8 a9 a10 a11 a12 a13 a14 a15 p0 p1 p2 p3 p4 p5 p6 p7 p8 p9 p10 p11 p12 p13 p14 p15 : Nat} {cI : ClassId} {wf : SX3 → va_W} (L : LnX3 a0 a1 a2 a3 a4 a5 a6 a7 a8 a9 a10 a11 a12 a13 a14 a15 p0 p1 p2 p3 p4 p5 p6 p7 p8 p9 p10 p11 p12 p13 p14 p15 cI wf) (z : SX3) (f : Nat → Int32) : (wf z).set p15 (a15, .inl (cI, 10, .inl f)) = wf (z.1, z.2.1, z.2.2.1, f, z.2.2.2.2) := L.2.2.2.2.2.1 z f
theorem LnX3_i4 {a0 a1 a2 a3 a4 a5 a6 a7 a8 a9 a10 a11 a12 a13 a14 a15 p0 p1 p2 p3 p4 p5 p6 p7 p8 p9 p10 p11 p12 p13 p14 p15 : Nat} {cI : ClassId} {wf : SX3 → va_W} (L : LnX3 a0 a1 a2 a3 a4 a5 a6 a7 a8 a9 a10 a11 a12 a13 a14 a15 p0 p1 p2 p3 p4 p5 p6 p7 p8 p9 p10 p11 p12 p13 p14 p15 cI wf) (z : SX3) (v : Int32) : (wf z).set p0 (a0, .inr (3, [.ref a1, .ref a6, .ref a9, .ref a15, .int v])) = wf (z.1, z.2.1, z.2.2.1, z.2.2.2.1, v) := L.2.2.2.2.2.2 z v
theorem LnX3_r3 {a0 a1 a2 a3 a4 a5 a6 a7 a8 a9 a10 a11 a12 a13 a14 a15 p0 p1 p2 p3 p4 p5 p6 p7 p8 p9 p10 p11 p12 p13 p14 p15 : Nat} {cI : ClassId} {wf : SX3 → va_W} (L : LnX3 a0 a1 a2 a3 a4 a5 a6 a7 a8 a9 a10 a11 a12 a13 a14 a15 p0 p1 p2 p3 p4 p5 p6 p7 p8 p9 p10 p11 p12 p13 p14 p15 cI wf) (z : SX3) : LnA a15 p15 10 cI (fun x => wf (z.1, z.2.1, z.2.2.1, x, z.2.2.2.2)) := ⟨fun x => LnX3_a3 L (z.1, z.2.1, z.2.2.1, x, z.2.2.2.2), fun x f => LnX3_b3 L (z.1, z.2.1, z.2.2.1, x, z.2.2.2.2) f⟩
abbrev SX7 : Type := SX2 × SX3 × SX4 × SX6 × SX4 × Int32 × SX3 × Int32 × Int32
def LnX7 (a0 a1 a2 a3 a4 a5 a6 a7 a8 a9 a10 a11 a12 a13 a14 a15 a16 a17 a18 a19 a20 a21 a22 a23 a24 a25 a26 a27 a28 a29 a30 a31 a32 a33 a34 a35 a36 a37 a38 a39 a40 a41 p0 p1 p2 p3 p4 p5 p6 p7 p8 p9 p10 p11 p12 p13 p14 p15 p16 p17 p18 p19 p20 p21 p22 p23 p24 p25 p26 p27 p28 p29 p30 p31 p32 p33 p34 p35 p36 p37 p38 p39 p40 p41 : Nat) (cI : ClassId) (wf : SX7 → va_W) : Prop :=
  (∀ z : SX7, (wf z)[p0]? = some (a0, .inr (7, [.ref a1, .ref a3, .ref a4, .ref a19, .ref a20, .ref a25, .int z.2.2.2.2.2.1, .ref a26, .int z.2.2.2.2.2.2.2.1, .int z.2.2.2.2.2.2.2.2]))) ∧
  (∀ z : SX7, LnX2 a1 a2 p1 p2 cI (fun x => wf (x, z.2.1, z.2.2.1, z.2.2.2.1, z.2.2.2.2.1, z.2.2.2.2.2.1, z.2.2.2.2.2.2.1, z.2.2.2.2.2.2.2.1, z.2.2.2.2.2.2.2.2))) ∧
  (∀ z : SX7, LnX3 a3 a4 a5 a6 a7 a8 a9 a10 a11 a12 a13 a14 a15 a16 a17 a18 p3 p4 p5 p6 p7 p8 p9 p10 p11 p12 p13 p14 p15 p16 p17 p18 cI (fun x => wf (z.1, x, z.2.2.1, z.2.2.2.1, z.2.2.2.2.1, z.2.2.2.2.2.1, z.2.2.2.2.2.2.1, z.2.2.2.2.2.2.2.1, z.2.2.2.2.2.2.2.2))) ∧
  (∀ z : SX7, LnX4 a19 p19 cI (fun x => wf (z.1, z.2.1, x, z.2.2.2.1, z.2.2.2.2.1, z.2.2.2.2.2.1, z.2.2.2.2.2.2.1, z.2.2.2.2.2.2.2.1, z.2.2.2.2.2.2.2.2))) ∧
  (∀ z : SX7, LnX6 a20 a21 a22 a23 a24 p20 p21 p22 p23 p24 cI (fun x => wf (z.1, z.2.1, z.2.2.1, x, z.2.2.2.2.1, z.2.2.2.2.2.1, z.2.2.2.2.2.2.1, z.2.2.2.2.2.2.2.1, z.2.2.2.2.2.2.2.2))) ∧
  (∀ z : SX7, LnX4 a25 p25 cI (fun x => wf (z.1, z.2.1, z.2.2.1, z.2.2.2.1, x, z.2.2.2.2.2.1, z.2.2.2.2.2.2.1, z.2.2.2.2.2.2.2.1, z.2.2.2.2.2.2.2.2))) ∧
  (∀ (z : SX7) (v : Int32), (wf z).set p0 (a0, .inr (7, [.ref a1, .ref a3, .ref a4, .ref a19, .ref a20, .ref a25, .int v, .ref a26, .int z.2.2.2.2.2.2.2.1, .int z.2.2.2.2.2.2.2.2])) = wf (z.1, z.2.1, z.2.2.1, z.2.2.2.1, z.2.2.2.2.1, v, z.2.2.2.2.2.2.1, z.2.2.2.2.2.2.2.1, z.2.2.2.2.2.2.2.2)) ∧
  (∀ z : SX7, LnX3 a26 a27 a28 a29 a30 a31 a32 a33 a34 a35 a36 a37 a38 a39 a40 a41 p26 p27 p28 p29 p30 p31 p32 p33 p34 p35 p36 p37 p38 p39 p40 p41 cI (fun x => wf (z.1, z.2.1, z.2.2.1, z.2.2.2.1, z.2.2.2.2.1, z.2.2.2.2.2.1, x, z.2.2.2.2.2.2.2.1, z.2.2.2.2.2.2.2.2))) ∧
  (∀ (z : SX7) (v : Int32), (wf z).set p0 (a0, .inr (7, [.ref a1, .ref a3, .ref a4, .ref a19, .ref a20, .ref a25, .int z.2.2.2.2.2.1, .ref a26, .int v, .int z.2.2.2.2.2.2.2.2])) = wf (z.1, z.2.1, z.2.2.1, z.2.2.2.1, z.2.2.2.2.1, z.2.2.2.2.2.1, z.2.2.2.2.2.2.1, v, z.2.2.2.2.2.2.2.2)) ∧
  (∀ (z : SX7) (v : Int32), (wf z).set p0 (a0, .inr (7, [.ref a1, .ref a3, .ref a4, .ref a19, .ref a20, .ref a25, .int z.2.2.2.2.2.1, .ref a26, .int z.2.2.2.2.2.2.2.1, .int v])) = wf (z.1, z.2.1, z.2.2.1, z.2.2.2.1, z.2.2.2.2.1, z.2.2.2.2.2.1, z.2.2.2.2.2.2.1, z.2.2.2.2.2.2.2.1, v))
theorem LnX7_g {a0 a1 a2 a3 a4 a5 a6 a7 a8 a9 a10 a11 a12 a13 a14 a15 a16 a17 a18 a19 a20 a21 a22 a23 a24 a25 a26 a27 a28 a29 a30 a31 a32 a33 a34 a35 a36 a37 a38 a39 a40 a41 p0 p1 p2 p3 p4 p5 p6 p7 p8 p9 p10 p11 p12 p13 p14 p15 p16 p17 p18 p19 p20 p21 p22 p23 p24 p25 p26 p27 p28 p29 p30 p31 p32 p33 p34 p35 p36 p37 p38 p39 p40 p41 : Nat} {cI : ClassId} {wf : SX7 → va_W} (L : LnX7 a0 a1 a2 a3 a4 a5 a6 a7 a8 a9 a10 a11 a12 a13 a14 a15 a16 a17 a18 a19 a20 a21 a22 a23 a24 a25 a26 a27 a28 a29 a30 a31 a32 a33 a34 a35 a36 a37 a38 a39 a40 a41 p0 p1 p2 p3 p4 p5 p6 p7 p8 p9 p10 p11 p12 p13 p14 p15 p16 p17 p18 p19 p20 p21 p22 p23 p24 p25 p26 p27 p28 p29 p30 p31 p32 p33 p34 p35 p36 p37 p38 p39 p40 p41 cI wf) (z : SX7) : (wf z)[p0]? = some (a0, .inr (7, [.ref a1, .ref a3, .ref a4, .ref a19, .ref a20, .ref a25, .int z.2.2.2.2.2.1, .ref a26, .int z.2.2.2.2.2.2.2.1, .int z.2.2.2.2.2.2.2.2])) := L.1 z
theorem LnX7_s0 {a0 a1 a2 a3 a4 a5 a6 a7 a8 a9 a10 a11 a12 a13 a14 a15 a16 a17 a18 a19 a20 a21 a22 a23 a24 a25 a26 a27 a28 a29 a30 a31 a32 a33 a34 a35 a36 a37 a38 a39 a40 a41 p0 p1 p2 p3 p4 p5 p6 p7 p8 p9 p10 p11 p12 p13 p14 p15 p16 p17 p18 p19 p20 p21 p22 p23 p24 p25 p26 p27 p28 p29 p30 p31 p32 p33 p34 p35 p36 p37 p38 p39 p40 p41 : Nat} {cI : ClassId} {wf : SX7 → va_W} (L : LnX7 a0 a1 a2 a3 a4 a5 a6 a7 a8 a9 a10 a11 a12 a13 a14 a15 a16 a17 a18 a19 a20 a21 a22 a23 a24 a25 a26 a27 a28 a29 a30 a31 a32 a33 a34 a35 a36 a37 a38 a39 a40 a41 p0 p1 p2 p3 p4 p5 p6 p7 p8 p9 p10 p11 p12 p13 p14 p15 p16 p17 p18 p19 p20 p21 p22 p23 p24 p25 p26 p27 p28 p29 p30 p31 p32 p33 p34 p35 p36 p37 p38 p39 p40 p41 cI wf) (z : SX7) : LnX2 a1 a2 p1 p2 cI (fun x => wf (x, z.2.1, z.2.2.1, z.2.2.2.1, z.2.2.2.2.1, z.2.2.2.2.2.1, z.2.2.2.2.2.2.1, z.2.2.2.2.2.2.2.1, z.2.2.2.2.2.2.2.2)) := L.2.1 z
theorem LnX7_s1 {a0 a1 a2 a3 a4 a5 a6 a7 a8 a9 a10 a11 a12 a13 a14 a15 a16 a17 a18 a19 a20 a21 a22 a23 a24 a25 a26 a27 a28 a29 a30 a31 a32 a33 a34 a35 a36 a37 a38 a39 a40 a41 p0 p1 p2 p3 p4 p5 p6 p7 p8 p9 p10 p11 p12 p13 p14 p15 p16 p17 p18 p19 p20 p21 p22 p23 p24 p25 p26 p27 p28 p29 p30 p31 p32 p33 p34 p35 p36 p37 p38 p39 p40 p41 : Nat} {cI : ClassId} {wf : SX7 → va_W} (L : LnX7 a0 a1 a2 a3 a4 a5 a6 a7 a8 a9 a10 a11 a12 a13 a14 a15 a16 a17 a18 a19 a20 a21 a22 a23 a24 a25 a26 a27 a28 a29 a30 a31 a32 a33 a34 a35 a36 a37 a38 a39 a40 a41 p0 p1 p2 p3 p4 p5 p6 p7 p8 p9 p10 p11 p12 p13 p14 p15 p16 p17 p18 p19 p20 p21 p22 p23 p24 p25 p26 p27 p28 p29 p30 p31 p32 p33 p34 p35 p36 p37 p38 p39 p40 p41 cI wf) (z : SX7) : LnX3 a3 a4 a5 a6 a7 a8 a9 a10 a11 a12 a13 a14 a15 a16 a17 a18 p3 p4 p5 p6 p7 p8 p9 p10 p11 p12 p13 p14 p15 p16 p17 p18 cI (fun x => wf (z.1, x, z.2.2.1, z.2.2.2.1, z.2.2.2.2.1, z.2.2.2.2.2.1, z.2.2.2.2.2.2.1, z.2.2.2.2.2.2.2.1, z.2.2.2.2.2.2.2.2)) := L.2.2.1 z
theorem LnX7_s2 {a0 a1 a2 a3 a4 a5 a6 a7 a8 a9 a10 a11 a12 a13 a14 a15 a16 a17 a18 a19 a20 a21 a22 a23 a24 a25 a26 a27 a28 a29 a30 a31 a32 a33 a34 a35 a36 a37 a38 a39 a40 a41 p0 p1 p2 p3 p4 p5 p6 p7 p8 p9 p10 p11 p12 p13 p14 p15 p16 p17 p18 p19 p20 p21 p22 p23 p24 p25 p26 p27 p28 p29 p30 p31 p32 p33 p34 p35 p36 p37 p38 p39 p40 p41 : Nat} {cI : ClassId} {wf : SX7 → va_W} (L : LnX7 a0 a1 a2 a3 a4 a5 a6 a7 a8 a9 a10 a11 a12 a13 a14 a15 a16 a17 a18 a19 a20 a21 a22 a23 a24 a25 a26 a27 a28 a29 a30 a31 a32 a33 a34 a35 a36 a37 a38 a39 a40 a41 p0 p1 p2 p3 p4 p5 p6 p7 p8 p9 p10 p11 p12 p13 p14 p15 p16 p17 p18 p19 p20 p21 p22 p23 p24 p25 p26 p27 p28 p29 p30 p31 p32 p33 p34 p35 p36 p37 p38 p39 p40 p41 cI wf) (z : SX7) : LnX4 a19 p19 cI (fun x => wf (z.1, z.2.1, x, z.2.2.2.1, z.2.2.2.2.1, z.2.2.2.2.2.1, z.2.2.2.2.2.2.1, z.2.2.2.2.2.2.2.1, z.2.2.2.2.2.2.2.2)) := L.2.2.2.1 z
theorem LnX7_s3 {a0 a1 a2 a3 a4 a5 a6 a7 a8 a9 a10 a11 a12 a13 a14 a15 a16 a17 a18 a19 a20 a21 a22 a23 a24 a25 a26 a27 a28 a29 a30 a31 a32 a33 a34 a35 a36 a37 a38 a39 a40 a41 p0 p1 p2 p3 p4 p5 p6 p7 p8 p9 p10 p11 p12 p13 p14 p15 p16 p17 p18 p19 p20 p21 p22 p23 p24 p25 p26 p27 p28 p29 p30 p31 p32 p33 p34 p35 p36 p37 p38 p39 p40 p41 : Nat} {cI : ClassId} {wf : SX7 → va_W} (L : LnX7 a0 a1 a2 a3 a4 a5 a6 a7 a8 a9 a10 a11 a12 a13 a14 a15 a16 a17 a18 a19 a20 a21 a22 a23 a24 a25 a26 a27 a28 a29 a30 a31 a32 a33 a34 a35 a36 a37 a38 a39 a40 a41 p0 p1 p2 p3 p4 p5 p6 p7 p8 p9 p10 p11 p12 p13 p14 p15 p16 p17 p18 p19 p20 p21 p22 p23 p24 p25 p26 p27 p28 p29 p30 p31 p32 p33 p34 p35 p36 p37 p38 p39 p40 p41 cI wf) (z : SX7) : LnX6 a20 a21 a22 a23 a24 p20 p21 p22 p23 p24 cI (fun x => wf (z.1, z.2.1, z.2.2.1, x, z.2.2.2.2.1, z.2.2.2.2.2.1, z.2.2.2.2.2.2.1, z.2.2.2.2.2.2.2.1, z.2.2.2.2.2.2.2.2)) := L.2.2.2.2.1 z
theorem LnX7_s4 {a0 a1 a2 a3 a4 a5 a6 a7 a8 a9 a10 a11 a12 a13 a14 a15 a16 a17 a18 a19 a20 a21 a22 a23 a24 a25 a26 a27 a28 a29 a30 a31 a32 a33 a34 a35 a36 a37 a38 a39 a40 a41 p0 p1 p2 p3 p4 p5 p6 p7 p8 p9 p10 p11 p12 p13 p14 p15 p16 p17 p18 p19 p20 p21 p22 p23 p24 p25 p26 p27 p28 p29 p30 p31 p32 p33 p34 p35 p36 p37 p38 p39 p40 p41 : Nat} {cI : ClassId} {wf : SX7 → va_W} (L : LnX7 a0 a1 a2 a3 a4 a5 a6 a7 a8 a9 a10 a11 a12 a13 a14 a15 a16 a17 a18 a19 a20 a21 a22 a23 a24 a25 a26 a27 a28 a29 a30 a31 a32 a33 a34 a35 a36 a37 a38 a39 a40 a41 p0 p1 p2 p3 p4 p5 p6 p7 p8 p9 p10 p11 p12 p13 p14 p15 p16 p17 p18 p19 p20 p21 p22 p23 p24 p25 p26 p27 p28 p29 p30 p31 p32 p33 p34 p35 p36 p37 p38 p39 p40 p41 cI wf) (z : SX7) : LnX4 a25 p25 cI (fun x => wf (z.1, z.2.1, z.2.2.1, z.2.2.2.1, x, z.2.2.2.2.2.1, z.2.2.2.2.2.2.1, z.2.2.2.2.2.2.2.1, z.2.2.2.2.2.2.2.2)) := L.2.2.2.2.2.1 z
theorem LnX7_i5 {a0 a1 a2 a3 a4 a5 a6 a7 a8 a9 a10 a11 a12 a13 a14 a15 a16 a17 a18 a19 a20 a21 a22 a23 a24 a25 a26 a27 a28 a29 a30 a31 a32 a33 a34 a35 a36 a37 a38 a39 a40 a41 p0 p1 p2 p3 p4 p5 p6 p7 p8 p9 p10 p11 p12 p13 p14 p15 p16 p17 p18 p19 p20 p21 p22 p23 p24 p25 p26 p27 p28 p29 p30 p31 p32 p33 p34 p35 p36 p37 p38 p39 p40 p41 : Nat} {cI : ClassId} {wf : SX7 → va_W} (L : LnX7 a0 a1 a2 a3 a4 a5 a6 a7 a8 a9 a10 a11 a12 a13 a14 a15 a16 a17 a18 a19 a20 a21 a22 a23 a24 a25 a26 a27 a28 a29 a30 a31 a32 a33 a34 a35 a36 a37 a38 a39 a40 a41 p0 p1 p2 p3 p4 p5 p6 p7 p8 p9 p10 p11 p12 p13 p14 p15 p16 p17 p18 p19 p20 p21 p22 p23 p24 p25 p26 p27 p28 p29 p30 p31 p32 p33 p34 p35 p36 p37 p38 p39 p40 p41 cI wf) (z : SX7) (v : Int32) : (wf z).set p0 (a0, .inr (7, [.ref a1, .ref a3, .ref a4, .ref a19, .ref a20, .ref a25, .int v, .ref a26, .int z.2.2.2.2.2.2.2.1, .int z.2.2.2.2.2.2.2.2])) = wf (z.1, z.2.1, z.2.2.1, z.2.2.2.1, z.2.2.2.2.1, v, z.2.2.2.2.2.2.1, z.2.2.2.2.2.2.2.1, z.2.2.2.2.2.2.2.2) := L.2.2.2.2.2.2.1 z v
theorem LnX7_s6 {a0 a1 a2 a3 a4 a5 a6 a7 a8 a9 a10 a11 a12 a13 a14 a15 a16 a17 a18 a19 a20 a21 a22 a23 a24 a25 a26 a27 a28 a29 a30 a31 a32 a33 a34 a35 a36 a37 a38 a39 a40 a41 p0 p1 p2 p3 p4 p5 p6 p7 p8 p9 p10 p11 p12 p13 p14 p15 p16 p17 p18 p19 p20 p21 p22 p23 p24 p25 p26 p27 p28 p29 p30 p31 p32 p33 p34 p35 p36 p37 p38 p39 p40 p41 : Nat} {cI : ClassId} {wf : SX7 → va_W} (L : LnX7 a0 a1 a2 a3 a4 a5 a6 a7 a8 a9 a10 a11 a12 a13 a14 a15 a16 a17 a18 a19 a20 a21 a22 a23 a24 a25 a26 a27 a28 a29 a30 a31 a32 a33 a34 a35 a36 a37 a38 a39 a40 a41 p0 p1 p2 p3 p4 p5 p6 p7 p8 p9 p10 p11 p12 p13 p14 p15 p16 p17 p18 p19 p20 p21 p22 p23 p24 p25 p26 p27 p28 p29 p30 p31 p32 p33 p34 p35 p36 p37 p38 p39 p40 p41 cI wf) (z : SX7) : LnX3 a26 a27 a28 a29 a30 a31 a32 a33 a34 a35 a36 a37 a38 a39 a40 a41 p26 p27 p28 p29 p30 p31 p32 p33 p34 p35 p36 p37 p38 p39 p40 p41 cI (fun x => wf (z.1, z.2.1, z.2.2.1, z.2.2.2.1, z.2.2.2.2.1, z.2.2.2.2.2.1, x, z.2.2.2.2.2.2.2.1, z.2.2.2.2.2.2.2.2)) := L.2.2.2.2.2.2.2.1 z
theorem LnX7_i7 {a0 a1 a2 a3 a4 a5 a6 a7 a8 a9 a10 a11 a12 a13 a14 a15 a16 a17 a18 a19 a20 a21 a22 a23 a24 a25 a26 a27 a28 a29 a30 a31 a32 a33 a34 a35 a36 a37 a38 a39 a40 a41 p0 p1 p2 p3 p4 p5 p6 p7 p8 p9 p10 p11 p12 p13 p14 p15 p16 p17 p18 p19 p20 p21 p22 p23 p24 p25 p26 p27 p28 p29 p30 p31 p32 p33 p34 p35 p36 p37 p38 p39 p40 p41 : Nat} {cI : ClassId} {wf : SX7 → va_W} (L : LnX7 a0 a1 a2 a3 a4 a5 a6 a7 a8 a9 a10 a11 a12 a13 a14 a15 a16 a17 a18 a19 a20 a21 a22 a23 a24 a25 a26 a27 a28 a29 a30 a31 a32 a33 a34 a35 a36 a37 a38 a39 a40 a41 p0 p1 p2 p3 p4 p5 p6 p7 p8 p9 p10 p11 p12 p13 p14 p15 p16 p17 p18 p19 p20 p21 p22 p23 p24 p25 p26 p27 p28 p29 p30 p31 p32 p33 p34 p35 p36 p37 p38 p39 p40 p41 cI wf) (z : SX7) (v : Int32) : (wf z).set p0 (a0, .inr (7, [.ref a1, .ref a3, .ref a4, .ref a19, .ref a20, .ref a25, .int z.2.2.2.2.2.1, .ref a26, .int v, .int z.2.2.2.2.2.2.2.2])) = wf (z.1, z.2.1, z.2.2.1, z.2.2.2.1, z.2.2.2.2.1, z.2.2.2.2.2.1, z.2.2.2.2.2.2.1, v, z.2.2.2.2.2.2.2.2) := L.2.2.2.2.2.2.2.2.1 z v
theorem LnX7_i8 {a0 a1 a2 a3 a4 a5 a6 a7 a8 a9 a10 a11 a12 a13 a14 a15 a16 a17 a18 a19 a20 a21 a22 a23 a24 a25 a26 a27 a28 a29 a30 a31 a32 a33 a34 a35 a36 a37 a38 a39 a40 a41 p0 p1 p2 p3 p4 p5 p6 p7 p8 p9 p10 p11 p12 p13 p14 p15 p16 p17 p18 p19 p20 p21 p22 p23 p24 p25 p26 p27 p28 p29 p30 p31 p32 p33 p34 p35 p36 p37 p38 p39 p40 p41 : Nat} {cI : ClassId} {wf : SX7 → va_W} (L : LnX7 a0 a1 a2 a3 a4 a5 a6 a7 a8 a9 a10 a11 a12 a13 a14 a15 a16 a17 a18 a19 a20 a21 a22 a23 a24 a25 a26 a27 a28 a29 a30 a31 a32 a33 a34 a35 a36 a37 a38 a39 a40 a41 p0 p1 p2 p3 p4 p5 p6 p7 p8 p9 p10 p11 p12 p13 p14 p15 p16 p17 p18 p19 p20 p21 p22 p23 p24 p25 p26 p27 p28 p29 p30 p31 p32 p33 p34 p35 p36 p37 p38 p39 p40 p41 cI wf) (z : SX7) (v : Int32) : (wf z).set p0 (a0, .inr (7, [.ref a1, .ref a3, .ref a4, .ref a19, .ref a20, .ref a25, .int z.2.2.2.2.2.1, .ref a26, .int z.2.2.2.2.2.2.2.1, .int v])) = wf (z.1, z.2.1, z.2.2.1, z.2.2.2.1, z.2.2.2.2.1, z.2.2.2.2.2.1, z.2.2.2.2.2.2.1, z.2.2.2.2.2.2.2.1, v) := L.2.2.2.2.2.2.2.2.2 z v
abbrev SP55 : Type := SX5 × SX5
def LnP55 (a0 a1 a2 a3 p0 p1 p2 p3 : Nat) (cI : ClassId) (wf : SP55 → va_W) : Prop :=
  (∀ z : SP55, LnX5 a0 a1 p0 p1 cI (fun x => wf (x, z.2))) ∧
  (∀ z : SP55, LnX5 a2 a3 p2 p3 cI (fun x => wf (z.1, x)))
theorem LnP55_s0 {a0 a1 a2 a3 p0 p1 p2 p3 : Nat} {cI : ClassId} {wf : SP55 → va_W} (L : LnP55 a0 a1 a2 a3 p0 p1 p2 p3 cI wf) (z : SP55) : LnX5 a0 a1 p0 p1 cI (fun x => wf (x, z.2)) := L.1 z
theorem LnP55_s1 {a0 a1 a2 a3 p0 p1 p2 p3 : Nat} {cI : ClassId} {wf : SP55 → va_W} (L : LnP55 a0 a1 a2 a3 p0 p1 p2 p3 cI wf) (z : SP55) : LnX5 a2 a3 p2 p3 cI (fun x => wf (z.1, x)) := L.2 z
theorem LnP55_mk {a0 a1 a2 a3 p0 p1 p2 p3 : Nat} {cI : ClassId} {wf : SP55 → va_W} (h0 : ∀ z : SP55, LnX5 a0 a1 p0 p1 cI (fun x => wf (x, z.2))) (h1 : ∀ z : SP55, LnX5 a2 a3 p2 p3 cI (fun x => wf (z.1, x))) : LnP55 a0 a1 a2 a3 p0 p1 p2 p3 cI wf := ⟨h0, h1⟩
abbrev SP25 : Type := SX2 × SX5
def LnP25 (a0 a1 a2 a3 p0 p1 p2 p3 : Nat) (cI : ClassId) (wf : SP25 → va_W) : Prop :=
  (∀ z : SP25, LnX2 a0 a1 p0 p1 cI (fun x => wf (x, z.2))) ∧
  (∀ z : SP25, LnX5 a2 a3 p2 p3 cI (fun x => wf (z.1, x)))
theorem LnP25_s0 {a0 a1 a2 a3 p0 p1 p2 p3 : Nat} {cI : ClassId} {wf : SP25 → va_W} (L : LnP25 a0 a1 a2 a3 p0 p1 p2 p3 cI wf) (z : SP25) : LnX2 a0 a1 p0 p1 cI (fun x => wf (x, z.2)) := L.1 z
theorem LnP25_s1 {a0 a1 a2 a3 p0 p1 p2 p3 : Nat} {cI : ClassId} {wf : SP25 → va_W} (L : LnP25 a0 a1 a2 a3 p0 p1 p2 p3 cI wf) (z : SP25) : LnX5 a2 a3 p2 p3 cI (fun x => wf (z.1, x)) := L.2 z
theorem LnP25_mk {a0 a1 a2 a3 p0 p1 p2 p3 : Nat} {cI : ClassId} {wf : SP25 → va_W} (h0 : ∀ z : SP25, LnX2 a0 a1 p0 p1 cI (fun x => wf (x, z.2))) (h1 : ∀ z : SP25, LnX5 a2 a3 p2 p3 cI (fun x => wf (z.1, x))) : LnP25 a0 a1 a2 a3 p0 p1 p2 p3 cI wf := ⟨h0, h1⟩
abbrev SP66 : Type := SX6 × SX6
def LnP66 (a0 a1 a2 a3 a4 a5 a6 a7 a8 a9 p0 p1 p2 p3 p4 p5 p6 p7 p8 p9 : Nat) (cI : ClassId) (wf : SP66 → va_W) : Prop :=
  (∀ z : SP66, LnX6 a0 a1 a2 a3 a4 p0 p1 p2 p3 p4 cI (fun x => wf (x, z.2))) ∧
  (∀ z : SP66, LnX6 a5 a6 a7 a8 a9 p5 p6 p7 p8 p9 cI (fun x => wf (z.1, x)))
theorem LnP66_s0 {a0 a1 a2 a3 a4 a5 a6 a7 a8 a9 p0 p1 p2 p3 p4 p5 p6 p7 p8 p9 : Nat} {cI : ClassId} {wf : SP66 → va_W} (L : LnP66 a0 a1 a2 a3 a4 a5 a6 a7 a8 a9 p0 p1 p2 p3 p4 p5 p6 p7 p8 p9 cI wf) (z : SP66) : LnX6 a0 a1 a2 a3 a4 p0 p1 p2 p3 p4 cI (fun x => wf (x, z.2)) := L.1 z
theorem LnP66_s1 {a0 a1 a2 a3 a4 a5 a6 a7 a8 a9 p0 p1 p2 p3 p4 p5 p6 p7 p8 p9 : Nat} {cI : ClassId} {wf : SP66 → va_W} (L : LnP66 a0 a1 a2 a3 a4 a5 a6 a7 a8 a9 p0 p1 p2 p3 p4 p5 p6 p7 p8 p9 cI wf) (z : SP66) : LnX6 a5 a6 a7 a8 a9 p5 p6 p7 p8 p9 cI (fun x => wf (z.1, x)) := L.2 z
theorem LnP66_mk {a0 a1 a2 a3 a4 a5 a6 a7 a8 a9 p0 p1 p2 p3 p4 p5 p6 p7 p8 p9 : Nat} {cI : ClassId} {wf : SP66 → va_W} (h0 : ∀ z : SP66, LnX6 a0 a1 a2 a3 a4 p0 p1 p2 p3 p4 cI (fun x => wf (x, z.2))) (h1 : ∀ z : SP66, LnX6 a5 a6 a7 a8 a9 p5 p6 p7 p8 p9 cI (fun x => wf (z.1, x))) : LnP66 a0 a1 a2 a3 a4 a5 a6 a7 a8 a9 p0 p1 p2 p3 p4 p5 p6 p7 p8 p9 cI wf := ⟨h0, h1⟩
abbrev SP44 : Type := SX4 × SX4
def LnP44 (a0 a1 p0 p1 : Nat) (cI : ClassId) (wf : SP44 → va_W) : Prop :=
  (∀ z : SP44, LnX4 a0 p0 cI (fun x => wf (x, z.2))) ∧
  (∀ z : SP44, LnX4 a1 p1 cI (fun x => wf (z.1, x)))
theorem LnP44_s0 {a0 a1 p0 p1 : Nat} {cI : ClassId} {wf : SP44 → va_W} (L : LnP44 a0 a1 p0 p1 cI wf) (z : SP44) : LnX4 a0 p0 cI (fun x => wf (x, z.2)) := L.1 z
theorem LnP44_s1 {a0 a1 p0 p1 : Nat} {cI : ClassId} {wf : SP44 → va_W} (L : LnP44 a0 a1 p0 p1 cI wf) (z : SP44) : LnX4 a1 p1 cI (fun x => wf (z.1, x)) := L.2 z
theorem LnP44_mk {a0 a1 p0 p1 : Nat} {cI : ClassId} {wf : SP44 → va_W} (h0 : ∀ z : SP44, LnX4 a0 p0 cI (fun x => wf (x, z.2))) (h1 : ∀ z : SP44, LnX4 a1 p1 cI (fun x => wf (z.1, x))) : LnP44 a0 a1 p0 p1 cI wf := ⟨h0, h1⟩
abbrev SX8 : Type := (Nat → Int32) × (Nat → Int64) × (Nat → Nat → Int32)
/-- the fields of the model's object -/
def mF (a : Nat → Nat) (z : SX8) : List Value := [.int (z.1 0), .int (z.1 1), .int (z.1 2), .ref (a 3), .ref (a 4), .int (z.1 5), .int (z.1 6), .ref (a 7), .ref (a 8), .int (z.1 9), .ref (a 10), .int (z.1 11), .int (z.1 12), .int (z.1 13), .int (z.1 14), .int (z.1 15), .int (z.1 16), .int (z.1 17), .int (z.1 18), .int (z.1 19), .int (z.1 20), .int (z.1 21), .int (z.1 22), .int (z.1 23), .int (z.1 24), .int (z.1 25), .int (z.1 26), .int (z.1 27), .int (z.1 28), .ref (a 29), .ref (a 30), .ref (a 31), .ref (a 32), .ref (a 33), .ref (a 34), .ref (a 35), .ref (a 36), .ref (a 37), .ref (a 38), .ref (a 39), .ref (a 40), .int (z.1 41), .int (z.1 42), .ref (a 43), .ref (a 44), .ref (a 45), .ref (a 46), .ref (a 47), .ref (a 48), .long (z.2.1 49), .ref (a 50), .int (z.1 51), .int (z.1 52), .int (z.1 53), .int (z.1 54), .int (z.1 55), .int (z.1 56), .int (z.1 57), .ref (a 58), .ref (a 59), .ref (a 60), .long (z.2.1 61)]
def LnX8 (a q : Nat → Nat) (cI cB : ClassId) (wf : SX8 → va_W) : Prop :=
  (∀ z : SX8, (wf z)[q 0]? = some (a 0, .inr (8, mF a z))) ∧
  (∀ z z' : SX8, (wf z).set (q 0) (a 0, .inr (8, mF a (z'.1, z'.2.1, z.2.2))) = wf (z'.1, z'.2.1, z.2.2)) ∧
  (∀ z : SX8, (wf z)[q 3]? = some (a 3, .inl (cI, 28, .inl (z.2.2 3)))) ∧
  (∀ (z : SX8) (f : Nat → Int32), (wf z).set (q 3) (a 3, .inl (cI, 28, .inl f)) = wf (z.1, z.2.1, va_up z.2.2 3 f)) ∧
  (∀ z : SX8, (wf z)[q 4]? = some (a 4, .inl (cI, 2, .inl (z.2.2 4)))) ∧
  (∀ (z : SX8) (f : Nat → Int32), (wf z).set (q 4) (a 4, .inl (cI, 2, .inl f)) = wf (z.1, z.2.1, va_up z.2.2 4 f)) ∧
  (∀ z : SX8, (wf z)[q 7]? = some (a 7, .inl (cI, 6, .inl (z.2.2 7)))) ∧
  (∀ (z : SX8) (f : Nat → Int32), (wf z).set (q 7) (a 7, .inl (cI, 6, .inl f)) = wf (z.1, z.2.1, va_up z.2.2 7 f)) ∧
  (∀ z : SX8, (wf z)[q 8]? = some (a 8, .inl (cI, 6, .inl (z.2.2 8)))) ∧
  (∀ (z : SX8) (f : Nat → Int32), (wf z).set (q 8) (a 8, .inl (cI, 6, .inl f)) = wf (z.1, z.2.1, va_up z.2.2 8 f)) ∧
  (∀ z : SX8, (wf z)[q 10]? = some (a 10, .inl (cB, 36, .inl (z.2.2 10)))) ∧
  (∀ (z : SX8) (f : Nat → Int32), (wf z).set (q 10) (a 10, .inl (cB, 36, .inl f)) = wf (z.1, z.2.1, va_up z.2.2 10 f)) ∧
  (∀ z : SX8, (wf z)[q 29]? = some (a 29, .inl (cI, 64, .inl (z.2.2 29)))) ∧
  (∀ (z : SX8) (f : Nat → Int32), (wf z).set (q 29) (a 29, .inl (cI, 64, .inl f)) = wf (z.1, z.2.1, va_up z.2.2 29 f)) ∧
  (∀ z : SX8, (wf z)[q 30]? = some (a 30, .inl (cI, 64, .inl (z.2.2 30)))) ∧
  (∀ (z : SX8) (f : Nat → Int32), (wf z).set (q 30) (a 30, .inl (cI, 64, .inl f)) = wf (z.1, z.2.1, va_up z.2.2 30 f)) ∧
  (∀ z : SX8, (wf z)[q 31]? = some (a 31, .inl (cI, 256, .inl (z.2.2 31)))) ∧
  (∀ (z : SX8) (f : Nat → Int32), (wf z).set (q 31) (a 31, .inl (cI, 256, .inl f)) = wf (z.1, z.2.1, va_up z.2.2 31 f)) ∧
  (∀ z : SX8, (wf z)[q 32]? = some (a 32, .inl (cI, 256, .inl (z.2.2 32)))) ∧
  (∀ (z : SX8) (f : Nat → Int32), (wf z).set (q 32) (a 32, .inl (cI, 256, .inl f)) = wf (z.1, z.2.1, va_up z.2.2 32 f)) ∧
  (∀ z : SX8, (wf z)[q 33]? = some (a 33, .inl (cI, 512, .inl (z.2.2 33)))) ∧
  (∀ (z : SX8) (f : Nat → Int32), (wf z).set (q 33) (a 33, .inl (cI, 512, .inl f)) = wf (z.1, z.2.1, va_up z.2.2 33 f)) ∧
  (∀ z : SX8, (wf z)[q 34]? = some (a 34, .inl (cI, 512, .inl (z.2.2 34)))) ∧
  (∀ (z : SX8) (f : Nat → Int32), (wf z).set (q 34) (a 34, .inl (cI, 512, .inl f)) = wf (z.1, z.2.1, va_up z.2.2 34 f)) ∧
  (∀ z : SX8, (wf z)[q 35]? = some (a 35, .inl (cI, 512, .inl (z.2.2 35)))) ∧
  (∀ (z : SX8) (f : Nat → Int32), (wf z).set (q 35) (a 35, .inl (cI, 512, .inl f)) = wf (z.1, z.2.1, va_up z.2.2 35 f)) ∧
  (∀ z : SX8, (wf z)[q 36]? = some (a 36, .inl (cI, 6, .inl (z.2.2 36)))) ∧
  (∀ (z : SX8) (f : Nat → Int32), (wf z).set (q 36) (a 36, .inl (cI, 6, .inl f)) = wf (z.1, z.2.1, va_up z.2.2 36 f)) ∧
  (∀ z : SX8, (wf z)[q 37]? = some (a 37, .inl (cI, 6, .inl (z.2.2 37)))) ∧
  (∀ (z : SX8) (f : Nat → Int32), (wf z).set (q 37) (a 37, .inl (cI, 6, .inl f)) = wf (z.1, z.2.1, va_up z.2.2 37 f)) ∧
  (∀ z : SX8, (wf z)[q 38]? = some (a 38, .inl (cI, 6, .inl (z.2.2 38)))) ∧
  (∀ (z : SX8) (f : Nat → Int32), (wf z).set (q 38) (a 38, .inl (cI, 6, .inl f)) = wf (z.1, z.2.1, va_up z.2.2 38 f)) ∧
  (∀ z : SX8, (wf z)[q 39]? = some (a 39, .inl (cI, 6, .inl (z.2.2 39)))) ∧
  (∀ (z : SX8) (f : Nat → Int32), (wf z).set (q 39) (a 39, .inl (cI, 6, .inl f)) = wf (z.1, z.2.1, va_up z.2.2 39 f)) ∧
  (∀ z : SX8, (wf z)[q 40]? = some (a 40, .inl (cI, 6, .inl (z.2.2 40)))) ∧
  (∀ (z : SX8) (f : Nat → Int32), (wf z).set (q 40) (a 40, .inl (cI, 6, .inl f)) = wf (z.1, z.2.1, va_up z.2.2 40 f)) ∧
  (∀ z : SX8, (wf z)[q 43]? = some (a 43, .inl (cI, 10, .inl (z.2.2 43)))) ∧
  (∀ (z : SX8) (f : Nat → Int32), (wf z).set (q 43) (a 43, .inl (cI, 10, .inl f)) = wf (z.1, z.2.1, va_up z.2.2 43 f)) ∧
  (∀ z : SX8, (wf z)[q 44]? = some (a 44, .inl (cI, 256, .inl (z.2.2 44)))) ∧
  (∀ (z : SX8) (f : Nat → Int32), (wf z).set (q 44) (a 44, .inl (cI, 256, .inl f)) = wf (z.1, z.2.1, va_up z.2.2 44 f)) ∧
  (∀ z : SX8, (wf z)[q 45]? = some (a 45, .inl (cI, 256, .inl (z.2.2 45)))) ∧
  (∀ (z : SX8) (f : Nat → Int32), (wf z).set (q 45) (a 45, .inl (cI, 256, .inl f)) = wf (z.1, z.2.1, va_up z.2.2 45 f)) ∧
  (∀ z : SX8, (wf z)[q 46]? = some (a 46, .inl (cI, 512, .inl (z.2.2 46)))) ∧
  (∀ (z : SX8) (f : Nat → Int32), (wf z).set (q 46) (a 46, .inl (cI, 512, .inl f)) = wf (z.1, z.2.1, va_up z.2.2 46 f)) ∧
  (∀ z : SX8, (wf z)[q 47]? = some (a 47, .inl (cI, 512, .inl (z.2.2 47)))) ∧
  (∀ (z : SX8) (f : Nat → Int32), (wf z).set (q 47) (a 47, .inl (cI, 512, .inl f)) = wf (z.1, z.2.1, va_up z.2.2 47 f)) ∧
  (∀ z : SX8, (wf z)[q 48]? = some (a 48, .inl (cI, 512, .inl (z.2.2 48)))) ∧
  (∀ (z : SX8) (f : Nat → Int32), (wf z).set (q 48) (a 48, .inl (cI, 512, .inl f)) = wf (z.1, z.2.1, va_up z.2.2 48 f)) ∧
  (∀ z : SX8, (wf z)[q 50]? = some (a 50, .inl (cI, 28, .inl (z.2.2 50)))) ∧
  (∀ (z : SX8) (f : Nat → Int32), (wf z).set (q 50) (a 50, .inl (cI, 28, .inl f)) = wf (z.1, z.2.1, va_up z.2.2 50 f)) ∧
  (∀ z : SX8, (wf z)[q 58]? = some (a 58, .inl (cI, 28, .inl (z.2.2 58)))) ∧
  (∀ (z : SX8) (f : Nat → Int32), (wf z).set (q 58) (a 58, .inl (cI, 28, .inl f)) = wf (z.1, z.2.1, va_up z.2.2 58 f)) ∧
  (∀ z : SX8, (wf z)[q 59]? = some (a 59, .inl (cI, 6, .inl (z.2.2 59)))) ∧
  (∀ (z : SX8) (f : Nat → Int32), (wf z).set (q 59) (a 59, .inl (cI, 6, .inl f)) = wf (z.1, z.2.1, va_up z.2.2 59 f)) ∧
  (∀ z : SX8, (wf z)[q 60]? = some (a 60, .inl (cI, 6, .inl (z.2.2 60)))) ∧
  (∀ (z : SX8) (f : Nat → Int32), (wf z).set (q 60) (a 60, .inl (cI, 6, .inl f)) = wf (z.1, z.2.1, va_up z.2.2 60 f))
theorem LnX8_g {a q : Nat → Nat} {cI cB : ClassId} {wf : SX8 → va_W} (L : LnX8 a q cI cB wf) (z : SX8) : (wf z)[q 0]? = some (a 0, .inr (8, mF a z)) := L.1 z
theorem LnX8_u {a q : Nat → Nat} {cI cB : ClassId} {wf : SX8 → va_W} (L : LnX8 a q cI cB wf) (z z' : SX8) : (wf z).set (q 0) (a 0, .inr (8, mF a (z'.1, z'.2.1, z.2.2))) = wf (z'.1, z'.2.1, z.2.2) := L.2.1 z z'
theorem LnX8_a3 {a q : Nat → Nat} {cI cB : ClassId} {wf : SX8 → va_W} (L : LnX8 a q cI cB wf) (z : SX8) : (wf z)[q 3]? = some (a 3, .inl (cI, 28, .inl (z.2.2 3))) := L.2.2.1 z
theorem LnX8_b3 {a q : Nat → Nat} {cI cB : ClassId} {wf : SX8 → va_W} (L : LnX8 a q cI cB wf) (z : SX8) (f : Nat → Int32) : (wf z).set (q 3) (a 3, .inl (cI, 28, .inl f)) = wf (z.1, z.2.1, va_up z.2.2 3 f) := L.2.2.2.1 z f
theorem LnX8_a4 {a q : Nat → Nat} {cI cB : ClassId} {wf : SX8 → va_W} (L : LnX8 a q cI cB wf) (z : SX8) : (wf z)[q 4]? = some (a 4, .inl (cI, 2, .inl (z.2.2 4))) := L.2.2.2.2.1 z
theorem LnX8_b4 {a q : Nat → Nat} {cI cB : ClassId} {wf : SX8 → va_W} (L : LnX8 a q cI cB wf) (z : SX8) (f : Nat → Int32) : (wf z).set (q 4) (a 4, .inl (cI, 2, .inl f)) = wf (z.1, z.2.1, va_up z.2.2 4 f) := L.2.2.2.2.2.1 z f
theorem LnX8_a7 {a q : Nat → Nat} {cI cB : ClassId} {wf : SX8 → va_W} (L : LnX8 a q cI cB wf) (z : SX8) : (wf z)[q 7]? = some (a 7, .inl (cI, 6, .inl (z.2.2 7))) := L.2.2.2.2.2.2.1 z
theorem LnX8_b7 {a q : Nat → Nat} {cI cB : ClassId} {wf : SX8 → va_W} (L : LnX8 a q cI cB wf) (z : SX8) (f : Nat → Int32) : (wf z).set (q 7) (a 7, .inl (cI, 6, .inl f)) = wf (z.1, z.2.1, va_up z.2.2 7 f) := L.2.2.2.2.2.2.2.1 z f
theorem LnX8_a8 {a q : Nat → Nat} {cI cB : ClassId} {wf : SX8 → va_W} (L : LnX8 a q cI cB wf) (z : SX8) : (wf z)[q 8]? = some (a 8, .inl (cI, 6, .inl (z.2.2 8))) := L.2.2.2.2.2.2.2.2.1 z
theorem LnX8_b8 {a q : Nat → Nat} {cI cB : ClassId} {wf : SX8 → va_W} (L : LnX8 a q cI cB wf) (z : SX8) (f : Nat → Int32) : (wf z).set (q 8) (a 8, .inl (cI, 6, .inl f)) = wf (z.1, z.2.1, va_up z.2.2 8 f) := L.2.2.2.2.2.2.2.2.2.1 z f
theorem LnX8_a10 {a q : Nat → Nat} {cI cB : ClassId} {wf : SX8 → va_W} (L : LnX8 a q cI cB wf) (z : SX8) : (wf z)[q 10]? = some (a 10, .inl (cB, 36, .inl (z.2.2 10))) := L.2.2.2.2.2.2.2.2.2.2.1 z
theorem LnX8_b10 {a q : Nat → Nat} {cI cB : ClassId} {wf : SX8 → va_W} (L : LnX8 a q cI cB wf) (z : SX8) (f : Nat → Int32) : (wf z).set (q 10) (a 10, .inl (cB, 36, .inl f)) = wf (z.1, z.2.1, va_up z.2.2 10 f) := L.2.2.2.2.2.2.2.2.2.2.2.1 z f
theorem LnX8_a29 {a q : Nat → Nat} {cI cB : ClassId} {wf : SX8 → va_W} (L : LnX8 a q cI cB wf) (z : SX8) : (wf z)[q 29]? = some (a 29, .inl (cI, 64, .inl (z.2.2 29))) := L.2.2.2.2.2.2.2.2.2.2.2.2.1 z
theorem LnX8_b29 {a q : Nat → Nat} {cI cB : ClassId} {wf : SX8 → va_W} (L : LnX8 a q cI cB wf) (z : SX8) (f : Nat → Int32) : (wf z).set (q 29) (a 29, .inl (cI, 64, .inl f)) = wf (z.1, z.2.1, va_up z.2.2 29 f) := L.2.2.2.2.2.2.2.2.2.2.2.2.2.1 z f
theorem LnX8_a30 {a q : Nat → Nat} {cI cB : ClassId} {wf : SX8 → va_W} (L : LnX8 a q cI cB wf) (z : SX8) : (wf z)[q 30]? = some (a 30, .inl (cI, 64, .inl (z.2.2 30))) := L.2.2.2.2.2.2.2.2.2.2.2.2.2.2.1 z
theorem LnX8_b30 {a q : Nat → Nat} {cI cB : ClassId} {wf : SX8 → va_W} (L : LnX8 a q cI cB wf) (z : SX8) (f : Nat → Int32) : (wf z).set (q 30) (a 30, .inl (cI, 64, .inl f)) = wf (z.1, z.2.1, va_up z.2.2 30 f) := L.2.2.2.2.2.2.2.2.2.2.2.2.2.2.2.1 z f
theorem LnX8_a31 {a q : Nat → Nat} {cI cB : ClassId} {wf : SX8 → va_W} (L : LnX8 a q cI cB wf) (z : SX8) : (wf z)[q 31]? = some (a 31, .inl (cI, 256, .inl (z.2.2 31))) := L.2.2.2.2.2.2.2.2.2.2.2.2.2.2.2.2.1 z
theorem LnX8_b31 {a q : Nat → Nat} {cI cB : ClassId} {wf : SX8 → va_W} (L : LnX8 a q cI cB wf) (z : SX8) (f : Nat → Int32) : (wf z).set (q 31) (a 31, .inl (cI, 256, .inl f)) = wf (z.1, z.2.1, va_up z.2.2 31 f) := L.2.2.2.2.2.2.2.2.2.2.2.2.2.2.2.2.2.1 z f
theorem LnX8_a32 {a q : Nat → Nat} {cI cB : ClassId} {wf : SX8 → va_W} (L : LnX8 a q cI cB wf) (z : SX8) : (wf z)[q 32]? = some (a 32, .inl (cI, 256, .inl (z.2.2 32))) := L.2.2.2.2.2.2.2.2.2.2.2.2.2.2.2.2.2.2.1 z
theorem LnX8_b32 {a q : Nat → Nat} {cI cB : ClassId} {wf : SX8 → va_W} (L : LnX8 a q cI cB wf) (z : SX8) (f : Nat → Int32) : (wf z).set (q 32) (a 32, .inl (cI, 256, .inl f)) = wf (z.1, z.2.1, va_up z.2.2 32 f) := L.2.2.2.2.2.2.2.2.2.2.2.2.2.2.2.2.2.2.2.1 z f
theorem LnX8_a33 {a q : Nat → Nat} {cI cB : ClassId} {wf : SX8 → va_W} (L : LnX8 a q cI cB wf) (z : SX8) : (wf z)[q 33]? = some (a 33, .inl (cI, 512, .inl (z.2.2 33))) := L.2.2.2.2.2.2.2.2.2.2.2.2.2.2.2.2.2.2.2.2.1 z
theorem LnX8_b33 {a q : Nat → Nat} {cI cB : ClassId} {wf : SX8 → va_W} (L : LnX8 a q cI cB wf) (z : SX8) (f : Nat → Int32) : (wf z).set (q 33) (a 33, .inl (cI, 512, .inl f)) = wf (z.1, z.2.1, va_up z.2.2 33 f) := L.2.2.2.2.2.2.2.2.2.2.2.2.2.2.2.2.2.2.2.2.2.1 z f
theorem LnX8_a34 {a q : Nat → Nat} {cI cB : ClassId} {wf : SX8 → va_W} (L : LnX8 a q cI cB wf) (z : SX8) : (wf z)[q 34]? = some (a 34, .inl (cI, 512, .inl (z.2.2 34))) := L.2.2.2.2.2.2.2.2.2.2.2.2.2.2.2.2.2.2.2.2.2.2.1 z
theorem LnX8_b34 {a q : Nat → Nat} {cI cB : ClassId} {wf : SX8 → va_W} (L : LnX8 a q cI cB wf) (z : SX8) (f : Nat → Int32) : (wf z).set (q 34) (a 34, .inl (cI, 512, .inl f)) = wf (z.1, z.2.1, va_up z.2.2 34 f) := L.2.2.2.2.2.2.2.2.2.2.2.2.2.2.2.2.2.2.2.2.2.2.2.1 z f
theorem LnX8_a35 {a q : Nat → Nat} {cI cB : ClassId} {wf : SX8 → va_W} (L : LnX8 a q cI cB wf) (z : SX8) : (wf z)[q 35]? = some (a 35, .inl (cI, 512, .inl (z.2.2 35))) := L.2.2.2.2.2.2.2.2.2.2.2.2.2.2.2.2.2.2.2.2.2.2.2.2.1 z
theorem LnX8_b35 {a q : Nat → Nat} {cI cB : ClassId} {wf : SX8 → va_W} (L : LnX8 a q cI cB wf) (z : SX8) (f : Nat → Int32) : (wf z).set (q 35) (a 35, .inl (cI, 512, .inl f)) = wf (z.1, z.2.1, va_up z.2.2 35 f) := L.2.2.2.2.2.2.2.2.2.2.2.2.2.2.2.2.2.2.2.2.2.2.2.2.2.1 z f
theorem LnX8_a36 {a q : Nat → Nat} {cI cB : ClassId} {wf : SX8 → va_W} (L : LnX8 a q cI cB wf) (z : SX8) : (wf z)[q 36]? = some (a 36, .inl (cI, 6, .inl (z.2.2 36))) := L.2.2.2.2.2.2.2.2.2.2.2.2.2.2.2.2.2.2.2.2.2.2.2.2.2.2.1 z
theorem LnX8_b36 {a q : Nat → Nat} {cI cB : ClassId} {wf : SX8 → va_W} (L : LnX8 a q cI cB wf) (z : SX8) (f : Nat → Int32) : (wf z).set (q 36) (a 36, .inl (cI, 6, .inl f)) = wf (z.1, z.2.1, va_up z.2.2 36 f) := L.2.2.2.2.2.2.2.2.2.2.2.2.2.2.2.2.2.2.2.2.2.2.2.2.2.2.2.1 z f
theorem LnX8_a37 {a q : Nat → Nat} {cI cB : ClassId} {wf : SX8 → va_W} (L : LnX8 a q cI cB wf) (z : SX8) : (wf z)[q 37]? = some (a 37, .inl (cI, 6, .inl (z.2.2 37))) := L.2.2.2.2.2.2.2.2.2.2.2.2.2.2.2.2.2.2.2.2.2.2.2.2.2.2.2.2.1 z
theorem LnX8_b37 {a q : Nat → Nat} {cI cB : ClassId} {wf : SX8 → va_W} (L : LnX8 a q cI cB wf) (z : SX8) (f : Nat → Int32) : (wf z).set (q 37) (a 37, .inl (cI, 6, .inl f)) = wf (z.1, z.2.1, va_up z.2.2 37 f) := L.2.2.2.2.2.2.2.2.2.2.2.2.2.2.2.2.2.2.2.2.2.2.2.2.2.2.2.2.2.1 z f
theorem LnX8_a38 {a q : Nat → Nat} {cI cB : ClassId} {wf : SX8 → va_W} (L : LnX8 a q cI cB wf) (z : SX8) : (wf z)[q 38]? = some (a 38, .inl (cI, 6, .inl (z.2.2 38))) := L.2.2.2.2.2.2.2.2.2.2.2.2.2.2.2.2.2.2.2.2.2.2.2.2.2.2.2.2.2.2.1 z
theorem LnX8_b38 {a q : Nat → Nat} {cI cB : ClassId} {wf : SX8 → va_W} (L : LnX8 a q cI cB wf) (z : SX8) (f : Nat → Int32) : (wf z).set (q 38) (a 38, .inl (cI, 6, .inl f)) = wf (z.1, z.2.1, va_up z.2.2 38 f) := L.2.2.2.2.2.2.2.2.2.2.2.2.2.2.2.2.2.2.2.2.2.2.2.2.2.2.2.2.2.2.2.1 z f
theorem LnX8_a39 {a q : Nat → Nat} {cI cB : ClassId} {wf : SX8 → va_W} (L : LnX8 a q cI cB wf) (z : SX8) : (wf z)[q 39]? = some (a 39, .inl (cI, 6, .inl (z.2.2 39))) := L.2.2.2.2.2.2.2.2.2.2.2.2.2.2.2.2.2.2.2.2.2.2.2.2.2.2.2.2.2.2.2.2.1 z
theorem LnX8_b39 {a q : Nat → Nat} {cI cB : ClassId} {wf : SX8 → va_W} (L : LnX8 a q cI cB wf) (z : SX8) (f : Nat → Int32) : (wf z).set (q 39) (a 39, .inl (cI, 6, .inl f)) = wf (z.1, z.2.1, va_up z.2.2 39 f) := L.2.2.2.2.2.2.2.2.2.2.2.2.2.2.2.2.2.2.2.2.2.2.2.2.2.2.2.2.2.2.2.2.2.1 z f
theorem LnX8_a40 {a q : Nat → Nat} {cI cB : ClassId} {wf : SX8 → va_W} (L : LnX8 a q cI cB wf) (z : SX8) : (wf z)[q 40]? = some (a 40, .inl (cI, 6, .inl (z.2.2 40))) := L.2.2.2.2.2.2.2.2.2.2.2.2.2.2.2.2.2.2.2.2.2.2.2.2.2.2.2.2.2.2.2.2.2.2.1 z
theorem LnX8_b40 {a q : Nat → Nat} {cI cB : ClassId} {wf : SX8 → va_W} (L : LnX8 a q cI cB wf) (z : SX8) (f : Nat → Int32) : (wf z).set (q 40) (a 40, .inl (cI, 6, .inl f)) = wf (z.1, z.2.1, va_up z.2.2 40 f) := L.2.2.2.2.2.2.2.2.2.2.2.2.2.2.2.2.2.2.2.2.2.2.2.2.2.2.2.2.2.2.2.2.2.2.2.1 z f
theorem LnX8_a43 {a q : Nat → Nat} {cI cB : ClassId} {wf : SX8 → va_W} (L : LnX8 a q cI cB wf) (z : SX8) : (wf z)[q 43]? = some (a 43, .inl (cI, 10, .inl (z.2.2 43))) := L.2.2.2.2.2.2.2.2.2.2.2.2.2.2.2.2.2.2.2.2.2.2.2.2.2.2.2.2.2.2.2.2.2.2.2.2.1 z
theorem LnX8_b43 {a q : Nat → Nat} {cI cB : ClassId} {wf : SX8 → va_W} (L : LnX8 a q cI cB wf) (z : SX8) (f : Nat → Int32) : (wf z).set (q 43) (a 43, .inl (cI, 10, .inl f)) = wf (z.1, z.2.1, va_up z.2.2 43 f) := L.2.2.2.2.2.2.2.2.2.2.2.2.2.2.2.2.2.2.2.2.2.2.2.2.2.2.2.2.2.2.2.2.2.2.2.2.2.1 z f
theorem LnX8_a44 {a q : Nat → Nat} {cI cB : ClassId} {wf : SX8 → va_W} (L : LnX8 a q cI cB wf) (z : SX8) : (wf z)[q 44]? = some (a 44, .inl (cI, 256, .inl (z.2.2 44))) := L.2.2.2.2.2.2.2.2.2.2.2.2.2.2.2.2.2.2.2.2.2.2.2.2.2.2.2.2.2.2.2.2.2.2.2.2.2.2.1 z
theorem LnX8_b44 {a q : Nat → Nat} {cI cB : ClassId} {wf : SX8 → va_W} (L : LnX8 a q cI cB wf) (z : SX8) (f : Nat → Int32) : (wf z).set (q 44) (a 44, .inl (cI, 256, .inl f)) = wf (z.1, z.2.1, va_up z.2.2 44 f) := L.2.2.2.2.2.2.2.2.2.2.2.2.2.2.2.2.2.2.2.2.2.2.2.2.2.2.2.2.2.2.2.2.2.2.2.2.2.2.2.1 z f
theorem LnX8_a45 {a q : Nat → Nat} {cI cB : ClassId} {wf : SX8 → va_W} (L : LnX8 a q cI cB wf) (z : SX8) : (wf z)[q 45]? = some (a 45, .inl (cI, 256, .inl (z.2.2 45))) := L.2.2.2.2.2.2.2.2.2.2.2.2.2.2.2.2.2.2.2.2.2.2.2.2.2.2.2.2.2.2.2.2.2.2.2.2.2.2.2.2.1 z
theorem LnX8_b45 {a q : Nat → Nat} {cI cB : ClassId} {wf : SX8 → va_W} (L : LnX8 a q cI cB wf) (z : SX8) (f : Nat → Int32) : (wf z).set (q 45) (a 45, .inl (cI, 256, .inl f)) = wf (z.1, z.2.1, va_up z.2.2 45 f) := L.2.2.2.2.2.2.2.2.2.2.2.2.2.2.2.2.2.2.2.2.2.2.2.2.2.2.2.2.2.2.2.2.2.2.2.2.2.2.2.2.2.1 z f
theorem LnX8_a46 {a q : Nat → Nat} {cI cB : ClassId} {wf : SX8 → va_W} (L : LnX8 a q cI cB wf) (z : SX8) : (wf z)[q 46]? = some (a 46, .inl (cI, 512, .inl (z.2.2 46))) := L.2.2.2.2.2.2.2.2.2.2.2.2.2.2.2.2.2.2.2.2.2.2.2.2.2.2.2.2.2.2.2.2.2.2.2.2.2.2.2.2.2.2.1 z
theorem LnX8_b46 {a q : Nat → Nat} {cI cB : ClassId} {wf : SX8 → va_W} (L : LnX8 a q cI cB wf) (z : SX8) (f : Nat → Int32) : (wf z).set (q 46) (a 46, .inl (cI, 512, .inl f)) = wf (z.1, z.2.1, va_up z.2.2 46 f) := L.2.2.2.2.2.2.2.2.2.2.2.2.2.2.2.2.2.2.2.2.2.2.2.2.2.2.2.2.2.2.2.2.2.2.2.2.2.2.2.2.2.2.2.1 z f
theorem LnX8_a47 {a q : Nat → Nat} {cI cB : ClassId} {wf : SX8 → va_W} (L : LnX8 a q cI cB wf) (z : SX8) : (wf z)[q 47]? = some (a 47, .inl (cI, 512, .inl (z.2.2 47))) := L.2.2.2.2.2.2.2.2.2.2.2.2.2.2.2.2.2.2.2.2.2.2.2.2.2.2.2.2.2.2.2.2.2.2.2.2.2.2.2.2.2.2.2.2.1 z
theorem LnX8_b47 {a q : Nat → Nat} {cI cB : ClassId} {wf : SX8 → va_W} (L : LnX8 a q cI cB wf) (z : SX8) (f : Nat → Int32) : (wf z).set (q 47) (a 47, .inl (cI, 512, .inl f)) = wf (z.1, z.2.1, va_up z.2.2 47 f) := L.2.2.2.2.2.2.2.2.2.2.2.2.2.2.2.2.2.2.2.2.2.2.2.2.2.2.2.2.2.2.2.2.2.2.2.2.2.2.2.2.2.2.2.2.2.1 z f
theorem LnX8_a48 {a q : Nat → Nat} {cI cB : ClassId} {wf : SX8 → va_W} (L : LnX8 a q cI cB wf) (z : SX8) : (wf z)[q 48]? = some (a 48, .inl (cI, 512, .inl (z.2.2 48))) := L.2.2.2.2.2.2.2.2.2.2.2.2.2.2.2.2.2.2.2.2.2.2.2.2.2.2.2.2.2.2.2.2.2.2.2.2.2.2.2.2.2.2.2.2.2.2.1 z
theorem LnX8_b48 {a q : Nat → Nat} {cI cB : ClassId} {wf : SX8 → va_W} (L : LnX8 a q cI cB wf) (z : SX8) (f : Nat → Int32) : (wf z).set (q 48) (a 48, .inl (cI, 512, .inl f)) = wf (z.1, z.2.1, va_up z.2.2 48 f) := L.2.2.2.2.2.2.2.2.2.2.2.2.2.2.2.2.2.2.2.2.2.2.2.2.2.2.2.2.2.2.2.2.2.2.2.2.2.2.2.2.2.2.2.2.2.2.2.1 z f
theorem LnX8_a50 {a q : Nat → Nat} {cI cB : ClassId} {wf : SX8 → va_W} (L : LnX8 a q cI cB wf) (z : SX8) : (wf z)[q 50]? = some (a 50, .inl (cI, 28, .inl (z.2.2 50))) := L.2.2.2.2.2.2.2.2.2.2.2.2.2.2.2.2.2.2.2.2.2.2.2.2.2.2.2.2.2.2.2.2.2.2.2.2.2.2.2.2.2.2.2.2.2.2.2.2.1 z
theorem LnX8_b50 {a q : Nat → Nat} {cI cB : ClassId} {wf : SX8 → va_W} (L : LnX8 a q cI cB wf) (z : SX8) (f : Nat → Int32) : (wf z).set (q 50) (a 50, .inl (cI, 28, .inl f)) = wf (z.1, z.2.1, va_up z.2.2 50 f) := L.2.2.2.2.2.2.2.2.2.2.2.2.2.2.2.2.2.2.2.2.2.2.2.2.2.2.2.2.2.2.2.2.2.2.2.2.2.2.2.2.2.2.2.2.2.2.2.2.2.1 z f
theorem LnX8_a58 {a q : Nat → Nat} {cI cB : ClassId} {wf : SX8 → va_W} (L : LnX8 a q cI cB wf) (z : SX8) : (wf z)[q 58]? = some (a 58, .inl (cI, 28, .inl (z.2.2 58))) := L.2.2.2.2.2.2.2.2.2.2.2.2.2.2.2.2.2.2.2.2.2.2.2.2.2.2.2.2.2.2.2.2.2.2.2.2.2.2.2.2.2.2.2.2.2.2.2.2.2.2.1 z
theorem LnX8_b58 {a q : Nat → Nat} {cI cB : ClassId} {wf : SX8 → va_W} (L : LnX8 a q cI cB wf) (z : SX8) (f : Nat → Int32) : (wf z).set (q 58) (a 58, .inl (cI, 28, .inl f)) = wf (z.1, z.2.1, va_up z.2.2 58 f) := L.2.2.2.2.2.2.2.2.2.2.2.2.2.2.2.2.2.2.2.2.2.2.2.2.2.2.2.2.2.2.2.2.2.2.2.2.2.2.2.2.2.2.2.2.2.2.2.2.2.2.2.1 z f
theorem LnX8_a59 {a q : Nat → Nat} {cI cB : ClassId} {wf : SX8 → va_W} (L : LnX8 a q cI cB wf) (z : SX8) : (wf z)[q 59]? = some (a 59, .inl (cI, 6, .inl (z.2.2 59))) := L.2.2.2.2.2.2.2.2.2.2.2.2.2.2.2.2.2.2.2.2.2.2.2.2.2.2.2.2.2.2.2.2.2.2.2.2.2.2.2.2.2.2.2.2.2.2.2.2.2.2.2.2.1 z
theorem LnX8_b59 {a q : Nat → Nat} {cI cB : ClassId} {wf : SX8 → va_W} (L : LnX8 a q cI cB wf) (z : SX8) (f : Nat → Int32) : (wf z).set (q 59) (a 59, .inl (cI, 6, .inl f)) = wf (z.1, z.2.1, va_up z.2.2 59 f) := L.2.2.2.2.2.2.2.2.2.2.2.2.2.2.2.2.2.2.2.2.2.2.2.2.2.2.2.2.2.2.2.2.2.2.2.2.2.2.2.2.2.2.2.2.2.2.2.2.2.2.2.2.2.1 z f
theorem LnX8_a60 {a q : Nat → Nat} {cI cB : ClassId} {wf : SX8 → va_W} (L : LnX8 a q cI cB wf) (z : SX8) : (wf z)[q 60]? = some (a 60, .inl (cI, 6, .inl (z.2.2 60))) := L.2.2.2.2.2.2.2.2.2.2.2.2.2.2.2.2.2.2.2.2.2.2.2.2.2.2.2.2.2.2.2.2.2.2.2.2.2.2.2.2.2.2.2.2.2.2.2.2.2.2.2.2.2.2.1 z
theorem LnX8_b60 {a q : Nat → Nat} {cI cB : ClassId} {wf : SX8 → va_W} (L : LnX8 a q cI cB wf) (z : SX8) (f : Nat → Int32) : (wf z).set (q 60) (a 60, .inl (cI, 6, .inl f)) = wf (z.1, z.2.1, va_up z.2.2 60 f) := L.2.2.2.2.2.2.2.2.2.2.2.2.2.2.2.2.2.2.2.2.2.2.2.2.2.2.2.2.2.2.2.2.2.2.2.2.2.2.2.2.2.2.2.2.2.2.2.2.2.2.2.2.2.2.2 z f
theorem LnX8_i0 {a q : Nat → Nat} {cI cB : ClassId} {wf : SX8 → va_W} (L : LnX8 a q cI cB wf) (z : SX8) (v : Int32) : (wf z).set (q 0) (a 0, .inr (8, (mF a z).set 0 (.int v))) = wf (upd z.1 0 v, z.2) := LnX8_u L z (upd z.1 0 v, z.2)
theorem LnX8_i1 {a q : Nat → Nat} {cI cB : ClassId} {wf : SX8 → va_W} (L : LnX8 a q cI cB wf) (z : SX8) (v : Int32) : (wf z).set (q 0) (a 0, .inr (8, (mF a z).set 1 (.int v))) = wf (upd z.1 1 v, z.2) := LnX8_u L z (upd z.1 1 v, z.2)
theorem LnX8_i2 {a q : Nat → Nat} {cI cB : ClassId} {wf : SX8 → va_W} (L : LnX8 a q cI cB wf) (z : SX8) (v : Int32) : (wf z).set (q 0) (a 0, .inr (8, (mF a z).set 2 (.int v))) = wf (upd z.1 2 v, z.2) := LnX8_u L z (upd z.1 2 v, z.2)
theorem LnX8_i5 {a q : Nat → Nat} {cI cB : ClassId} {wf : SX8 → va_W} (L : LnX8 a q cI cB wf) (z : SX8) (v : Int32) : (wf z).set (q 0) (a 0, .inr (8, (mF a z).set 5 (.int v))) = wf (upd z.1 5 v, z.2) := LnX8_u L z (upd z.1 5 v, z.2)
theorem LnX8_i6 {a q : Nat → Nat} {cI cB : ClassId} {wf : SX8 → va_W} (L : LnX8 a q cI cB wf) (z : SX8) (v : Int32) : (wf z).set (q 0) (a 0, .inr (8, (mF a z).set 6 (.int v))) = wf (upd z.1 6 v, z.2) := LnX8_u L z (upd z.1 6 v, z.2)
theorem LnX8_i9 {a q : Nat → Nat} {cI cB : ClassId} {wf : SX8 → va_W} (L : LnX8 a q cI cB wf) (z : SX8) (v : Int32) : (wf z).set (q 0) (a 0, .inr (8, (mF a z).set 9 (.int v))) = wf (upd z.1 9 v, z.2) := LnX8_u L z (upd z.1 9 v, z.2)
theorem LnX8_i11 {a q : Nat → Nat} {cI cB : ClassId} {wf : SX8 → va_W} (L : LnX8 a q cI cB wf) (z : SX8) (v : Int32) : (wf z).set (q 0) (a 0, .inr (8, (mF a z).set 11 (.int v))) = wf (upd z.1 11 v, z.2) := LnX8_u L z (upd z.1 11 v, z.2)
theorem LnX8_i12 {a q : Nat → Nat} {cI cB : ClassId} {wf : SX8 → va_W} (L : LnX8 a q cI cB wf) (z : SX8) (v : Int32) : (wf z).set (q 0) (a 0, .inr (8, (mF a z).set 12 (.int v))) = wf (upd z.1 12 v, z.2) := LnX8_u L z (upd z.1 12 v, z.2)
theorem LnX8_i13 {a q : Nat → Nat} {cI cB : ClassId} {wf : SX8 → va_W} (L : LnX8 a q cI cB wf) (z : SX8) (v : Int32) : (wf z).set (q 0) (a 0, .inr (8, (mF a z).set 13 (.int v))) = wf (upd z.1 13 v, z.2) := LnX8_u L z (upd z.1 13 v, z.2)
theorem LnX8_i14 {a q : Nat → Nat} {cI cB : ClassId} {wf : SX8 → va_W} (L : LnX8 a q cI cB wf) (z : SX8) (v : Int32) : (wf z).set (q 0) (a 0, .inr (8, (mF a z).set 14 (.int v))) = wf (upd z.1 14 v, z.2) := LnX8_u L z (upd z.1 14 v, z.2)
theorem LnX8_i15 {a q : Nat → Nat} {cI cB : ClassId} {wf : SX8 → va_W} (L : LnX8 a q cI cB wf) (z : SX8) (v : Int32) : (wf z).set (q 0) (a 0, .inr (8, (mF a z).set 15 (.int v))) = wf (upd z.1 15 v, z.2) := LnX8_u L z (upd z.1 15 v, z.2)
theorem LnX8_i16 {a q : Nat → Nat} {cI cB : ClassId} {wf : SX8 → va_W} (L : LnX8 a q cI cB wf) (z : SX8) (v : Int32) : (wf z).set (q 0) (a 0, .inr (8, (mF a z).set 16 (.int v))) = wf (upd z.1 16 v, z.2) := LnX8_u L z (upd z.1 16 v, z.2)
theorem LnX8_i17 {a q : Nat → Nat} {cI cB : ClassId} {wf : SX8 → va_W} (L : LnX8 a q cI cB wf) (z : SX8) (v : Int32) : (wf z).set (q 0) (a 0, .inr (8, (mF a z).set 17 (.int v))) = wf (upd z.1 17 v, z.2) := LnX8_u L z (upd z.1 17 v, z.2)
theorem LnX8_i18 {a q : Nat → Nat} {cI cB : ClassId} {wf : SX8 → va_W} (L : LnX8 a q cI cB wf) (z : SX8) (v : Int32) : (wf z).set (q 0) (a 0, .inr (8, (mF a z).set 18 (.int v))) = wf (upd z.1 18 v, z.2) := LnX8_u L z (upd z.1 18 v, z.2)
theorem LnX8_i19 {a q : Nat → Nat} {cI cB : ClassId} {wf : SX8 → va_W} (L : LnX8 a q cI cB wf) (z : SX8) (v : Int32) : (wf z).set (q 0) (a 0, .inr (8, (mF a z).set 19 (.int v))) = wf (upd z.1 19 v, z.2) := LnX8_u L z (upd z.1 19 v, z.2)
theorem LnX8_i20 {a q : Nat → Nat} {cI cB : ClassId} {wf : SX8 → va_W} (L : LnX8 a q cI cB wf) (z : SX8) (v : Int32) : (wf z).set (q 0) (a 0, .inr (8, (mF a z).set 20 (.int v))) = wf (upd z.1 20 v, z.2) := LnX8_u L z (upd z.1 20 v, z.2)
theorem LnX8_i21 {a q : Nat → Nat} {cI cB : ClassId} {wf : SX8 → va_W} (L : LnX8 a q cI cB wf) (z : SX8) (v : Int32) : (wf z).set (q 0) (a 0, .inr (8, (mF a z).set 21 (.int v))) = wf (upd z.1 21 v, z.2) := LnX8_u L z (upd z.1 21 v, z.2)
theorem LnX8_i22 {a q : Nat → Nat} {cI cB : ClassId} {wf : SX8 → va_W} (L : LnX8 a q cI cB wf) (z : SX8) (v : Int32) : (wf z).set (q 0) (a 0, .inr (8, (mF a z).set 22 (.int v))) = wf (upd z.1 22 v, z.2) := LnX8_u L z (upd z.1 22 v, z.2)
theorem LnX8_i23 {a q : Nat → Nat} {cI cB : ClassId} {wf : SX8 → va_W} (L : LnX8 a q cI cB wf) (z : SX8) (v : Int32) : (wf z).set (q 0) (a 0, .inr (8, (mF a z).set 23 (.int v))) = wf (upd z.1 23 v, z.2) := LnX8_u L z (upd z.1 23 v, z.2)
theorem LnX8_i24 {a q : Nat → Nat} {cI cB : ClassId} {wf : SX8 → va_W} (L : LnX8 a q cI cB wf) (z : SX8) (v : Int32) : (wf z).set (q 0) (a 0, .inr (8, (mF a z).set 24 (.int v))) = wf (upd z.1 24 v, z.2) := LnX8_u L z (upd z.1 24 v, z.2)
theorem LnX8_i25 {a q : Nat → Nat} {cI cB : ClassId} {wf : SX8 → va_W} (L : LnX8 a q cI cB wf) (z : SX8) (v : Int32) : (wf z).set (q 0) (a 0, .inr (8, (mF a z).set 25 (.int v))) = wf (upd z.1 25 v, z.2) := LnX8_u L z (upd z.1 25 v, z.2)
theorem LnX8_i26 {a q : Nat → Nat} {cI cB : ClassId} {wf : SX8 → va_W} (L : LnX8 a q cI cB wf) (z : SX8) (v : Int32) : (wf z).set (q 0) (a 0, .inr (8, (mF a z).set 26 (.int v))) = wf (upd z.1 26 v, z.2) := LnX8_u L z (upd z.1 26 v, z.2)
theorem LnX8_i27 {a q : Nat → Nat} {cI cB : ClassId} {wf : SX8 → va_W} (L : LnX8 a q cI cB wf) (z : SX8) (v : Int32) : (wf z).set (q 0) (a 0, .inr (8, (mF a z).set 27 (.int v))) = wf (upd z.1 27 v, z.2) := LnX8_u L z (upd z.1 27 v, z.2)
theorem LnX8_i28 {a q : Nat → Nat} {cI cB : ClassId} {wf : SX8 → va_W} (L : LnX8 a q cI cB wf) (z : SX8) (v : Int32) : (wf z).set (q 0) (a 0, .inr (8, (mF a z).set 28 (.int v))) = wf (upd z.1 28 v, z.2) := LnX8_u L z (upd z.1 28 v, z.2)
theorem LnX8_i41 {a q : Nat → Nat} {cI cB : ClassId} {wf : SX8 → va_W} (L : LnX8 a q cI cB wf) (z : SX8) (v : Int32) : (wf z).set (q 0) (a 0, .inr (8, (mF a z).set 41 (.int v))) = wf (upd z.1 41 v, z.2) := LnX8_u L z (upd z.1 41 v, z.2)
theorem LnX8_i42 {a q : Nat → Nat} {cI cB : ClassId} {wf : SX8 → va_W} (L : LnX8 a q cI cB wf) (z : SX8) (v : Int32) : (wf z).set (q 0) (a 0, .inr (8, (mF a z).set 42 (.int v))) = wf (upd z.1 42 v, z.2) := LnX8_u L z (upd z.1 42 v, z.2)
theorem LnX8_j49 {a q : Nat → Nat} {cI cB : ClassId} {wf : SX8 → va_W} (L : LnX8 a q cI cB wf) (z : SX8) (v : Int64) : (wf z).set (q 0) (a 0, .inr (8, (mF a z).set 49 (.long v))) = wf (z.1, va_up z.2.1 49 v, z.2.2) := LnX8_u L z (z.1, va_up z.2.1 49 v, z.2.2)
theorem LnX8_i51 {a q : Nat → Nat} {cI cB : ClassId} {wf : SX8 → va_W} (L : LnX8 a q cI cB wf) (z : SX8) (v : Int32) : (wf z).set (q 0) (a 0, .inr (8, (mF a z).set 51 (.int v))) = wf (upd z.1 51 v, z.2) := LnX8_u L z (upd z.1 51 v, z.2)
theorem LnX8_i52 {a q : Nat → Nat} {cI cB : ClassId} {wf : SX8 → va_W} (L : LnX8 a q cI cB wf) (z : SX8) (v : Int32) : (wf z).set (q 0) (a 0, .inr (8, (mF a z).set 52 (.int v))) = wf (upd z.1 52 v, z.2) := LnX8_u L z (upd z.1 52 v, z.2)
theorem LnX8_i53 {a q : Nat → Nat} {cI cB : ClassId} {wf : SX8 → va_W} (L : LnX8 a q cI cB wf) (z : SX8) (v : Int32) : (wf z).set (q 0) (a 0, .inr (8, (mF a z).set 53 (.int v))) = wf (upd z.1 53 v, z.2) := LnX8_u L z (upd z.1 53 v, z.2)
theorem LnX8_i54 {a q : Nat → Nat} {cI cB : ClassId} {wf : SX8 → va_W} (L : LnX8 a q cI cB wf) (z : SX8) (v : Int32) : (wf z).set (q 0) (a 0, .inr (8, (mF a z).set 54 (.int v))) = wf (upd z.1 54 v, z.2) := LnX8_u L z (upd z.1 54 v, z.2)
theorem LnX8_i55 {a q : Nat → Nat} {cI cB : ClassId} {wf : SX8 → va_W} (L : LnX8 a q cI cB wf) (z : SX8) (v : Int32) : (wf z).set (q 0) (a 0, .inr (8, (mF a z).set 55 (.int v))) = wf (upd z.1 55 v, z.2) := LnX8_u L z (upd z.1 55 v, z.2)
theorem LnX8_i56 {a q : Nat → Nat} {cI cB : ClassId} {wf : SX8 → va_W} (L : LnX8 a q cI cB wf) (z : SX8) (v : Int32) : (wf z).set (q 0) (a 0, .inr (8, (mF a z).set 56 (.int v))) = wf (upd z.1 56 v, z.2) := LnX8_u L z (upd z.1 56 v, z.2)
theorem LnX8_i57 {a q : Nat → Nat} {cI cB : ClassId} {wf : SX8 → va_W} (L : LnX8 a q cI cB wf) (z : SX8) (v : Int32) : (wf z).set (q 0) (a 0, .inr (8, (mF a z).set 57 (.int v))) = wf (upd z.1 57 v, z.2) := LnX8_u L z (upd z.1 57 v, z.2)
theorem LnX8_j61 {a q : Nat → Nat} {cI cB : ClassId} {wf : SX8 → va_W} (L : LnX8 a q cI cB wf) (z : SX8) (v : Int64) : (wf z).set (q 0) (a 0, .inr (8, (mF a z).set 61 (.long v))) = wf (z.1, va_up z.2.1 61 v, z.2.2) := LnX8_u L z (z.1, va_up z.2.1 61 v, z.2.2)
theorem mfX0_clear : MF yX0_clear cX0_clear 1 none 0 := ⟨kw494, kw493, kw13, kw113, by decide +kernel, by decide⟩
theorem mfX0_open : MF yX0_open cX0_open 2 none 1 := ⟨kw631, kw630, kw30, kw113, by decide +kernel, by decide⟩
theorem mfX0_shutDownTo : MF yX0_shutDownTo cX0_shutDownTo 3 none 1 := ⟨kw705, kw704, kw45, kw113, by decide +kernel, by decide⟩
theorem mfX0_add : MF yX0_add cX0_add 4 none 3 := ⟨kw635, kw634, kw31, kw113, by decide +kernel, by decide⟩
theorem mfX0_at : MF yX0_at cX0_at 3 (some .int) 2 := ⟨kw726, kw725, kw48, kw113, by decide +kernel, by decide⟩
theorem mfX1_clear : MF yX1_clear cX1_clear 2 none 1 := ⟨kw490, kw489, kw12, kw112, by decide +kernel, by decide⟩
theorem mfX1_add : MF yX1_add cX1_add 3 none 2 := ⟨kw670, kw669, kw37, kw112, by decide +kernel, by decide⟩
theorem mfX1_at : MF yX1_at cX1_at 3 (some .int) 2 := ⟨kw718, kw717, kw47, kw112, by decide +kernel, by decide⟩
theorem msX2_kindOf : MS yX2_kindOf cX2_kindOf 1 (some .int) 1 := ⟨kw359, kw358, kw108, by decide +kernel, by decide⟩
theorem msX2_isRow : MS yX2_isRow cX2_isRow 1 (some .boolean) 1 := ⟨kw449, kw448, kw108, by decide +kernel, by decide⟩
theorem mfX2_isFull : MF yX2_isFull cX2_isFull 1 (some .boolean) 0 := ⟨kw329, kw328, kw0, kw108, by decide +kernel, by decide⟩
theorem mfX2_add : MF yX2_add cX2_add 2 none 1 := ⟨kw333, kw332, kw1, kw108, by decide +kernel, by decide⟩
theorem mfX2_clear : MF yX2_clear cX2_clear 1 none 0 := ⟨kw341, kw340, kw2, kw108, by decide +kernel, by decide⟩
theorem mfX2_codeAt : MF yX2_codeAt cX2_codeAt 2 (some .int) 1 := ⟨kw353, kw352, kw4, kw108, by decide +kernel, by decide⟩
theorem mfX2_firstFault : MF yX2_firstFault cX2_firstFault 5 (some .int) 0 := ⟨kw349, kw348, kw3, kw108, by decide +kernel, by decide⟩
theorem msX2_isHead : MS yX2_isHead cX2_isHead 2 (some .boolean) 2 := ⟨kw356, kw355, kw108, by decide +kernel, by decide⟩
theorem mfX2_secondMark : MF yX2_secondMark cX2_secondMark 2 (some .int) 0 := ⟨kw463, kw462, kw6, kw108, by decide +kernel, by decide⟩
theorem mfX2_isWhole : MF yX2_isWhole cX2_isWhole 1 (some .boolean) 0 := ⟨kw458, kw457, kw5, kw108, by decide +kernel, by decide⟩
theorem mfX2_readRows : MF yX2_readRows cX2_readRows 6 none 3 := ⟨kw470, kw469, kw7, kw108, by decide +kernel, by decide⟩
theorem mfX3_clear : MF yX3_clear cX3_clear 2 none 1 := ⟨kw486, kw485, kw11, kw109, by decide +kernel, by decide⟩
theorem mfX3_lineAt : MF yX3_lineAt cX3_lineAt 2 (some .int) 1 := ⟨kw734, kw733, kw49, kw109, by decide +kernel, by decide⟩
theorem mfX3_go : MF yX3_go cX3_go 4 none 1 := ⟨kw598, kw597, kw24, kw109, by decide +kernel, by decide⟩
theorem mfX3_turn : MF yX3_turn cX3_turn 9 none 3 := ⟨kw607, kw606, kw26, kw109, by decide +kernel, by decide⟩
theorem mfX3_natureOf : MF yX3_natureOf cX3_natureOf 4 (some .int) 3 := ⟨kw616, kw615, kw28, kw109, by decide +kernel, by decide⟩
theorem mfX3_enterPart : MF yX3_enterPart cX3_enterPart 4 none 3 := ⟨kw639, kw638, kw32, kw109, by decide +kernel, by decide⟩
theorem mfX3_hold : MF yX3_hold cX3_hold 6 none 3 := ⟨kw644, kw643, kw33, kw109, by decide +kernel, by decide⟩
theorem mfX3_goByBlocks : MF yX3_goByBlocks cX3_goByBlocks 8 none 3 := ⟨kw678, kw677, kw39, kw109, by decide +kernel, by decide⟩
theorem msX3_firstOf : MS yX3_firstOf cX3_firstOf 4 (some .int) 2 := ⟨kw681, kw680, kw109, by decide +kernel, by decide⟩
theorem mfX3_split : MF yX3_split cX3_split 12 none 4 := ⟨kw685, kw684, kw40, kw109, by decide +kernel, by decide⟩
theorem mfX3_residentHalf : MF yX3_residentHalf cX3_residentHalf 5 (some .int) 2 := ⟨kw693, kw692, kw42, kw109, by decide +kernel, by decide⟩
theorem mfX3_spill : MF yX3_spill cX3_spill 3 none 2 := ⟨kw697, kw696, kw43, kw109, by decide +kernel, by decide⟩
theorem mfX3_goOn : MF yX3_goOn cX3_goOn 5 none 4 := ⟨kw701, kw700, kw44, kw109, by decide +kernel, by decide⟩
theorem mfX3_noteHeld : MF yX3_noteHeld cX3_noteHeld 2 none 1 := ⟨kw648, kw647, kw34, kw109, by decide +kernel, by decide⟩
theorem mfX3_meetAll : MF yX3_meetAll cX3_meetAll 6 none 3 := ⟨kw656, kw655, kw35, kw109, by decide +kernel, by decide⟩
theorem mfX3_meet : MF yX3_meet cX3_meet 3 none 2 := ⟨kw661, kw660, kw36, kw109, by decide +kernel, by decide⟩
theorem mfX3_comeOutAlone : MF yX3_comeOutAlone cX3_comeOutAlone 4 none 2 := ⟨kw674, kw673, kw38, kw109, by decide +kernel, by decide⟩
theorem mfX4_clear : MF yX4_clear cX4_clear 1 none 0 := ⟨kw482, kw481, kw10, kw114, by decide +kernel, by decide⟩
theorem mfX4_add : MF yX4_add cX4_add 4 none 2 := ⟨kw750, kw749, kw50, kw114, by decide +kernel, by decide⟩
theorem mfX4_copy : MF yX4_copy cX4_copy 2 none 1 := ⟨kw799, kw798, kw54, kw114, by decide +kernel, by decide⟩
theorem mfX4_bestQuestion : MF yX4_bestQuestion cX4_bestQuestion 7 (some .int) 0 := ⟨kw766, kw765, kw51, kw114, by decide +kernel, by decide⟩
theorem msX4_kindsThatLetOut : MS yX4_kindsThatLetOut cX4_kindsThatLetOut 3 (some .int) 1 := ⟨kw753, kw752, kw114, by decide +kernel, by decide⟩
theorem mfX5_has : MF yX5_has cX5_has 2 (some .boolean) 1 := ⟨kw520, kw519, kw17, kw111, by decide +kernel, by decide⟩
theorem mfX5_keyAt : MF yX5_keyAt cX5_keyAt 2 (some .int) 1 := ⟨kw525, kw524, kw18, kw111, by decide +kernel, by decide⟩
theorem mfX5_clear : MF yX5_clear cX5_clear 1 none 0 := ⟨kw474, kw473, kw8, kw111, by decide +kernel, by decide⟩
theorem mfX5_add : MF yX5_add cX5_add 2 none 1 := ⟨kw478, kw477, kw9, kw111, by decide +kernel, by decide⟩
theorem mfX5_change : MF yX5_change cX5_change 3 none 2 := ⟨kw577, kw576, kw23, kw111, by decide +kernel, by decide⟩
theorem mfX5_remove : MF yX5_remove cX5_remove 3 none 1 := ⟨kw571, kw570, kw22, kw111, by decide +kernel, by decide⟩
theorem mfX5_copy : MF yX5_copy cX5_copy 3 none 1 := ⟨kw793, kw792, kw53, kw111, by decide +kernel, by decide⟩
theorem mfX5_rowsWithKey : MF yX5_rowsWithKey cX5_rowsWithKey 3 (some .int) 0 := ⟨kw603, kw602, kw25, kw111, by decide +kernel, by decide⟩
theorem mfX5_rowsWithoutKey : MF yX5_rowsWithoutKey cX5_rowsWithoutKey 1 (some .int) 0 := ⟨kw709, kw708, kw46, kw111, by decide +kernel, by decide⟩
theorem mfX5_rowsOfKey : MF yX5_rowsOfKey cX5_rowsOfKey 4 (some .int) 1 := ⟨kw537, kw536, kw20, kw111, by decide +kernel, by decide⟩
theorem mfX5_rowsWithBit : MF yX5_rowsWithBit cX5_rowsWithBit 4 (some .int) 1 := ⟨kw689, kw688, kw41, kw111, by decide +kernel, by decide⟩
theorem mfX5_haveOneKey : MF yX5_haveOneKey cX5_haveOneKey 3 (some .boolean) 1 := ⟨kw622, kw621, kw29, kw111, by decide +kernel, by decide⟩
theorem mfX5_keySet : MF yX5_keySet cX5_keySet 3 (some .int) 0 := ⟨kw811, kw810, kw55, kw111, by decide +kernel, by decide⟩
theorem mfX6_areThere : MF yX6_areThere cX6_areThere 1 (some .boolean) 0 := ⟨kw554, kw553, kw21, kw110, by decide +kernel, by decide⟩
theorem mfX6_size : MF yX6_size cX6_size 1 (some .int) 0 := ⟨kw501, kw500, kw14, kw110, by decide +kernel, by decide⟩
theorem mfX6_sideOf : MF yX6_sideOf cX6_sideOf 2 (some (.object "SpillJoin$Side")) 1 := ⟨kw516, kw515, kw16, kw110, by decide +kernel, by decide⟩
theorem mfX6_hasRow : MF yX6_hasRow cX6_hasRow 3 (some .boolean) 2 := ⟨kw509, kw508, kw15, kw110, by decide +kernel, by decide⟩
theorem mfX6_partners : MF yX6_partners cX6_partners 4 (some .int) 2 := ⟨kw529, kw528, kw19, kw110, by decide +kernel, by decide⟩
theorem mfX6_pairs : MF yX6_pairs cX6_pairs 3 (some .int) 0 := ⟨kw815, kw814, kw56, kw110, by decide +kernel, by decide⟩
theorem mfX6_buildSide : MF yX6_buildSide cX6_buildSide 3 (some .int) 2 := ⟨kw611, kw610, kw27, kw110, by decide +kernel, by decide⟩
theorem mfX6_copy : MF yX6_copy cX6_copy 2 none 1 := ⟨kw789, kw788, kw52, kw110, by decide +kernel, by decide⟩
theorem mfX7_letter : MF yX7_letter cX7_letter 2 (some .int) 1 := ⟨kw325, kw323, kw324, kw107, by decide +kernel, by decide⟩
theorem mfX7_blank : MF yX7_blank cX7_blank 2 (some .int) 0 := ⟨kw337, kw335, kw336, kw107, by decide +kernel, by decide⟩
theorem mfX7_fault : MF yX7_fault cX7_fault 1 (some .int) 0 := ⟨kw345, kw343, kw344, kw107, by decide +kernel, by decide⟩
theorem mfX7_tables : MF yX7_tables cX7_tables 2 (some .int) 0 := ⟨kw454, kw452, kw453, kw107, by decide +kernel, by decide⟩
theorem mfX7_row : MF yX7_row cX7_row 4 (some .int) 3 := ⟨kw505, kw503, kw504, kw107, by decide +kernel, by decide⟩
theorem mfX7_as : MF yX7_as cX7_as 3 (some .int) 1 := ⟨kw547, kw545, kw546, kw107, by decide +kernel, by decide⟩
theorem mfX7_put : MF yX7_put cX7_put 4 (some .int) 2 := ⟨kw558, kw556, kw557, kw107, by decide +kernel, by decide⟩
theorem mfX7_take : MF yX7_take cX7_take 5 (some .int) 2 := ⟨kw567, kw565, kw566, kw107, by decide +kernel, by decide⟩
theorem mfX7_key : MF yX7_key cX7_key 6 (some .int) 3 := ⟨kw581, kw579, kw580, kw107, by decide +kernel, by decide⟩
theorem mfX7_memory : MF yX7_memory cX7_memory 3 (some .int) 1 := ⟨kw586, kw584, kw585, kw107, by decide +kernel, by decide⟩
theorem mfX7_be : MF yX7_be cX7_be 3 (some .int) 1 := ⟨kw590, kw588, kw589, kw107, by decide +kernel, by decide⟩
theorem mfX7_run : MF yX7_run cX7_run 2 (some .int) 1 := ⟨kw594, kw592, kw593, kw107, by decide +kernel, by decide⟩
theorem mfX7_out : MF yX7_out cX7_out 3 (some .int) 2 := ⟨kw714, kw712, kw713, kw107, by decide +kernel, by decide⟩
theorem mfX7_log : MF yX7_log cX7_log 3 (some .int) 2 := ⟨kw722, kw720, kw721, kw107, by decide +kernel, by decide⟩
theorem mfX7_ledger : MF yX7_ledger cX7_ledger 2 (some .int) 1 := ⟨kw730, kw728, kw729, kw107, by decide +kernel, by decide⟩
theorem mfX7_spare : MF yX7_spare cX7_spare 4 (some .int) 0 := ⟨kw738, kw736, kw737, kw107, by decide +kernel, by decide⟩
theorem mfX7_see : MF yX7_see cX7_see 3 (some .int) 2 := ⟨kw746, kw744, kw745, kw107, by decide +kernel, by decide⟩
theorem mfX7_forget : MF yX7_forget cX7_forget 2 (some .int) 0 := ⟨kw758, kw756, kw757, kw107, by decide +kernel, by decide⟩
theorem mfX7_sorts : MF yX7_sorts cX7_sorts 2 (some .int) 1 := ⟨kw762, kw760, kw761, kw107, by decide +kernel, by decide⟩
theorem mfX7_drawn : MF yX7_drawn cX7_drawn 8 (some .int) 3 := ⟨kw772, kw770, kw771, kw107, by decide +kernel, by decide⟩
theorem mfX7_image : MF yX7_image cX7_image 1 (some .int) 0 := ⟨kw785, kw783, kw784, kw107, by decide +kernel, by decide⟩
theorem mfX7_restore : MF yX7_restore cX7_restore 1 (some .int) 0 := ⟨kw803, kw801, kw802, kw107, by decide +kernel, by decide⟩
theorem mfX7_count : MF yX7_count cX7_count 2 (some .int) 1 := ⟨kw807, kw805, kw806, kw107, by decide +kernel, by decide⟩
theorem mfX7_digest : MF yX7_digest cX7_digest 4 (some .long) 0 := ⟨kw820, kw818, kw819, kw107, by decide +kernel, by decide⟩
theorem mfX7_mixRows : MF yX7_mixRows cX7_mixRows 7 (some .long) 2 := ⟨kw825, kw824, kw57, kw107, by decide +kernel, by decide⟩
theorem msX7_mix : MS yX7_mix cX7_mix 4 (some .long) 2 := ⟨kw829, kw828, kw107, by decide +kernel, by decide⟩
theorem msX7_isSide : MS yX7_isSide cX7_isSide 1 (some .boolean) 1 := ⟨kw512, kw511, kw107, by decide +kernel, by decide⟩
theorem msX7_otherSide : MS yX7_otherSide cX7_otherSide 1 (some .int) 1 := ⟨kw533, kw532, kw107, by decide +kernel, by decide⟩
theorem msX7_isKind : MS yX7_isKind cX7_isKind 1 (some .boolean) 1 := ⟨kw550, kw549, kw107, by decide +kernel, by decide⟩
theorem msX7_isKeyOrNone : MS yX7_isKeyOrNone cX7_isKeyOrNone 1 (some .boolean) 1 := ⟨kw562, kw561, kw107, by decide +kernel, by decide⟩
theorem msX7_comesOutBy : MS yX7_comesOutBy cX7_comesOutBy 2 (some .boolean) 2 := ⟨kw664, kw663, kw107, by decide +kernel, by decide⟩
theorem msX7_isIn : MS yX7_isIn cX7_isIn 2 (some .boolean) 2 := ⟨kw652, kw651, kw107, by decide +kernel, by decide⟩
theorem msX7_drawRows : MS yX7_drawRows cX7_drawRows 6 (some .int) 2 := ⟨kw775, kw774, kw107, by decide +kernel, by decide⟩
theorem msX8_within : MS yX8_within cX8_within 3 (some .boolean) 3 := ⟨kw1040, kw1039, kw115, by decide +kernel, by decide⟩
theorem msX8_isIn : MS yX8_isIn cX8_isIn 2 (some .boolean) 2 := ⟨kw1166, kw1165, kw115, by decide +kernel, by decide⟩
theorem msX8_size : MS yX8_size cX8_size 3 (some .int) 1 := ⟨kw1147, kw1146, kw115, by decide +kernel, by decide⟩
theorem mfX8_letter : MF yX8_letter cX8_letter 2 (some .int) 1 := ⟨kw1037, kw1035, kw1036, kw115, by decide +kernel, by decide⟩
theorem mfX8_blank : MF yX8_blank cX8_blank 2 (some .int) 0 := ⟨kw1044, kw1042, kw1043, kw115, by decide +kernel, by decide⟩
theorem msX8_kindBy : MS yX8_kindBy cX8_kindBy 1 (some .int) 1 := ⟨kw1059, kw1058, kw115, by decide +kernel, by decide⟩
theorem mfX8_at : MF yX8_at cX8_at 2 (some .int) 1 := ⟨kw1056, kw1055, kw60, kw115, by decide +kernel, by decide⟩
theorem mfX8_isRowAt : MF yX8_isRowAt cX8_isRowAt 2 (some .boolean) 1 := ⟨kw1067, kw1066, kw62, kw115, by decide +kernel, by decide⟩
theorem mfX8_rowsFrom : MF yX8_rowsFrom cX8_rowsFrom 3 (some .int) 1 := ⟨kw1063, kw1062, kw61, kw115, by decide +kernel, by decide⟩
theorem mfX8_read : MF yX8_read cX8_read 2 (some .int) 0 := ⟨kw1052, kw1051, kw59, kw115, by decide +kernel, by decide⟩
theorem mfX8_fault : MF yX8_fault cX8_fault 1 (some .int) 0 := ⟨kw1048, kw1046, kw1047, kw115, by decide +kernel, by decide⟩
theorem msX8_keyBy : MS yX8_keyBy cX8_keyBy 1 (some .int) 1 := ⟨kw1074, kw1073, kw115, by decide +kernel, by decide⟩
theorem mfX8_tables : MF yX8_tables cX8_tables 2 (some .int) 0 := ⟨kw1071, kw1069, kw1070, kw115, by decide +kernel, by decide⟩
theorem msX8_isSide : MS yX8_isSide cX8_isSide 1 (some .boolean) 1 := ⟨kw1085, kw1084, kw115, by decide +kernel, by decide⟩
theorem mfX8_isRow : MF yX8_isRow cX8_isRow 3 (some .boolean) 2 := ⟨kw1082, kw1081, kw63, kw115, by decide +kernel, by decide⟩
theorem mfX8_keyAt : MF yX8_keyAt cX8_keyAt 3 (some .int) 2 := ⟨kw1093, kw1092, kw65, kw115, by decide +kernel, by decide⟩
theorem mfX8_partnersOf : MF yX8_partnersOf cX8_partnersOf 5 (some .int) 2 := ⟨kw1097, kw1096, kw66, kw115, by decide +kernel, by decide⟩
theorem mfX8_rowNow : MF yX8_rowNow cX8_rowNow 4 (some .int) 3 := ⟨kw1089, kw1088, kw64, kw115, by decide +kernel, by decide⟩
theorem mfX8_row : MF yX8_row cX8_row 4 (some .int) 3 := ⟨kw1078, kw1076, kw1077, kw115, by decide +kernel, by decide⟩
theorem mfX8_as : MF yX8_as cX8_as 2 (some .int) 1 := ⟨kw1101, kw1099, kw1100, kw115, by decide +kernel, by decide⟩
theorem msX8_isKey : MS yX8_isKey cX8_isKey 1 (some .boolean) 1 := ⟨kw1108, kw1107, kw115, by decide +kernel, by decide⟩
theorem mfX8_put : MF yX8_put cX8_put 3 (some .int) 2 := ⟨kw1105, kw1103, kw1104, kw115, by decide +kernel, by decide⟩
theorem mfX8_take : MF yX8_take cX8_take 5 (some .int) 2 := ⟨kw1112, kw1110, kw1111, kw115, by decide +kernel, by decide⟩
theorem mfX8_key : MF yX8_key cX8_key 5 (some .int) 3 := ⟨kw1116, kw1114, kw1115, kw115, by decide +kernel, by decide⟩
theorem mfX8_memory : MF yX8_memory cX8_memory 3 (some .int) 1 := ⟨kw1120, kw1118, kw1119, kw115, by decide +kernel, by decide⟩
theorem mfX8_be : MF yX8_be cX8_be 3 (some .int) 1 := ⟨kw1124, kw1122, kw1123, kw115, by decide +kernel, by decide⟩
theorem mfX8_noteLog : MF yX8_noteLog cX8_noteLog 4 none 3 := ⟨kw1155, kw1154, kw72, kw115, by decide +kernel, by decide⟩
theorem mfX8_openOne : MF yX8_openOne cX8_openOne 2 none 1 := ⟨kw1151, kw1150, kw71, kw115, by decide +kernel, by decide⟩
theorem mfX8_shutOne : MF yX8_shutOne cX8_shutOne 1 none 0 := ⟨kw1226, kw1225, kw89, kw115, by decide +kernel, by decide⟩
theorem mfX8_come : MF yX8_come cX8_come 3 none 2 := ⟨kw1178, kw1177, kw77, kw115, by decide +kernel, by decide⟩
theorem mfX8_comesAlone : MF yX8_comesAlone cX8_comesAlone 2 (some .boolean) 1 := ⟨kw1186, kw1185, kw79, kw115, by decide +kernel, by decide⟩
theorem mfX8_alone : MF yX8_alone cX8_alone 3 none 2 := ⟨kw1182, kw1181, kw78, kw115, by decide +kernel, by decide⟩
theorem mfX8_meet : MF yX8_meet cX8_meet 3 none 2 := ⟨kw1174, kw1173, kw76, kw115, by decide +kernel, by decide⟩
theorem mfX8_inMemory : MF yX8_inMemory cX8_inMemory 2 none 1 := ⟨kw1163, kw1162, kw74, kw115, by decide +kernel, by decide⟩
theorem mfX8_meetAll : MF yX8_meetAll cX8_meetAll 6 none 3 := ⟨kw1170, kw1169, kw75, kw115, by decide +kernel, by decide⟩
theorem mfX8_aloneOnes : MF yX8_aloneOnes cX8_aloneOnes 4 none 2 := ⟨kw1190, kw1189, kw80, kw115, by decide +kernel, by decide⟩
theorem mfX8_holdNow : MF yX8_holdNow cX8_holdNow 5 none 3 := ⟨kw1159, kw1158, kw73, kw115, by decide +kernel, by decide⟩
theorem mfX8_firstOf : MF yX8_firstOf cX8_firstOf 6 (some .int) 2 := ⟨kw1202, kw1201, kw83, kw115, by decide +kernel, by decide⟩
theorem mfX8_blocksNow : MF yX8_blocksNow cX8_blocksNow 7 none 3 := ⟨kw1198, kw1197, kw82, kw115, by decide +kernel, by decide⟩
theorem mfX8_isOneKey : MF yX8_isOneKey cX8_isOneKey 6 (some .boolean) 2 := ⟨kw1194, kw1193, kw81, kw115, by decide +kernel, by decide⟩
theorem mfX8_half : MF yX8_half cX8_half 7 (some .int) 4 := ⟨kw1218, kw1217, kw87, kw115, by decide +kernel, by decide⟩
theorem mfX8_halfOf : MF yX8_halfOf cX8_halfOf 4 (some .int) 3 := ⟨kw1214, kw1213, kw86, kw115, by decide +kernel, by decide⟩
theorem mfX8_rowsOfHalf : MF yX8_rowsOfHalf cX8_rowsOfHalf 3 (some .int) 2 := ⟨kw1222, kw1221, kw88, kw115, by decide +kernel, by decide⟩
theorem mfX8_resident : MF yX8_resident cX8_resident 6 (some .int) 2 := ⟨kw1210, kw1209, kw85, kw115, by decide +kernel, by decide⟩
theorem mfX8_splitNow : MF yX8_splitNow cX8_splitNow 4 none 2 := ⟨kw1206, kw1205, kw84, kw115, by decide +kernel, by decide⟩
theorem mfX8_turn : MF yX8_turn cX8_turn 7 (some .boolean) 3 := ⟨kw1144, kw1143, kw70, kw115, by decide +kernel, by decide⟩
theorem mfX8_shutPart : MF yX8_shutPart cX8_shutPart 3 none 1 := ⟨kw1234, kw1233, kw91, kw115, by decide +kernel, by decide⟩
theorem mfX8_nextHalf : MF yX8_nextHalf cX8_nextHalf 3 (some .int) 1 := ⟨kw1230, kw1229, kw90, kw115, by decide +kernel, by decide⟩
theorem mfX8_withKeys : MF yX8_withKeys cX8_withKeys 5 (some .int) 2 := ⟨kw1140, kw1139, kw69, kw115, by decide +kernel, by decide⟩
theorem mfX8_clearRun : MF yX8_clearRun cX8_clearRun 1 none 0 := ⟨kw1136, kw1135, kw68, kw115, by decide +kernel, by decide⟩
theorem mfX8_runNow : MF yX8_runNow cX8_runNow 6 none 1 := ⟨kw1132, kw1131, kw67, kw115, by decide +kernel, by decide⟩
theorem mfX8_clearTold : MF yX8_clearTold cX8_clearTold 2 none 0 := ⟨kw846, kw845, kw58, kw115, by decide +kernel, by decide⟩
theorem mfX8_tell : MF yX8_tell cX8_tell 2 none 0 := ⟨kw1238, kw1237, kw92, kw115, by decide +kernel, by decide⟩
theorem mfX8_run : MF yX8_run cX8_run 2 (some .int) 1 := ⟨kw1128, kw1126, kw1127, kw115, by decide +kernel, by decide⟩
theorem mfX8_outNow : MF yX8_outNow cX8_outNow 3 (some .int) 2 := ⟨kw1246, kw1245, kw93, kw115, by decide +kernel, by decide⟩
theorem mfX8_out : MF yX8_out cX8_out 3 (some .int) 2 := ⟨kw1242, kw1240, kw1241, kw115, by decide +kernel, by decide⟩
theorem mfX8_logNow : MF yX8_logNow cX8_logNow 3 (some .int) 2 := ⟨kw1254, kw1253, kw94, kw115, by decide +kernel, by decide⟩
theorem mfX8_log : MF yX8_log cX8_log 3 (some .int) 2 := ⟨kw1250, kw1248, kw1249, kw115, by decide +kernel, by decide⟩
theorem mfX8_ledger : MF yX8_ledger cX8_ledger 2 (some .int) 1 := ⟨kw1258, kw1256, kw1257, kw115, by decide +kernel, by decide⟩
theorem mfX8_spareNow : MF yX8_spareNow cX8_spareNow 4 (some .int) 0 := ⟨kw1266, kw1265, kw95, kw115, by decide +kernel, by decide⟩
theorem mfX8_spare : MF yX8_spare cX8_spare 1 (some .int) 0 := ⟨kw1262, kw1260, kw1261, kw115, by decide +kernel, by decide⟩
theorem msX8_could : MS yX8_could cX8_could 2 (some .boolean) 2 := ⟨kw1286, kw1285, kw115, by decide +kernel, by decide⟩
theorem mfX8_see : MF yX8_see cX8_see 3 (some .int) 2 := ⟨kw1271, kw1269, kw1270, kw115, by decide +kernel, by decide⟩
theorem mfX8_forget : MF yX8_forget cX8_forget 2 (some .int) 0 := ⟨kw1275, kw1273, kw1274, kw115, by decide +kernel, by decide⟩
theorem mfX8_sortsNow : MF yX8_sortsNow cX8_sortsNow 5 (some .int) 0 := ⟨kw1283, kw1282, kw96, kw115, by decide +kernel, by decide⟩
theorem mfX8_askNow : MF yX8_askNow cX8_askNow 8 (some .int) 0 := ⟨kw1290, kw1289, kw97, kw115, by decide +kernel, by decide⟩
theorem mfX8_sorts : MF yX8_sorts cX8_sorts 2 (some .int) 1 := ⟨kw1279, kw1277, kw1278, kw115, by decide +kernel, by decide⟩
theorem mfX8_draw : MF yX8_draw cX8_draw 2 (some .int) 1 := ⟨kw1302, kw1301, kw99, kw115, by decide +kernel, by decide⟩
theorem mfX8_drawnNow : MF yX8_drawnNow cX8_drawnNow 11 (some .int) 3 := ⟨kw1298, kw1297, kw98, kw115, by decide +kernel, by decide⟩
theorem mfX8_drawn : MF yX8_drawn cX8_drawn 4 (some .int) 3 := ⟨kw1294, kw1292, kw1293, kw115, by decide +kernel, by decide⟩
theorem mfX8_image : MF yX8_image cX8_image 2 (some .int) 0 := ⟨kw1310, kw1308, kw1309, kw115, by decide +kernel, by decide⟩
theorem mfX8_restore : MF yX8_restore cX8_restore 2 (some .int) 0 := ⟨kw1314, kw1312, kw1313, kw115, by decide +kernel, by decide⟩
theorem mfX8_keysOfAll : MF yX8_keysOfAll cX8_keysOfAll 4 (some .int) 0 := ⟨kw1326, kw1325, kw101, kw115, by decide +kernel, by decide⟩
theorem mfX8_pairs : MF yX8_pairs cX8_pairs 3 (some .int) 0 := ⟨kw1330, kw1329, kw102, kw115, by decide +kernel, by decide⟩
theorem mfX8_howMany : MF yX8_howMany cX8_howMany 2 (some .int) 1 := ⟨kw1322, kw1321, kw100, kw115, by decide +kernel, by decide⟩
theorem mfX8_count : MF yX8_count cX8_count 2 (some .int) 1 := ⟨kw1318, kw1316, kw1317, kw115, by decide +kernel, by decide⟩
theorem mfX8_mix : MF yX8_mix cX8_mix 3 none 1 := ⟨kw1343, kw1342, kw104, kw115, by decide +kernel, by decide⟩
theorem mfX8_mixRows : MF yX8_mixRows cX8_mixRows 3 none 0 := ⟨kw1339, kw1338, kw103, kw115, by decide +kernel, by decide⟩
theorem mfX8_mixTold : MF yX8_mixTold cX8_mixTold 3 none 0 := ⟨kw1348, kw1347, kw105, kw115, by decide +kernel, by decide⟩
theorem mfX8_digest : MF yX8_digest cX8_digest 2 (some .long) 0 := ⟨kw1334, kw1332, kw1333, kw115, by decide +kernel, by decide⟩
theorem msJ6_numberOfTrailingZeros_0f7a4 : MS yJ6_numberOfTrailingZeros_0f7a4 cJ6_numberOfTrailingZeros_0f7a4 2 (some .int) 1 := ⟨kw625, kw624, kw123, by decide +kernel, by decide⟩
theorem msJ6_bitCount_0f7a4 : MS yJ6_bitCount_0f7a4 cJ6_bitCount_0f7a4 1 (some .int) 1 := ⟨kw540, kw539, kw123, by decide +kernel, by decide⟩
theorem mfJ0_length_8abf5 : MF yJ0_length_8abf5 cJ0_length_8abf5 1 (some .int) 0 := ⟨kw378, kw376, kw377, kw116, by decide +kernel, by decide⟩
theorem mfJ0_indexOf_0f7a4 : MF yJ0_indexOf_0f7a4 cJ0_indexOf_0f7a4 2 (some .int) 1 := ⟨kw364, kw362, kw363, kw116, by decide +kernel, by decide⟩
theorem mfJ0_indexOf_7cf53 : MF yJ0_indexOf_7cf53 cJ0_indexOf_7cf53 3 (some .int) 2 := ⟨kw368, kw366, kw367, kw116, by decide +kernel, by decide⟩
theorem mfJ0_coder_7d493 : MF yJ0_coder_7d493 cJ0_coder_7d493 1 (some .byte) 0 := ⟨kw382, kw380, kw381, kw116, by decide +kernel, by decide⟩
theorem mfJ0_isLatin1_aae02 : MF yJ0_isLatin1_aae02 cJ0_isLatin1_aae02 1 (some .boolean) 0 := ⟨kw372, kw370, kw371, kw116, by decide +kernel, by decide⟩
theorem msJ0_checkBoundsBeginEnd_23922 : MS yJ0_checkBoundsBeginEnd_23922 cJ0_checkBoundsBeginEnd_23922 3 none 3 := ⟨kw415, kw414, kw116, by decide +kernel, by decide⟩
theorem msJ1_canEncode_9a6ad : MS yJ1_canEncode_9a6ad cJ1_canEncode_9a6ad 1 (some .boolean) 1 := ⟨kw388, kw387, kw117, by decide +kernel, by decide⟩
theorem msJ1_indexOf_4cfef : MS yJ1_indexOf_4cfef cJ1_indexOf_4cfef 4 (some .int) 4 := ⟨kw385, kw384, kw117, by decide +kernel, by decide⟩
theorem msJ1_indexOfChar_4cfef : MS yJ1_indexOfChar_4cfef cJ1_indexOfChar_4cfef 6 (some .int) 4 := ⟨kw397, kw396, kw117, by decide +kernel, by decide⟩
theorem msJ7_fill_53178 : MS yJ7_fill_53178 cJ7_fill_53178 4 none 2 := ⟨kw497, kw496, kw122, by decide +kernel, by decide⟩
