/-- Page.kindOf: the place of a letter among "jlasf" -/
def kIx (c : Int32) : Int32 := if c = 106 then 0 else if c = 108 then 1 else if c = 97 then 2 else if c = 115 then 3 else if c = 102 then 4 else -1
def fX2_kindOf (x0 : Int32) : Option Int32 := some (kIx (x0.toUInt32 % 65536).toInt32)
section
variable {l : Launch} {A : Nat → Prop} {g : Nat → Nat} {D : va_G} {cI cB : ClassId}
theorem tX2_kindOf {w : va_W} {d : Nat} (hd : 8 ≤ d) {x0 : Int32} {q : Int32} (h : fX2_kindOf x0 = some q) : Ct l yX2_kindOf cX2_kindOf 1 (some .int) d A g D [(cI, .int), (cB, .byte)] [.int x0] w (QI A D w q) := by
  sorry
end
