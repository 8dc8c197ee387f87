/-! A RUN, told once for both: rows that came out, what was opened and shut, counters. -/
/-- numbers: 0 outs, 1 log, 2 opens, 3 next, 4 semi; rows: 0 1 outs, 2 3 4 log, 5 6 opens; counters 1..8; broken off -/
abbrev RS : Type := (Nat → Nat) × (Nat → Nat → Int32) × (Nat → Int32) × Bool
def co (lim : Nat) (a b : Int32) (R : RS) : RS :=
  if R.2.2.2 = true then R else if R.1 0 = lim then (R.1, R.2.1, R.2.2.1, true) else
  (va_up R.1 0 (R.1 0 + 1), va_up (va_up R.2.1 0 (upd (R.2.1 0) (R.1 0) a)) 1 (upd (R.2.1 1) (R.1 0) b), R.2.2.1, R.2.2.2)
def mt (kd lim : Nat) (l r : Nat) (R : RS) : RS :=
  if R.2.2.2 = true then R else
  if kd = 3 then (if (R.1 4).testBit l then R else co lim (nI l) (-1) (va_up R.1 4 (R.1 4 ||| 2 ^ l), R.2)) else
  if kd = 2 then R else co lim (nI l) (nI r) R
def al (kd lim : Nat) (s i : Nat) (R : RS) : RS :=
  if kd = 4 ∨ (s = 0 ∧ (kd = 1 ∨ kd = 2)) then (if s = 0 then co lim (nI i) (-1) R else co lim (-1) (nI i) R) else R
/-- one behind the other -/
def fo (g : Nat → RS → RS) : Nat → RS → RS
  | 0, R => R
  | n + 1, R => g n (fo g n R)
def nPt (n : Nat → Nat) (f : Nat → Nat → Int32) (s i : Nat) : Bool := decide (f s i = -1) || (List.range (n (1 - s))).all (fun k => decide (f (1 - s) k ≠ f s i))
def ma (f : Nat → Nat → Int32) (kd lim : Nat) (s pr bm : Nat) : RS → RS :=
  fo (fun k R => if bm.testBit k && decide (f s k = f (1 - s) pr) then (if s = 0 then mt kd lim k pr R else mt kd lim pr k R) else R) 14
def ao (n : Nat → Nat) (f : Nat → Nat → Int32) (kd lim : Nat) (s set : Nat) : RS → RS :=
  fo (fun k R => if set.testBit k && nPt n f s k then al kd lim s k R else R) 14
def pk (c : Nat) (R : RS) : RS := (R.1, R.2.1, upd R.2.2.1 3 (if R.2.2.1 3 < nI c then nI c else R.2.2.1 3), R.2.2.2)
def ad (j : Nat) (v : Int32) (R : RS) : RS := (R.1, R.2.1, upd R.2.2.1 j (R.2.2.1 j + v), R.2.2.2)
def ho (n : Nat → Nat) (f : Nat → Nat → Int32) (kd lim : Nat) (s bm pm : Nat) (R : RS) : RS :=
  ao n f kd lim s bm (fo (fun k R => if pm.testBit k then (if nPt n f (1 - s) k then al kd lim (1 - s) k (ma f kd lim s k bm R) else ma f kd lim s k bm R) else R) 14 (pk (cnt bm) R))
/-- the first so many of a set -/
def fst (a m : Nat) : Nat → Nat
  | 0 => 0
  | k + 1 => if a.testBit k && decide (cnt (fst a m k) < m) then fst a m k ||| 2 ^ k else fst a m k
/-- a without b -/
abbrev sdf (a b : Nat) : Nat := a &&& (a ^^^ (a &&& b))
def bl (f : Nat → Nat → Int32) (kd lim mem : Nat) (s pm : Nat) : Nat → Nat → RS → RS
  | 0, _, R => R
  | k + 1, left, R => if left = 0 ∨ R.2.2.2 = true then R else
    bl f kd lim mem s pm k (sdf left (fst left mem 14)) (fo (fun k R => if pm.testBit k then ma f kd lim s k (fst left mem 14) R else R) 14 (ad 2 (nI (cnt pm)) (pk (cnt (fst left mem 14)) R)))
def bk (n : Nat → Nat) (f : Nat → Nat → Int32) (kd lim mem : Nat) (s bm pm : Nat) (R : RS) : RS :=
  ao n f kd lim s bm (ao n f kd lim (1 - s) pm (bl f kd lim mem s pm 14 bm R))
/-- an entry of the log -/
def nt (a b c : Int32) (R : RS) : RS := (va_up R.1 1 (R.1 1 + 1), va_up (va_up (va_up R.2.1 2 (upd (R.2.1 2) (R.1 1) a)) 3 (upd (R.2.1 3) (R.1 1) b)) 4 (upd (R.2.1 4) (R.1 1) c), R.2.2)
/-- something is opened, the latest is shut, all down to d are -/
def opn (w : Int32) (R : RS) : RS :=
  nt (nI (R.1 3)) 1 w (va_up (va_up R.1 2 (R.1 2 + 1)) 3 (R.1 3 + 1), va_up (va_up R.2.1 5 (upd (R.2.1 5) (R.1 2) (nI (R.1 3)))) 6 (upd (R.2.1 6) (R.1 2) w), R.2.2)
def sh1 (R : RS) : RS := nt (R.2.1 5 (R.1 2 - 1)) 0 (R.2.1 6 (R.1 2 - 1)) (va_up R.1 2 (R.1 2 - 1), R.2)
def shN : Nat → RS → RS
  | 0, R => R
  | k + 1, R => shN k (sh1 R)
def sh (d : Nat) (R : RS) : RS := shN (R.1 2 - d) R
/-- the rows of a set whose key has a bit so -/
def hf (f : Nat → Nat → Int32) (s set b w : Nat) : Nat := mkm (fun k => set.testBit k && decide (kB b (f s k) = decide (w = 1))) 14
def oneK (f : Nat → Nat → Int32) (s set : Nat) : Bool := (List.range 14).all fun k => !set.testBit k || decide (f s k = f s (tz set))
def spl (b p : Nat) (R : RS) : RS := if b ||| p = 0 then R else ad 1 (nI (cnt b) + nI (cnt p)) (opn 3 (opn 3 R))
def lvl (v : Nat) (R : RS) : RS := (R.1, R.2.1, upd R.2.2.1 4 (if R.2.2.1 4 < nI v then nI v else R.2.2.1 4), R.2.2.2)
def rsd (mem c0 c1 : Nat) : Nat := if c0 ≤ mem ∧ (mem < c1 ∨ c1 ≤ c0) then 0 else if c1 ≤ mem then 1 else 2
def bsd (l r : Nat) : Nat := if cnt l < cnt r then 0 else 1
def ent (lv s : Nat) (j : Nat) (R : RS) : RS := lvl lv (if s = 0 then ad 8 1 (ad j 1 R) else ad j 1 R)
/-- the turn of a part -/
def tn (n : Nat → Nat) (f : Nat → Nat → Int32) (kd lim mem : Nat) : Nat → Nat → Nat → Nat → RS → RS
  | 0, _, _, _, R => R
  | k + 1, lv, l, r, R =>
    let s := bsd l r
    let bm := if s = 0 then l else r
    let pm := if s = 0 then r else l
    if cnt bm ≤ mem then sh (R.1 2) (ho n f kd lim s bm pm (ent lv s 5 (opn 0 R))) else
    if lv = 4 ∨ oneK f s bm = true then sh (R.1 2) (bk n f kd lim mem s bm pm (ent lv s 6 (opn 1 R))) else
    let b0 := hf f s bm lv 0
    let b1 := hf f s bm lv 1
    let p0 := hf f (1 - s) pm lv 0
    let p1 := hf f (1 - s) pm lv 1
    let st := rsd mem (cnt b0) (cnt b1)
    let go := fun (b p : Nat) (R : RS) => if b ||| p = 0 ∨ R.2.2.2 = true then R else tn n f kd lim mem k (lv + 1) (if s = 0 then b else p) (if s = 0 then p else b) (ad 2 (nI (cnt b) + nI (cnt p)) R)
    let R3 := if st = 0 then ent lv s 7 (opn 2 R) else spl b0 p0 (ent lv s 7 (opn 2 R))
    let R4 := if st = 1 then R3 else spl b1 p1 R3
    let R5 := if st = 0 then ho n f kd lim s b0 p0 R4 else if st = 1 then ho n f kd lim s b1 p1 R4 else R4
    let R6 := if st = 0 then R5 else go b0 p0 R5
    let R7 := if st = 1 then R6 else go b1 p1 R6
    sh (R.1 2) R7
def R0 : RS := (fun _ => 0, fun _ _ => 0, upd (fun _ => 0) 4 (-1), false)
def wk (f : Nat → Nat → Int32) (s : Nat) (m : Nat) : Nat := mkm (fun i => decide (f s i ≠ -1)) m
def nk (f : Nat → Nat → Int32) (s : Nat) (m : Nat) : Nat := mkm (fun i => decide (f s i = -1)) m
/-- a run -/
def rn (n : Nat → Nat) (f : Nat → Nat → Int32) (kd lim mem : Nat) : RS :=
  let R1 := if wk f 0 (n 0) ||| wk f 1 (n 1) = 0 then R0 else tn n f kd lim mem 6 0 (wk f 0 (n 0)) (wk f 1 (n 1)) R0
  ao n f kd lim 1 (nk f 1 (n 1)) (ao n f kd lim 0 (nk f 0 (n 0)) R1)
