/-! WHAT THE LAW NEEDS OF BOTH: related states answer alike, and stay related. -/
def Sm_letter (Rel : Nat → SX7 → SX8 → Prop) : Prop := ∀ (k : Nat) (x : SX7) (m : SX8) (b0 : Int32), k < 512 → Rel k x m → ∃ q r, fX7_letter x b0 = some q ∧ fX8_letter m b0 = some r ∧ q.1 = r.1 ∧ Rel (k + 1) q.2 r.2
def Sm_blank (Rel : Nat → SX7 → SX8 → Prop) : Prop := ∀ (k : Nat) (x : SX7) (m : SX8) , k < 512 → Rel k x m → ∃ q r, fX7_blank x = some q ∧ fX8_blank m = some r ∧ q.1 = r.1 ∧ Rel (k + 1) q.2 r.2
def Sm_fault (Rel : Nat → SX7 → SX8 → Prop) : Prop := ∀ (k : Nat) (x : SX7) (m : SX8) , k < 512 → Rel k x m → ∃ q r, fX7_fault x = some q ∧ fX8_fault m = some r ∧ q = r.1 ∧ Rel (k + 1) x r.2
def Sm_tables (Rel : Nat → SX7 → SX8 → Prop) : Prop := ∀ (k : Nat) (x : SX7) (m : SX8) , k < 512 → Rel k x m → ∃ q r, fX7_tables x = some q ∧ fX8_tables m = some r ∧ q.1 = r.1 ∧ Rel (k + 1) q.2 r.2
def Sm_row (Rel : Nat → SX7 → SX8 → Prop) : Prop := ∀ (k : Nat) (x : SX7) (m : SX8) (b0 b1 b2 : Int32), k < 512 → Rel k x m → ∃ q r, fX7_row x b0 b1 b2 = some q ∧ fX8_row m b0 b1 b2 = some r ∧ q = r ∧ Rel (k + 1) x m
def Sm_as (Rel : Nat → SX7 → SX8 → Prop) : Prop := ∀ (k : Nat) (x : SX7) (m : SX8) (b0 : Int32), k < 512 → Rel k x m → ∃ q r, fX7_as x b0 = some q ∧ fX8_as m b0 = some r ∧ q = r ∧ Rel (k + 1) x m
def Sm_put (Rel : Nat → SX7 → SX8 → Prop) : Prop := ∀ (k : Nat) (x : SX7) (m : SX8) (b0 b1 : Int32), k < 512 → Rel k x m → ∃ q r, fX7_put x b0 b1 = some q ∧ fX8_put m b0 b1 = some r ∧ q.1 = r.1 ∧ Rel (k + 1) q.2 r.2
def Sm_take (Rel : Nat → SX7 → SX8 → Prop) : Prop := ∀ (k : Nat) (x : SX7) (m : SX8) (b0 b1 : Int32), k < 512 → Rel k x m → ∃ q r, fX7_take x b0 b1 = some q ∧ fX8_take m b0 b1 = some r ∧ q.1 = r.1 ∧ Rel (k + 1) q.2 r.2
def Sm_key (Rel : Nat → SX7 → SX8 → Prop) : Prop := ∀ (k : Nat) (x : SX7) (m : SX8) (b0 b1 b2 : Int32), k < 512 → Rel k x m → ∃ q r, fX7_key x b0 b1 b2 = some q ∧ fX8_key m b0 b1 b2 = some r ∧ q.1 = r.1 ∧ Rel (k + 1) q.2 r.2
def Sm_memory (Rel : Nat → SX7 → SX8 → Prop) : Prop := ∀ (k : Nat) (x : SX7) (m : SX8) (b0 : Int32), k < 512 → Rel k x m → ∃ q r, fX7_memory x b0 = some q ∧ fX8_memory m b0 = some r ∧ q.1 = r.1 ∧ Rel (k + 1) q.2 r.2
def Sm_be (Rel : Nat → SX7 → SX8 → Prop) : Prop := ∀ (k : Nat) (x : SX7) (m : SX8) (b0 : Int32), k < 512 → Rel k x m → ∃ q r, fX7_be x b0 = some q ∧ fX8_be m b0 = some r ∧ q.1 = r.1 ∧ Rel (k + 1) q.2 r.2
def Sm_run (Rel : Nat → SX7 → SX8 → Prop) : Prop := ∀ (k : Nat) (x : SX7) (m : SX8) (b0 : Int32), k < 512 → Rel k x m → ∃ q r, fX7_run x b0 = some q ∧ fX8_run m b0 = some r ∧ q.1 = r.1 ∧ Rel (k + 1) q.2 r.2
def Sm_out (Rel : Nat → SX7 → SX8 → Prop) : Prop := ∀ (k : Nat) (x : SX7) (m : SX8) (b0 b1 : Int32), k < 512 → Rel k x m → ∃ q r, fX7_out x b0 b1 = some q ∧ fX8_out m b0 b1 = some r ∧ q = r ∧ Rel (k + 1) x m
def Sm_log (Rel : Nat → SX7 → SX8 → Prop) : Prop := ∀ (k : Nat) (x : SX7) (m : SX8) (b0 b1 : Int32), k < 512 → Rel k x m → ∃ q r, fX7_log x b0 b1 = some q ∧ fX8_log m b0 b1 = some r ∧ q = r ∧ Rel (k + 1) x m
def Sm_ledger (Rel : Nat → SX7 → SX8 → Prop) : Prop := ∀ (k : Nat) (x : SX7) (m : SX8) (b0 : Int32), k < 512 → Rel k x m → ∃ q r, fX7_ledger x b0 = some q ∧ fX8_ledger m b0 = some r ∧ q = r ∧ Rel (k + 1) x m
def Sm_spare (Rel : Nat → SX7 → SX8 → Prop) : Prop := ∀ (k : Nat) (x : SX7) (m : SX8) , k < 512 → Rel k x m → ∃ q r, fX7_spare x = some q ∧ fX8_spare m = some r ∧ q = r.1 ∧ Rel (k + 1) x r.2
def Sm_see (Rel : Nat → SX7 → SX8 → Prop) : Prop := ∀ (k : Nat) (x : SX7) (m : SX8) (b0 b1 : Int32), k < 512 → (b1 = 0 ∨ b1 = 1) → Rel k x m → ∃ q r, fX7_see x b0 b1 = some q ∧ fX8_see m b0 b1 = some r ∧ q.1 = r.1 ∧ Rel (k + 1) q.2 r.2
def Sm_forget (Rel : Nat → SX7 → SX8 → Prop) : Prop := ∀ (k : Nat) (x : SX7) (m : SX8) , k < 512 → Rel k x m → ∃ q r, fX7_forget x = some q ∧ fX8_forget m = some r ∧ q.1 = r.1 ∧ Rel (k + 1) q.2 r.2
def Sm_sorts (Rel : Nat → SX7 → SX8 → Prop) : Prop := ∀ (k : Nat) (x : SX7) (m : SX8) (b0 : Int32), k < 512 → Rel k x m → ∃ q r, fX7_sorts x b0 = some q ∧ fX8_sorts m b0 = some r ∧ q = r ∧ Rel (k + 1) x m
def Sm_drawn (Rel : Nat → SX7 → SX8 → Prop) : Prop := ∀ (k : Nat) (x : SX7) (m : SX8) (b0 b1 b2 : Int32), k < 512 → Rel k x m → ∃ q r, fX7_drawn x b0 b1 b2 = some q ∧ fX8_drawn m b0 b1 b2 = some r ∧ q.1 = r.1 ∧ Rel (k + 1) q.2 r.2
def Sm_image (Rel : Nat → SX7 → SX8 → Prop) : Prop := ∀ (k : Nat) (x : SX7) (m : SX8) , k < 512 → Rel k x m → ∃ q r, fX7_image x = some q ∧ fX8_image m = some r ∧ q.1 = r.1 ∧ Rel (k + 1) q.2 r.2
def Sm_restore (Rel : Nat → SX7 → SX8 → Prop) : Prop := ∀ (k : Nat) (x : SX7) (m : SX8) , k < 512 → Rel k x m → ∃ q r, fX7_restore x = some q ∧ fX8_restore m = some r ∧ q.1 = r.1 ∧ Rel (k + 1) q.2 r.2
def Sm_count (Rel : Nat → SX7 → SX8 → Prop) : Prop := ∀ (k : Nat) (x : SX7) (m : SX8) (b0 : Int32), k < 512 → Rel k x m → ∃ q r, fX7_count x b0 = some q ∧ fX8_count m b0 = some r ∧ q = r ∧ Rel (k + 1) x m
def Sm_digest (Rel : Nat → SX7 → SX8 → Prop) : Prop := ∀ (k : Nat) (x : SX7) (m : SX8) , k < 512 → Rel k x m → ∃ q r, fX7_digest x = some q ∧ fX8_digest m = some r ∧ q = r.1 ∧ Rel (k + 1) x r.2
def Sm (Rel : Nat → SX7 → SX8 → Prop) : Prop := (∀ (k : Nat) (x : SX7) (m : SX8), Rel k x m → Rel (k + 1) x m) ∧
  Sm_letter Rel ∧
  Sm_blank Rel ∧
  Sm_fault Rel ∧
  Sm_tables Rel ∧
  Sm_row Rel ∧
  Sm_as Rel ∧
  Sm_put Rel ∧
  Sm_take Rel ∧
  Sm_key Rel ∧
  Sm_memory Rel ∧
  Sm_be Rel ∧
  Sm_run Rel ∧
  Sm_out Rel ∧
  Sm_log Rel ∧
  Sm_ledger Rel ∧
  Sm_spare Rel ∧
  Sm_see Rel ∧
  Sm_forget Rel ∧
  Sm_sorts Rel ∧
  Sm_drawn Rel ∧
  Sm_image Rel ∧
  Sm_restore Rel ∧
  Sm_count Rel ∧
  Sm_digest Rel
set_option maxRecDepth 100000 in
set_option maxHeartbeats 8000000 in
theorem lensX (post : va_W) (u : Nat → Nat) (cI : ClassId) : LnX7 (u 0) (u 1) (u 2) (u 3) (u 4) (u 5) (u 6) (u 7) (u 8) (u 9) (u 10) (u 11) (u 12) (u 13) (u 14) (u 15) (u 16) (u 17) (u 18) (u 19) (u 20) (u 21) (u 22) (u 23) (u 24) (u 25) (u 26) (u 27) (u 28) (u 29) (u 30) (u 31) (u 32) (u 33) (u 34) (u 35) (u 36) (u 37) (u 38) (u 39) (u 40) (u 41) 0 1 2 3 4 5 6 7 8 9 10 11 12 13 14 15 16 17 18 19 20 21 22 23 24 25 26 27 28 29 30 31 32 33 34 35 36 37 38 39 40 41 cI (fun z => clX7 u cI z ++ post) :=
  ⟨fun _ => rfl, fun _ => ⟨fun _ => rfl, fun _ => rfl, fun _ _ => rfl, fun _ _ => rfl⟩, fun _ => ⟨fun _ => rfl, fun _ => ⟨fun _ => rfl, fun _ => ⟨fun _ => rfl, fun _ => rfl, fun _ _ => rfl, fun _ _ => rfl⟩, fun _ => ⟨fun _ => rfl, fun _ => rfl, fun _ _ => rfl, fun _ _ => rfl⟩, fun _ _ => rfl, fun _ _ => rfl⟩, fun _ => ⟨fun _ => rfl, fun _ => rfl, fun _ _ => rfl, fun _ => rfl, fun _ _ => rfl, fun _ _ => rfl, fun _ _ => rfl, fun _ _ => rfl⟩, fun _ => ⟨fun _ => rfl, fun _ => rfl, fun _ _ => rfl, fun _ => rfl, fun _ _ => rfl, fun _ => rfl, fun _ _ => rfl, fun _ _ => rfl, fun _ => rfl, fun _ _ => rfl, fun _ => rfl, fun _ _ => rfl, fun _ _ => rfl, fun _ _ => rfl⟩, fun _ => rfl, fun _ _ => rfl, fun _ _ => rfl⟩, fun _ => ⟨fun _ => rfl, fun _ _ => rfl, fun _ _ => rfl⟩, fun _ => ⟨fun _ => rfl, fun _ => ⟨fun _ => rfl, fun _ => rfl, fun _ _ => rfl, fun _ _ => rfl⟩, fun _ => ⟨fun _ => rfl, fun _ => rfl, fun _ _ => rfl, fun _ _ => rfl⟩, fun _ _ => rfl, fun _ _ => rfl⟩, fun _ => ⟨fun _ => rfl, fun _ _ => rfl, fun _ _ => rfl⟩, fun _ _ => rfl, fun _ => ⟨fun _ => rfl, fun _ => ⟨fun _ => rfl, fun _ => ⟨fun _ => rfl, fun _ => rfl, fun _ _ => rfl, fun _ _ => rfl⟩, fun _ => ⟨fun _ => rfl, fun _ => rfl, fun _ _ => rfl, fun _ _ => rfl⟩, fun _ _ => rfl, fun _ _ => rfl⟩, fun _ => ⟨fun _ => rfl, fun _ => rfl, fun _ _ => rfl, fun _ => rfl, fun _ _ => rfl, fun _ _ => rfl, fun _ _ => rfl, fun _ _ => rfl⟩, fun _ => ⟨fun _ => rfl, fun _ => rfl, fun _ _ => rfl, fun _ => rfl, fun _ _ => rfl, fun _ => rfl, fun _ _ => rfl, fun _ _ => rfl, fun _ => rfl, fun _ _ => rfl, fun _ => rfl, fun _ _ => rfl, fun _ _ => rfl, fun _ _ => rfl⟩, fun _ => rfl, fun _ _ => rfl, fun _ _ => rfl⟩, fun _ _ => rfl, fun _ _ => rfl⟩
