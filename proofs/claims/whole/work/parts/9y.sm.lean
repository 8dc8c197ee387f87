/-! THE LAW HOLDS -/
theorem sm_all : Sm Rel := ⟨fun _ _ _ h => h.up, sm_letter, sm_blank, sm_fault, sm_tables, sm_row, sm_as, sm_put, sm_take, sm_key, sm_memory, sm_be, sm_run, sm_out, sm_log, sm_ledger, sm_spare, sm_see, sm_forget, sm_sorts, sm_drawn, sm_image, sm_restore, sm_count, sm_digest⟩
theorem whole_start {p : Program} {e : Env} {s : State} {m : MethodId} {below : List Frame} {meth : Method} {c : Code} (l : Launch) (hflags : l.flags = flags0) {b L : Nat} {xs : Nat → Int32} (hL : L ≤ 2048) (C0 : lw_At p s m meth c b L xs) : W p l e room_1 s m #[Value.ref b] below meth c s.heap [] 0 0 (lw_Z below #[Value.ref b] s) (entryFrame m ([Value.ref b] : List Value).toArray 4) := by
  obtain ⟨q, q1, -⟩ := clearTold_M iX8a
  exact start_of sm_all q1 (Rel.zero q1) hL C0
