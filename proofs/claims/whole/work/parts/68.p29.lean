/-! the pure side, 29: all calls; the walk from the law's entry -/
theorem ops_ok : Ops Rel :=
  ⟨Rel_up, op_letter, op_blank, op_fault, op_wall, op_witness, op_as, op_tells, op_said, op_having, op_show, op_be, op_slip, op_tear, op_term, op_keep, op_peace, op_worlds, op_odds, op_see, op_forget, op_drawn, op_image, op_restore, op_count, op_digest⟩
theorem whole_start {p : Program} {e : Env} {s : State} {m : MethodId} {below : List Frame} {meth : Method} {c : Code} (l : Launch) (hflags : l.flags = flags0) {b L : Nat} {xs : Nat → Int32} (hL : L ≤ 2560) (C0 : lw_At p s m meth c b L xs) : W p l e room_1 s m #[Value.ref b] below meth c s.heap [] 0 0 (lw_Z below #[Value.ref b] s) (entryFrame m ([Value.ref b] : List Value).toArray 4) :=
  whole_open ops_ok Rel_0 l hL C0
