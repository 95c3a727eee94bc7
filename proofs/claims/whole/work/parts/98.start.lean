/-- the law's loop, as a pure function, comes to its end with true -/
theorem pure_all (xs : Nat → Int32) (L : Nat) (hL : L ≤ 3072) : f_L_law_23 xs L gN gS0 0 ≠ none := pure_law xs L hL
theorem whole_start {p : Program} {e : Env} {s : State} {m : MethodId} {below : List Frame} {meth : Method} {c : Code} (l : Launch) (hT : l.stackTraces = false) {b L : Nat} {xs : Nat → Int32} (hL : L ≤ 3072) (C0 : lw_At p s m meth c b L xs) : W p l e room_1 s m #[Value.ref b] below meth c s.heap [] 0 0 (lw_Z below #[Value.ref b] s) (entryFrame m ([Value.ref b] : List Value).toArray 7) :=
  whole_open l hT (pure_all xs L hL) C0
