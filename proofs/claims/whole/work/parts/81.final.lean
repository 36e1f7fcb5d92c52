/-- from the entry, for every script of at most 3072 ints, the law comes to its end with true -/
theorem whole_start {p : Program} {e : Env} {s : State} {m : MethodId} {below : List Frame} {meth : Method} {c : Code} (l : Launch) {b L : Nat} {xs : Nat → Int32} (hL : L ≤ 3072) (C0 : lw_At p s m meth c b L xs) : W p l e room_1 s m #[Value.ref b] below meth c s.heap [] 0 0 (lw_Z below #[Value.ref b] s) (entryFrame m ([Value.ref b] : List Value).toArray 4) := by
  have hf : f_lawL xs L 512 (nI 0) gz_s0x gz_s0m = some () := gl_L hL 512 0 gz_s0x gz_s0m (by omega) (by omega) gR_start
  rw [show nI 0 = (0 : Int32) from rfl] at hf
  exact whole_from l hL C0 hf
