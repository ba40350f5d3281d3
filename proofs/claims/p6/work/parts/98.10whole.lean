/-! ===== the claim ===== -/
theorem whole_start {p : Program} {e : Env} {s : State} {m : MethodId} {below : List Frame} {meth : Method} {c : Code} (l : Launch) (hflags : l.flags = flags0) {b L : Nat} {xs : Nat → Int32} (hL : L ≤ 3072) (C0 : lw_At p s m meth c b L xs) : W p l e room_1 s m #[Value.ref b] below meth c s.heap [] 0 0 (lw_Z below #[Value.ref b] s) (entryFrame m ([Value.ref b] : List Value).toArray 4) :=
  law_whole l (I := fun _ S T => J5 S T) hL C0 start5 (fun _ _ _ h => h) (fun _ _ _ _ h j hj a1 a2 a3 a4 a5 => s5 h j hj a1 a2 a3 a4 a5)
