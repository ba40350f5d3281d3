/-! ===== the claim of p1 ===== -/
def I1 : Nat → cT → mT → Prop := fun k S T => k = 0 → S = S0 ∧ T = T0
theorem whole_start {p : Program} {e : Env} {s : State} {m : MethodId} {below : List Frame} {meth : Method} {c : Code} (l : Launch) (hflags : l.flags = flags0) {b L : Nat} {xs : Nat → Int32} (hL : L ≤ 6) (C0 : lw_At p s m meth c b L xs) : W p l e room_1 s m #[Value.ref b] below meth c s.heap [] 0 0 (lw_Z below #[Value.ref b] s) (entryFrame m ([Value.ref b] : List Value).toArray 4) := by
  refine law_whole l (I := I1) (by omega) C0 (fun _ => ⟨rfl, rfl⟩) (fun k S T h e => absurd e (by omega)) (fun k S T hk h j hj a1 a2 a3 a4 a5 => ?_)
  have hk0 : k = 0 := by omega
  obtain ⟨rfl, rfl⟩ := h hk0
  have hI : I1 (k + 1) = Tr := funext (fun S => funext (fun T => propext ⟨fun _ => trivial, fun _ e => absurd e (by omega)⟩))
  rw [hI]
  exact q_all j hj a1 a2 a3 a4 a5
