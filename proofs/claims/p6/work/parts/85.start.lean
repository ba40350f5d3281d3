/-! ===== the law from its entry, over any tale that both keep ===== -/
theorem law_whole {p : Program} {e : Env} {s : State} {m : MethodId} {below : List Frame} {meth : Method} {c : Code} (l : Launch) {b L : Nat} {xs : Nat → Int32} (hL : L ≤ 3072) (C0 : lw_At p s m meth c b L xs) {I : Nat → cT → mT → Prop} (h0 : I 0 S0 T0) (hdf : ∀ k S T, I k S T → I (k + 1) S T) (hst : ∀ k S T, 6 * k + 6 ≤ L → I k S T → ∀ j, j ≤ 35 → ∀ a1 a2 a3 a4 a5, SStp (I (k + 1)) S T j a1 a2 a3 a4 a5) : W p l e room_1 s m #[Value.ref b] below meth c s.heap [] 0 0 (lw_Z below #[Value.ref b] s) (entryFrame m ([Value.ref b] : List Value).toArray 4) := by
  obtain ⟨D, cA, as0, E, S⟩ := law_enter C0 (fun _ => .inl (.int, 0, .inl (fun _ => 0)))
  have hl := lv_entry ([.ref b]) (n := 4) (Nat.le_of_ble_eq_true rfl)
  rw [lg_entry_eq]
  have hk : LW p l e s m below meth c b D cA as0 0 0 0 [some (.ref kB), none, none, none] [] 0 (fun _ => .inl (.int, 0, .inl (fun _ => 0))) := by
    refine law_make E _ ?_
    have := law_loop (D := D) (cA := cA) (l := l) (e := e) (below := below) (cu := 156) (su := 156058) E (Nat.le_of_ble_eq_true rfl) (Nat.le_of_ble_eq_true rfl) hL hdf hst (L + 1) 0 S0 T0 h0 (by omega) (by omega)
    exact this
  have hloc : aw_loc as0 [some (.ref kB), none, none, none] 4 ((lg_sl ([.ref b]) ++ List.replicate (4 - (lg_sl ([.ref b])).length) Slot.unset).toArray) := by
    refine ⟨rfl, ?_⟩
    have h1 : asc as0 0 [some (.ref kB), none, none, none] = [(0, .ref b)] := by
      show [(0, Value.ref (as0 kB))] = _
      rw [E.2.2.2]
    rw [h1]
    exact hl
  exact hk as0 s.heap [] S ⟨Nat.le_refl 0, Nat.zero_le _, fun _ _ => rfl⟩ _ hloc
