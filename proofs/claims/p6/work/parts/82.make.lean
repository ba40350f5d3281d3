/-! ===== both objects are made ===== -/
def S0i (q j : Nat) : Int32 := bif Nat.beq (cK q) 2 then (bif Nat.beq j 13 then -1 else 0) else bif Nat.beq (cK q) 5 then (bif Nat.beq j 1 then (bif Nat.beq (cN (q + 1)) 280 then 7 else bif Nat.beq (cN (q + 1)) 40 then 4 else 2) else bif Nat.beq j 2 then (bif Nat.beq (cN (q + 1)) 280 then 40 else bif Nat.beq (cN (q + 1)) 40 then 10 else 8) else 0) else 0
def S0 : cT := (S0i, fun _ _ => 0, 113, 125)
def T0 : mT := (fun q j => bif Nat.beq q 0 then (bif Nat.beq j 22 then -1 else 0) else 0, fun _ _ => 0)
def allE (S : cT) : List aE → Nat → Prop
  | [], _ => True
  | e :: r, k => eqE e (cC S k) ∧ allE S r (k + 1)
theorem allE_get {S : cT} : ∀ {es : List aE} {k : Nat} (_ : allE S es k) (q : Nat) (_ : q < es.length) (d : aE), eqE (es.getD q d) (cC S (k + q))
  | [], k, _, q, hq, d => absurd hq (Nat.not_lt_zero q)
  | e :: r, k, h, 0, _, d => h.1
  | e :: r, k, h, q + 1, hq, d => by
    have := allE_get h.2 q (by simpa using hq) d
    rw [show k + (q + 1) = k + 1 + q by omega]
    exact this
theorem lt_u {f g : Nat → Option Nat} {n : Nat} (h : ∀ j, j < n → f j = g j) (hn : f n = g n) : ∀ j, j < n + 1 → f j = g j := by
  intro j hj
  rcases Nat.lt_or_ge j n with a | a
  · exact h j a
  · have : j = n := by omega
    subst this
    exact hn
theorem lt_z {f g : Nat → Option Nat} : ∀ j, j < 0 → f j = g j := fun j hj => absurd hj (Nat.not_lt_zero j)
set_option maxRecDepth 100000 in
set_option maxHeartbeats 4000000 in
theorem mir_ok : allE S0 mir0 0 := ⟨Or.inl rfl, Or.inl rfl, Or.inl rfl, Or.inl rfl, Or.inl rfl, Or.inl rfl, Or.inr ⟨_, _, _, _, rfl, rfl, (lt_u (lt_u (lt_u (lt_u (lt_u (lt_u lt_z rfl) rfl) rfl) rfl) rfl) rfl)⟩, Or.inl rfl, Or.inl rfl, Or.inl rfl, Or.inl rfl, Or.inl rfl, Or.inl rfl, Or.inl rfl, Or.inl rfl, Or.inl rfl, Or.inl rfl, Or.inl rfl, Or.inl rfl, Or.inl rfl, Or.inl rfl, Or.inl rfl, Or.inl rfl, Or.inl rfl, Or.inl rfl, Or.inl rfl, Or.inl rfl, Or.inl rfl, Or.inl rfl, Or.inl rfl, Or.inl rfl, Or.inl rfl, Or.inl rfl, Or.inl rfl, Or.inl rfl, Or.inl rfl, Or.inl rfl, Or.inl rfl, Or.inl rfl, Or.inl rfl, Or.inl rfl, Or.inl rfl, Or.inl rfl, Or.inl rfl, Or.inl rfl, Or.inl rfl, Or.inl rfl, Or.inl rfl, Or.inl rfl, Or.inr ⟨_, _, _, _, rfl, rfl, (lt_u (lt_u (lt_u (lt_u lt_z rfl) rfl) rfl) rfl)⟩, Or.inl rfl, Or.inl rfl, Or.inl rfl, Or.inl rfl, Or.inl rfl, Or.inl rfl, Or.inl rfl, Or.inl rfl, Or.inl rfl, Or.inl rfl, Or.inl rfl, Or.inl rfl, Or.inl rfl, Or.inl rfl, Or.inl rfl, Or.inl rfl, Or.inl rfl, Or.inl rfl, Or.inl rfl, Or.inl rfl, Or.inl rfl, Or.inl rfl, Or.inl rfl, Or.inl rfl, Or.inl rfl, Or.inl rfl, Or.inl rfl, Or.inl rfl, Or.inl rfl, Or.inl rfl, Or.inl rfl, Or.inl rfl, Or.inl rfl, Or.inl rfl, Or.inl rfl, Or.inl rfl, Or.inl rfl, Or.inl rfl, Or.inl rfl, Or.inl rfl, Or.inl rfl, Or.inl rfl, Or.inl rfl, Or.inl rfl, Or.inl rfl, Or.inl rfl, Or.inl rfl, Or.inl rfl, Or.inl rfl, Or.inl rfl, Or.inl rfl, Or.inl rfl, Or.inl rfl, Or.inl rfl, Or.inl rfl, Or.inl rfl, Or.inl rfl, Or.inl rfl, Or.inl rfl, Or.inl rfl, Or.inl rfl, Or.inl rfl, Or.inl rfl, Or.inl rfl, Or.inl rfl, Or.inl rfl, Or.inl rfl, Or.inl rfl, Or.inl rfl, Or.inl rfl, Or.inl rfl, Or.inl rfl, Or.inl rfl, Or.inl rfl, Or.inl rfl, Or.inl rfl, Or.inl rfl, Or.inl rfl, Or.inl rfl, Or.inl rfl, Or.inl rfl, Or.inl rfl, Or.inl rfl, Or.inl rfl, Or.inl rfl, Or.inl rfl, Or.inl rfl, trivial⟩
theorem wfl_B {n k : Nat} {ls : List (Option Value)} (hk : kW ≤ k) (h : wfL n ls) : wfL n (some (.ref k) :: ls) := wfl_c (fun j e => by cases e; exact Or.inr hk) h
theorem mk_ok {hx : aH} (H : ∀ q, q < 137 → hx q = mir0.getD q (.inl (.int, 0, .inl (fun _ => 0)))) : ∀ q, q < 156 → eqE (blk hx 137 [.inr (10, mObj T0), mArr T0 1, mArr T0 2, mArr T0 3, mArr T0 4, mArr T0 5, mArr T0 6, mArr T0 7, mArr T0 8, mArr T0 9, mArr T0 10, mArr T0 11, mArr T0 12, mArr T0 13, mArr T0 14, mArr T0 15, mArr T0 16, mArr T0 17, mArr T0 18] q) (hM (cC S0) T0 q) := by
  intro q hq
  by_cases a : q < 137
  · have h1 : ∀ cs : List aE, blk hx 137 cs q = hx q := fun cs => if_neg (by omega)
    rw [h1, H q a]
    have h2 : hM (cC S0) T0 q = cC S0 q := if_pos a
    rw [h2]
    have := allE_get mir_ok q a (.inl (.int, 0, .inl (fun _ => 0)))
    rw [Nat.zero_add] at this
    exact this
  · refine Or.inl ?_
    obtain ⟨j, rfl⟩ : ∃ j, q = 137 + j := ⟨q - 137, by omega⟩
    have hj : j < 19 := by omega
    by_cases z : j = 0
    · subst z; rfl
    · rw [hM_a _ _ _ (by omega)]
      refine blk_get ?_
      match j, hj, z with
      | 0, _, z => exact absurd rfl z
      | 1, _, _ => rfl
      | 2, _, _ => rfl
      | 3, _, _ => rfl
      | 4, _, _ => rfl
      | 5, _, _ => rfl
      | 6, _, _ => rfl
      | 7, _, _ => rfl
      | 8, _, _ => rfl
      | 9, _, _ => rfl
      | 10, _, _ => rfl
      | 11, _, _ => rfl
      | 12, _, _ => rfl
      | 13, _, _ => rfl
      | 14, _, _ => rfl
      | 15, _, _ => rfl
      | 16, _, _ => rfl
      | 17, _, _ => rfl
      | 18, _, _ => rfl
      | j + 19, hj, _ => omega
set_option maxRecDepth 100000 in
set_option maxHeartbeats 4000000 in
theorem law_make {p : Program} {l : Launch} {e : Env} {s : State} {m : MethodId} {below : List Frame} {meth : Method} {c : Code} {b L : Nat} {xs : Nat → Int32} {D : va_G} {cA : FieldType → ClassId} {as0 : Nat → Nat} (E : LE p s m meth c b L xs as0) (h : aH)
    (k : LW p l e s m below meth c b D cA as0 156 156058 18 [some (.ref kB), some (.ref 0), some (.ref 137), some (.int 0)] [] 156 (hM (cC S0) T0)) : LW p l e s m below meth c b D cA as0 0 0 0 [some (.ref kB), none, none, none] [] 0 h := by
  have w0 : wfH 0 h := fun k hk => absurd hk (Nat.not_lt_zero k)
  refine LW.new E (idx := 7) (C := RX11) (T := TX11) (ty := tyX11) (N := 12) (ci := 9) (fs := [.null, .null, .null, .null, .null, .null, .null, .null, .null, .null, .null, .int 0]) (tb_in 21 (by decide +kernel) (by decide +kernel)) (tb_in 22 (by decide +kernel) (by decide +kernel)) (tb_in 1 (by decide +kernel) (by decide +kernel)) ck_9 tyX11_ok rfl (lt_s (lt_s (lt_s (lt_s (lt_s (lt_s (lt_s (lt_s (lt_s (lt_s (lt_s (lt_s lt_0 rfl) rfl) rfl) rfl) rfl) rfl) rfl) rfl) rfl) rfl) rfl) rfl) (fun _ => rfl) (by decide +kernel) (by decide) w0 (wfl_B (by decide) (wfl_0 (wfl_0 (wfl_0 wfl_nil)))) wfs_nil (Nat.le_of_ble_eq_true rfl) (Nat.le_of_ble_eq_true rfl) ?_
  refine LW.run E [(.dup, 0)] (pc' := 4) (ls' := [some (.ref kB), none, none, none]) (st' := [.ref 0, .ref 0]) (by decide +kernel) rfl ?_
  refine LW.callI E (As := []) (st := [.ref 0]) li_RL_9 (by decide +kernel) (kJ_X11_init h) (Nat.le_of_ble_eq_true rfl) (Nat.le_of_ble_eq_true rfl) rfl (Nat.le_of_ble_eq_true rfl) rfl (Nat.le_of_ble_eq_true rfl) (Nat.le_of_ble_eq_true rfl) (wfl_B (by decide) (wfl_0 (wfl_0 (wfl_0 wfl_nil)))) (wfs_r (by decide) wfs_nil) (fun r n' h' q => q.1) (fun n' h' _ _ q => ?_)
  obtain ⟨-, q2, hw, q3⟩ := q
  subst q2
  refine LW.run E [(.astore_n 1, 0)] (pc' := 8) (ls' := [some (.ref kB), some (.ref 0), none, none]) (st' := []) (by decide +kernel) rfl ?_
  refine LW.new E (idx := 10) (C := RX12) (T := TX12) (ty := tyX12) (N := 34) (ci := 10) (fs := [.null, .int 0, .int 0, .null, .null, .null, .null, .null, .int 0, .int 0, .int 0, .int 0, .int 0, .int 0, .int 0, .null, .int 0, .int 0, .null, .int 0, .null, .null, .int 0, .int 0, .null, .int 0, .null, .null, .null, .long 0, .null, .null, .null, .null]) (tb_in 1046 (by decide +kernel) (by decide +kernel)) (tb_in 1047 (by decide +kernel) (by decide +kernel)) (tb_in 11 (by decide +kernel) (by decide +kernel)) ck_10 tyX12_ok rfl (lt_s (lt_s (lt_s (lt_s (lt_s (lt_s (lt_s (lt_s (lt_s (lt_s (lt_s (lt_s (lt_s (lt_s (lt_s (lt_s (lt_s (lt_s (lt_s (lt_s (lt_s (lt_s (lt_s (lt_s (lt_s (lt_s (lt_s (lt_s (lt_s (lt_s (lt_s (lt_s (lt_s (lt_s lt_0 rfl) rfl) rfl) rfl) rfl) rfl) rfl) rfl) rfl) rfl) rfl) rfl) rfl) rfl) rfl) rfl) rfl) rfl) rfl) rfl) rfl) rfl) rfl) rfl) rfl) rfl) rfl) rfl) rfl) rfl) rfl) rfl) rfl) rfl) (fun _ => rfl) (by decide +kernel) (by decide) hw (wfl_B (by decide) (wfl_r (by decide) (wfl_0 (wfl_0 wfl_nil)))) wfs_nil (Nat.le_of_ble_eq_true rfl) (Nat.le_of_ble_eq_true rfl) ?_
  refine LW.run E [(.dup, 0)] (pc' := 12) (ls' := [some (.ref kB), some (.ref 0), none, none]) (st' := [.ref 137, .ref 137]) (by decide +kernel) rfl ?_
  rw [← blk_one]
  refine LW.callI E (As := []) (st := [.ref 137]) li_RL_12 (by decide +kernel) (kI_X12_init h' 137 (by decide) hw) (Nat.le_of_ble_eq_true rfl) (Nat.le_of_ble_eq_true rfl) rfl (Nat.le_of_ble_eq_true rfl) rfl (Nat.le_of_ble_eq_true rfl) (Nat.le_of_ble_eq_true rfl) (wfl_B (by decide) (wfl_r (by decide) (wfl_0 (wfl_0 wfl_nil)))) (wfs_r (by decide) wfs_nil) (fun r n' h' q => q.1) (fun n' h2 _ _ q => ?_)
  obtain ⟨-, q4, q5⟩ := q
  subst q4
  subst q5
  refine LW.run E [(.astore_n 2, 0), (.iconst 0, 0), (.istore_n 3, 0)] (pc' := 18) (ls' := [some (.ref kB), some (.ref 0), some (.ref 137), some (.int 0)]) (st' := []) (by decide +kernel) rfl ?_
  exact LW.hext (mk_ok q3) k
