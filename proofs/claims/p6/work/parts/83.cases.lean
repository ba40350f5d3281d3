/-! ===== the law, case by case (by program) ===== -/
def kz (a : Int32) : Int32 := if a = 0 then 0 else 1
section LCASE
variable {p : Program} {l : Launch} {e : Env} {s : State} {m : MethodId} {below : List Frame} {meth : Method} {c : Code} {b L : Nat} {xs : Nat → Int32} {D : va_G} {cA : FieldType → ClassId} {as0 : Nat → Nat} {cu su : Nat}
theorem lc_feed (E : LE p s m meth c b L xs as0) (hcu : cu ≤ 600000) (hsu : su ≤ 7302250) {i3 r r' : Int32} {S S' : cT} {T T' : mT} (h1 : vp_in (i3 + 1) L) (h2 : vp_in (i3 + 2) L) (h3 : vp_in (i3 + 3) L) (h4 : vp_in (i3 + 4) L) (h5 : vp_in (i3 + 5) L) (hx : COk l yy_X11_feed 1 [.ref 0, .int (xs (i3 + 1).toNatClampNeg), .int (xs (i3 + 2).toNatClampNeg), .int (xs (i3 + 3).toNatClampNeg), .int (xs (i3 + 4).toNatClampNeg), .int (xs (i3 + 5).toNatClampNeg)] S (some (.int r)) S') (hm : MOk l yy_X12_feed 1 [.int (xs (i3 + 1).toNatClampNeg), .int (xs (i3 + 2).toNatClampNeg), .int (xs (i3 + 3).toNatClampNeg), .int (xs (i3 + 4).toNatClampNeg), .int (xs (i3 + 5).toNatClampNeg)] T (some (.int r')) T') (k : LW p l e s m below meth c b D cA as0 cu su 1276 [some (.ref kB), some (.ref 0), some (.ref 137), some (.int i3)] [] 156 (hM (cC S') T')) : LW p l e s m below meth c b D cA as0 cu su 192 [some (.ref kB), some (.ref 0), some (.ref 137), some (.int i3)] [] 156 (hM (cC S) T) := by
  refine LW.run E [(.aload_n 1, 0), (.aload_n 0, 0), (.iload_n 3, 0), (.iconst 1, 1), (.iadd, 0)] (pc' := 197) (ls' := [some (.ref kB), some (.ref 0), some (.ref 137), some (.int i3)]) (st' := [.int (i3 + 1), .ref kB, .ref 0]) (by decide +kernel) rfl ?_
  refine LW.sld E h1 (by decide +kernel) ?_
  refine LW.run E [(.aload_n 0, 0), (.iload_n 3, 0), (.iconst 2, 2), (.iadd, 0)] (pc' := 202) (ls' := [some (.ref kB), some (.ref 0), some (.ref 137), some (.int i3)]) (st' := [.int (i3 + 2), .ref kB, .int (xs (i3 + 1).toNatClampNeg), .ref 0]) (by decide +kernel) rfl ?_
  refine LW.sld E h2 (by decide +kernel) ?_
  refine LW.run E [(.aload_n 0, 0), (.iload_n 3, 0), (.iconst 3, 3), (.iadd, 0)] (pc' := 207) (ls' := [some (.ref kB), some (.ref 0), some (.ref 137), some (.int i3)]) (st' := [.int (i3 + 3), .ref kB, .int (xs (i3 + 2).toNatClampNeg), .int (xs (i3 + 1).toNatClampNeg), .ref 0]) (by decide +kernel) rfl ?_
  refine LW.sld E h3 (by decide +kernel) ?_
  refine LW.run E [(.aload_n 0, 0), (.iload_n 3, 0), (.iconst 4, 4), (.iadd, 0)] (pc' := 212) (ls' := [some (.ref kB), some (.ref 0), some (.ref 137), some (.int i3)]) (st' := [.int (i3 + 4), .ref kB, .int (xs (i3 + 3).toNatClampNeg), .int (xs (i3 + 2).toNatClampNeg), .int (xs (i3 + 1).toNatClampNeg), .ref 0]) (by decide +kernel) rfl ?_
  refine LW.sld E h4 (by decide +kernel) ?_
  refine LW.run E [(.aload_n 0, 0), (.iload_n 3, 0), (.iconst 5, 5), (.iadd, 0)] (pc' := 217) (ls' := [some (.ref kB), some (.ref 0), some (.ref 137), some (.int i3)]) (st' := [.int (i3 + 5), .ref kB, .int (xs (i3 + 4).toNatClampNeg), .int (xs (i3 + 3).toNatClampNeg), .int (xs (i3 + 2).toNatClampNeg), .int (xs (i3 + 1).toNatClampNeg), .ref 0]) (by decide +kernel) rfl ?_
  refine LW.sld E h5 (by decide +kernel) ?_
  refine LW.callV E (As := [.int (xs (i3 + 1).toNatClampNeg), .int (xs (i3 + 2).toNatClampNeg), .int (xs (i3 + 3).toNatClampNeg), .int (xs (i3 + 4).toNatClampNeg), .int (xs (i3 + 5).toNatClampNeg)]) (st := []) lv_RL_13 (by decide +kernel) (hx T) (Nat.le_of_ble_eq_true rfl) (Nat.le_of_ble_eq_true rfl) rfl (by decide) (hC_o (ci := 9) rfl (by decide)) rfl rfl (Nat.le_of_ble_eq_true rfl) rfl (fun r n' h' q => q.2.1) hcu hsu (fun r0 h' q => ?_)
  obtain ⟨q1, -, q3⟩ := q
  subst q1
  subst q3
  refine LW.run E [(.pop, 0), (.aload_n 2, 0), (.aload_n 0, 0), (.iload_n 3, 0), (.iconst 1, 1), (.iadd, 0)] (pc' := 227) (ls' := [some (.ref kB), some (.ref 0), some (.ref 137), some (.int i3)]) (st' := [.int (i3 + 1), .ref kB, .ref 137]) (by decide +kernel) rfl ?_
  refine LW.sld E h1 (by decide +kernel) ?_
  refine LW.run E [(.aload_n 0, 0), (.iload_n 3, 0), (.iconst 2, 2), (.iadd, 0)] (pc' := 232) (ls' := [some (.ref kB), some (.ref 0), some (.ref 137), some (.int i3)]) (st' := [.int (i3 + 2), .ref kB, .int (xs (i3 + 1).toNatClampNeg), .ref 137]) (by decide +kernel) rfl ?_
  refine LW.sld E h2 (by decide +kernel) ?_
  refine LW.run E [(.aload_n 0, 0), (.iload_n 3, 0), (.iconst 3, 3), (.iadd, 0)] (pc' := 237) (ls' := [some (.ref kB), some (.ref 0), some (.ref 137), some (.int i3)]) (st' := [.int (i3 + 3), .ref kB, .int (xs (i3 + 2).toNatClampNeg), .int (xs (i3 + 1).toNatClampNeg), .ref 137]) (by decide +kernel) rfl ?_
  refine LW.sld E h3 (by decide +kernel) ?_
  refine LW.run E [(.aload_n 0, 0), (.iload_n 3, 0), (.iconst 4, 4), (.iadd, 0)] (pc' := 242) (ls' := [some (.ref kB), some (.ref 0), some (.ref 137), some (.int i3)]) (st' := [.int (i3 + 4), .ref kB, .int (xs (i3 + 3).toNatClampNeg), .int (xs (i3 + 2).toNatClampNeg), .int (xs (i3 + 1).toNatClampNeg), .ref 137]) (by decide +kernel) rfl ?_
  refine LW.sld E h4 (by decide +kernel) ?_
  refine LW.run E [(.aload_n 0, 0), (.iload_n 3, 0), (.iconst 5, 5), (.iadd, 0)] (pc' := 247) (ls' := [some (.ref kB), some (.ref 0), some (.ref 137), some (.int i3)]) (st' := [.int (i3 + 5), .ref kB, .int (xs (i3 + 4).toNatClampNeg), .int (xs (i3 + 3).toNatClampNeg), .int (xs (i3 + 2).toNatClampNeg), .int (xs (i3 + 1).toNatClampNeg), .ref 137]) (by decide +kernel) rfl ?_
  refine LW.sld E h5 (by decide +kernel) ?_
  refine LW.callV E (As := [.int (xs (i3 + 1).toNatClampNeg), .int (xs (i3 + 2).toNatClampNeg), .int (xs (i3 + 3).toNatClampNeg), .int (xs (i3 + 4).toNatClampNeg), .int (xs (i3 + 5).toNatClampNeg)]) (st := []) lv_RL_17 (by decide +kernel) (hm (cC S')) (Nat.le_of_ble_eq_true rfl) (Nat.le_of_ble_eq_true rfl) rfl (by decide) (hM_o _ _) rfl rfl (Nat.le_of_ble_eq_true rfl) rfl (fun r n' h' q => q.2.1) hcu hsu (fun r0 h' q => ?_)
  obtain ⟨q1, -, q3⟩ := q
  subst q1
  subst q3
  refine LW.run E [(.pop, 0), (.goto 1024, 0)] (pc' := 1276) (ls' := [some (.ref kB), some (.ref 0), some (.ref 137), some (.int i3)]) (st' := []) (by decide +kernel) rfl ?_
  exact k
theorem lc_end (E : LE p s m meth c b L xs as0) (hcu : cu ≤ 600000) (hsu : su ≤ 7302250) {i3 r r' : Int32} {S S' : cT} {T T' : mT} (h1 : vp_in (i3 + 1) L) (hx : COk l yy_X11_end 0 [.ref 0, .int (xs (i3 + 1).toNatClampNeg)] S (some (.int r)) S') (hm : MOk l yy_X12_end 0 [.int (xs (i3 + 1).toNatClampNeg)] T (some (.int r')) T') (k : LW p l e s m below meth c b D cA as0 cu su 1276 [some (.ref kB), some (.ref 0), some (.ref 137), some (.int i3)] [] 156 (hM (cC S') T')) : LW p l e s m below meth c b D cA as0 cu su 255 [some (.ref kB), some (.ref 0), some (.ref 137), some (.int i3)] [] 156 (hM (cC S) T) := by
  refine LW.run E [(.aload_n 1, 0), (.aload_n 0, 0), (.iload_n 3, 0), (.iconst 1, 1), (.iadd, 0)] (pc' := 260) (ls' := [some (.ref kB), some (.ref 0), some (.ref 137), some (.int i3)]) (st' := [.int (i3 + 1), .ref kB, .ref 0]) (by decide +kernel) rfl ?_
  refine LW.sld E h1 (by decide +kernel) ?_
  refine LW.callV E (As := [.int (xs (i3 + 1).toNatClampNeg)]) (st := []) lv_RL_18 (by decide +kernel) (hx T) (Nat.le_of_ble_eq_true rfl) (Nat.le_of_ble_eq_true rfl) rfl (by decide) (hC_o (ci := 9) rfl (by decide)) rfl rfl (Nat.le_of_ble_eq_true rfl) rfl (fun r n' h' q => q.2.1) hcu hsu (fun r0 h' q => ?_)
  obtain ⟨q1, -, q3⟩ := q
  subst q1
  subst q3
  refine LW.run E [(.pop, 0), (.aload_n 2, 0), (.aload_n 0, 0), (.iload_n 3, 0), (.iconst 1, 1), (.iadd, 0)] (pc' := 270) (ls' := [some (.ref kB), some (.ref 0), some (.ref 137), some (.int i3)]) (st' := [.int (i3 + 1), .ref kB, .ref 137]) (by decide +kernel) rfl ?_
  refine LW.sld E h1 (by decide +kernel) ?_
  refine LW.callV E (As := [.int (xs (i3 + 1).toNatClampNeg)]) (st := []) lv_RL_22 (by decide +kernel) (hm (cC S')) (Nat.le_of_ble_eq_true rfl) (Nat.le_of_ble_eq_true rfl) rfl (by decide) (hM_o _ _) rfl rfl (Nat.le_of_ble_eq_true rfl) rfl (fun r n' h' q => q.2.1) hcu hsu (fun r0 h' q => ?_)
  obtain ⟨q1, -, q3⟩ := q
  subst q1
  subst q3
  refine LW.run E [(.pop, 0), (.goto 1001, 0)] (pc' := 1276) (ls' := [some (.ref kB), some (.ref 0), some (.ref 137), some (.int i3)]) (st' := []) (by decide +kernel) rfl ?_
  exact k
theorem lc_island (E : LE p s m meth c b L xs as0) (hcu : cu ≤ 600000) (hsu : su ≤ 7302250) {i3 r r' : Int32} {S S' : cT} {T T' : mT}  (hx : COk l yy_X11_island 12 [.ref 0] S (some (.int r)) S') (hm : MOk l yy_X12_island 12 [] T (some (.int r')) T') (k : LW p l e s m below meth c b D cA as0 cu su 1276 [some (.ref kB), some (.ref 0), some (.ref 137), some (.int i3)] [] 156 (hM (cC S') T')) : LW p l e s m below meth c b D cA as0 cu su 278 [some (.ref kB), some (.ref 0), some (.ref 137), some (.int i3)] [] 156 (hM (cC S) T) := by
  refine LW.run E [(.aload_n 1, 0)] (pc' := 279) (ls' := [some (.ref kB), some (.ref 0), some (.ref 137), some (.int i3)]) (st' := [.ref 0]) (by decide +kernel) rfl ?_
  refine LW.callV E (As := []) (st := []) lv_RL_23 (by decide +kernel) (hx T) (Nat.le_of_ble_eq_true rfl) (Nat.le_of_ble_eq_true rfl) rfl (by decide) (hC_o (ci := 9) rfl (by decide)) rfl rfl (Nat.le_of_ble_eq_true rfl) rfl (fun r n' h' q => q.2.1) hcu hsu (fun r0 h' q => ?_)
  obtain ⟨q1, -, q3⟩ := q
  subst q1
  subst q3
  refine LW.run E [(.pop, 0), (.aload_n 2, 0)] (pc' := 284) (ls' := [some (.ref kB), some (.ref 0), some (.ref 137), some (.int i3)]) (st' := [.ref 137]) (by decide +kernel) rfl ?_
  refine LW.callV E (As := []) (st := []) lv_RL_27 (by decide +kernel) (hm (cC S')) (Nat.le_of_ble_eq_true rfl) (Nat.le_of_ble_eq_true rfl) rfl (by decide) (hM_o _ _) rfl rfl (Nat.le_of_ble_eq_true rfl) rfl (fun r n' h' q => q.2.1) hcu hsu (fun r0 h' q => ?_)
  obtain ⟨q1, -, q3⟩ := q
  subst q1
  subst q3
  refine LW.run E [(.pop, 0), (.goto 988, 0)] (pc' := 1276) (ls' := [some (.ref kB), some (.ref 0), some (.ref 137), some (.int i3)]) (st' := []) (by decide +kernel) rfl ?_
  exact k
theorem lc_rule (E : LE p s m meth c b L xs as0) (hcu : cu ≤ 600000) (hsu : su ≤ 7302250) {i3 r r' : Int32} {S S' : cT} {T T' : mT}  (hx : COk l yy_X11_rule 45 [.ref 0] S (some (.int r)) S') (hm : MOk l yy_X12_rule 12 [] T (some (.int r')) T') (k : LW p l e s m below meth c b D cA as0 cu su 1276 [some (.ref kB), some (.ref 0), some (.ref 137), some (.int i3)] [] 156 (hM (cC S') T')) : LW p l e s m below meth c b D cA as0 cu su 291 [some (.ref kB), some (.ref 0), some (.ref 137), some (.int i3)] [] 156 (hM (cC S) T) := by
  refine LW.run E [(.aload_n 1, 0)] (pc' := 292) (ls' := [some (.ref kB), some (.ref 0), some (.ref 137), some (.int i3)]) (st' := [.ref 0]) (by decide +kernel) rfl ?_
  refine LW.callV E (As := []) (st := []) lv_RL_28 (by decide +kernel) (hx T) (Nat.le_of_ble_eq_true rfl) (Nat.le_of_ble_eq_true rfl) rfl (by decide) (hC_o (ci := 9) rfl (by decide)) rfl rfl (Nat.le_of_ble_eq_true rfl) rfl (fun r n' h' q => q.2.1) hcu hsu (fun r0 h' q => ?_)
  obtain ⟨q1, -, q3⟩ := q
  subst q1
  subst q3
  refine LW.run E [(.pop, 0), (.aload_n 2, 0)] (pc' := 297) (ls' := [some (.ref kB), some (.ref 0), some (.ref 137), some (.int i3)]) (st' := [.ref 137]) (by decide +kernel) rfl ?_
  refine LW.callV E (As := []) (st := []) lv_RL_31 (by decide +kernel) (hm (cC S')) (Nat.le_of_ble_eq_true rfl) (Nat.le_of_ble_eq_true rfl) rfl (by decide) (hM_o _ _) rfl rfl (Nat.le_of_ble_eq_true rfl) rfl (fun r n' h' q => q.2.1) hcu hsu (fun r0 h' q => ?_)
  obtain ⟨q1, -, q3⟩ := q
  subst q1
  subst q3
  refine LW.run E [(.pop, 0), (.goto 975, 0)] (pc' := 1276) (ls' := [some (.ref kB), some (.ref 0), some (.ref 137), some (.int i3)]) (st' := []) (by decide +kernel) rfl ?_
  exact k
theorem lc_force (E : LE p s m meth c b L xs as0) (hcu : cu ≤ 600000) (hsu : su ≤ 7302250) {i3 r r' : Int32} {S S' : cT} {T T' : mT} (h1 : vp_in (i3 + 1) L) (hx : COk l yy_X11_force 2 [.ref 0, .int (xs (i3 + 1).toNatClampNeg)] S (some (.int r)) S') (hm : MOk l yy_X12_force 1 [.int (xs (i3 + 1).toNatClampNeg)] T (some (.int r')) T') (hr : r = r') (k : LW p l e s m below meth c b D cA as0 cu su 1276 [some (.ref kB), some (.ref 0), some (.ref 137), some (.int i3)] [] 156 (hM (cC S') T')) : LW p l e s m below meth c b D cA as0 cu su 304 [some (.ref kB), some (.ref 0), some (.ref 137), some (.int i3)] [] 156 (hM (cC S) T) := by
  refine LW.run E [(.aload_n 1, 0), (.aload_n 0, 0), (.iload_n 3, 0), (.iconst 1, 1), (.iadd, 0)] (pc' := 309) (ls' := [some (.ref kB), some (.ref 0), some (.ref 137), some (.int i3)]) (st' := [.int (i3 + 1), .ref kB, .ref 0]) (by decide +kernel) rfl ?_
  refine LW.sld E h1 (by decide +kernel) ?_
  refine LW.callV E (As := [.int (xs (i3 + 1).toNatClampNeg)]) (st := []) lv_RL_32 (by decide +kernel) (hx T) (Nat.le_of_ble_eq_true rfl) (Nat.le_of_ble_eq_true rfl) rfl (by decide) (hC_o (ci := 9) rfl (by decide)) rfl rfl (Nat.le_of_ble_eq_true rfl) rfl (fun r n' h' q => q.2.1) hcu hsu (fun r0 h' q => ?_)
  obtain ⟨q1, -, q3⟩ := q
  subst q1
  subst q3
  refine LW.run E [(.aload_n 2, 0), (.aload_n 0, 0), (.iload_n 3, 0), (.iconst 1, 1), (.iadd, 0)] (pc' := 318) (ls' := [some (.ref kB), some (.ref 0), some (.ref 137), some (.int i3)]) (st' := [.int (i3 + 1), .ref kB, .ref 137, .int r]) (by decide +kernel) rfl ?_
  refine LW.sld E h1 (by decide +kernel) ?_
  refine LW.callV E (As := [.int (xs (i3 + 1).toNatClampNeg)]) (st := [.int r]) lv_RL_35 (by decide +kernel) (hm (cC S')) (Nat.le_of_ble_eq_true rfl) (Nat.le_of_ble_eq_true rfl) rfl (by decide) (hM_o _ _) rfl rfl (Nat.le_of_ble_eq_true rfl) rfl (fun r n' h' q => q.2.1) hcu hsu (fun r0 h' q => ?_)
  obtain ⟨q1, -, q3⟩ := q
  subst q1
  subst q3
  refine LW.icmp_eq E (off := 954) (tgt := 1276) (by decide +kernel) (by decide) (fun _ => ?_) (fun q => absurd hr q)
  exact k
theorem lc_person (E : LE p s m meth c b L xs as0) (hcu : cu ≤ 600000) (hsu : su ≤ 7302250) {i3 r r' : Int32} {S S' : cT} {T T' : mT} (h1 : vp_in (i3 + 1) L) (h2 : vp_in (i3 + 2) L) (hx : COk l yy_X11_person 6 [.ref 0, .int (xs (i3 + 1).toNatClampNeg), .int (xs (i3 + 2).toNatClampNeg)] S (some (.int r)) S') (hm : MOk l yy_X12_person 6 [.int (xs (i3 + 1).toNatClampNeg), .int (xs (i3 + 2).toNatClampNeg)] T (some (.int r')) T') (k : LW p l e s m below meth c b D cA as0 cu su 1276 [some (.ref kB), some (.ref 0), some (.ref 137), some (.int i3)] [] 156 (hM (cC S') T')) : LW p l e s m below meth c b D cA as0 cu su 327 [some (.ref kB), some (.ref 0), some (.ref 137), some (.int i3)] [] 156 (hM (cC S) T) := by
  refine LW.run E [(.aload_n 1, 0), (.aload_n 0, 0), (.iload_n 3, 0), (.iconst 1, 1), (.iadd, 0)] (pc' := 332) (ls' := [some (.ref kB), some (.ref 0), some (.ref 137), some (.int i3)]) (st' := [.int (i3 + 1), .ref kB, .ref 0]) (by decide +kernel) rfl ?_
  refine LW.sld E h1 (by decide +kernel) ?_
  refine LW.run E [(.aload_n 0, 0), (.iload_n 3, 0), (.iconst 2, 2), (.iadd, 0)] (pc' := 337) (ls' := [some (.ref kB), some (.ref 0), some (.ref 137), some (.int i3)]) (st' := [.int (i3 + 2), .ref kB, .int (xs (i3 + 1).toNatClampNeg), .ref 0]) (by decide +kernel) rfl ?_
  refine LW.sld E h2 (by decide +kernel) ?_
  refine LW.callV E (As := [.int (xs (i3 + 1).toNatClampNeg), .int (xs (i3 + 2).toNatClampNeg)]) (st := []) lv_RL_36 (by decide +kernel) (hx T) (Nat.le_of_ble_eq_true rfl) (Nat.le_of_ble_eq_true rfl) rfl (by decide) (hC_o (ci := 9) rfl (by decide)) rfl rfl (Nat.le_of_ble_eq_true rfl) rfl (fun r n' h' q => q.2.1) hcu hsu (fun r0 h' q => ?_)
  obtain ⟨q1, -, q3⟩ := q
  subst q1
  subst q3
  refine LW.run E [(.pop, 0), (.aload_n 2, 0), (.aload_n 0, 0), (.iload_n 3, 0), (.iconst 1, 1), (.iadd, 0)] (pc' := 347) (ls' := [some (.ref kB), some (.ref 0), some (.ref 137), some (.int i3)]) (st' := [.int (i3 + 1), .ref kB, .ref 137]) (by decide +kernel) rfl ?_
  refine LW.sld E h1 (by decide +kernel) ?_
  refine LW.run E [(.aload_n 0, 0), (.iload_n 3, 0), (.iconst 2, 2), (.iadd, 0)] (pc' := 352) (ls' := [some (.ref kB), some (.ref 0), some (.ref 137), some (.int i3)]) (st' := [.int (i3 + 2), .ref kB, .int (xs (i3 + 1).toNatClampNeg), .ref 137]) (by decide +kernel) rfl ?_
  refine LW.sld E h2 (by decide +kernel) ?_
  refine LW.callV E (As := [.int (xs (i3 + 1).toNatClampNeg), .int (xs (i3 + 2).toNatClampNeg)]) (st := []) lv_RL_40 (by decide +kernel) (hm (cC S')) (Nat.le_of_ble_eq_true rfl) (Nat.le_of_ble_eq_true rfl) rfl (by decide) (hM_o _ _) rfl rfl (Nat.le_of_ble_eq_true rfl) rfl (fun r n' h' q => q.2.1) hcu hsu (fun r0 h' q => ?_)
  obtain ⟨q1, -, q3⟩ := q
  subst q1
  subst q3
  refine LW.run E [(.pop, 0), (.goto 919, 0)] (pc' := 1276) (ls' := [some (.ref kB), some (.ref 0), some (.ref 137), some (.int i3)]) (st' := []) (by decide +kernel) rfl ?_
  exact k
theorem lc_sum (E : LE p s m meth c b L xs as0) (hcu : cu ≤ 600000) (hsu : su ≤ 7302250) {i3 r r' : Int32} {S S' : cT} {T T' : mT} (h1 : vp_in (i3 + 1) L) (h2 : vp_in (i3 + 2) L) (hx : COk l yy_X11_sum 5 [.ref 0, .int (xs (i3 + 1).toNatClampNeg), .int (xs (i3 + 2).toNatClampNeg)] S (some (.int r)) S') (hm : MOk l yy_X12_sum 5 [.int (xs (i3 + 1).toNatClampNeg), .int (xs (i3 + 2).toNatClampNeg)] T (some (.int r')) T') (k : LW p l e s m below meth c b D cA as0 cu su 1276 [some (.ref kB), some (.ref 0), some (.ref 137), some (.int i3)] [] 156 (hM (cC S') T')) : LW p l e s m below meth c b D cA as0 cu su 360 [some (.ref kB), some (.ref 0), some (.ref 137), some (.int i3)] [] 156 (hM (cC S) T) := by
  refine LW.run E [(.aload_n 1, 0), (.aload_n 0, 0), (.iload_n 3, 0), (.iconst 1, 1), (.iadd, 0)] (pc' := 365) (ls' := [some (.ref kB), some (.ref 0), some (.ref 137), some (.int i3)]) (st' := [.int (i3 + 1), .ref kB, .ref 0]) (by decide +kernel) rfl ?_
  refine LW.sld E h1 (by decide +kernel) ?_
  refine LW.run E [(.aload_n 0, 0), (.iload_n 3, 0), (.iconst 2, 2), (.iadd, 0)] (pc' := 370) (ls' := [some (.ref kB), some (.ref 0), some (.ref 137), some (.int i3)]) (st' := [.int (i3 + 2), .ref kB, .int (xs (i3 + 1).toNatClampNeg), .ref 0]) (by decide +kernel) rfl ?_
  refine LW.sld E h2 (by decide +kernel) ?_
  refine LW.callV E (As := [.int (xs (i3 + 1).toNatClampNeg), .int (xs (i3 + 2).toNatClampNeg)]) (st := []) lv_RL_41 (by decide +kernel) (hx T) (Nat.le_of_ble_eq_true rfl) (Nat.le_of_ble_eq_true rfl) rfl (by decide) (hC_o (ci := 9) rfl (by decide)) rfl rfl (Nat.le_of_ble_eq_true rfl) rfl (fun r n' h' q => q.2.1) hcu hsu (fun r0 h' q => ?_)
  obtain ⟨q1, -, q3⟩ := q
  subst q1
  subst q3
  refine LW.run E [(.pop, 0), (.aload_n 2, 0), (.aload_n 0, 0), (.iload_n 3, 0), (.iconst 1, 1), (.iadd, 0)] (pc' := 380) (ls' := [some (.ref kB), some (.ref 0), some (.ref 137), some (.int i3)]) (st' := [.int (i3 + 1), .ref kB, .ref 137]) (by decide +kernel) rfl ?_
  refine LW.sld E h1 (by decide +kernel) ?_
  refine LW.run E [(.aload_n 0, 0), (.iload_n 3, 0), (.iconst 2, 2), (.iadd, 0)] (pc' := 385) (ls' := [some (.ref kB), some (.ref 0), some (.ref 137), some (.int i3)]) (st' := [.int (i3 + 2), .ref kB, .int (xs (i3 + 1).toNatClampNeg), .ref 137]) (by decide +kernel) rfl ?_
  refine LW.sld E h2 (by decide +kernel) ?_
  refine LW.callV E (As := [.int (xs (i3 + 1).toNatClampNeg), .int (xs (i3 + 2).toNatClampNeg)]) (st := []) lv_RL_44 (by decide +kernel) (hm (cC S')) (Nat.le_of_ble_eq_true rfl) (Nat.le_of_ble_eq_true rfl) rfl (by decide) (hM_o _ _) rfl rfl (Nat.le_of_ble_eq_true rfl) rfl (fun r n' h' q => q.2.1) hcu hsu (fun r0 h' q => ?_)
  obtain ⟨q1, -, q3⟩ := q
  subst q1
  subst q3
  refine LW.run E [(.pop, 0), (.goto 886, 0)] (pc' := 1276) (ls' := [some (.ref kB), some (.ref 0), some (.ref 137), some (.int i3)]) (st' := []) (by decide +kernel) rfl ?_
  exact k
theorem lc_tie (E : LE p s m meth c b L xs as0) (hcu : cu ≤ 600000) (hsu : su ≤ 7302250) {i3 r r' : Int32} {S S' : cT} {T T' : mT} (h1 : vp_in (i3 + 1) L) (h2 : vp_in (i3 + 2) L) (hx : COk l yy_X11_tie 2 [.ref 0, .int (xs (i3 + 1).toNatClampNeg), .int (xs (i3 + 2).toNatClampNeg)] S (some (.int r)) S') (hm : MOk l yy_X12_tie 1 [.int (xs (i3 + 1).toNatClampNeg), .int (xs (i3 + 2).toNatClampNeg)] T (some (.int r')) T') (k : LW p l e s m below meth c b D cA as0 cu su 1276 [some (.ref kB), some (.ref 0), some (.ref 137), some (.int i3)] [] 156 (hM (cC S') T')) : LW p l e s m below meth c b D cA as0 cu su 393 [some (.ref kB), some (.ref 0), some (.ref 137), some (.int i3)] [] 156 (hM (cC S) T) := by
  refine LW.run E [(.aload_n 1, 0), (.aload_n 0, 0), (.iload_n 3, 0), (.iconst 1, 1), (.iadd, 0)] (pc' := 398) (ls' := [some (.ref kB), some (.ref 0), some (.ref 137), some (.int i3)]) (st' := [.int (i3 + 1), .ref kB, .ref 0]) (by decide +kernel) rfl ?_
  refine LW.sld E h1 (by decide +kernel) ?_
  refine LW.run E [(.aload_n 0, 0), (.iload_n 3, 0), (.iconst 2, 2), (.iadd, 0)] (pc' := 403) (ls' := [some (.ref kB), some (.ref 0), some (.ref 137), some (.int i3)]) (st' := [.int (i3 + 2), .ref kB, .int (xs (i3 + 1).toNatClampNeg), .ref 0]) (by decide +kernel) rfl ?_
  refine LW.sld E h2 (by decide +kernel) ?_
  refine LW.callV E (As := [.int (xs (i3 + 1).toNatClampNeg), .int (xs (i3 + 2).toNatClampNeg)]) (st := []) lv_RL_45 (by decide +kernel) (hx T) (Nat.le_of_ble_eq_true rfl) (Nat.le_of_ble_eq_true rfl) rfl (by decide) (hC_o (ci := 9) rfl (by decide)) rfl rfl (Nat.le_of_ble_eq_true rfl) rfl (fun r n' h' q => q.2.1) hcu hsu (fun r0 h' q => ?_)
  obtain ⟨q1, -, q3⟩ := q
  subst q1
  subst q3
  refine LW.run E [(.pop, 0), (.aload_n 2, 0), (.aload_n 0, 0), (.iload_n 3, 0), (.iconst 1, 1), (.iadd, 0)] (pc' := 413) (ls' := [some (.ref kB), some (.ref 0), some (.ref 137), some (.int i3)]) (st' := [.int (i3 + 1), .ref kB, .ref 137]) (by decide +kernel) rfl ?_
  refine LW.sld E h1 (by decide +kernel) ?_
  refine LW.run E [(.aload_n 0, 0), (.iload_n 3, 0), (.iconst 2, 2), (.iadd, 0)] (pc' := 418) (ls' := [some (.ref kB), some (.ref 0), some (.ref 137), some (.int i3)]) (st' := [.int (i3 + 2), .ref kB, .int (xs (i3 + 1).toNatClampNeg), .ref 137]) (by decide +kernel) rfl ?_
  refine LW.sld E h2 (by decide +kernel) ?_
  refine LW.callV E (As := [.int (xs (i3 + 1).toNatClampNeg), .int (xs (i3 + 2).toNatClampNeg)]) (st := []) lv_RL_48 (by decide +kernel) (hm (cC S')) (Nat.le_of_ble_eq_true rfl) (Nat.le_of_ble_eq_true rfl) rfl (by decide) (hM_o _ _) rfl rfl (Nat.le_of_ble_eq_true rfl) rfl (fun r n' h' q => q.2.1) hcu hsu (fun r0 h' q => ?_)
  obtain ⟨q1, -, q3⟩ := q
  subst q1
  subst q3
  refine LW.run E [(.pop, 0), (.goto 853, 0)] (pc' := 1276) (ls' := [some (.ref kB), some (.ref 0), some (.ref 137), some (.int i3)]) (st' := []) (by decide +kernel) rfl ?_
  exact k
theorem lc_telling (E : LE p s m meth c b L xs as0) (hcu : cu ≤ 600000) (hsu : su ≤ 7302250) {i3 r r' : Int32} {S S' : cT} {T T' : mT} (h1 : vp_in (i3 + 1) L) (h2 : vp_in (i3 + 2) L) (hx : COk l yy_X11_telling 3 [.ref 0, .int (xs (i3 + 1).toNatClampNeg), .int (xs (i3 + 2).toNatClampNeg)] S (some (.int r)) S') (hm : MOk l yy_X12_telling 2 [.int (xs (i3 + 1).toNatClampNeg), .int (xs (i3 + 2).toNatClampNeg)] T (some (.int r')) T') (k : LW p l e s m below meth c b D cA as0 cu su 1276 [some (.ref kB), some (.ref 0), some (.ref 137), some (.int i3)] [] 156 (hM (cC S') T')) : LW p l e s m below meth c b D cA as0 cu su 426 [some (.ref kB), some (.ref 0), some (.ref 137), some (.int i3)] [] 156 (hM (cC S) T) := by
  refine LW.run E [(.aload_n 1, 0), (.aload_n 0, 0), (.iload_n 3, 0), (.iconst 1, 1), (.iadd, 0)] (pc' := 431) (ls' := [some (.ref kB), some (.ref 0), some (.ref 137), some (.int i3)]) (st' := [.int (i3 + 1), .ref kB, .ref 0]) (by decide +kernel) rfl ?_
  refine LW.sld E h1 (by decide +kernel) ?_
  refine LW.run E [(.aload_n 0, 0), (.iload_n 3, 0), (.iconst 2, 2), (.iadd, 0)] (pc' := 436) (ls' := [some (.ref kB), some (.ref 0), some (.ref 137), some (.int i3)]) (st' := [.int (i3 + 2), .ref kB, .int (xs (i3 + 1).toNatClampNeg), .ref 0]) (by decide +kernel) rfl ?_
  refine LW.sld E h2 (by decide +kernel) ?_
  refine LW.callV E (As := [.int (xs (i3 + 1).toNatClampNeg), .int (xs (i3 + 2).toNatClampNeg)]) (st := []) lv_RL_49 (by decide +kernel) (hx T) (Nat.le_of_ble_eq_true rfl) (Nat.le_of_ble_eq_true rfl) rfl (by decide) (hC_o (ci := 9) rfl (by decide)) rfl rfl (Nat.le_of_ble_eq_true rfl) rfl (fun r n' h' q => q.2.1) hcu hsu (fun r0 h' q => ?_)
  obtain ⟨q1, -, q3⟩ := q
  subst q1
  subst q3
  refine LW.run E [(.pop, 0), (.aload_n 2, 0), (.aload_n 0, 0), (.iload_n 3, 0), (.iconst 1, 1), (.iadd, 0)] (pc' := 446) (ls' := [some (.ref kB), some (.ref 0), some (.ref 137), some (.int i3)]) (st' := [.int (i3 + 1), .ref kB, .ref 137]) (by decide +kernel) rfl ?_
  refine LW.sld E h1 (by decide +kernel) ?_
  refine LW.run E [(.aload_n 0, 0), (.iload_n 3, 0), (.iconst 2, 2), (.iadd, 0)] (pc' := 451) (ls' := [some (.ref kB), some (.ref 0), some (.ref 137), some (.int i3)]) (st' := [.int (i3 + 2), .ref kB, .int (xs (i3 + 1).toNatClampNeg), .ref 137]) (by decide +kernel) rfl ?_
  refine LW.sld E h2 (by decide +kernel) ?_
  refine LW.callV E (As := [.int (xs (i3 + 1).toNatClampNeg), .int (xs (i3 + 2).toNatClampNeg)]) (st := []) lv_RL_52 (by decide +kernel) (hm (cC S')) (Nat.le_of_ble_eq_true rfl) (Nat.le_of_ble_eq_true rfl) rfl (by decide) (hM_o _ _) rfl rfl (Nat.le_of_ble_eq_true rfl) rfl (fun r n' h' q => q.2.1) hcu hsu (fun r0 h' q => ?_)
  obtain ⟨q1, -, q3⟩ := q
  subst q1
  subst q3
  refine LW.run E [(.pop, 0), (.goto 820, 0)] (pc' := 1276) (ls' := [some (.ref kB), some (.ref 0), some (.ref 137), some (.int i3)]) (st' := []) (by decide +kernel) rfl ?_
  exact k
theorem lc_tell (E : LE p s m meth c b L xs as0) (hcu : cu ≤ 600000) (hsu : su ≤ 7302250) {i3 r r' : Int32} {S S' : cT} {T T' : mT} (h1 : vp_in (i3 + 1) L) (h2 : vp_in (i3 + 2) L) (h3 : vp_in (i3 + 3) L) (h4 : vp_in (i3 + 4) L) (hx : COk l yy_X11_tell 6 [.ref 0, .int (xs (i3 + 1).toNatClampNeg), .int (xs (i3 + 2).toNatClampNeg), .int (xs (i3 + 3).toNatClampNeg), .int (xs (i3 + 4).toNatClampNeg)] S (some (.int r)) S') (hm : MOk l yy_X12_tell 7 [.int (xs (i3 + 1).toNatClampNeg), .int (xs (i3 + 2).toNatClampNeg), .int (xs (i3 + 3).toNatClampNeg), .int (xs (i3 + 4).toNatClampNeg)] T (some (.int r')) T') (k : LW p l e s m below meth c b D cA as0 cu su 1276 [some (.ref kB), some (.ref 0), some (.ref 137), some (.int i3)] [] 156 (hM (cC S') T')) : LW p l e s m below meth c b D cA as0 cu su 459 [some (.ref kB), some (.ref 0), some (.ref 137), some (.int i3)] [] 156 (hM (cC S) T) := by
  refine LW.run E [(.aload_n 1, 0), (.aload_n 0, 0), (.iload_n 3, 0), (.iconst 1, 1), (.iadd, 0)] (pc' := 464) (ls' := [some (.ref kB), some (.ref 0), some (.ref 137), some (.int i3)]) (st' := [.int (i3 + 1), .ref kB, .ref 0]) (by decide +kernel) rfl ?_
  refine LW.sld E h1 (by decide +kernel) ?_
  refine LW.run E [(.aload_n 0, 0), (.iload_n 3, 0), (.iconst 2, 2), (.iadd, 0)] (pc' := 469) (ls' := [some (.ref kB), some (.ref 0), some (.ref 137), some (.int i3)]) (st' := [.int (i3 + 2), .ref kB, .int (xs (i3 + 1).toNatClampNeg), .ref 0]) (by decide +kernel) rfl ?_
  refine LW.sld E h2 (by decide +kernel) ?_
  refine LW.run E [(.aload_n 0, 0), (.iload_n 3, 0), (.iconst 3, 3), (.iadd, 0)] (pc' := 474) (ls' := [some (.ref kB), some (.ref 0), some (.ref 137), some (.int i3)]) (st' := [.int (i3 + 3), .ref kB, .int (xs (i3 + 2).toNatClampNeg), .int (xs (i3 + 1).toNatClampNeg), .ref 0]) (by decide +kernel) rfl ?_
  refine LW.sld E h3 (by decide +kernel) ?_
  refine LW.run E [(.aload_n 0, 0), (.iload_n 3, 0), (.iconst 4, 4), (.iadd, 0)] (pc' := 479) (ls' := [some (.ref kB), some (.ref 0), some (.ref 137), some (.int i3)]) (st' := [.int (i3 + 4), .ref kB, .int (xs (i3 + 3).toNatClampNeg), .int (xs (i3 + 2).toNatClampNeg), .int (xs (i3 + 1).toNatClampNeg), .ref 0]) (by decide +kernel) rfl ?_
  refine LW.sld E h4 (by decide +kernel) ?_
  refine LW.callV E (As := [.int (xs (i3 + 1).toNatClampNeg), .int (xs (i3 + 2).toNatClampNeg), .int (xs (i3 + 3).toNatClampNeg), .int (xs (i3 + 4).toNatClampNeg)]) (st := []) lv_RL_53 (by decide +kernel) (hx T) (Nat.le_of_ble_eq_true rfl) (Nat.le_of_ble_eq_true rfl) rfl (by decide) (hC_o (ci := 9) rfl (by decide)) rfl rfl (Nat.le_of_ble_eq_true rfl) rfl (fun r n' h' q => q.2.1) hcu hsu (fun r0 h' q => ?_)
  obtain ⟨q1, -, q3⟩ := q
  subst q1
  subst q3
  refine LW.run E [(.pop, 0), (.aload_n 2, 0), (.aload_n 0, 0), (.iload_n 3, 0), (.iconst 1, 1), (.iadd, 0)] (pc' := 489) (ls' := [some (.ref kB), some (.ref 0), some (.ref 137), some (.int i3)]) (st' := [.int (i3 + 1), .ref kB, .ref 137]) (by decide +kernel) rfl ?_
  refine LW.sld E h1 (by decide +kernel) ?_
  refine LW.run E [(.aload_n 0, 0), (.iload_n 3, 0), (.iconst 2, 2), (.iadd, 0)] (pc' := 494) (ls' := [some (.ref kB), some (.ref 0), some (.ref 137), some (.int i3)]) (st' := [.int (i3 + 2), .ref kB, .int (xs (i3 + 1).toNatClampNeg), .ref 137]) (by decide +kernel) rfl ?_
  refine LW.sld E h2 (by decide +kernel) ?_
  refine LW.run E [(.aload_n 0, 0), (.iload_n 3, 0), (.iconst 3, 3), (.iadd, 0)] (pc' := 499) (ls' := [some (.ref kB), some (.ref 0), some (.ref 137), some (.int i3)]) (st' := [.int (i3 + 3), .ref kB, .int (xs (i3 + 2).toNatClampNeg), .int (xs (i3 + 1).toNatClampNeg), .ref 137]) (by decide +kernel) rfl ?_
  refine LW.sld E h3 (by decide +kernel) ?_
  refine LW.run E [(.aload_n 0, 0), (.iload_n 3, 0), (.iconst 4, 4), (.iadd, 0)] (pc' := 504) (ls' := [some (.ref kB), some (.ref 0), some (.ref 137), some (.int i3)]) (st' := [.int (i3 + 4), .ref kB, .int (xs (i3 + 3).toNatClampNeg), .int (xs (i3 + 2).toNatClampNeg), .int (xs (i3 + 1).toNatClampNeg), .ref 137]) (by decide +kernel) rfl ?_
  refine LW.sld E h4 (by decide +kernel) ?_
  refine LW.callV E (As := [.int (xs (i3 + 1).toNatClampNeg), .int (xs (i3 + 2).toNatClampNeg), .int (xs (i3 + 3).toNatClampNeg), .int (xs (i3 + 4).toNatClampNeg)]) (st := []) lv_RL_57 (by decide +kernel) (hm (cC S')) (Nat.le_of_ble_eq_true rfl) (Nat.le_of_ble_eq_true rfl) rfl (by decide) (hM_o _ _) rfl rfl (Nat.le_of_ble_eq_true rfl) rfl (fun r n' h' q => q.2.1) hcu hsu (fun r0 h' q => ?_)
  obtain ⟨q1, -, q3⟩ := q
  subst q1
  subst q3
  refine LW.run E [(.pop, 0), (.goto 767, 0)] (pc' := 1276) (ls' := [some (.ref kB), some (.ref 0), some (.ref 137), some (.int i3)]) (st' := []) (by decide +kernel) rfl ?_
  exact k
theorem lc_retell (E : LE p s m meth c b L xs as0) (hcu : cu ≤ 600000) (hsu : su ≤ 7302250) {i3 r r' : Int32} {S S' : cT} {T T' : mT} (h1 : vp_in (i3 + 1) L) (h2 : vp_in (i3 + 2) L) (h3 : vp_in (i3 + 3) L) (hx : COk l yy_X11_retell 3 [.ref 0, .int (xs (i3 + 1).toNatClampNeg), .int (xs (i3 + 2).toNatClampNeg), .int (xs (i3 + 3).toNatClampNeg)] S (some (.int r)) S') (hm : MOk l yy_X12_retell 2 [.int (xs (i3 + 1).toNatClampNeg), .int (xs (i3 + 2).toNatClampNeg), .int (xs (i3 + 3).toNatClampNeg)] T (some (.int r')) T') (k : LW p l e s m below meth c b D cA as0 cu su 1276 [some (.ref kB), some (.ref 0), some (.ref 137), some (.int i3)] [] 156 (hM (cC S') T')) : LW p l e s m below meth c b D cA as0 cu su 512 [some (.ref kB), some (.ref 0), some (.ref 137), some (.int i3)] [] 156 (hM (cC S) T) := by
  refine LW.run E [(.aload_n 1, 0), (.aload_n 0, 0), (.iload_n 3, 0), (.iconst 1, 1), (.iadd, 0)] (pc' := 517) (ls' := [some (.ref kB), some (.ref 0), some (.ref 137), some (.int i3)]) (st' := [.int (i3 + 1), .ref kB, .ref 0]) (by decide +kernel) rfl ?_
  refine LW.sld E h1 (by decide +kernel) ?_
  refine LW.run E [(.aload_n 0, 0), (.iload_n 3, 0), (.iconst 2, 2), (.iadd, 0)] (pc' := 522) (ls' := [some (.ref kB), some (.ref 0), some (.ref 137), some (.int i3)]) (st' := [.int (i3 + 2), .ref kB, .int (xs (i3 + 1).toNatClampNeg), .ref 0]) (by decide +kernel) rfl ?_
  refine LW.sld E h2 (by decide +kernel) ?_
  refine LW.run E [(.aload_n 0, 0), (.iload_n 3, 0), (.iconst 3, 3), (.iadd, 0)] (pc' := 527) (ls' := [some (.ref kB), some (.ref 0), some (.ref 137), some (.int i3)]) (st' := [.int (i3 + 3), .ref kB, .int (xs (i3 + 2).toNatClampNeg), .int (xs (i3 + 1).toNatClampNeg), .ref 0]) (by decide +kernel) rfl ?_
  refine LW.sld E h3 (by decide +kernel) ?_
  refine LW.callV E (As := [.int (xs (i3 + 1).toNatClampNeg), .int (xs (i3 + 2).toNatClampNeg), .int (xs (i3 + 3).toNatClampNeg)]) (st := []) lv_RL_58 (by decide +kernel) (hx T) (Nat.le_of_ble_eq_true rfl) (Nat.le_of_ble_eq_true rfl) rfl (by decide) (hC_o (ci := 9) rfl (by decide)) rfl rfl (Nat.le_of_ble_eq_true rfl) rfl (fun r n' h' q => q.2.1) hcu hsu (fun r0 h' q => ?_)
  obtain ⟨q1, -, q3⟩ := q
  subst q1
  subst q3
  refine LW.run E [(.pop, 0), (.aload_n 2, 0), (.aload_n 0, 0), (.iload_n 3, 0), (.iconst 1, 1), (.iadd, 0)] (pc' := 537) (ls' := [some (.ref kB), some (.ref 0), some (.ref 137), some (.int i3)]) (st' := [.int (i3 + 1), .ref kB, .ref 137]) (by decide +kernel) rfl ?_
  refine LW.sld E h1 (by decide +kernel) ?_
  refine LW.run E [(.aload_n 0, 0), (.iload_n 3, 0), (.iconst 2, 2), (.iadd, 0)] (pc' := 542) (ls' := [some (.ref kB), some (.ref 0), some (.ref 137), some (.int i3)]) (st' := [.int (i3 + 2), .ref kB, .int (xs (i3 + 1).toNatClampNeg), .ref 137]) (by decide +kernel) rfl ?_
  refine LW.sld E h2 (by decide +kernel) ?_
  refine LW.run E [(.aload_n 0, 0), (.iload_n 3, 0), (.iconst 3, 3), (.iadd, 0)] (pc' := 547) (ls' := [some (.ref kB), some (.ref 0), some (.ref 137), some (.int i3)]) (st' := [.int (i3 + 3), .ref kB, .int (xs (i3 + 2).toNatClampNeg), .int (xs (i3 + 1).toNatClampNeg), .ref 137]) (by decide +kernel) rfl ?_
  refine LW.sld E h3 (by decide +kernel) ?_
  refine LW.callV E (As := [.int (xs (i3 + 1).toNatClampNeg), .int (xs (i3 + 2).toNatClampNeg), .int (xs (i3 + 3).toNatClampNeg)]) (st := []) lv_RL_62 (by decide +kernel) (hm (cC S')) (Nat.le_of_ble_eq_true rfl) (Nat.le_of_ble_eq_true rfl) rfl (by decide) (hM_o _ _) rfl rfl (Nat.le_of_ble_eq_true rfl) rfl (fun r n' h' q => q.2.1) hcu hsu (fun r0 h' q => ?_)
  obtain ⟨q1, -, q3⟩ := q
  subst q1
  subst q3
  refine LW.run E [(.pop, 0), (.goto 724, 0)] (pc' := 1276) (ls' := [some (.ref kB), some (.ref 0), some (.ref 137), some (.int i3)]) (st' := []) (by decide +kernel) rfl ?_
  exact k
theorem lc_look (E : LE p s m meth c b L xs as0) (hcu : cu ≤ 600000) (hsu : su ≤ 7302250) {i3 r r' : Int32} {S S' : cT} {T T' : mT}  (hx : COk l yy_X11_look 4 [.ref 0] S (some (.int r)) S') (hm : MOk l yy_X12_look 2 [] T (some (.int r')) T') (k : LW p l e s m below meth c b D cA as0 cu su 1276 [some (.ref kB), some (.ref 0), some (.ref 137), some (.int i3)] [] 156 (hM (cC S') T')) : LW p l e s m below meth c b D cA as0 cu su 555 [some (.ref kB), some (.ref 0), some (.ref 137), some (.int i3)] [] 156 (hM (cC S) T) := by
  refine LW.run E [(.aload_n 1, 0)] (pc' := 556) (ls' := [some (.ref kB), some (.ref 0), some (.ref 137), some (.int i3)]) (st' := [.ref 0]) (by decide +kernel) rfl ?_
  refine LW.callV E (As := []) (st := []) lv_RL_63 (by decide +kernel) (hx T) (Nat.le_of_ble_eq_true rfl) (Nat.le_of_ble_eq_true rfl) rfl (by decide) (hC_o (ci := 9) rfl (by decide)) rfl rfl (Nat.le_of_ble_eq_true rfl) rfl (fun r n' h' q => q.2.1) hcu hsu (fun r0 h' q => ?_)
  obtain ⟨q1, -, q3⟩ := q
  subst q1
  subst q3
  refine LW.run E [(.pop, 0), (.aload_n 2, 0)] (pc' := 561) (ls' := [some (.ref kB), some (.ref 0), some (.ref 137), some (.int i3)]) (st' := [.ref 137]) (by decide +kernel) rfl ?_
  refine LW.callV E (As := []) (st := []) lv_RL_66 (by decide +kernel) (hm (cC S')) (Nat.le_of_ble_eq_true rfl) (Nat.le_of_ble_eq_true rfl) rfl (by decide) (hM_o _ _) rfl rfl (Nat.le_of_ble_eq_true rfl) rfl (fun r n' h' q => q.2.1) hcu hsu (fun r0 h' q => ?_)
  obtain ⟨q1, -, q3⟩ := q
  subst q1
  subst q3
  refine LW.run E [(.pop, 0), (.goto 711, 0)] (pc' := 1276) (ls' := [some (.ref kB), some (.ref 0), some (.ref 137), some (.int i3)]) (st' := []) (by decide +kernel) rfl ?_
  exact k
theorem lc_give (E : LE p s m meth c b L xs as0) (hcu : cu ≤ 600000) (hsu : su ≤ 7302250) {i3 r r' : Int32} {S S' : cT} {T T' : mT} (h1 : vp_in (i3 + 1) L) (hx : COk l yy_X11_give 3 [.ref 0, .int (xs (i3 + 1).toNatClampNeg)] S (some (.int r)) S') (hm : MOk l yy_X12_give 2 [.int (xs (i3 + 1).toNatClampNeg)] T (some (.int r')) T') (k : LW p l e s m below meth c b D cA as0 cu su 1276 [some (.ref kB), some (.ref 0), some (.ref 137), some (.int i3)] [] 156 (hM (cC S') T')) : LW p l e s m below meth c b D cA as0 cu su 568 [some (.ref kB), some (.ref 0), some (.ref 137), some (.int i3)] [] 156 (hM (cC S) T) := by
  refine LW.run E [(.aload_n 1, 0), (.aload_n 0, 0), (.iload_n 3, 0), (.iconst 1, 1), (.iadd, 0)] (pc' := 573) (ls' := [some (.ref kB), some (.ref 0), some (.ref 137), some (.int i3)]) (st' := [.int (i3 + 1), .ref kB, .ref 0]) (by decide +kernel) rfl ?_
  refine LW.sld E h1 (by decide +kernel) ?_
  refine LW.callV E (As := [.int (xs (i3 + 1).toNatClampNeg)]) (st := []) lv_RL_67 (by decide +kernel) (hx T) (Nat.le_of_ble_eq_true rfl) (Nat.le_of_ble_eq_true rfl) rfl (by decide) (hC_o (ci := 9) rfl (by decide)) rfl rfl (Nat.le_of_ble_eq_true rfl) rfl (fun r n' h' q => q.2.1) hcu hsu (fun r0 h' q => ?_)
  obtain ⟨q1, -, q3⟩ := q
  subst q1
  subst q3
  refine LW.run E [(.pop, 0), (.aload_n 2, 0), (.aload_n 0, 0), (.iload_n 3, 0), (.iconst 1, 1), (.iadd, 0)] (pc' := 583) (ls' := [some (.ref kB), some (.ref 0), some (.ref 137), some (.int i3)]) (st' := [.int (i3 + 1), .ref kB, .ref 137]) (by decide +kernel) rfl ?_
  refine LW.sld E h1 (by decide +kernel) ?_
  refine LW.callV E (As := [.int (xs (i3 + 1).toNatClampNeg)]) (st := []) lv_RL_70 (by decide +kernel) (hm (cC S')) (Nat.le_of_ble_eq_true rfl) (Nat.le_of_ble_eq_true rfl) rfl (by decide) (hM_o _ _) rfl rfl (Nat.le_of_ble_eq_true rfl) rfl (fun r n' h' q => q.2.1) hcu hsu (fun r0 h' q => ?_)
  obtain ⟨q1, -, q3⟩ := q
  subst q1
  subst q3
  refine LW.run E [(.pop, 0), (.goto 688, 0)] (pc' := 1276) (ls' := [some (.ref kB), some (.ref 0), some (.ref 137), some (.int i3)]) (st' := []) (by decide +kernel) rfl ?_
  exact k
theorem lc_save (E : LE p s m meth c b L xs as0) (hcu : cu ≤ 600000) (hsu : su ≤ 7302250) {i3 r r' : Int32} {S S' : cT} {T T' : mT}  (hx : COk l yy_X11_save 3 [.ref 0] S (some (.int r)) S') (hm : MOk l yy_X12_save 2 [] T (some (.int r')) T') (k : LW p l e s m below meth c b D cA as0 cu su 1276 [some (.ref kB), some (.ref 0), some (.ref 137), some (.int i3)] [] 156 (hM (cC S') T')) : LW p l e s m below meth c b D cA as0 cu su 591 [some (.ref kB), some (.ref 0), some (.ref 137), some (.int i3)] [] 156 (hM (cC S) T) := by
  refine LW.run E [(.aload_n 1, 0)] (pc' := 592) (ls' := [some (.ref kB), some (.ref 0), some (.ref 137), some (.int i3)]) (st' := [.ref 0]) (by decide +kernel) rfl ?_
  refine LW.callV E (As := []) (st := []) lv_RL_71 (by decide +kernel) (hx T) (Nat.le_of_ble_eq_true rfl) (Nat.le_of_ble_eq_true rfl) rfl (by decide) (hC_o (ci := 9) rfl (by decide)) rfl rfl (Nat.le_of_ble_eq_true rfl) rfl (fun r n' h' q => q.2.1) hcu hsu (fun r0 h' q => ?_)
  obtain ⟨q1, -, q3⟩ := q
  subst q1
  subst q3
  refine LW.run E [(.pop, 0), (.aload_n 2, 0)] (pc' := 597) (ls' := [some (.ref kB), some (.ref 0), some (.ref 137), some (.int i3)]) (st' := [.ref 137]) (by decide +kernel) rfl ?_
  refine LW.callV E (As := []) (st := []) lv_RL_74 (by decide +kernel) (hm (cC S')) (Nat.le_of_ble_eq_true rfl) (Nat.le_of_ble_eq_true rfl) rfl (by decide) (hM_o _ _) rfl rfl (Nat.le_of_ble_eq_true rfl) rfl (fun r n' h' q => q.2.1) hcu hsu (fun r0 h' q => ?_)
  obtain ⟨q1, -, q3⟩ := q
  subst q1
  subst q3
  refine LW.run E [(.pop, 0), (.goto 675, 0)] (pc' := 1276) (ls' := [some (.ref kB), some (.ref 0), some (.ref 137), some (.int i3)]) (st' := []) (by decide +kernel) rfl ?_
  exact k
theorem lc_sell (E : LE p s m meth c b L xs as0) (hcu : cu ≤ 600000) (hsu : su ≤ 7302250) {i3 r r' : Int32} {S S' : cT} {T T' : mT} (h1 : vp_in (i3 + 1) L) (h2 : vp_in (i3 + 2) L) (h3 : vp_in (i3 + 3) L) (hx : COk l yy_X11_sell 3 [.ref 0, .int (xs (i3 + 1).toNatClampNeg), .int (xs (i3 + 2).toNatClampNeg), .int (xs (i3 + 3).toNatClampNeg)] S (some (.int r)) S') (hm : MOk l yy_X12_sell 1 [.int (xs (i3 + 1).toNatClampNeg), .int (xs (i3 + 2).toNatClampNeg), .int (xs (i3 + 3).toNatClampNeg)] T (some (.int r')) T') (k : LW p l e s m below meth c b D cA as0 cu su 1276 [some (.ref kB), some (.ref 0), some (.ref 137), some (.int i3)] [] 156 (hM (cC S') T')) : LW p l e s m below meth c b D cA as0 cu su 604 [some (.ref kB), some (.ref 0), some (.ref 137), some (.int i3)] [] 156 (hM (cC S) T) := by
  refine LW.run E [(.aload_n 1, 0), (.aload_n 0, 0), (.iload_n 3, 0), (.iconst 1, 1), (.iadd, 0)] (pc' := 609) (ls' := [some (.ref kB), some (.ref 0), some (.ref 137), some (.int i3)]) (st' := [.int (i3 + 1), .ref kB, .ref 0]) (by decide +kernel) rfl ?_
  refine LW.sld E h1 (by decide +kernel) ?_
  refine LW.run E [(.aload_n 0, 0), (.iload_n 3, 0), (.iconst 2, 2), (.iadd, 0)] (pc' := 614) (ls' := [some (.ref kB), some (.ref 0), some (.ref 137), some (.int i3)]) (st' := [.int (i3 + 2), .ref kB, .int (xs (i3 + 1).toNatClampNeg), .ref 0]) (by decide +kernel) rfl ?_
  refine LW.sld E h2 (by decide +kernel) ?_
  refine LW.run E [(.aload_n 0, 0), (.iload_n 3, 0), (.iconst 3, 3), (.iadd, 0)] (pc' := 619) (ls' := [some (.ref kB), some (.ref 0), some (.ref 137), some (.int i3)]) (st' := [.int (i3 + 3), .ref kB, .int (xs (i3 + 2).toNatClampNeg), .int (xs (i3 + 1).toNatClampNeg), .ref 0]) (by decide +kernel) rfl ?_
  refine LW.sld E h3 (by decide +kernel) ?_
  refine LW.callV E (As := [.int (xs (i3 + 1).toNatClampNeg), .int (xs (i3 + 2).toNatClampNeg), .int (xs (i3 + 3).toNatClampNeg)]) (st := []) lv_RL_75 (by decide +kernel) (hx T) (Nat.le_of_ble_eq_true rfl) (Nat.le_of_ble_eq_true rfl) rfl (by decide) (hC_o (ci := 9) rfl (by decide)) rfl rfl (Nat.le_of_ble_eq_true rfl) rfl (fun r n' h' q => q.2.1) hcu hsu (fun r0 h' q => ?_)
  obtain ⟨q1, -, q3⟩ := q
  subst q1
  subst q3
  refine LW.run E [(.pop, 0), (.aload_n 2, 0), (.aload_n 0, 0), (.iload_n 3, 0), (.iconst 1, 1), (.iadd, 0)] (pc' := 629) (ls' := [some (.ref kB), some (.ref 0), some (.ref 137), some (.int i3)]) (st' := [.int (i3 + 1), .ref kB, .ref 137]) (by decide +kernel) rfl ?_
  refine LW.sld E h1 (by decide +kernel) ?_
  refine LW.run E [(.aload_n 0, 0), (.iload_n 3, 0), (.iconst 2, 2), (.iadd, 0)] (pc' := 634) (ls' := [some (.ref kB), some (.ref 0), some (.ref 137), some (.int i3)]) (st' := [.int (i3 + 2), .ref kB, .int (xs (i3 + 1).toNatClampNeg), .ref 137]) (by decide +kernel) rfl ?_
  refine LW.sld E h2 (by decide +kernel) ?_
  refine LW.run E [(.aload_n 0, 0), (.iload_n 3, 0), (.iconst 3, 3), (.iadd, 0)] (pc' := 639) (ls' := [some (.ref kB), some (.ref 0), some (.ref 137), some (.int i3)]) (st' := [.int (i3 + 3), .ref kB, .int (xs (i3 + 2).toNatClampNeg), .int (xs (i3 + 1).toNatClampNeg), .ref 137]) (by decide +kernel) rfl ?_
  refine LW.sld E h3 (by decide +kernel) ?_
  refine LW.callV E (As := [.int (xs (i3 + 1).toNatClampNeg), .int (xs (i3 + 2).toNatClampNeg), .int (xs (i3 + 3).toNatClampNeg)]) (st := []) lv_RL_78 (by decide +kernel) (hm (cC S')) (Nat.le_of_ble_eq_true rfl) (Nat.le_of_ble_eq_true rfl) rfl (by decide) (hM_o _ _) rfl rfl (Nat.le_of_ble_eq_true rfl) rfl (fun r n' h' q => q.2.1) hcu hsu (fun r0 h' q => ?_)
  obtain ⟨q1, -, q3⟩ := q
  subst q1
  subst q3
  refine LW.run E [(.pop, 0), (.goto 632, 0)] (pc' := 1276) (ls' := [some (.ref kB), some (.ref 0), some (.ref 137), some (.int i3)]) (st' := []) (by decide +kernel) rfl ?_
  exact k
theorem lc_spend (E : LE p s m meth c b L xs as0) (hcu : cu ≤ 600000) (hsu : su ≤ 7302250) {i3 r r' : Int32} {S S' : cT} {T T' : mT} (h1 : vp_in (i3 + 1) L) (hx : COk l yy_X11_spend 3 [.ref 0, .int (xs (i3 + 1).toNatClampNeg)] S (some (.int r)) S') (hm : MOk l yy_X12_spend 2 [.int (xs (i3 + 1).toNatClampNeg)] T (some (.int r')) T') (k : LW p l e s m below meth c b D cA as0 cu su 1276 [some (.ref kB), some (.ref 0), some (.ref 137), some (.int i3)] [] 156 (hM (cC S') T')) : LW p l e s m below meth c b D cA as0 cu su 647 [some (.ref kB), some (.ref 0), some (.ref 137), some (.int i3)] [] 156 (hM (cC S) T) := by
  refine LW.run E [(.aload_n 1, 0), (.aload_n 0, 0), (.iload_n 3, 0), (.iconst 1, 1), (.iadd, 0)] (pc' := 652) (ls' := [some (.ref kB), some (.ref 0), some (.ref 137), some (.int i3)]) (st' := [.int (i3 + 1), .ref kB, .ref 0]) (by decide +kernel) rfl ?_
  refine LW.sld E h1 (by decide +kernel) ?_
  refine LW.callV E (As := [.int (xs (i3 + 1).toNatClampNeg)]) (st := []) lv_RL_79 (by decide +kernel) (hx T) (Nat.le_of_ble_eq_true rfl) (Nat.le_of_ble_eq_true rfl) rfl (by decide) (hC_o (ci := 9) rfl (by decide)) rfl rfl (Nat.le_of_ble_eq_true rfl) rfl (fun r n' h' q => q.2.1) hcu hsu (fun r0 h' q => ?_)
  obtain ⟨q1, -, q3⟩ := q
  subst q1
  subst q3
  refine LW.run E [(.pop, 0), (.aload_n 2, 0), (.aload_n 0, 0), (.iload_n 3, 0), (.iconst 1, 1), (.iadd, 0)] (pc' := 662) (ls' := [some (.ref kB), some (.ref 0), some (.ref 137), some (.int i3)]) (st' := [.int (i3 + 1), .ref kB, .ref 137]) (by decide +kernel) rfl ?_
  refine LW.sld E h1 (by decide +kernel) ?_
  refine LW.callV E (As := [.int (xs (i3 + 1).toNatClampNeg)]) (st := []) lv_RL_82 (by decide +kernel) (hm (cC S')) (Nat.le_of_ble_eq_true rfl) (Nat.le_of_ble_eq_true rfl) rfl (by decide) (hM_o _ _) rfl rfl (Nat.le_of_ble_eq_true rfl) rfl (fun r n' h' q => q.2.1) hcu hsu (fun r0 h' q => ?_)
  obtain ⟨q1, -, q3⟩ := q
  subst q1
  subst q3
  refine LW.run E [(.pop, 0), (.goto 609, 0)] (pc' := 1276) (ls' := [some (.ref kB), some (.ref 0), some (.ref 137), some (.int i3)]) (st' := []) (by decide +kernel) rfl ?_
  exact k
theorem lc_keep (E : LE p s m meth c b L xs as0) (hcu : cu ≤ 600000) (hsu : su ≤ 7302250) {i3 r r' : Int32} {S S' : cT} {T T' : mT} (h1 : vp_in (i3 + 1) L) (hx : COk l yy_X11_keep 3 [.ref 0, .int (kz (xs (i3 + 1).toNatClampNeg))] S (some (.int r)) S') (hm : MOk l yy_X12_keep 1 [.int (kz (xs (i3 + 1).toNatClampNeg))] T (some (.int r')) T') (k : LW p l e s m below meth c b D cA as0 cu su 1276 [some (.ref kB), some (.ref 0), some (.ref 137), some (.int i3)] [] 156 (hM (cC S') T')) : LW p l e s m below meth c b D cA as0 cu su 670 [some (.ref kB), some (.ref 0), some (.ref 137), some (.int i3)] [] 156 (hM (cC S) T) := by
  by_cases z : xs (i3 + 1).toNatClampNeg = 0
  · rw [show kz (xs (i3 + 1).toNatClampNeg) = 0 from if_pos z] at hx hm
    refine LW.run E [(.aload_n 1, 0), (.aload_n 0, 0), (.iload_n 3, 0), (.iconst 1, 1), (.iadd, 0)] (pc' := 675) (ls' := [some (.ref kB), some (.ref 0), some (.ref 137), some (.int i3)]) (st' := [.int (i3 + 1), .ref kB, .ref 0]) (by decide +kernel) rfl ?_
    refine LW.sld E h1 (by decide +kernel) ?_
    refine LW.if_eq E (off := 7) (tgt := 683) (by decide +kernel) (by decide) (fun _ => ?_) (fun q => absurd z q)
    refine LW.run E [(.iconst 0, 0)] (pc' := 684) (ls' := [some (.ref kB), some (.ref 0), some (.ref 137), some (.int i3)]) (st' := [.int 0, .ref 0]) (by decide +kernel) rfl ?_
    refine LW.callV E (As := [.int 0]) (st := []) lv_RL_83 (by decide +kernel) (hx T) (Nat.le_of_ble_eq_true rfl) (Nat.le_of_ble_eq_true rfl) rfl (by decide) (hC_o (ci := 9) rfl (by decide)) rfl rfl (Nat.le_of_ble_eq_true rfl) rfl (fun r n' h' q => q.2.1) hcu hsu (fun r0 h' q => ?_)
    obtain ⟨q1, -, q3⟩ := q
    subst q1
    subst q3
    refine LW.run E [(.pop, 0), (.aload_n 2, 0), (.aload_n 0, 0), (.iload_n 3, 0), (.iconst 1, 1), (.iadd, 0)] (pc' := 693) (ls' := [some (.ref kB), some (.ref 0), some (.ref 137), some (.int i3)]) (st' := [.int (i3 + 1), .ref kB, .ref 137]) (by decide +kernel) rfl ?_
    refine LW.sld E h1 (by decide +kernel) ?_
    refine LW.if_eq E (off := 7) (tgt := 701) (by decide +kernel) (by decide) (fun _ => ?_) (fun q => absurd z q)
    refine LW.run E [(.iconst 0, 0)] (pc' := 702) (ls' := [some (.ref kB), some (.ref 0), some (.ref 137), some (.int i3)]) (st' := [.int 0, .ref 137]) (by decide +kernel) rfl ?_
    refine LW.callV E (As := [.int 0]) (st := []) lv_RL_87 (by decide +kernel) (hm (cC S')) (Nat.le_of_ble_eq_true rfl) (Nat.le_of_ble_eq_true rfl) rfl (by decide) (hM_o _ _) rfl rfl (Nat.le_of_ble_eq_true rfl) rfl (fun r n' h' q => q.2.1) hcu hsu (fun r0 h' q => ?_)
    obtain ⟨q1, -, q3⟩ := q
    subst q1
    subst q3
    refine LW.run E [(.pop, 0), (.goto 570, 0)] (pc' := 1276) (ls' := [some (.ref kB), some (.ref 0), some (.ref 137), some (.int i3)]) (st' := []) (by decide +kernel) rfl ?_
    exact k
  · rw [show kz (xs (i3 + 1).toNatClampNeg) = 1 from if_neg z] at hx hm
    refine LW.run E [(.aload_n 1, 0), (.aload_n 0, 0), (.iload_n 3, 0), (.iconst 1, 1), (.iadd, 0)] (pc' := 675) (ls' := [some (.ref kB), some (.ref 0), some (.ref 137), some (.int i3)]) (st' := [.int (i3 + 1), .ref kB, .ref 0]) (by decide +kernel) rfl ?_
    refine LW.sld E h1 (by decide +kernel) ?_
    refine LW.if_eq E (off := 7) (tgt := 683) (by decide +kernel) (by decide) (fun q => absurd q z) (fun _ => ?_)
    refine LW.run E [(.iconst 1, 1), (.goto 4, 0)] (pc' := 684) (ls' := [some (.ref kB), some (.ref 0), some (.ref 137), some (.int i3)]) (st' := [.int 1, .ref 0]) (by decide +kernel) rfl ?_
    refine LW.callV E (As := [.int 1]) (st := []) lv_RL_83 (by decide +kernel) (hx T) (Nat.le_of_ble_eq_true rfl) (Nat.le_of_ble_eq_true rfl) rfl (by decide) (hC_o (ci := 9) rfl (by decide)) rfl rfl (Nat.le_of_ble_eq_true rfl) rfl (fun r n' h' q => q.2.1) hcu hsu (fun r0 h' q => ?_)
    obtain ⟨q1, -, q3⟩ := q
    subst q1
    subst q3
    refine LW.run E [(.pop, 0), (.aload_n 2, 0), (.aload_n 0, 0), (.iload_n 3, 0), (.iconst 1, 1), (.iadd, 0)] (pc' := 693) (ls' := [some (.ref kB), some (.ref 0), some (.ref 137), some (.int i3)]) (st' := [.int (i3 + 1), .ref kB, .ref 137]) (by decide +kernel) rfl ?_
    refine LW.sld E h1 (by decide +kernel) ?_
    refine LW.if_eq E (off := 7) (tgt := 701) (by decide +kernel) (by decide) (fun q => absurd q z) (fun _ => ?_)
    refine LW.run E [(.iconst 1, 1), (.goto 4, 0)] (pc' := 702) (ls' := [some (.ref kB), some (.ref 0), some (.ref 137), some (.int i3)]) (st' := [.int 1, .ref 137]) (by decide +kernel) rfl ?_
    refine LW.callV E (As := [.int 1]) (st := []) lv_RL_87 (by decide +kernel) (hm (cC S')) (Nat.le_of_ble_eq_true rfl) (Nat.le_of_ble_eq_true rfl) rfl (by decide) (hM_o _ _) rfl rfl (Nat.le_of_ble_eq_true rfl) rfl (fun r n' h' q => q.2.1) hcu hsu (fun r0 h' q => ?_)
    obtain ⟨q1, -, q3⟩ := q
    subst q1
    subst q3
    refine LW.run E [(.pop, 0), (.goto 570, 0)] (pc' := 1276) (ls' := [some (.ref kB), some (.ref 0), some (.ref 137), some (.int i3)]) (st' := []) (by decide +kernel) rfl ?_
    exact k
theorem lc_rest (E : LE p s m meth c b L xs as0) (hcu : cu ≤ 600000) (hsu : su ≤ 7302250) {i3 r r' : Int32} {S S' : cT} {T T' : mT}  (hx : COk l yy_X11_rest 3 [.ref 0] S (some (.int r)) S') (hm : MOk l yy_X12_rest 2 [] T (some (.int r')) T') (k : LW p l e s m below meth c b D cA as0 cu su 1276 [some (.ref kB), some (.ref 0), some (.ref 137), some (.int i3)] [] 156 (hM (cC S') T')) : LW p l e s m below meth c b D cA as0 cu su 709 [some (.ref kB), some (.ref 0), some (.ref 137), some (.int i3)] [] 156 (hM (cC S) T) := by
  refine LW.run E [(.aload_n 1, 0)] (pc' := 710) (ls' := [some (.ref kB), some (.ref 0), some (.ref 137), some (.int i3)]) (st' := [.ref 0]) (by decide +kernel) rfl ?_
  refine LW.callV E (As := []) (st := []) lv_RL_88 (by decide +kernel) (hx T) (Nat.le_of_ble_eq_true rfl) (Nat.le_of_ble_eq_true rfl) rfl (by decide) (hC_o (ci := 9) rfl (by decide)) rfl rfl (Nat.le_of_ble_eq_true rfl) rfl (fun r n' h' q => q.2.1) hcu hsu (fun r0 h' q => ?_)
  obtain ⟨q1, -, q3⟩ := q
  subst q1
  subst q3
  refine LW.run E [(.pop, 0), (.aload_n 2, 0)] (pc' := 715) (ls' := [some (.ref kB), some (.ref 0), some (.ref 137), some (.int i3)]) (st' := [.ref 137]) (by decide +kernel) rfl ?_
  refine LW.callV E (As := []) (st := []) lv_RL_91 (by decide +kernel) (hm (cC S')) (Nat.le_of_ble_eq_true rfl) (Nat.le_of_ble_eq_true rfl) rfl (by decide) (hM_o _ _) rfl rfl (Nat.le_of_ble_eq_true rfl) rfl (fun r n' h' q => q.2.1) hcu hsu (fun r0 h' q => ?_)
  obtain ⟨q1, -, q3⟩ := q
  subst q1
  subst q3
  refine LW.run E [(.pop, 0), (.goto 557, 0)] (pc' := 1276) (ls' := [some (.ref kB), some (.ref 0), some (.ref 137), some (.int i3)]) (st' := []) (by decide +kernel) rfl ?_
  exact k
theorem lc_undo (E : LE p s m meth c b L xs as0) (hcu : cu ≤ 600000) (hsu : su ≤ 7302250) {i3 r r' : Int32} {S S' : cT} {T T' : mT}  (hx : COk l yy_X11_undo 3 [.ref 0] S (some (.int r)) S') (hm : MOk l yy_X12_undo 0 [] T (some (.int r')) T') (k : LW p l e s m below meth c b D cA as0 cu su 1276 [some (.ref kB), some (.ref 0), some (.ref 137), some (.int i3)] [] 156 (hM (cC S') T')) : LW p l e s m below meth c b D cA as0 cu su 722 [some (.ref kB), some (.ref 0), some (.ref 137), some (.int i3)] [] 156 (hM (cC S) T) := by
  refine LW.run E [(.aload_n 1, 0)] (pc' := 723) (ls' := [some (.ref kB), some (.ref 0), some (.ref 137), some (.int i3)]) (st' := [.ref 0]) (by decide +kernel) rfl ?_
  refine LW.callV E (As := []) (st := []) lv_RL_92 (by decide +kernel) (hx T) (Nat.le_of_ble_eq_true rfl) (Nat.le_of_ble_eq_true rfl) rfl (by decide) (hC_o (ci := 9) rfl (by decide)) rfl rfl (Nat.le_of_ble_eq_true rfl) rfl (fun r n' h' q => q.2.1) hcu hsu (fun r0 h' q => ?_)
  obtain ⟨q1, -, q3⟩ := q
  subst q1
  subst q3
  refine LW.run E [(.pop, 0), (.aload_n 2, 0)] (pc' := 728) (ls' := [some (.ref kB), some (.ref 0), some (.ref 137), some (.int i3)]) (st' := [.ref 137]) (by decide +kernel) rfl ?_
  refine LW.callV E (As := []) (st := []) lv_RL_95 (by decide +kernel) (hm (cC S')) (Nat.le_of_ble_eq_true rfl) (Nat.le_of_ble_eq_true rfl) rfl (by decide) (hM_o _ _) rfl rfl (Nat.le_of_ble_eq_true rfl) rfl (fun r n' h' q => q.2.1) hcu hsu (fun r0 h' q => ?_)
  obtain ⟨q1, -, q3⟩ := q
  subst q1
  subst q3
  refine LW.run E [(.pop, 0), (.goto 544, 0)] (pc' := 1276) (ls' := [some (.ref kB), some (.ref 0), some (.ref 137), some (.int i3)]) (st' := []) (by decide +kernel) rfl ?_
  exact k
theorem lc_run (E : LE p s m meth c b L xs as0) (hcu : cu ≤ 600000) (hsu : su ≤ 7302250) {i3 r r' : Int32} {S S' : cT} {T T' : mT} (h1 : vp_in (i3 + 1) L) (h2 : vp_in (i3 + 2) L) (hx : COk l yy_X11_run 6 [.ref 0, .int (xs (i3 + 1).toNatClampNeg), .int (xs (i3 + 2).toNatClampNeg)] S (some (.int r)) S') (hm : MOk l yy_X12_run 8 [.int (xs (i3 + 1).toNatClampNeg), .int (xs (i3 + 2).toNatClampNeg)] T (some (.int r')) T') (k : LW p l e s m below meth c b D cA as0 cu su 1276 [some (.ref kB), some (.ref 0), some (.ref 137), some (.int i3)] [] 156 (hM (cC S') T')) : LW p l e s m below meth c b D cA as0 cu su 735 [some (.ref kB), some (.ref 0), some (.ref 137), some (.int i3)] [] 156 (hM (cC S) T) := by
  refine LW.run E [(.aload_n 1, 0), (.aload_n 0, 0), (.iload_n 3, 0), (.iconst 1, 1), (.iadd, 0)] (pc' := 740) (ls' := [some (.ref kB), some (.ref 0), some (.ref 137), some (.int i3)]) (st' := [.int (i3 + 1), .ref kB, .ref 0]) (by decide +kernel) rfl ?_
  refine LW.sld E h1 (by decide +kernel) ?_
  refine LW.run E [(.aload_n 0, 0), (.iload_n 3, 0), (.iconst 2, 2), (.iadd, 0)] (pc' := 745) (ls' := [some (.ref kB), some (.ref 0), some (.ref 137), some (.int i3)]) (st' := [.int (i3 + 2), .ref kB, .int (xs (i3 + 1).toNatClampNeg), .ref 0]) (by decide +kernel) rfl ?_
  refine LW.sld E h2 (by decide +kernel) ?_
  refine LW.callV E (As := [.int (xs (i3 + 1).toNatClampNeg), .int (xs (i3 + 2).toNatClampNeg)]) (st := []) lv_RL_96 (by decide +kernel) (hx T) (Nat.le_of_ble_eq_true rfl) (Nat.le_of_ble_eq_true rfl) rfl (by decide) (hC_o (ci := 9) rfl (by decide)) rfl rfl (Nat.le_of_ble_eq_true rfl) rfl (fun r n' h' q => q.2.1) hcu hsu (fun r0 h' q => ?_)
  obtain ⟨q1, -, q3⟩ := q
  subst q1
  subst q3
  refine LW.run E [(.pop, 0), (.aload_n 2, 0), (.aload_n 0, 0), (.iload_n 3, 0), (.iconst 1, 1), (.iadd, 0)] (pc' := 755) (ls' := [some (.ref kB), some (.ref 0), some (.ref 137), some (.int i3)]) (st' := [.int (i3 + 1), .ref kB, .ref 137]) (by decide +kernel) rfl ?_
  refine LW.sld E h1 (by decide +kernel) ?_
  refine LW.run E [(.aload_n 0, 0), (.iload_n 3, 0), (.iconst 2, 2), (.iadd, 0)] (pc' := 760) (ls' := [some (.ref kB), some (.ref 0), some (.ref 137), some (.int i3)]) (st' := [.int (i3 + 2), .ref kB, .int (xs (i3 + 1).toNatClampNeg), .ref 137]) (by decide +kernel) rfl ?_
  refine LW.sld E h2 (by decide +kernel) ?_
  refine LW.callV E (As := [.int (xs (i3 + 1).toNatClampNeg), .int (xs (i3 + 2).toNatClampNeg)]) (st := []) lv_RL_99 (by decide +kernel) (hm (cC S')) (Nat.le_of_ble_eq_true rfl) (Nat.le_of_ble_eq_true rfl) rfl (by decide) (hM_o _ _) rfl rfl (Nat.le_of_ble_eq_true rfl) rfl (fun r n' h' q => q.2.1) hcu hsu (fun r0 h' q => ?_)
  obtain ⟨q1, -, q3⟩ := q
  subst q1
  subst q3
  refine LW.run E [(.pop, 0), (.goto 511, 0)] (pc' := 1276) (ls' := [some (.ref kB), some (.ref 0), some (.ref 137), some (.int i3)]) (st' := []) (by decide +kernel) rfl ?_
  exact k
theorem lc_lean (E : LE p s m meth c b L xs as0) (hcu : cu ≤ 600000) (hsu : su ≤ 7302250) {i3 r r' : Int32} {S S' : cT} {T T' : mT} (h1 : vp_in (i3 + 1) L) (hx : COk l yy_X11_lean 3 [.ref 0, .int (xs (i3 + 1).toNatClampNeg)] S (some (.int r)) S') (hm : MOk l yy_X12_lean 2 [.int (xs (i3 + 1).toNatClampNeg)] T (some (.int r')) T') (k : LW p l e s m below meth c b D cA as0 cu su 1276 [some (.ref kB), some (.ref 0), some (.ref 137), some (.int i3)] [] 156 (hM (cC S') T')) : LW p l e s m below meth c b D cA as0 cu su 768 [some (.ref kB), some (.ref 0), some (.ref 137), some (.int i3)] [] 156 (hM (cC S) T) := by
  refine LW.run E [(.aload_n 1, 0), (.aload_n 0, 0), (.iload_n 3, 0), (.iconst 1, 1), (.iadd, 0)] (pc' := 773) (ls' := [some (.ref kB), some (.ref 0), some (.ref 137), some (.int i3)]) (st' := [.int (i3 + 1), .ref kB, .ref 0]) (by decide +kernel) rfl ?_
  refine LW.sld E h1 (by decide +kernel) ?_
  refine LW.callV E (As := [.int (xs (i3 + 1).toNatClampNeg)]) (st := []) lv_RL_100 (by decide +kernel) (hx T) (Nat.le_of_ble_eq_true rfl) (Nat.le_of_ble_eq_true rfl) rfl (by decide) (hC_o (ci := 9) rfl (by decide)) rfl rfl (Nat.le_of_ble_eq_true rfl) rfl (fun r n' h' q => q.2.1) hcu hsu (fun r0 h' q => ?_)
  obtain ⟨q1, -, q3⟩ := q
  subst q1
  subst q3
  refine LW.run E [(.pop, 0), (.aload_n 2, 0), (.aload_n 0, 0), (.iload_n 3, 0), (.iconst 1, 1), (.iadd, 0)] (pc' := 783) (ls' := [some (.ref kB), some (.ref 0), some (.ref 137), some (.int i3)]) (st' := [.int (i3 + 1), .ref kB, .ref 137]) (by decide +kernel) rfl ?_
  refine LW.sld E h1 (by decide +kernel) ?_
  refine LW.callV E (As := [.int (xs (i3 + 1).toNatClampNeg)]) (st := []) lv_RL_103 (by decide +kernel) (hm (cC S')) (Nat.le_of_ble_eq_true rfl) (Nat.le_of_ble_eq_true rfl) rfl (by decide) (hM_o _ _) rfl rfl (Nat.le_of_ble_eq_true rfl) rfl (fun r n' h' q => q.2.1) hcu hsu (fun r0 h' q => ?_)
  obtain ⟨q1, -, q3⟩ := q
  subst q1
  subst q3
  refine LW.run E [(.pop, 0), (.goto 488, 0)] (pc' := 1276) (ls' := [some (.ref kB), some (.ref 0), some (.ref 137), some (.int i3)]) (st' := []) (by decide +kernel) rfl ?_
  exact k
theorem lc_likeliest (E : LE p s m meth c b L xs as0) (hcu : cu ≤ 600000) (hsu : su ≤ 7302250) {i3 r r' : Int32} {S S' : cT} {T T' : mT} (h1 : vp_in (i3 + 1) L) (h2 : vp_in (i3 + 2) L) (hx : COk l yy_X11_likeliest 4 [.ref 0, .int (xs (i3 + 1).toNatClampNeg), .int (xs (i3 + 2).toNatClampNeg)] S (some (.int r)) S') (hm : MOk l yy_X12_likeliest 3 [.int (xs (i3 + 1).toNatClampNeg), .int (xs (i3 + 2).toNatClampNeg)] T (some (.int r')) T') (k : LW p l e s m below meth c b D cA as0 cu su 1276 [some (.ref kB), some (.ref 0), some (.ref 137), some (.int i3)] [] 156 (hM (cC S') T')) : LW p l e s m below meth c b D cA as0 cu su 791 [some (.ref kB), some (.ref 0), some (.ref 137), some (.int i3)] [] 156 (hM (cC S) T) := by
  refine LW.run E [(.aload_n 1, 0), (.aload_n 0, 0), (.iload_n 3, 0), (.iconst 1, 1), (.iadd, 0)] (pc' := 796) (ls' := [some (.ref kB), some (.ref 0), some (.ref 137), some (.int i3)]) (st' := [.int (i3 + 1), .ref kB, .ref 0]) (by decide +kernel) rfl ?_
  refine LW.sld E h1 (by decide +kernel) ?_
  refine LW.run E [(.aload_n 0, 0), (.iload_n 3, 0), (.iconst 2, 2), (.iadd, 0)] (pc' := 801) (ls' := [some (.ref kB), some (.ref 0), some (.ref 137), some (.int i3)]) (st' := [.int (i3 + 2), .ref kB, .int (xs (i3 + 1).toNatClampNeg), .ref 0]) (by decide +kernel) rfl ?_
  refine LW.sld E h2 (by decide +kernel) ?_
  refine LW.callV E (As := [.int (xs (i3 + 1).toNatClampNeg), .int (xs (i3 + 2).toNatClampNeg)]) (st := []) lv_RL_104 (by decide +kernel) (hx T) (Nat.le_of_ble_eq_true rfl) (Nat.le_of_ble_eq_true rfl) rfl (by decide) (hC_o (ci := 9) rfl (by decide)) rfl rfl (Nat.le_of_ble_eq_true rfl) rfl (fun r n' h' q => q.2.1) hcu hsu (fun r0 h' q => ?_)
  obtain ⟨q1, -, q3⟩ := q
  subst q1
  subst q3
  refine LW.run E [(.pop, 0), (.aload_n 2, 0), (.aload_n 0, 0), (.iload_n 3, 0), (.iconst 1, 1), (.iadd, 0)] (pc' := 811) (ls' := [some (.ref kB), some (.ref 0), some (.ref 137), some (.int i3)]) (st' := [.int (i3 + 1), .ref kB, .ref 137]) (by decide +kernel) rfl ?_
  refine LW.sld E h1 (by decide +kernel) ?_
  refine LW.run E [(.aload_n 0, 0), (.iload_n 3, 0), (.iconst 2, 2), (.iadd, 0)] (pc' := 816) (ls' := [some (.ref kB), some (.ref 0), some (.ref 137), some (.int i3)]) (st' := [.int (i3 + 2), .ref kB, .int (xs (i3 + 1).toNatClampNeg), .ref 137]) (by decide +kernel) rfl ?_
  refine LW.sld E h2 (by decide +kernel) ?_
  refine LW.callV E (As := [.int (xs (i3 + 1).toNatClampNeg), .int (xs (i3 + 2).toNatClampNeg)]) (st := []) lv_RL_107 (by decide +kernel) (hm (cC S')) (Nat.le_of_ble_eq_true rfl) (Nat.le_of_ble_eq_true rfl) rfl (by decide) (hM_o _ _) rfl rfl (Nat.le_of_ble_eq_true rfl) rfl (fun r n' h' q => q.2.1) hcu hsu (fun r0 h' q => ?_)
  obtain ⟨q1, -, q3⟩ := q
  subst q1
  subst q3
  refine LW.run E [(.pop, 0), (.goto 455, 0)] (pc' := 1276) (ls' := [some (.ref kB), some (.ref 0), some (.ref 137), some (.int i3)]) (st' := []) (by decide +kernel) rfl ?_
  exact k
theorem lc_flatters (E : LE p s m meth c b L xs as0) (hcu : cu ≤ 600000) (hsu : su ≤ 7302250) {i3 r r' : Int32} {S S' : cT} {T T' : mT} (h1 : vp_in (i3 + 1) L) (h2 : vp_in (i3 + 2) L) (hx : COk l yy_X11_flatters 4 [.ref 0, .int (xs (i3 + 1).toNatClampNeg), .int (xs (i3 + 2).toNatClampNeg)] S (some (.int r)) S') (hm : MOk l yy_X12_flatters 2 [.int (xs (i3 + 1).toNatClampNeg), .int (xs (i3 + 2).toNatClampNeg)] T (some (.int r')) T') (k : LW p l e s m below meth c b D cA as0 cu su 1276 [some (.ref kB), some (.ref 0), some (.ref 137), some (.int i3)] [] 156 (hM (cC S') T')) : LW p l e s m below meth c b D cA as0 cu su 824 [some (.ref kB), some (.ref 0), some (.ref 137), some (.int i3)] [] 156 (hM (cC S) T) := by
  refine LW.run E [(.aload_n 1, 0), (.aload_n 0, 0), (.iload_n 3, 0), (.iconst 1, 1), (.iadd, 0)] (pc' := 829) (ls' := [some (.ref kB), some (.ref 0), some (.ref 137), some (.int i3)]) (st' := [.int (i3 + 1), .ref kB, .ref 0]) (by decide +kernel) rfl ?_
  refine LW.sld E h1 (by decide +kernel) ?_
  refine LW.run E [(.aload_n 0, 0), (.iload_n 3, 0), (.iconst 2, 2), (.iadd, 0)] (pc' := 834) (ls' := [some (.ref kB), some (.ref 0), some (.ref 137), some (.int i3)]) (st' := [.int (i3 + 2), .ref kB, .int (xs (i3 + 1).toNatClampNeg), .ref 0]) (by decide +kernel) rfl ?_
  refine LW.sld E h2 (by decide +kernel) ?_
  refine LW.callV E (As := [.int (xs (i3 + 1).toNatClampNeg), .int (xs (i3 + 2).toNatClampNeg)]) (st := []) lv_RL_108 (by decide +kernel) (hx T) (Nat.le_of_ble_eq_true rfl) (Nat.le_of_ble_eq_true rfl) rfl (by decide) (hC_o (ci := 9) rfl (by decide)) rfl rfl (Nat.le_of_ble_eq_true rfl) rfl (fun r n' h' q => q.2.1) hcu hsu (fun r0 h' q => ?_)
  obtain ⟨q1, -, q3⟩ := q
  subst q1
  subst q3
  refine LW.run E [(.pop, 0), (.aload_n 2, 0), (.aload_n 0, 0), (.iload_n 3, 0), (.iconst 1, 1), (.iadd, 0)] (pc' := 844) (ls' := [some (.ref kB), some (.ref 0), some (.ref 137), some (.int i3)]) (st' := [.int (i3 + 1), .ref kB, .ref 137]) (by decide +kernel) rfl ?_
  refine LW.sld E h1 (by decide +kernel) ?_
  refine LW.run E [(.aload_n 0, 0), (.iload_n 3, 0), (.iconst 2, 2), (.iadd, 0)] (pc' := 849) (ls' := [some (.ref kB), some (.ref 0), some (.ref 137), some (.int i3)]) (st' := [.int (i3 + 2), .ref kB, .int (xs (i3 + 1).toNatClampNeg), .ref 137]) (by decide +kernel) rfl ?_
  refine LW.sld E h2 (by decide +kernel) ?_
  refine LW.callV E (As := [.int (xs (i3 + 1).toNatClampNeg), .int (xs (i3 + 2).toNatClampNeg)]) (st := []) lv_RL_111 (by decide +kernel) (hm (cC S')) (Nat.le_of_ble_eq_true rfl) (Nat.le_of_ble_eq_true rfl) rfl (by decide) (hM_o _ _) rfl rfl (Nat.le_of_ble_eq_true rfl) rfl (fun r n' h' q => q.2.1) hcu hsu (fun r0 h' q => ?_)
  obtain ⟨q1, -, q3⟩ := q
  subst q1
  subst q3
  refine LW.run E [(.pop, 0), (.goto 422, 0)] (pc' := 1276) (ls' := [some (.ref kB), some (.ref 0), some (.ref 137), some (.int i3)]) (st' := []) (by decide +kernel) rfl ?_
  exact k
theorem lc_ask (E : LE p s m meth c b L xs as0) (hcu : cu ≤ 600000) (hsu : su ≤ 7302250) {i3 r r' : Int32} {S S' : cT} {T T' : mT} (h1 : vp_in (i3 + 1) L) (h2 : vp_in (i3 + 2) L) (hx : COk l yy_X11_ask 5 [.ref 0, .int (xs (i3 + 1).toNatClampNeg), .int (xs (i3 + 2).toNatClampNeg)] S (some (.int r)) S') (hm : MOk l yy_X12_ask 6 [.int (xs (i3 + 1).toNatClampNeg), .int (xs (i3 + 2).toNatClampNeg)] T (some (.int r')) T') (k : LW p l e s m below meth c b D cA as0 cu su 1276 [some (.ref kB), some (.ref 0), some (.ref 137), some (.int i3)] [] 156 (hM (cC S') T')) : LW p l e s m below meth c b D cA as0 cu su 857 [some (.ref kB), some (.ref 0), some (.ref 137), some (.int i3)] [] 156 (hM (cC S) T) := by
  refine LW.run E [(.aload_n 1, 0), (.aload_n 0, 0), (.iload_n 3, 0), (.iconst 1, 1), (.iadd, 0)] (pc' := 862) (ls' := [some (.ref kB), some (.ref 0), some (.ref 137), some (.int i3)]) (st' := [.int (i3 + 1), .ref kB, .ref 0]) (by decide +kernel) rfl ?_
  refine LW.sld E h1 (by decide +kernel) ?_
  refine LW.run E [(.aload_n 0, 0), (.iload_n 3, 0), (.iconst 2, 2), (.iadd, 0)] (pc' := 867) (ls' := [some (.ref kB), some (.ref 0), some (.ref 137), some (.int i3)]) (st' := [.int (i3 + 2), .ref kB, .int (xs (i3 + 1).toNatClampNeg), .ref 0]) (by decide +kernel) rfl ?_
  refine LW.sld E h2 (by decide +kernel) ?_
  refine LW.callV E (As := [.int (xs (i3 + 1).toNatClampNeg), .int (xs (i3 + 2).toNatClampNeg)]) (st := []) lv_RL_112 (by decide +kernel) (hx T) (Nat.le_of_ble_eq_true rfl) (Nat.le_of_ble_eq_true rfl) rfl (by decide) (hC_o (ci := 9) rfl (by decide)) rfl rfl (Nat.le_of_ble_eq_true rfl) rfl (fun r n' h' q => q.2.1) hcu hsu (fun r0 h' q => ?_)
  obtain ⟨q1, -, q3⟩ := q
  subst q1
  subst q3
  refine LW.run E [(.pop, 0), (.aload_n 2, 0), (.aload_n 0, 0), (.iload_n 3, 0), (.iconst 1, 1), (.iadd, 0)] (pc' := 877) (ls' := [some (.ref kB), some (.ref 0), some (.ref 137), some (.int i3)]) (st' := [.int (i3 + 1), .ref kB, .ref 137]) (by decide +kernel) rfl ?_
  refine LW.sld E h1 (by decide +kernel) ?_
  refine LW.run E [(.aload_n 0, 0), (.iload_n 3, 0), (.iconst 2, 2), (.iadd, 0)] (pc' := 882) (ls' := [some (.ref kB), some (.ref 0), some (.ref 137), some (.int i3)]) (st' := [.int (i3 + 2), .ref kB, .int (xs (i3 + 1).toNatClampNeg), .ref 137]) (by decide +kernel) rfl ?_
  refine LW.sld E h2 (by decide +kernel) ?_
  refine LW.callV E (As := [.int (xs (i3 + 1).toNatClampNeg), .int (xs (i3 + 2).toNatClampNeg)]) (st := []) lv_RL_115 (by decide +kernel) (hm (cC S')) (Nat.le_of_ble_eq_true rfl) (Nat.le_of_ble_eq_true rfl) rfl (by decide) (hM_o _ _) rfl rfl (Nat.le_of_ble_eq_true rfl) rfl (fun r n' h' q => q.2.1) hcu hsu (fun r0 h' q => ?_)
  obtain ⟨q1, -, q3⟩ := q
  subst q1
  subst q3
  refine LW.run E [(.pop, 0), (.goto 389, 0)] (pc' := 1276) (ls' := [some (.ref kB), some (.ref 0), some (.ref 137), some (.int i3)]) (st' := []) (by decide +kernel) rfl ?_
  exact k
theorem lc_chain (E : LE p s m meth c b L xs as0) (hcu : cu ≤ 600000) (hsu : su ≤ 7302250) {i3 r r' : Int32} {S S' : cT} {T T' : mT} (h1 : vp_in (i3 + 1) L) (h2 : vp_in (i3 + 2) L) (hx : COk l yy_X11_chain 3 [.ref 0, .int (xs (i3 + 1).toNatClampNeg), .int (xs (i3 + 2).toNatClampNeg)] S (some (.int r)) S') (hm : MOk l yy_X12_chain 2 [.int (xs (i3 + 1).toNatClampNeg), .int (xs (i3 + 2).toNatClampNeg)] T (some (.int r')) T') (k : LW p l e s m below meth c b D cA as0 cu su 1276 [some (.ref kB), some (.ref 0), some (.ref 137), some (.int i3)] [] 156 (hM (cC S') T')) : LW p l e s m below meth c b D cA as0 cu su 890 [some (.ref kB), some (.ref 0), some (.ref 137), some (.int i3)] [] 156 (hM (cC S) T) := by
  refine LW.run E [(.aload_n 1, 0), (.aload_n 0, 0), (.iload_n 3, 0), (.iconst 1, 1), (.iadd, 0)] (pc' := 895) (ls' := [some (.ref kB), some (.ref 0), some (.ref 137), some (.int i3)]) (st' := [.int (i3 + 1), .ref kB, .ref 0]) (by decide +kernel) rfl ?_
  refine LW.sld E h1 (by decide +kernel) ?_
  refine LW.run E [(.aload_n 0, 0), (.iload_n 3, 0), (.iconst 2, 2), (.iadd, 0)] (pc' := 900) (ls' := [some (.ref kB), some (.ref 0), some (.ref 137), some (.int i3)]) (st' := [.int (i3 + 2), .ref kB, .int (xs (i3 + 1).toNatClampNeg), .ref 0]) (by decide +kernel) rfl ?_
  refine LW.sld E h2 (by decide +kernel) ?_
  refine LW.callV E (As := [.int (xs (i3 + 1).toNatClampNeg), .int (xs (i3 + 2).toNatClampNeg)]) (st := []) lv_RL_116 (by decide +kernel) (hx T) (Nat.le_of_ble_eq_true rfl) (Nat.le_of_ble_eq_true rfl) rfl (by decide) (hC_o (ci := 9) rfl (by decide)) rfl rfl (Nat.le_of_ble_eq_true rfl) rfl (fun r n' h' q => q.2.1) hcu hsu (fun r0 h' q => ?_)
  obtain ⟨q1, -, q3⟩ := q
  subst q1
  subst q3
  refine LW.run E [(.pop, 0), (.aload_n 2, 0), (.aload_n 0, 0), (.iload_n 3, 0), (.iconst 1, 1), (.iadd, 0)] (pc' := 910) (ls' := [some (.ref kB), some (.ref 0), some (.ref 137), some (.int i3)]) (st' := [.int (i3 + 1), .ref kB, .ref 137]) (by decide +kernel) rfl ?_
  refine LW.sld E h1 (by decide +kernel) ?_
  refine LW.run E [(.aload_n 0, 0), (.iload_n 3, 0), (.iconst 2, 2), (.iadd, 0)] (pc' := 915) (ls' := [some (.ref kB), some (.ref 0), some (.ref 137), some (.int i3)]) (st' := [.int (i3 + 2), .ref kB, .int (xs (i3 + 1).toNatClampNeg), .ref 137]) (by decide +kernel) rfl ?_
  refine LW.sld E h2 (by decide +kernel) ?_
  refine LW.callV E (As := [.int (xs (i3 + 1).toNatClampNeg), .int (xs (i3 + 2).toNatClampNeg)]) (st := []) lv_RL_119 (by decide +kernel) (hm (cC S')) (Nat.le_of_ble_eq_true rfl) (Nat.le_of_ble_eq_true rfl) rfl (by decide) (hM_o _ _) rfl rfl (Nat.le_of_ble_eq_true rfl) rfl (fun r n' h' q => q.2.1) hcu hsu (fun r0 h' q => ?_)
  obtain ⟨q1, -, q3⟩ := q
  subst q1
  subst q3
  refine LW.run E [(.pop, 0), (.goto 356, 0)] (pc' := 1276) (ls' := [some (.ref kB), some (.ref 0), some (.ref 137), some (.int i3)]) (st' := []) (by decide +kernel) rfl ?_
  exact k
theorem lc_slip (E : LE p s m meth c b L xs as0) (hcu : cu ≤ 600000) (hsu : su ≤ 7302250) {i3 r r' : Int32} {S S' : cT} {T T' : mT} (h1 : vp_in (i3 + 1) L) (h2 : vp_in (i3 + 2) L) (hx : COk l yy_X11_slip 3 [.ref 0, .int (xs (i3 + 1).toNatClampNeg), .int (xs (i3 + 2).toNatClampNeg)] S (some (.int r)) S') (hm : MOk l yy_X12_slip 1 [.int (xs (i3 + 1).toNatClampNeg), .int (xs (i3 + 2).toNatClampNeg)] T (some (.int r')) T') (k : LW p l e s m below meth c b D cA as0 cu su 1276 [some (.ref kB), some (.ref 0), some (.ref 137), some (.int i3)] [] 156 (hM (cC S') T')) : LW p l e s m below meth c b D cA as0 cu su 923 [some (.ref kB), some (.ref 0), some (.ref 137), some (.int i3)] [] 156 (hM (cC S) T) := by
  refine LW.run E [(.aload_n 1, 0), (.aload_n 0, 0), (.iload_n 3, 0), (.iconst 1, 1), (.iadd, 0)] (pc' := 928) (ls' := [some (.ref kB), some (.ref 0), some (.ref 137), some (.int i3)]) (st' := [.int (i3 + 1), .ref kB, .ref 0]) (by decide +kernel) rfl ?_
  refine LW.sld E h1 (by decide +kernel) ?_
  refine LW.run E [(.aload_n 0, 0), (.iload_n 3, 0), (.iconst 2, 2), (.iadd, 0)] (pc' := 933) (ls' := [some (.ref kB), some (.ref 0), some (.ref 137), some (.int i3)]) (st' := [.int (i3 + 2), .ref kB, .int (xs (i3 + 1).toNatClampNeg), .ref 0]) (by decide +kernel) rfl ?_
  refine LW.sld E h2 (by decide +kernel) ?_
  refine LW.callV E (As := [.int (xs (i3 + 1).toNatClampNeg), .int (xs (i3 + 2).toNatClampNeg)]) (st := []) lv_RL_120 (by decide +kernel) (hx T) (Nat.le_of_ble_eq_true rfl) (Nat.le_of_ble_eq_true rfl) rfl (by decide) (hC_o (ci := 9) rfl (by decide)) rfl rfl (Nat.le_of_ble_eq_true rfl) rfl (fun r n' h' q => q.2.1) hcu hsu (fun r0 h' q => ?_)
  obtain ⟨q1, -, q3⟩ := q
  subst q1
  subst q3
  refine LW.run E [(.pop, 0), (.aload_n 2, 0), (.aload_n 0, 0), (.iload_n 3, 0), (.iconst 1, 1), (.iadd, 0)] (pc' := 943) (ls' := [some (.ref kB), some (.ref 0), some (.ref 137), some (.int i3)]) (st' := [.int (i3 + 1), .ref kB, .ref 137]) (by decide +kernel) rfl ?_
  refine LW.sld E h1 (by decide +kernel) ?_
  refine LW.run E [(.aload_n 0, 0), (.iload_n 3, 0), (.iconst 2, 2), (.iadd, 0)] (pc' := 948) (ls' := [some (.ref kB), some (.ref 0), some (.ref 137), some (.int i3)]) (st' := [.int (i3 + 2), .ref kB, .int (xs (i3 + 1).toNatClampNeg), .ref 137]) (by decide +kernel) rfl ?_
  refine LW.sld E h2 (by decide +kernel) ?_
  refine LW.callV E (As := [.int (xs (i3 + 1).toNatClampNeg), .int (xs (i3 + 2).toNatClampNeg)]) (st := []) lv_RL_123 (by decide +kernel) (hm (cC S')) (Nat.le_of_ble_eq_true rfl) (Nat.le_of_ble_eq_true rfl) rfl (by decide) (hM_o _ _) rfl rfl (Nat.le_of_ble_eq_true rfl) rfl (fun r n' h' q => q.2.1) hcu hsu (fun r0 h' q => ?_)
  obtain ⟨q1, -, q3⟩ := q
  subst q1
  subst q3
  refine LW.run E [(.pop, 0), (.goto 323, 0)] (pc' := 1276) (ls' := [some (.ref kB), some (.ref 0), some (.ref 137), some (.int i3)]) (st' := []) (by decide +kernel) rfl ?_
  exact k
theorem lc_wish (E : LE p s m meth c b L xs as0) (hcu : cu ≤ 600000) (hsu : su ≤ 7302250) {i3 r r' : Int32} {S S' : cT} {T T' : mT} (h1 : vp_in (i3 + 1) L) (h2 : vp_in (i3 + 2) L) (h3 : vp_in (i3 + 3) L) (h4 : vp_in (i3 + 4) L) (hx : COk l yy_X11_wish 2 [.ref 0, .int (xs (i3 + 1).toNatClampNeg), .int (xs (i3 + 2).toNatClampNeg), .int (xs (i3 + 3).toNatClampNeg), .int (xs (i3 + 4).toNatClampNeg)] S (some (.int r)) S') (hm : MOk l yy_X12_wish 1 [.int (xs (i3 + 1).toNatClampNeg), .int (xs (i3 + 2).toNatClampNeg), .int (xs (i3 + 3).toNatClampNeg), .int (xs (i3 + 4).toNatClampNeg)] T (some (.int r')) T') (k : LW p l e s m below meth c b D cA as0 cu su 1276 [some (.ref kB), some (.ref 0), some (.ref 137), some (.int i3)] [] 156 (hM (cC S') T')) : LW p l e s m below meth c b D cA as0 cu su 956 [some (.ref kB), some (.ref 0), some (.ref 137), some (.int i3)] [] 156 (hM (cC S) T) := by
  refine LW.run E [(.aload_n 1, 0), (.aload_n 0, 0), (.iload_n 3, 0), (.iconst 1, 1), (.iadd, 0)] (pc' := 961) (ls' := [some (.ref kB), some (.ref 0), some (.ref 137), some (.int i3)]) (st' := [.int (i3 + 1), .ref kB, .ref 0]) (by decide +kernel) rfl ?_
  refine LW.sld E h1 (by decide +kernel) ?_
  refine LW.run E [(.aload_n 0, 0), (.iload_n 3, 0), (.iconst 2, 2), (.iadd, 0)] (pc' := 966) (ls' := [some (.ref kB), some (.ref 0), some (.ref 137), some (.int i3)]) (st' := [.int (i3 + 2), .ref kB, .int (xs (i3 + 1).toNatClampNeg), .ref 0]) (by decide +kernel) rfl ?_
  refine LW.sld E h2 (by decide +kernel) ?_
  refine LW.run E [(.aload_n 0, 0), (.iload_n 3, 0), (.iconst 3, 3), (.iadd, 0)] (pc' := 971) (ls' := [some (.ref kB), some (.ref 0), some (.ref 137), some (.int i3)]) (st' := [.int (i3 + 3), .ref kB, .int (xs (i3 + 2).toNatClampNeg), .int (xs (i3 + 1).toNatClampNeg), .ref 0]) (by decide +kernel) rfl ?_
  refine LW.sld E h3 (by decide +kernel) ?_
  refine LW.run E [(.aload_n 0, 0), (.iload_n 3, 0), (.iconst 4, 4), (.iadd, 0)] (pc' := 976) (ls' := [some (.ref kB), some (.ref 0), some (.ref 137), some (.int i3)]) (st' := [.int (i3 + 4), .ref kB, .int (xs (i3 + 3).toNatClampNeg), .int (xs (i3 + 2).toNatClampNeg), .int (xs (i3 + 1).toNatClampNeg), .ref 0]) (by decide +kernel) rfl ?_
  refine LW.sld E h4 (by decide +kernel) ?_
  refine LW.callV E (As := [.int (xs (i3 + 1).toNatClampNeg), .int (xs (i3 + 2).toNatClampNeg), .int (xs (i3 + 3).toNatClampNeg), .int (xs (i3 + 4).toNatClampNeg)]) (st := []) lv_RL_124 (by decide +kernel) (hx T) (Nat.le_of_ble_eq_true rfl) (Nat.le_of_ble_eq_true rfl) rfl (by decide) (hC_o (ci := 9) rfl (by decide)) rfl rfl (Nat.le_of_ble_eq_true rfl) rfl (fun r n' h' q => q.2.1) hcu hsu (fun r0 h' q => ?_)
  obtain ⟨q1, -, q3⟩ := q
  subst q1
  subst q3
  refine LW.run E [(.pop, 0), (.aload_n 2, 0), (.aload_n 0, 0), (.iload_n 3, 0), (.iconst 1, 1), (.iadd, 0)] (pc' := 986) (ls' := [some (.ref kB), some (.ref 0), some (.ref 137), some (.int i3)]) (st' := [.int (i3 + 1), .ref kB, .ref 137]) (by decide +kernel) rfl ?_
  refine LW.sld E h1 (by decide +kernel) ?_
  refine LW.run E [(.aload_n 0, 0), (.iload_n 3, 0), (.iconst 2, 2), (.iadd, 0)] (pc' := 991) (ls' := [some (.ref kB), some (.ref 0), some (.ref 137), some (.int i3)]) (st' := [.int (i3 + 2), .ref kB, .int (xs (i3 + 1).toNatClampNeg), .ref 137]) (by decide +kernel) rfl ?_
  refine LW.sld E h2 (by decide +kernel) ?_
  refine LW.run E [(.aload_n 0, 0), (.iload_n 3, 0), (.iconst 3, 3), (.iadd, 0)] (pc' := 996) (ls' := [some (.ref kB), some (.ref 0), some (.ref 137), some (.int i3)]) (st' := [.int (i3 + 3), .ref kB, .int (xs (i3 + 2).toNatClampNeg), .int (xs (i3 + 1).toNatClampNeg), .ref 137]) (by decide +kernel) rfl ?_
  refine LW.sld E h3 (by decide +kernel) ?_
  refine LW.run E [(.aload_n 0, 0), (.iload_n 3, 0), (.iconst 4, 4), (.iadd, 0)] (pc' := 1001) (ls' := [some (.ref kB), some (.ref 0), some (.ref 137), some (.int i3)]) (st' := [.int (i3 + 4), .ref kB, .int (xs (i3 + 3).toNatClampNeg), .int (xs (i3 + 2).toNatClampNeg), .int (xs (i3 + 1).toNatClampNeg), .ref 137]) (by decide +kernel) rfl ?_
  refine LW.sld E h4 (by decide +kernel) ?_
  refine LW.callV E (As := [.int (xs (i3 + 1).toNatClampNeg), .int (xs (i3 + 2).toNatClampNeg), .int (xs (i3 + 3).toNatClampNeg), .int (xs (i3 + 4).toNatClampNeg)]) (st := []) lv_RL_127 (by decide +kernel) (hm (cC S')) (Nat.le_of_ble_eq_true rfl) (Nat.le_of_ble_eq_true rfl) rfl (by decide) (hM_o _ _) rfl rfl (Nat.le_of_ble_eq_true rfl) rfl (fun r n' h' q => q.2.1) hcu hsu (fun r0 h' q => ?_)
  obtain ⟨q1, -, q3⟩ := q
  subst q1
  subst q3
  refine LW.run E [(.pop, 0), (.goto 270, 0)] (pc' := 1276) (ls' := [some (.ref kB), some (.ref 0), some (.ref 137), some (.int i3)]) (st' := []) (by decide +kernel) rfl ?_
  exact k
theorem lc_round (E : LE p s m meth c b L xs as0) (hcu : cu ≤ 600000) (hsu : su ≤ 7302250) {i3 r r' : Int32} {S S' : cT} {T T' : mT} (h1 : vp_in (i3 + 1) L) (h2 : vp_in (i3 + 2) L) (hx : COk l yy_X11_round 6 [.ref 0, .int (xs (i3 + 1).toNatClampNeg), .int (xs (i3 + 2).toNatClampNeg)] S (some (.int r)) S') (hm : MOk l yy_X12_round 4 [.int (xs (i3 + 1).toNatClampNeg), .int (xs (i3 + 2).toNatClampNeg)] T (some (.int r')) T') (k : LW p l e s m below meth c b D cA as0 cu su 1276 [some (.ref kB), some (.ref 0), some (.ref 137), some (.int i3)] [] 156 (hM (cC S') T')) : LW p l e s m below meth c b D cA as0 cu su 1009 [some (.ref kB), some (.ref 0), some (.ref 137), some (.int i3)] [] 156 (hM (cC S) T) := by
  refine LW.run E [(.aload_n 1, 0), (.aload_n 0, 0), (.iload_n 3, 0), (.iconst 1, 1), (.iadd, 0)] (pc' := 1014) (ls' := [some (.ref kB), some (.ref 0), some (.ref 137), some (.int i3)]) (st' := [.int (i3 + 1), .ref kB, .ref 0]) (by decide +kernel) rfl ?_
  refine LW.sld E h1 (by decide +kernel) ?_
  refine LW.run E [(.aload_n 0, 0), (.iload_n 3, 0), (.iconst 2, 2), (.iadd, 0)] (pc' := 1019) (ls' := [some (.ref kB), some (.ref 0), some (.ref 137), some (.int i3)]) (st' := [.int (i3 + 2), .ref kB, .int (xs (i3 + 1).toNatClampNeg), .ref 0]) (by decide +kernel) rfl ?_
  refine LW.sld E h2 (by decide +kernel) ?_
  refine LW.callV E (As := [.int (xs (i3 + 1).toNatClampNeg), .int (xs (i3 + 2).toNatClampNeg)]) (st := []) lv_RL_128 (by decide +kernel) (hx T) (Nat.le_of_ble_eq_true rfl) (Nat.le_of_ble_eq_true rfl) rfl (by decide) (hC_o (ci := 9) rfl (by decide)) rfl rfl (Nat.le_of_ble_eq_true rfl) rfl (fun r n' h' q => q.2.1) hcu hsu (fun r0 h' q => ?_)
  obtain ⟨q1, -, q3⟩ := q
  subst q1
  subst q3
  refine LW.run E [(.pop, 0), (.aload_n 2, 0), (.aload_n 0, 0), (.iload_n 3, 0), (.iconst 1, 1), (.iadd, 0)] (pc' := 1029) (ls' := [some (.ref kB), some (.ref 0), some (.ref 137), some (.int i3)]) (st' := [.int (i3 + 1), .ref kB, .ref 137]) (by decide +kernel) rfl ?_
  refine LW.sld E h1 (by decide +kernel) ?_
  refine LW.run E [(.aload_n 0, 0), (.iload_n 3, 0), (.iconst 2, 2), (.iadd, 0)] (pc' := 1034) (ls' := [some (.ref kB), some (.ref 0), some (.ref 137), some (.int i3)]) (st' := [.int (i3 + 2), .ref kB, .int (xs (i3 + 1).toNatClampNeg), .ref 137]) (by decide +kernel) rfl ?_
  refine LW.sld E h2 (by decide +kernel) ?_
  refine LW.callV E (As := [.int (xs (i3 + 1).toNatClampNeg), .int (xs (i3 + 2).toNatClampNeg)]) (st := []) lv_RL_131 (by decide +kernel) (hm (cC S')) (Nat.le_of_ble_eq_true rfl) (Nat.le_of_ble_eq_true rfl) rfl (by decide) (hM_o _ _) rfl rfl (Nat.le_of_ble_eq_true rfl) rfl (fun r n' h' q => q.2.1) hcu hsu (fun r0 h' q => ?_)
  obtain ⟨q1, -, q3⟩ := q
  subst q1
  subst q3
  refine LW.run E [(.pop, 0), (.goto 237, 0)] (pc' := 1276) (ls' := [some (.ref kB), some (.ref 0), some (.ref 137), some (.int i3)]) (st' := []) (by decide +kernel) rfl ?_
  exact k
theorem lc_view (E : LE p s m meth c b L xs as0) (hcu : cu ≤ 600000) (hsu : su ≤ 7302250) {i3 r r' : Int32} {S S' : cT} {T T' : mT} (h1 : vp_in (i3 + 1) L) (h2 : vp_in (i3 + 2) L) (hx : COk l yy_X11_view 2 [.ref 0, .int (xs (i3 + 1).toNatClampNeg), .int (xs (i3 + 2).toNatClampNeg)] S (some (.int r)) S') (hm : MOk l yy_X12_view 1 [.int (xs (i3 + 1).toNatClampNeg), .int (xs (i3 + 2).toNatClampNeg)] T (some (.int r')) T') (k : LW p l e s m below meth c b D cA as0 cu su 1276 [some (.ref kB), some (.ref 0), some (.ref 137), some (.int i3)] [] 156 (hM (cC S') T')) : LW p l e s m below meth c b D cA as0 cu su 1042 [some (.ref kB), some (.ref 0), some (.ref 137), some (.int i3)] [] 156 (hM (cC S) T) := by
  refine LW.run E [(.aload_n 1, 0), (.aload_n 0, 0), (.iload_n 3, 0), (.iconst 1, 1), (.iadd, 0)] (pc' := 1047) (ls' := [some (.ref kB), some (.ref 0), some (.ref 137), some (.int i3)]) (st' := [.int (i3 + 1), .ref kB, .ref 0]) (by decide +kernel) rfl ?_
  refine LW.sld E h1 (by decide +kernel) ?_
  refine LW.run E [(.aload_n 0, 0), (.iload_n 3, 0), (.iconst 2, 2), (.iadd, 0)] (pc' := 1052) (ls' := [some (.ref kB), some (.ref 0), some (.ref 137), some (.int i3)]) (st' := [.int (i3 + 2), .ref kB, .int (xs (i3 + 1).toNatClampNeg), .ref 0]) (by decide +kernel) rfl ?_
  refine LW.sld E h2 (by decide +kernel) ?_
  refine LW.callV E (As := [.int (xs (i3 + 1).toNatClampNeg), .int (xs (i3 + 2).toNatClampNeg)]) (st := []) lv_RL_132 (by decide +kernel) (hx T) (Nat.le_of_ble_eq_true rfl) (Nat.le_of_ble_eq_true rfl) rfl (by decide) (hC_o (ci := 9) rfl (by decide)) rfl rfl (Nat.le_of_ble_eq_true rfl) rfl (fun r n' h' q => q.2.1) hcu hsu (fun r0 h' q => ?_)
  obtain ⟨q1, -, q3⟩ := q
  subst q1
  subst q3
  refine LW.run E [(.pop, 0), (.aload_n 2, 0), (.aload_n 0, 0), (.iload_n 3, 0), (.iconst 1, 1), (.iadd, 0)] (pc' := 1062) (ls' := [some (.ref kB), some (.ref 0), some (.ref 137), some (.int i3)]) (st' := [.int (i3 + 1), .ref kB, .ref 137]) (by decide +kernel) rfl ?_
  refine LW.sld E h1 (by decide +kernel) ?_
  refine LW.run E [(.aload_n 0, 0), (.iload_n 3, 0), (.iconst 2, 2), (.iadd, 0)] (pc' := 1067) (ls' := [some (.ref kB), some (.ref 0), some (.ref 137), some (.int i3)]) (st' := [.int (i3 + 2), .ref kB, .int (xs (i3 + 1).toNatClampNeg), .ref 137]) (by decide +kernel) rfl ?_
  refine LW.sld E h2 (by decide +kernel) ?_
  refine LW.callV E (As := [.int (xs (i3 + 1).toNatClampNeg), .int (xs (i3 + 2).toNatClampNeg)]) (st := []) lv_RL_135 (by decide +kernel) (hm (cC S')) (Nat.le_of_ble_eq_true rfl) (Nat.le_of_ble_eq_true rfl) rfl (by decide) (hM_o _ _) rfl rfl (Nat.le_of_ble_eq_true rfl) rfl (fun r n' h' q => q.2.1) hcu hsu (fun r0 h' q => ?_)
  obtain ⟨q1, -, q3⟩ := q
  subst q1
  subst q3
  refine LW.run E [(.pop, 0), (.goto 204, 0)] (pc' := 1276) (ls' := [some (.ref kB), some (.ref 0), some (.ref 137), some (.int i3)]) (st' := []) (by decide +kernel) rfl ?_
  exact k
theorem lc_fits (E : LE p s m meth c b L xs as0) (hcu : cu ≤ 600000) (hsu : su ≤ 7302250) {i3 r r' : Int32} {S S' : cT} {T T' : mT} (h1 : vp_in (i3 + 1) L) (hx : COk l yy_X11_fits 4 [.ref 0, .int (xs (i3 + 1).toNatClampNeg)] S (some (.int r)) S') (hm : MOk l yy_X12_fits 1 [.int (xs (i3 + 1).toNatClampNeg)] T (some (.int r')) T') (k : LW p l e s m below meth c b D cA as0 cu su 1276 [some (.ref kB), some (.ref 0), some (.ref 137), some (.int i3)] [] 156 (hM (cC S') T')) : LW p l e s m below meth c b D cA as0 cu su 1075 [some (.ref kB), some (.ref 0), some (.ref 137), some (.int i3)] [] 156 (hM (cC S) T) := by
  refine LW.run E [(.aload_n 1, 0), (.aload_n 0, 0), (.iload_n 3, 0), (.iconst 1, 1), (.iadd, 0)] (pc' := 1080) (ls' := [some (.ref kB), some (.ref 0), some (.ref 137), some (.int i3)]) (st' := [.int (i3 + 1), .ref kB, .ref 0]) (by decide +kernel) rfl ?_
  refine LW.sld E h1 (by decide +kernel) ?_
  refine LW.callV E (As := [.int (xs (i3 + 1).toNatClampNeg)]) (st := []) lv_RL_136 (by decide +kernel) (hx T) (Nat.le_of_ble_eq_true rfl) (Nat.le_of_ble_eq_true rfl) rfl (by decide) (hC_o (ci := 9) rfl (by decide)) rfl rfl (Nat.le_of_ble_eq_true rfl) rfl (fun r n' h' q => q.2.1) hcu hsu (fun r0 h' q => ?_)
  obtain ⟨q1, -, q3⟩ := q
  subst q1
  subst q3
  refine LW.run E [(.pop, 0), (.aload_n 2, 0), (.aload_n 0, 0), (.iload_n 3, 0), (.iconst 1, 1), (.iadd, 0)] (pc' := 1090) (ls' := [some (.ref kB), some (.ref 0), some (.ref 137), some (.int i3)]) (st' := [.int (i3 + 1), .ref kB, .ref 137]) (by decide +kernel) rfl ?_
  refine LW.sld E h1 (by decide +kernel) ?_
  refine LW.callV E (As := [.int (xs (i3 + 1).toNatClampNeg)]) (st := []) lv_RL_139 (by decide +kernel) (hm (cC S')) (Nat.le_of_ble_eq_true rfl) (Nat.le_of_ble_eq_true rfl) rfl (by decide) (hM_o _ _) rfl rfl (Nat.le_of_ble_eq_true rfl) rfl (fun r n' h' q => q.2.1) hcu hsu (fun r0 h' q => ?_)
  obtain ⟨q1, -, q3⟩ := q
  subst q1
  subst q3
  refine LW.run E [(.pop, 0), (.goto 181, 0)] (pc' := 1276) (ls' := [some (.ref kB), some (.ref 0), some (.ref 137), some (.int i3)]) (st' := []) (by decide +kernel) rfl ?_
  exact k
theorem lc_views (E : LE p s m meth c b L xs as0) (hcu : cu ≤ 600000) (hsu : su ≤ 7302250) {i3 r r' : Int32} {S S' : cT} {T T' : mT} (h1 : vp_in (i3 + 1) L) (hx : COk l yy_X11_views 5 [.ref 0, .int (xs (i3 + 1).toNatClampNeg)] S (some (.int r)) S') (hm : MOk l yy_X12_views 2 [.int (xs (i3 + 1).toNatClampNeg)] T (some (.int r')) T') (k : LW p l e s m below meth c b D cA as0 cu su 1276 [some (.ref kB), some (.ref 0), some (.ref 137), some (.int i3)] [] 156 (hM (cC S') T')) : LW p l e s m below meth c b D cA as0 cu su 1098 [some (.ref kB), some (.ref 0), some (.ref 137), some (.int i3)] [] 156 (hM (cC S) T) := by
  refine LW.run E [(.aload_n 1, 0), (.aload_n 0, 0), (.iload_n 3, 0), (.iconst 1, 1), (.iadd, 0)] (pc' := 1103) (ls' := [some (.ref kB), some (.ref 0), some (.ref 137), some (.int i3)]) (st' := [.int (i3 + 1), .ref kB, .ref 0]) (by decide +kernel) rfl ?_
  refine LW.sld E h1 (by decide +kernel) ?_
  refine LW.callV E (As := [.int (xs (i3 + 1).toNatClampNeg)]) (st := []) lv_RL_140 (by decide +kernel) (hx T) (Nat.le_of_ble_eq_true rfl) (Nat.le_of_ble_eq_true rfl) rfl (by decide) (hC_o (ci := 9) rfl (by decide)) rfl rfl (Nat.le_of_ble_eq_true rfl) rfl (fun r n' h' q => q.2.1) hcu hsu (fun r0 h' q => ?_)
  obtain ⟨q1, -, q3⟩ := q
  subst q1
  subst q3
  refine LW.run E [(.pop, 0), (.aload_n 2, 0), (.aload_n 0, 0), (.iload_n 3, 0), (.iconst 1, 1), (.iadd, 0)] (pc' := 1113) (ls' := [some (.ref kB), some (.ref 0), some (.ref 137), some (.int i3)]) (st' := [.int (i3 + 1), .ref kB, .ref 137]) (by decide +kernel) rfl ?_
  refine LW.sld E h1 (by decide +kernel) ?_
  refine LW.callV E (As := [.int (xs (i3 + 1).toNatClampNeg)]) (st := []) lv_RL_143 (by decide +kernel) (hm (cC S')) (Nat.le_of_ble_eq_true rfl) (Nat.le_of_ble_eq_true rfl) rfl (by decide) (hM_o _ _) rfl rfl (Nat.le_of_ble_eq_true rfl) rfl (fun r n' h' q => q.2.1) hcu hsu (fun r0 h' q => ?_)
  obtain ⟨q1, -, q3⟩ := q
  subst q1
  subst q3
  refine LW.run E [(.pop, 0), (.goto 158, 0)] (pc' := 1276) (ls' := [some (.ref kB), some (.ref 0), some (.ref 137), some (.int i3)]) (st' := []) (by decide +kernel) rfl ?_
  exact k
theorem lc_seed (E : LE p s m meth c b L xs as0) (hcu : cu ≤ 600000) (hsu : su ≤ 7302250) {i3 r r' : Int32} {S S' : cT} {T T' : mT} (h1 : vp_in (i3 + 1) L) (hx : COk l yy_X11_seed 0 [.ref 0, .int (xs (i3 + 1).toNatClampNeg)] S (some (.int r)) S') (hm : MOk l yy_X12_seed 0 [.int (xs (i3 + 1).toNatClampNeg)] T (some (.int r')) T') (k : LW p l e s m below meth c b D cA as0 cu su 1276 [some (.ref kB), some (.ref 0), some (.ref 137), some (.int i3)] [] 156 (hM (cC S') T')) : LW p l e s m below meth c b D cA as0 cu su 1121 [some (.ref kB), some (.ref 0), some (.ref 137), some (.int i3)] [] 156 (hM (cC S) T) := by
  refine LW.run E [(.aload_n 1, 0), (.aload_n 0, 0), (.iload_n 3, 0), (.iconst 1, 1), (.iadd, 0)] (pc' := 1126) (ls' := [some (.ref kB), some (.ref 0), some (.ref 137), some (.int i3)]) (st' := [.int (i3 + 1), .ref kB, .ref 0]) (by decide +kernel) rfl ?_
  refine LW.sld E h1 (by decide +kernel) ?_
  refine LW.callV E (As := [.int (xs (i3 + 1).toNatClampNeg)]) (st := []) lv_RL_144 (by decide +kernel) (hx T) (Nat.le_of_ble_eq_true rfl) (Nat.le_of_ble_eq_true rfl) rfl (by decide) (hC_o (ci := 9) rfl (by decide)) rfl rfl (Nat.le_of_ble_eq_true rfl) rfl (fun r n' h' q => q.2.1) hcu hsu (fun r0 h' q => ?_)
  obtain ⟨q1, -, q3⟩ := q
  subst q1
  subst q3
  refine LW.run E [(.pop, 0), (.aload_n 2, 0), (.aload_n 0, 0), (.iload_n 3, 0), (.iconst 1, 1), (.iadd, 0)] (pc' := 1136) (ls' := [some (.ref kB), some (.ref 0), some (.ref 137), some (.int i3)]) (st' := [.int (i3 + 1), .ref kB, .ref 137]) (by decide +kernel) rfl ?_
  refine LW.sld E h1 (by decide +kernel) ?_
  refine LW.callV E (As := [.int (xs (i3 + 1).toNatClampNeg)]) (st := []) lv_RL_147 (by decide +kernel) (hm (cC S')) (Nat.le_of_ble_eq_true rfl) (Nat.le_of_ble_eq_true rfl) rfl (by decide) (hM_o _ _) rfl rfl (Nat.le_of_ble_eq_true rfl) rfl (fun r n' h' q => q.2.1) hcu hsu (fun r0 h' q => ?_)
  obtain ⟨q1, -, q3⟩ := q
  subst q1
  subst q3
  refine LW.run E [(.pop, 0), (.goto 135, 0)] (pc' := 1276) (ls' := [some (.ref kB), some (.ref 0), some (.ref 137), some (.int i3)]) (st' := []) (by decide +kernel) rfl ?_
  exact k
theorem lc_drawn (E : LE p s m meth c b L xs as0) (hcu : cu ≤ 600000) (hsu : su ≤ 7302250) {i3 r r' : Int32} {S S' : cT} {T T' : mT} (h1 : vp_in (i3 + 1) L) (h2 : vp_in (i3 + 2) L) (h3 : vp_in (i3 + 3) L) (h4 : vp_in (i3 + 4) L) (h5 : vp_in (i3 + 5) L) (hx : COk l yy_X11_drawn 7 [.ref 0, .int (xs (i3 + 1).toNatClampNeg), .int (xs (i3 + 2).toNatClampNeg), .int (xs (i3 + 3).toNatClampNeg), .int (xs (i3 + 4).toNatClampNeg), .int (xs (i3 + 5).toNatClampNeg)] S (some (.int r)) S') (hm : MOk l yy_X12_drawn 8 [.int (xs (i3 + 1).toNatClampNeg), .int (xs (i3 + 2).toNatClampNeg), .int (xs (i3 + 3).toNatClampNeg), .int (xs (i3 + 4).toNatClampNeg), .int (xs (i3 + 5).toNatClampNeg)] T (some (.int r')) T') (k : LW p l e s m below meth c b D cA as0 cu su 1276 [some (.ref kB), some (.ref 0), some (.ref 137), some (.int i3)] [] 156 (hM (cC S') T')) : LW p l e s m below meth c b D cA as0 cu su 1144 [some (.ref kB), some (.ref 0), some (.ref 137), some (.int i3)] [] 156 (hM (cC S) T) := by
  refine LW.run E [(.aload_n 1, 0), (.aload_n 0, 0), (.iload_n 3, 0), (.iconst 1, 1), (.iadd, 0)] (pc' := 1149) (ls' := [some (.ref kB), some (.ref 0), some (.ref 137), some (.int i3)]) (st' := [.int (i3 + 1), .ref kB, .ref 0]) (by decide +kernel) rfl ?_
  refine LW.sld E h1 (by decide +kernel) ?_
  refine LW.run E [(.aload_n 0, 0), (.iload_n 3, 0), (.iconst 2, 2), (.iadd, 0)] (pc' := 1154) (ls' := [some (.ref kB), some (.ref 0), some (.ref 137), some (.int i3)]) (st' := [.int (i3 + 2), .ref kB, .int (xs (i3 + 1).toNatClampNeg), .ref 0]) (by decide +kernel) rfl ?_
  refine LW.sld E h2 (by decide +kernel) ?_
  refine LW.run E [(.aload_n 0, 0), (.iload_n 3, 0), (.iconst 3, 3), (.iadd, 0)] (pc' := 1159) (ls' := [some (.ref kB), some (.ref 0), some (.ref 137), some (.int i3)]) (st' := [.int (i3 + 3), .ref kB, .int (xs (i3 + 2).toNatClampNeg), .int (xs (i3 + 1).toNatClampNeg), .ref 0]) (by decide +kernel) rfl ?_
  refine LW.sld E h3 (by decide +kernel) ?_
  refine LW.run E [(.aload_n 0, 0), (.iload_n 3, 0), (.iconst 4, 4), (.iadd, 0)] (pc' := 1164) (ls' := [some (.ref kB), some (.ref 0), some (.ref 137), some (.int i3)]) (st' := [.int (i3 + 4), .ref kB, .int (xs (i3 + 3).toNatClampNeg), .int (xs (i3 + 2).toNatClampNeg), .int (xs (i3 + 1).toNatClampNeg), .ref 0]) (by decide +kernel) rfl ?_
  refine LW.sld E h4 (by decide +kernel) ?_
  refine LW.run E [(.aload_n 0, 0), (.iload_n 3, 0), (.iconst 5, 5), (.iadd, 0)] (pc' := 1169) (ls' := [some (.ref kB), some (.ref 0), some (.ref 137), some (.int i3)]) (st' := [.int (i3 + 5), .ref kB, .int (xs (i3 + 4).toNatClampNeg), .int (xs (i3 + 3).toNatClampNeg), .int (xs (i3 + 2).toNatClampNeg), .int (xs (i3 + 1).toNatClampNeg), .ref 0]) (by decide +kernel) rfl ?_
  refine LW.sld E h5 (by decide +kernel) ?_
  refine LW.callV E (As := [.int (xs (i3 + 1).toNatClampNeg), .int (xs (i3 + 2).toNatClampNeg), .int (xs (i3 + 3).toNatClampNeg), .int (xs (i3 + 4).toNatClampNeg), .int (xs (i3 + 5).toNatClampNeg)]) (st := []) lv_RL_148 (by decide +kernel) (hx T) (Nat.le_of_ble_eq_true rfl) (Nat.le_of_ble_eq_true rfl) rfl (by decide) (hC_o (ci := 9) rfl (by decide)) rfl rfl (Nat.le_of_ble_eq_true rfl) rfl (fun r n' h' q => q.2.1) hcu hsu (fun r0 h' q => ?_)
  obtain ⟨q1, -, q3⟩ := q
  subst q1
  subst q3
  refine LW.run E [(.pop, 0), (.aload_n 2, 0), (.aload_n 0, 0), (.iload_n 3, 0), (.iconst 1, 1), (.iadd, 0)] (pc' := 1179) (ls' := [some (.ref kB), some (.ref 0), some (.ref 137), some (.int i3)]) (st' := [.int (i3 + 1), .ref kB, .ref 137]) (by decide +kernel) rfl ?_
  refine LW.sld E h1 (by decide +kernel) ?_
  refine LW.run E [(.aload_n 0, 0), (.iload_n 3, 0), (.iconst 2, 2), (.iadd, 0)] (pc' := 1184) (ls' := [some (.ref kB), some (.ref 0), some (.ref 137), some (.int i3)]) (st' := [.int (i3 + 2), .ref kB, .int (xs (i3 + 1).toNatClampNeg), .ref 137]) (by decide +kernel) rfl ?_
  refine LW.sld E h2 (by decide +kernel) ?_
  refine LW.run E [(.aload_n 0, 0), (.iload_n 3, 0), (.iconst 3, 3), (.iadd, 0)] (pc' := 1189) (ls' := [some (.ref kB), some (.ref 0), some (.ref 137), some (.int i3)]) (st' := [.int (i3 + 3), .ref kB, .int (xs (i3 + 2).toNatClampNeg), .int (xs (i3 + 1).toNatClampNeg), .ref 137]) (by decide +kernel) rfl ?_
  refine LW.sld E h3 (by decide +kernel) ?_
  refine LW.run E [(.aload_n 0, 0), (.iload_n 3, 0), (.iconst 4, 4), (.iadd, 0)] (pc' := 1194) (ls' := [some (.ref kB), some (.ref 0), some (.ref 137), some (.int i3)]) (st' := [.int (i3 + 4), .ref kB, .int (xs (i3 + 3).toNatClampNeg), .int (xs (i3 + 2).toNatClampNeg), .int (xs (i3 + 1).toNatClampNeg), .ref 137]) (by decide +kernel) rfl ?_
  refine LW.sld E h4 (by decide +kernel) ?_
  refine LW.run E [(.aload_n 0, 0), (.iload_n 3, 0), (.iconst 5, 5), (.iadd, 0)] (pc' := 1199) (ls' := [some (.ref kB), some (.ref 0), some (.ref 137), some (.int i3)]) (st' := [.int (i3 + 5), .ref kB, .int (xs (i3 + 4).toNatClampNeg), .int (xs (i3 + 3).toNatClampNeg), .int (xs (i3 + 2).toNatClampNeg), .int (xs (i3 + 1).toNatClampNeg), .ref 137]) (by decide +kernel) rfl ?_
  refine LW.sld E h5 (by decide +kernel) ?_
  refine LW.callV E (As := [.int (xs (i3 + 1).toNatClampNeg), .int (xs (i3 + 2).toNatClampNeg), .int (xs (i3 + 3).toNatClampNeg), .int (xs (i3 + 4).toNatClampNeg), .int (xs (i3 + 5).toNatClampNeg)]) (st := []) lv_RL_151 (by decide +kernel) (hm (cC S')) (Nat.le_of_ble_eq_true rfl) (Nat.le_of_ble_eq_true rfl) rfl (by decide) (hM_o _ _) rfl rfl (Nat.le_of_ble_eq_true rfl) rfl (fun r n' h' q => q.2.1) hcu hsu (fun r0 h' q => ?_)
  obtain ⟨q1, -, q3⟩ := q
  subst q1
  subst q3
  refine LW.run E [(.pop, 0), (.goto 72, 0)] (pc' := 1276) (ls' := [some (.ref kB), some (.ref 0), some (.ref 137), some (.int i3)]) (st' := []) (by decide +kernel) rfl ?_
  exact k
theorem lc_count (E : LE p s m meth c b L xs as0) (hcu : cu ≤ 600000) (hsu : su ≤ 7302250) {i3 r r' : Int32} {S S' : cT} {T T' : mT} (h1 : vp_in (i3 + 1) L) (hx : COk l yy_X11_count 0 [.ref 0, .int (xs (i3 + 1).toNatClampNeg)] S (some (.int r)) S') (hm : MOk l yy_X12_count 1 [.int (xs (i3 + 1).toNatClampNeg)] T (some (.int r')) T') (k : LW p l e s m below meth c b D cA as0 cu su 1276 [some (.ref kB), some (.ref 0), some (.ref 137), some (.int i3)] [] 156 (hM (cC S') T')) : LW p l e s m below meth c b D cA as0 cu su 1207 [some (.ref kB), some (.ref 0), some (.ref 137), some (.int i3)] [] 156 (hM (cC S) T) := by
  refine LW.run E [(.aload_n 1, 0), (.aload_n 0, 0), (.iload_n 3, 0), (.iconst 1, 1), (.iadd, 0)] (pc' := 1212) (ls' := [some (.ref kB), some (.ref 0), some (.ref 137), some (.int i3)]) (st' := [.int (i3 + 1), .ref kB, .ref 0]) (by decide +kernel) rfl ?_
  refine LW.sld E h1 (by decide +kernel) ?_
  refine LW.callV E (As := [.int (xs (i3 + 1).toNatClampNeg)]) (st := []) lv_RL_152 (by decide +kernel) (hx T) (Nat.le_of_ble_eq_true rfl) (Nat.le_of_ble_eq_true rfl) rfl (by decide) (hC_o (ci := 9) rfl (by decide)) rfl rfl (Nat.le_of_ble_eq_true rfl) rfl (fun r n' h' q => q.2.1) hcu hsu (fun r0 h' q => ?_)
  obtain ⟨q1, -, q3⟩ := q
  subst q1
  subst q3
  refine LW.run E [(.pop, 0), (.aload_n 2, 0), (.aload_n 0, 0), (.iload_n 3, 0), (.iconst 1, 1), (.iadd, 0)] (pc' := 1222) (ls' := [some (.ref kB), some (.ref 0), some (.ref 137), some (.int i3)]) (st' := [.int (i3 + 1), .ref kB, .ref 137]) (by decide +kernel) rfl ?_
  refine LW.sld E h1 (by decide +kernel) ?_
  refine LW.callV E (As := [.int (xs (i3 + 1).toNatClampNeg)]) (st := []) lv_RL_155 (by decide +kernel) (hm (cC S')) (Nat.le_of_ble_eq_true rfl) (Nat.le_of_ble_eq_true rfl) rfl (by decide) (hM_o _ _) rfl rfl (Nat.le_of_ble_eq_true rfl) rfl (fun r n' h' q => q.2.1) hcu hsu (fun r0 h' q => ?_)
  obtain ⟨q1, -, q3⟩ := q
  subst q1
  subst q3
  refine LW.run E [(.pop, 0), (.goto 49, 0)] (pc' := 1276) (ls' := [some (.ref kB), some (.ref 0), some (.ref 137), some (.int i3)]) (st' := []) (by decide +kernel) rfl ?_
  exact k
theorem lc_image (E : LE p s m meth c b L xs as0) (hcu : cu ≤ 600000) (hsu : su ≤ 7302250) {i3 r r' : Int32} {S S' : cT} {T T' : mT} (h1 : vp_in (i3 + 1) L) (hx : COk l yy_X11_image 3 [.ref 0, .int (xs (i3 + 1).toNatClampNeg)] S (some (.int r)) S') (hm : MOk l yy_X12_image 1 [.int (xs (i3 + 1).toNatClampNeg)] T (some (.int r')) T') (k : LW p l e s m below meth c b D cA as0 cu su 1276 [some (.ref kB), some (.ref 0), some (.ref 137), some (.int i3)] [] 156 (hM (cC S') T')) : LW p l e s m below meth c b D cA as0 cu su 1230 [some (.ref kB), some (.ref 0), some (.ref 137), some (.int i3)] [] 156 (hM (cC S) T) := by
  refine LW.run E [(.aload_n 1, 0), (.aload_n 0, 0), (.iload_n 3, 0), (.iconst 1, 1), (.iadd, 0)] (pc' := 1235) (ls' := [some (.ref kB), some (.ref 0), some (.ref 137), some (.int i3)]) (st' := [.int (i3 + 1), .ref kB, .ref 0]) (by decide +kernel) rfl ?_
  refine LW.sld E h1 (by decide +kernel) ?_
  refine LW.callV E (As := [.int (xs (i3 + 1).toNatClampNeg)]) (st := []) lv_RL_156 (by decide +kernel) (hx T) (Nat.le_of_ble_eq_true rfl) (Nat.le_of_ble_eq_true rfl) rfl (by decide) (hC_o (ci := 9) rfl (by decide)) rfl rfl (Nat.le_of_ble_eq_true rfl) rfl (fun r n' h' q => q.2.1) hcu hsu (fun r0 h' q => ?_)
  obtain ⟨q1, -, q3⟩ := q
  subst q1
  subst q3
  refine LW.run E [(.pop, 0), (.aload_n 2, 0), (.aload_n 0, 0), (.iload_n 3, 0), (.iconst 1, 1), (.iadd, 0)] (pc' := 1245) (ls' := [some (.ref kB), some (.ref 0), some (.ref 137), some (.int i3)]) (st' := [.int (i3 + 1), .ref kB, .ref 137]) (by decide +kernel) rfl ?_
  refine LW.sld E h1 (by decide +kernel) ?_
  refine LW.callV E (As := [.int (xs (i3 + 1).toNatClampNeg)]) (st := []) lv_RL_159 (by decide +kernel) (hm (cC S')) (Nat.le_of_ble_eq_true rfl) (Nat.le_of_ble_eq_true rfl) rfl (by decide) (hM_o _ _) rfl rfl (Nat.le_of_ble_eq_true rfl) rfl (fun r n' h' q => q.2.1) hcu hsu (fun r0 h' q => ?_)
  obtain ⟨q1, -, q3⟩ := q
  subst q1
  subst q3
  refine LW.run E [(.pop, 0), (.goto 26, 0)] (pc' := 1276) (ls' := [some (.ref kB), some (.ref 0), some (.ref 137), some (.int i3)]) (st' := []) (by decide +kernel) rfl ?_
  exact k
theorem lc_back (E : LE p s m meth c b L xs as0) (hcu : cu ≤ 600000) (hsu : su ≤ 7302250) {i3 r r' : Int32} {S S' : cT} {T T' : mT} (h1 : vp_in (i3 + 1) L) (hx : COk l yy_X11_back 3 [.ref 0, .int (xs (i3 + 1).toNatClampNeg)] S (some (.int r)) S') (hm : MOk l yy_X12_back 1 [.int (xs (i3 + 1).toNatClampNeg)] T (some (.int r')) T') (k : LW p l e s m below meth c b D cA as0 cu su 1276 [some (.ref kB), some (.ref 0), some (.ref 137), some (.int i3)] [] 156 (hM (cC S') T')) : LW p l e s m below meth c b D cA as0 cu su 1253 [some (.ref kB), some (.ref 0), some (.ref 137), some (.int i3)] [] 156 (hM (cC S) T) := by
  refine LW.run E [(.aload_n 1, 0), (.aload_n 0, 0), (.iload_n 3, 0), (.iconst 1, 1), (.iadd, 0)] (pc' := 1258) (ls' := [some (.ref kB), some (.ref 0), some (.ref 137), some (.int i3)]) (st' := [.int (i3 + 1), .ref kB, .ref 0]) (by decide +kernel) rfl ?_
  refine LW.sld E h1 (by decide +kernel) ?_
  refine LW.callV E (As := [.int (xs (i3 + 1).toNatClampNeg)]) (st := []) lv_RL_160 (by decide +kernel) (hx T) (Nat.le_of_ble_eq_true rfl) (Nat.le_of_ble_eq_true rfl) rfl (by decide) (hC_o (ci := 9) rfl (by decide)) rfl rfl (Nat.le_of_ble_eq_true rfl) rfl (fun r n' h' q => q.2.1) hcu hsu (fun r0 h' q => ?_)
  obtain ⟨q1, -, q3⟩ := q
  subst q1
  subst q3
  refine LW.run E [(.pop, 0), (.aload_n 2, 0), (.aload_n 0, 0), (.iload_n 3, 0), (.iconst 1, 1), (.iadd, 0)] (pc' := 1268) (ls' := [some (.ref kB), some (.ref 0), some (.ref 137), some (.int i3)]) (st' := [.int (i3 + 1), .ref kB, .ref 137]) (by decide +kernel) rfl ?_
  refine LW.sld E h1 (by decide +kernel) ?_
  refine LW.callV E (As := [.int (xs (i3 + 1).toNatClampNeg)]) (st := []) lv_RL_163 (by decide +kernel) (hm (cC S')) (Nat.le_of_ble_eq_true rfl) (Nat.le_of_ble_eq_true rfl) rfl (by decide) (hM_o _ _) rfl rfl (Nat.le_of_ble_eq_true rfl) rfl (fun r n' h' q => q.2.1) hcu hsu (fun r0 h' q => ?_)
  obtain ⟨q1, -, q3⟩ := q
  subst q1
  subst q3
  refine LW.run E [(.pop, 0), (.goto 3, 0)] (pc' := 1276) (ls' := [some (.ref kB), some (.ref 0), some (.ref 137), some (.int i3)]) (st' := []) (by decide +kernel) rfl ?_
  exact k
end LCASE
/-- both answer, alike where they are compared, and what is told goes on -/
def St (cmp : Bool) (I : cT → mT → Prop) (f : Option (Int32 × cT)) (g : Option (Int32 × mT)) : Prop := ∃ q w, f = some q ∧ g = some w ∧ (cmp = true → q.1 = w.1) ∧ I q.2 w.2
def wiS (f : Option Int32) (S : cT) : Option (Int32 × cT) := f.map (fun r => (r, S))
def wbS (f : Option (Bool × cT)) : Option (Int32 × cT) := f.map (fun r => (b2i r.1, r.2))
def wiT (f : Option Int32) (T : mT) : Option (Int32 × mT) := f.map (fun r => (r, T))
def wbT (f : Option (Bool × mT)) : Option (Int32 × mT) := f.map (fun r => (b2i r.1, r.2))
def SStp (I : cT → mT → Prop) (S : cT) (T : mT) (j : Nat) (a1 a2 a3 a4 a5 : Int32) : Prop := match j with
  | 0 => St false I (fc_X11_feed 0 a1 a2 a3 a4 a5 S) (fm_feed a1 a2 a3 a4 a5 T)
  | 1 => St false I (fc_X11_end 0 a1 S) (fm_end a1 T)
  | 2 => St false I (fc_X11_island 0 S) (fm_island T)
  | 3 => St false I (fc_X11_rule 0 S) (fm_rule T)
  | 4 => St true I (fc_X11_force 0 a1 S) (fm_force a1 T)
  | 5 => St false I (fc_X11_person 0 a1 a2 S) (fm_person a1 a2 T)
  | 6 => St false I (fc_X11_sum 0 a1 a2 S) (fm_sum a1 a2 T)
  | 7 => St false I (wiS (fc_X11_tie 0 a1 a2 S) S) (wiT (fm_tie a1 a2 T) T)
  | 8 => St false I (wiS (fc_X11_telling 0 a1 a2 S) S) (wiT (fm_telling a1 a2 T) T)
  | 9 => St false I (fc_X11_tell 0 a1 a2 a3 a4 S) (fm_tell a1 a2 a3 a4 T)
  | 10 => St false I (fc_X11_retell 0 a1 a2 a3 S) (fm_retell a1 a2 a3 T)
  | 11 => St false I (fc_X11_look 0 S) (fm_look T)
  | 12 => St false I (fc_X11_give 0 a1 S) (fm_give a1 T)
  | 13 => St false I (fc_X11_save 0 S) (fm_save T)
  | 14 => St false I (fc_X11_sell 0 a1 a2 a3 S) (fm_sell a1 a2 a3 T)
  | 15 => St false I (fc_X11_spend 0 a1 S) (fm_spend a1 T)
  | 16 => St false I (wbS (fc_X11_keep 0 (kz a1) S)) (wbT (fm_keep (kz a1) T))
  | 17 => St false I (fc_X11_rest 0 S) (fm_rest T)
  | 18 => St false I (fc_X11_undo 0 S) (fm_undo T)
  | 19 => St false I (fc_X11_run 0 a1 a2 S) (fm_run a1 a2 T)
  | 20 => St false I (wiS (fc_X11_lean 0 a1 S) S) (wiT (fm_lean a1 T) T)
  | 21 => St false I (fc_X11_likeliest 0 a1 a2 S) (wiT (fm_likeliest a1 a2 T) T)
  | 22 => St false I (wiS (fc_X11_flatters 0 a1 a2 S) S) (wiT (fm_flatters a1 a2 T) T)
  | 23 => St false I (fc_X11_ask 0 a1 a2 S) (fm_ask a1 a2 T)
  | 24 => St false I (wiS (fc_X11_chain 0 a1 a2 S) S) (wiT (fm_chain a1 a2 T) T)
  | 25 => St false I (wiS (fc_X11_slip 0 a1 a2 S) S) (wiT (fm_slip a1 a2 T) T)
  | 26 => St false I (fc_X11_wish 0 a1 a2 a3 a4 S) (fm_wish a1 a2 a3 a4 T)
  | 27 => St false I (fc_X11_round 0 a1 a2 S) (fm_round a1 a2 T)
  | 28 => St false I (fc_X11_view 0 a1 a2 S) (fm_view a1 a2 T)
  | 29 => St false I (wiS (fc_X11_fits 0 a1 S) S) (wiT (fm_fits a1 T) T)
  | 30 => St false I (fc_X11_views 0 a1 S) (fm_views a1 T)
  | 31 => St false I (fc_X11_seed 0 a1 S) (fm_seed a1 T)
  | 32 => St false I (fc_X11_drawn 0 a1 a2 a3 a4 a5 S) (fm_drawn a1 a2 a3 a4 a5 T)
  | 33 => St false I (wiS (fc_X11_count 0 a1 S) S) (wiT (fm_count a1 T) T)
  | 34 => St false I (fc_X11_image 0 a1 S) (fm_image a1 T)
  | 35 => St false I (fc_X11_back 0 a1 S) (fm_back a1 T)
  | _ => True
