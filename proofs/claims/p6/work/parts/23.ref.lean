/-! ===== the reference, method by method (by program) 4 ===== -/
def fm_twoHere  (T : mT) : Option (Bool × mT) := (fm_passWord T).bind fun q1 => bif inb 1 112 then (letv (q1.1 6 (1 : Int32).toNatClampNeg) fun v2 => (fm_numberHere 0 (v2 - 1) q1).bind fun q3 => if (b2i q3.1) = 0 then (some (false, q3.2)) else (letv (mz q3.2 17 (q3.2.1 0 10)) fun T5 => (fm_see T5).bind fun q6 => bif inb 1 112 then (letv (q6.2.1 6 (1 : Int32).toNatClampNeg) fun v7 => (fm_numberHere 0 (v7 - 1) q6.2).bind fun q8 => if (b2i q8.1) = 0 then (some (false, q8.2)) else (if (q8.2.1 0 10) = (q8.2.1 0 17) then ((fm_fails 1 (q6.2.1 0 8) q8.2).bind fun q11 => if (b2i q11.1) = 0 then (some (false, q11.2)) else (some (true, q11.2))) else (some (true, q8.2)))) else none)) else none
theorem xm_twoHere {l : Launch}  {T : mT} {q : Bool × mT} (hf : fm_twoHere  T = some q) : MOk l yy_X12_twoHere 2 [] T (some (.int (b2i q.1))) q.2 := by
  refine MOk.of (ls := [some (.ref 137), none]) (by decide +kernel) (Nat.le_of_ble_eq_true rfl) rfl ?_
  unfold fm_twoHere at hf
  refine MW.run rfl [(.aload_n 0, 0)] (pc' := 1) (ls' := [some (.ref 137), none]) (st' := [.ref 137]) (T1 := T) (by decide +kernel) rfl ?_
  obtain ⟨q1, hq1, hf⟩ := bd_some hf
  refine MW.callV (As := []) (st := []) lv_RX12_97 rfl (by decide +kernel) (xm_passWord hq1) (by decide) (by decide) rfl (Nat.le_of_ble_eq_true rfl) rfl ?_
  show MW l yy_X12_twoHere 2 _ _ 4 [some (.ref 137), none] [] q1
  refine MW.run rfl [(.aload_n 0, 0), (.iconst 0, 0), (.aload_n 0, 0), (.getfield 26, 0), (.iconst 1, 1)] (pc' := 11) (ls' := [some (.ref 137), none]) (st' := [.int 1, .ref 143, .int 0, .ref 137]) (T1 := q1) (by decide +kernel) rfl ?_
  obtain ⟨hi_v2, hf⟩ := bi_some hf
  obtain ⟨v2, hv2, hf⟩ := letv_some hf
  refine MW.iald 6 112 rfl (by decide) rfl (by decide +kernel) (inb_in hi_v2) ?_
  rw [← hv2]
  refine MW.run rfl [(.iconst 1, 1), (.isub, 0)] (pc' := 14) (ls' := [some (.ref 137), none]) (st' := [.int (v2 - 1), .int 0, .ref 137]) (T1 := q1) (by decide +kernel) rfl ?_
  obtain ⟨q3, hq3, hf⟩ := bd_some hf
  refine MW.callV (As := [.int 0, .int (v2 - 1)]) (st := []) lv_RX12_151 rfl (by decide +kernel) (xm_numberHere hq3) (by decide) (by decide) rfl (Nat.le_of_ble_eq_true rfl) rfl ?_
  show MW l yy_X12_twoHere 2 _ _ 17 [some (.ref 137), none] [.int (b2i q3.1)] q3.2
  refine MW.if_ne (off := 5) (tgt := 22) (by decide +kernel) (by decide) (fun c17_4 => ?_) (fun c17_4 => ?_)
  · rw [if_neg c17_4] at hf
    refine MW.run rfl [(.aload_n 0, 0), (.aload_n 0, 0), (.getfield 107, 0), (.putfield 206, 0)] (pc' := 30) (ls' := [some (.ref 137), none]) (st' := []) (T1 := mz q3.2 17 (q3.2.1 0 10)) (by decide +kernel) rfl ?_
    obtain ⟨T5, hT5, hf⟩ := letv_some hf
    rw [← hT5]
    refine MW.run rfl [(.aload_n 0, 0)] (pc' := 31) (ls' := [some (.ref 137), none]) (st' := [.ref 137]) (T1 := T5) (by decide +kernel) rfl ?_
    obtain ⟨q6, hq6, hf⟩ := bd_some hf
    refine MW.callV (As := []) (st := []) lv_RX12_85 rfl (by decide +kernel) (xm_see hq6) (by decide) (by decide) rfl (Nat.le_of_ble_eq_true rfl) rfl ?_
    show MW l yy_X12_twoHere 2 _ _ 34 [some (.ref 137), none] [.int q6.1] q6.2
    refine MW.run rfl [(.pop, 0), (.aload_n 0, 0), (.getfield 82, 0), (.istore_n 1, 0), (.aload_n 0, 0), (.iconst 0, 0), (.aload_n 0, 0), (.getfield 26, 0), (.iconst 1, 1)] (pc' := 47) (ls' := [some (.ref 137), some (.int (q6.2.1 0 8))]) (st' := [.int 1, .ref 143, .int 0, .ref 137]) (T1 := q6.2) (by decide +kernel) rfl ?_
    obtain ⟨hi_v7, hf⟩ := bi_some hf
    obtain ⟨v7, hv7, hf⟩ := letv_some hf
    refine MW.iald 6 112 rfl (by decide) rfl (by decide +kernel) (inb_in hi_v7) ?_
    rw [← hv7]
    refine MW.run rfl [(.iconst 1, 1), (.isub, 0)] (pc' := 50) (ls' := [some (.ref 137), some (.int (q6.2.1 0 8))]) (st' := [.int (v7 - 1), .int 0, .ref 137]) (T1 := q6.2) (by decide +kernel) rfl ?_
    obtain ⟨q8, hq8, hf⟩ := bd_some hf
    refine MW.callV (As := [.int 0, .int (v7 - 1)]) (st := []) lv_RX12_151 rfl (by decide +kernel) (xm_numberHere hq8) (by decide) (by decide) rfl (Nat.le_of_ble_eq_true rfl) rfl ?_
    show MW l yy_X12_twoHere 2 _ _ 53 [some (.ref 137), some (.int (q6.2.1 0 8))] [.int (b2i q8.1)] q8.2
    refine MW.if_ne (off := 5) (tgt := 58) (by decide +kernel) (by decide) (fun c53_9 => ?_) (fun c53_9 => ?_)
    · rw [if_neg c53_9] at hf
      refine MW.run rfl [(.aload_n 0, 0), (.getfield 107, 0), (.aload_n 0, 0), (.getfield 206, 0)] (pc' := 66) (ls' := [some (.ref 137), some (.int (q6.2.1 0 8))]) (st' := [.int (q8.2.1 0 17), .int (q8.2.1 0 10)]) (T1 := q8.2) (by decide +kernel) rfl ?_
      refine MW.icmp_ne (off := 12) (tgt := 78) (by decide +kernel) (by decide) (fun c66_10 => ?_) (fun c66_10 => ?_)
      · rw [if_neg c66_10] at hf
        refine MW.run rfl [(.iconst 1, 1), (.goto 4, 0)] (pc' := 83) (ls' := [some (.ref 137), some (.int (q6.2.1 0 8))]) (st' := [.int 1]) (T1 := q8.2) (by decide +kernel) rfl ?_
        have e9 := Option.some.inj hf
        subst e9
        exact MW.zret rfl (b2i_nar _) (by decide +kernel)
      · rw [if_pos c66_10] at hf
        refine MW.run rfl [(.aload_n 0, 0), (.iconst 1, 1), (.iload_n 1, 0)] (pc' := 72) (ls' := [some (.ref 137), some (.int (q6.2.1 0 8))]) (st' := [.int (q6.2.1 0 8), .int 1, .ref 137]) (T1 := q8.2) (by decide +kernel) rfl ?_
        obtain ⟨q11, hq11, hf⟩ := bd_some hf
        refine MW.callV (As := [.int 1, .int (q6.2.1 0 8)]) (st := []) lv_RX12_103 rfl (by decide +kernel) (xm_fails hq11) (by decide) (by decide) rfl (Nat.le_of_ble_eq_true rfl) rfl ?_
        show MW l yy_X12_twoHere 2 _ _ 75 [some (.ref 137), some (.int (q6.2.1 0 8))] [.int (b2i q11.1)] q11.2
        refine MW.if_eq (off := 7) (tgt := 82) (by decide +kernel) (by decide) (fun c75_12 => ?_) (fun c75_12 => ?_)
        · rw [if_pos c75_12] at hf
          refine MW.run rfl [(.iconst 0, 0)] (pc' := 83) (ls' := [some (.ref 137), some (.int (q6.2.1 0 8))]) (st' := [.int 0]) (T1 := q11.2) (by decide +kernel) rfl ?_
          have e9 := Option.some.inj hf
          subst e9
          exact MW.zret rfl (b2i_nar _) (by decide +kernel)
        · rw [if_neg c75_12] at hf
          refine MW.run rfl [(.iconst 1, 1), (.goto 4, 0)] (pc' := 83) (ls' := [some (.ref 137), some (.int (q6.2.1 0 8))]) (st' := [.int 1]) (T1 := q11.2) (by decide +kernel) rfl ?_
          have e9 := Option.some.inj hf
          subst e9
          exact MW.zret rfl (b2i_nar _) (by decide +kernel)
    · rw [if_pos c53_9] at hf
      refine MW.run rfl [(.iconst 0, 0)] (pc' := 57) (ls' := [some (.ref 137), some (.int (q6.2.1 0 8))]) (st' := [.int 0]) (T1 := q8.2) (by decide +kernel) rfl ?_
      have e9 := Option.some.inj hf
      subst e9
      exact MW.zret rfl (b2i_nar _) (by decide +kernel)
  · rw [if_pos c17_4] at hf
    refine MW.run rfl [(.iconst 0, 0)] (pc' := 21) (ls' := [some (.ref 137), none]) (st' := [.int 0]) (T1 := q3.2) (by decide +kernel) rfl ?_
    have e9 := Option.some.inj hf
    subst e9
    exact MW.zret rfl (b2i_nar _) (by decide +kernel)
def fm_isTieHere  (T : mT) : Option (Bool × mT) := (fm_twoHere T).bind fun q1 => if (b2i q1.1) = 0 then (some (false, q1.2)) else ((fm_cellHere ((40 + (8 * (q1.2.1 0 17))) + (q1.2.1 0 10)) 1 9 q1.2).bind fun q3 => if (b2i q3.1) = 0 then (some (false, q3.2)) else (some (true, q3.2)))
theorem xm_isTieHere {l : Launch}  {T : mT} {q : Bool × mT} (hf : fm_isTieHere  T = some q) : MOk l yy_X12_isTieHere 3 [] T (some (.int (b2i q.1))) q.2 := by
  refine MOk.of (ls := [some (.ref 137)]) (by decide +kernel) (Nat.le_of_ble_eq_true rfl) rfl ?_
  unfold fm_isTieHere at hf
  refine MW.run rfl [(.aload_n 0, 0)] (pc' := 1) (ls' := [some (.ref 137)]) (st' := [.ref 137]) (T1 := T) (by decide +kernel) rfl ?_
  obtain ⟨q1, hq1, hf⟩ := bd_some hf
  refine MW.callV (As := []) (st := []) lv_RX12_209 rfl (by decide +kernel) (xm_twoHere hq1) (by decide) (by decide) rfl (Nat.le_of_ble_eq_true rfl) rfl ?_
  show MW l yy_X12_isTieHere 3 _ _ 4 [some (.ref 137)] [.int (b2i q1.1)] q1.2
  refine MW.if_eq (off := 32) (tgt := 36) (by decide +kernel) (by decide) (fun c4_2 => ?_) (fun c4_2 => ?_)
  · rw [if_pos c4_2] at hf
    refine MW.run rfl [(.iconst 0, 0)] (pc' := 37) (ls' := [some (.ref 137)]) (st' := [.int 0]) (T1 := q1.2) (by decide +kernel) rfl ?_
    have e9 := Option.some.inj hf
    subst e9
    exact MW.zret rfl (b2i_nar _) (by decide +kernel)
  · rw [if_neg c4_2] at hf
    refine MW.run rfl [(.aload_n 0, 0), (.bipush 40, 40), (.bipush 8, 8), (.aload_n 0, 0), (.getfield 206, 0), (.imul, 0), (.iadd, 0), (.aload_n 0, 0), (.getfield 107, 0), (.iadd, 0), (.iconst 1, 1), (.bipush 9, 9)] (pc' := 26) (ls' := [some (.ref 137)]) (st' := [.int 9, .int 1, .int ((40 + (8 * (q1.2.1 0 17))) + (q1.2.1 0 10)), .ref 137]) (T1 := q1.2) (by decide +kernel) rfl ?_
    obtain ⟨q3, hq3, hf⟩ := bd_some hf
    refine MW.callV (As := [.int ((40 + (8 * (q1.2.1 0 17))) + (q1.2.1 0 10)), .int 1, .int 9]) (st := []) lv_RX12_202 rfl (by decide +kernel) (xm_cellHere hq3) (by decide) (by decide) rfl (Nat.le_of_ble_eq_true rfl) rfl ?_
    show MW l yy_X12_isTieHere 3 _ _ 29 [some (.ref 137)] [.int (b2i q3.1)] q3.2
    refine MW.if_eq (off := 7) (tgt := 36) (by decide +kernel) (by decide) (fun c29_4 => ?_) (fun c29_4 => ?_)
    · rw [if_pos c29_4] at hf
      refine MW.run rfl [(.iconst 0, 0)] (pc' := 37) (ls' := [some (.ref 137)]) (st' := [.int 0]) (T1 := q3.2) (by decide +kernel) rfl ?_
      have e9 := Option.some.inj hf
      subst e9
      exact MW.zret rfl (b2i_nar _) (by decide +kernel)
    · rw [if_neg c29_4] at hf
      refine MW.run rfl [(.iconst 1, 1), (.goto 4, 0)] (pc' := 37) (ls' := [some (.ref 137)]) (st' := [.int 1]) (T1 := q3.2) (by decide +kernel) rfl ?_
      have e9 := Option.some.inj hf
      subst e9
      exact MW.zret rfl (b2i_nar _) (by decide +kernel)
def fm_isBoatHere  (T : mT) : Option (Bool × mT) := (fm_twoHere T).bind fun q1 => if (b2i q1.1) = 0 then (some (false, q1.2)) else (bif inb (104 + (q1.2.1 0 17)) 112 then (letv (q1.2.1 6 ((104 + (q1.2.1 0 17)) : Int32).toNatClampNeg) fun v3 => bif inb (104 + (q1.2.1 0 17)) 112 then (letv (ma q1.2 6 ((104 + (q1.2.1 0 17)) : Int32).toNatClampNeg (v3 ||| (1 <<< ((q1.2.1 0 10) &&& 31)))) fun T4 => bif inb (104 + (T4.1 0 10)) 112 then (letv (T4.1 6 ((104 + (T4.1 0 10)) : Int32).toNatClampNeg) fun v5 => bif inb (104 + (T4.1 0 10)) 112 then (letv (ma T4 6 ((104 + (T4.1 0 10)) : Int32).toNatClampNeg (v5 ||| (1 <<< ((T4.1 0 17) &&& 31)))) fun T6 => some (true, T6)) else none) else none) else none) else none)
theorem xm_isBoatHere {l : Launch}  {T : mT} {q : Bool × mT} (hf : fm_isBoatHere  T = some q) : MOk l yy_X12_isBoatHere 3 [] T (some (.int (b2i q.1))) q.2 := by
  refine MOk.of (ls := [some (.ref 137)]) (by decide +kernel) (Nat.le_of_ble_eq_true rfl) rfl ?_
  unfold fm_isBoatHere at hf
  refine MW.run rfl [(.aload_n 0, 0)] (pc' := 1) (ls' := [some (.ref 137)]) (st' := [.ref 137]) (T1 := T) (by decide +kernel) rfl ?_
  obtain ⟨q1, hq1, hf⟩ := bd_some hf
  refine MW.callV (As := []) (st := []) lv_RX12_209 rfl (by decide +kernel) (xm_twoHere hq1) (by decide) (by decide) rfl (Nat.le_of_ble_eq_true rfl) rfl ?_
  show MW l yy_X12_isBoatHere 3 _ _ 4 [some (.ref 137)] [.int (b2i q1.1)] q1.2
  refine MW.if_ne (off := 5) (tgt := 9) (by decide +kernel) (by decide) (fun c4_2 => ?_) (fun c4_2 => ?_)
  · rw [if_neg c4_2] at hf
    refine MW.run rfl [(.aload_n 0, 0), (.getfield 26, 0), (.bipush 104, 104), (.aload_n 0, 0), (.getfield 206, 0), (.iadd, 0), (.dup2, 0)] (pc' := 21) (ls' := [some (.ref 137)]) (st' := [.int (104 + (q1.2.1 0 17)), .ref 143, .int (104 + (q1.2.1 0 17)), .ref 143]) (T1 := q1.2) (by decide +kernel) rfl ?_
    obtain ⟨hi_v3, hf⟩ := bi_some hf
    obtain ⟨v3, hv3, hf⟩ := letv_some hf
    refine MW.iald 6 112 rfl (by decide) rfl (by decide +kernel) (inb_in hi_v3) ?_
    rw [← hv3]
    refine MW.run rfl [(.iconst 1, 1), (.aload_n 0, 0), (.getfield 107, 0), (.ishl, 0), (.ior, 0)] (pc' := 29) (ls' := [some (.ref 137)]) (st' := [.int (v3 ||| (1 <<< ((q1.2.1 0 10) &&& 31))), .int (104 + (q1.2.1 0 17)), .ref 143]) (T1 := q1.2) (by decide +kernel) rfl ?_
    obtain ⟨hi_T4, hf⟩ := bi_some hf
    obtain ⟨T4, hT4, hf⟩ := letv_some hf
    refine MW.iast 6 112 rfl (by decide) (fun _ => rfl) (by decide +kernel) (inb_in hi_T4) ?_
    rw [← hT4]
    refine MW.run rfl [(.aload_n 0, 0), (.getfield 26, 0), (.bipush 104, 104), (.aload_n 0, 0), (.getfield 107, 0), (.iadd, 0), (.dup2, 0)] (pc' := 42) (ls' := [some (.ref 137)]) (st' := [.int (104 + (T4.1 0 10)), .ref 143, .int (104 + (T4.1 0 10)), .ref 143]) (T1 := T4) (by decide +kernel) rfl ?_
    obtain ⟨hi_v5, hf⟩ := bi_some hf
    obtain ⟨v5, hv5, hf⟩ := letv_some hf
    refine MW.iald 6 112 rfl (by decide) rfl (by decide +kernel) (inb_in hi_v5) ?_
    rw [← hv5]
    refine MW.run rfl [(.iconst 1, 1), (.aload_n 0, 0), (.getfield 206, 0), (.ishl, 0), (.ior, 0)] (pc' := 50) (ls' := [some (.ref 137)]) (st' := [.int (v5 ||| (1 <<< ((T4.1 0 17) &&& 31))), .int (104 + (T4.1 0 10)), .ref 143]) (T1 := T4) (by decide +kernel) rfl ?_
    obtain ⟨hi_T6, hf⟩ := bi_some hf
    obtain ⟨T6, hT6, hf⟩ := letv_some hf
    refine MW.iast 6 112 rfl (by decide) (fun _ => rfl) (by decide +kernel) (inb_in hi_T6) ?_
    rw [← hT6]
    refine MW.run rfl [(.iconst 1, 1)] (pc' := 52) (ls' := [some (.ref 137)]) (st' := [.int 1]) (T1 := T6) (by decide +kernel) rfl ?_
    have e9 := Option.some.inj hf
    subst e9
    exact MW.zret rfl (b2i_nar _) (by decide +kernel)
  · rw [if_pos c4_2] at hf
    refine MW.run rfl [(.iconst 0, 0)] (pc' := 8) (ls' := [some (.ref 137)]) (st' := [.int 0]) (T1 := q1.2) (by decide +kernel) rfl ?_
    have e9 := Option.some.inj hf
    subst e9
    exact MW.zret rfl (b2i_nar _) (by decide +kernel)
def fm_isGlassHere  (T : mT) : Option (Bool × mT) := (fm_passWord T).bind fun q1 => bif inb 1 112 then (letv (q1.1 6 (1 : Int32).toNatClampNeg) fun v2 => (fm_cellHere 3 0 (v2 - 1) q1).bind fun q3 => some (q3.1, q3.2)) else none
theorem xm_isGlassHere {l : Launch}  {T : mT} {q : Bool × mT} (hf : fm_isGlassHere  T = some q) : MOk l yy_X12_isGlassHere 3 [] T (some (.int (b2i q.1))) q.2 := by
  refine MOk.of (ls := [some (.ref 137)]) (by decide +kernel) (Nat.le_of_ble_eq_true rfl) rfl ?_
  unfold fm_isGlassHere at hf
  refine MW.run rfl [(.aload_n 0, 0)] (pc' := 1) (ls' := [some (.ref 137)]) (st' := [.ref 137]) (T1 := T) (by decide +kernel) rfl ?_
  obtain ⟨q1, hq1, hf⟩ := bd_some hf
  refine MW.callV (As := []) (st := []) lv_RX12_97 rfl (by decide +kernel) (xm_passWord hq1) (by decide) (by decide) rfl (Nat.le_of_ble_eq_true rfl) rfl ?_
  show MW l yy_X12_isGlassHere 3 _ _ 4 [some (.ref 137)] [] q1
  refine MW.run rfl [(.aload_n 0, 0), (.iconst 3, 3), (.iconst 0, 0), (.aload_n 0, 0), (.getfield 26, 0), (.iconst 1, 1)] (pc' := 12) (ls' := [some (.ref 137)]) (st' := [.int 1, .ref 143, .int 0, .int 3, .ref 137]) (T1 := q1) (by decide +kernel) rfl ?_
  obtain ⟨hi_v2, hf⟩ := bi_some hf
  obtain ⟨v2, hv2, hf⟩ := letv_some hf
  refine MW.iald 6 112 rfl (by decide) rfl (by decide +kernel) (inb_in hi_v2) ?_
  rw [← hv2]
  refine MW.run rfl [(.iconst 1, 1), (.isub, 0)] (pc' := 15) (ls' := [some (.ref 137)]) (st' := [.int (v2 - 1), .int 0, .int 3, .ref 137]) (T1 := q1) (by decide +kernel) rfl ?_
  obtain ⟨q3, hq3, hf⟩ := bd_some hf
  refine MW.callV (As := [.int 3, .int 0, .int (v2 - 1)]) (st := []) lv_RX12_202 rfl (by decide +kernel) (xm_cellHere hq3) (by decide) (by decide) rfl (Nat.le_of_ble_eq_true rfl) rfl ?_
  show MW l yy_X12_isGlassHere 3 _ _ 18 [some (.ref 137)] [.int (b2i q3.1)] q3.2
  have e9 := Option.some.inj hf
  subst e9
  exact MW.zret rfl (b2i_nar _) (by decide +kernel)
def fm_islandLineHere (p0 : Int32) (T : mT) : Option (Bool × mT) := (fm_isWord 469786323827 T).bind fun q1 => if (b2i q1.1) = 0 then (bif inb 0 112 then (letv (q1.2.1 6 (0 : Int32).toNatClampNeg) fun v3 => if v3 = 0 then ((fm_fails 4 p0 q1.2).bind fun q15 => some (q15.1, q15.2)) else ((fm_isWord 123581014175598 q1.2).bind fun q5 => if (b2i q5.1) = 0 then ((fm_isWord 7629157 q5.2).bind fun q7 => if (b2i q7.1) = 0 then ((fm_isWord 1651466612 q7.2).bind fun q9 => if (b2i q9.1) = 0 then ((fm_isGlassHere q9.2).bind fun q11 => some (q11.1, q11.2)) else ((fm_isBoatHere q9.2).bind fun q12 => some (q12.1, q12.2))) else ((fm_isTieHere q7.2).bind fun q13 => some (q13.1, q13.2))) else ((fm_isPersonHere p0 q5.2).bind fun q14 => some (q14.1, q14.2)))) else none) else ((fm_areMarksHere p0 q1.2).bind fun q16 => some (q16.1, q16.2))
theorem xm_islandLineHere {l : Launch} {p0 : Int32} {T : mT} {q : Bool × mT} (hf : fm_islandLineHere p0 T = some q) : MOk l yy_X12_islandLineHere 4 [.int p0] T (some (.int (b2i q.1))) q.2 := by
  refine MOk.of (ls := [some (.ref 137), some (.int p0)]) (by decide +kernel) (Nat.le_of_ble_eq_true rfl) rfl ?_
  unfold fm_islandLineHere at hf
  refine MW.run rfl [(.aload_n 0, 0)] (pc' := 1) (ls' := [some (.ref 137), some (.int p0)]) (st' := [.ref 137]) (T1 := T) (by decide +kernel) rfl ?_
  refine MW.ldc2 (idx := 212) (v := 469786323827) (tb_in 1188 (by decide +kernel) (by decide +kernel)) (by decide +kernel) ?_
  obtain ⟨q1, hq1, hf⟩ := bd_some hf
  refine MW.callV (As := [.long 469786323827]) (st := []) lv_RX12_93 rfl (by decide +kernel) (xm_isWord hq1) (by decide) (by decide) rfl (Nat.le_of_ble_eq_true rfl) rfl ?_
  show MW l yy_X12_islandLineHere 4 _ _ 7 [some (.ref 137), some (.int p0)] [.int (b2i q1.1)] q1.2
  refine MW.if_eq (off := 9) (tgt := 16) (by decide +kernel) (by decide) (fun c7_2 => ?_) (fun c7_2 => ?_)
  · rw [if_pos c7_2] at hf
    refine MW.run rfl [(.aload_n 0, 0), (.getfield 26, 0), (.iconst 0, 0)] (pc' := 21) (ls' := [some (.ref 137), some (.int p0)]) (st' := [.int 0, .ref 143]) (T1 := q1.2) (by decide +kernel) rfl ?_
    obtain ⟨hi_v3, hf⟩ := bi_some hf
    obtain ⟨v3, hv3, hf⟩ := letv_some hf
    refine MW.iald 6 112 rfl (by decide) rfl (by decide +kernel) (inb_in hi_v3) ?_
    rw [← hv3]
    refine MW.if_ne (off := 10) (tgt := 32) (by decide +kernel) (by decide) (fun c22_4 => ?_) (fun c22_4 => ?_)
    · rw [if_neg c22_4] at hf
      refine MW.run rfl [(.aload_n 0, 0)] (pc' := 33) (ls' := [some (.ref 137), some (.int p0)]) (st' := [.ref 137]) (T1 := q1.2) (by decide +kernel) rfl ?_
      refine MW.ldc2 (idx := 217) (v := 123581014175598) (tb_in 1197 (by decide +kernel) (by decide +kernel)) (by decide +kernel) ?_
      obtain ⟨q5, hq5, hf⟩ := bd_some hf
      refine MW.callV (As := [.long 123581014175598]) (st := []) lv_RX12_93 rfl (by decide +kernel) (xm_isWord hq5) (by decide) (by decide) rfl (Nat.le_of_ble_eq_true rfl) rfl ?_
      show MW l yy_X12_islandLineHere 4 _ _ 39 [some (.ref 137), some (.int p0)] [.int (b2i q5.1)] q5.2
      refine MW.if_eq (off := 9) (tgt := 48) (by decide +kernel) (by decide) (fun c39_6 => ?_) (fun c39_6 => ?_)
      · rw [if_pos c39_6] at hf
        refine MW.run rfl [(.aload_n 0, 0)] (pc' := 49) (ls' := [some (.ref 137), some (.int p0)]) (st' := [.ref 137]) (T1 := q5.2) (by decide +kernel) rfl ?_
        refine MW.ldc2 (idx := 124) (v := 7629157) (tb_in 1198 (by decide +kernel) (by decide +kernel)) (by decide +kernel) ?_
        obtain ⟨q7, hq7, hf⟩ := bd_some hf
        refine MW.callV (As := [.long 7629157]) (st := []) lv_RX12_93 rfl (by decide +kernel) (xm_isWord hq7) (by decide) (by decide) rfl (Nat.le_of_ble_eq_true rfl) rfl ?_
        show MW l yy_X12_islandLineHere 4 _ _ 55 [some (.ref 137), some (.int p0)] [.int (b2i q7.1)] q7.2
        refine MW.if_eq (off := 10) (tgt := 65) (by decide +kernel) (by decide) (fun c55_8 => ?_) (fun c55_8 => ?_)
        · rw [if_pos c55_8] at hf
          refine MW.run rfl [(.aload_n 0, 0)] (pc' := 66) (ls' := [some (.ref 137), some (.int p0)]) (st' := [.ref 137]) (T1 := q7.2) (by decide +kernel) rfl ?_
          refine MW.ldc2 (idx := 225) (v := 1651466612) (tb_in 1199 (by decide +kernel) (by decide +kernel)) (by decide +kernel) ?_
          obtain ⟨q9, hq9, hf⟩ := bd_some hf
          refine MW.callV (As := [.long 1651466612]) (st := []) lv_RX12_93 rfl (by decide +kernel) (xm_isWord hq9) (by decide) (by decide) rfl (Nat.le_of_ble_eq_true rfl) rfl ?_
          show MW l yy_X12_islandLineHere 4 _ _ 72 [some (.ref 137), some (.int p0)] [.int (b2i q9.1)] q9.2
          refine MW.if_eq (off := 10) (tgt := 82) (by decide +kernel) (by decide) (fun c72_10 => ?_) (fun c72_10 => ?_)
          · rw [if_pos c72_10] at hf
            refine MW.run rfl [(.aload_n 0, 0)] (pc' := 83) (ls' := [some (.ref 137), some (.int p0)]) (st' := [.ref 137]) (T1 := q9.2) (by decide +kernel) rfl ?_
            obtain ⟨q11, hq11, hf⟩ := bd_some hf
            refine MW.callV (As := []) (st := []) lv_RX12_230 rfl (by decide +kernel) (xm_isGlassHere hq11) (by decide) (by decide) rfl (Nat.le_of_ble_eq_true rfl) rfl ?_
            show MW l yy_X12_islandLineHere 4 _ _ 86 [some (.ref 137), some (.int p0)] [.int (b2i q11.1)] q11.2
            have e9 := Option.some.inj hf
            subst e9
            exact MW.zret rfl (b2i_nar _) (by decide +kernel)
          · rw [if_neg c72_10] at hf
            refine MW.run rfl [(.aload_n 0, 0)] (pc' := 76) (ls' := [some (.ref 137), some (.int p0)]) (st' := [.ref 137]) (T1 := q9.2) (by decide +kernel) rfl ?_
            obtain ⟨q12, hq12, hf⟩ := bd_some hf
            refine MW.callV (As := []) (st := []) lv_RX12_227 rfl (by decide +kernel) (xm_isBoatHere hq12) (by decide) (by decide) rfl (Nat.le_of_ble_eq_true rfl) rfl ?_
            show MW l yy_X12_islandLineHere 4 _ _ 79 [some (.ref 137), some (.int p0)] [.int (b2i q12.1)] q12.2
            refine MW.run rfl [(.goto 7, 0)] (pc' := 86) (ls' := [some (.ref 137), some (.int p0)]) (st' := [.int (b2i q12.1)]) (T1 := q12.2) (by decide +kernel) rfl ?_
            have e9 := Option.some.inj hf
            subst e9
            exact MW.zret rfl (b2i_nar _) (by decide +kernel)
        · rw [if_neg c55_8] at hf
          refine MW.run rfl [(.aload_n 0, 0)] (pc' := 59) (ls' := [some (.ref 137), some (.int p0)]) (st' := [.ref 137]) (T1 := q7.2) (by decide +kernel) rfl ?_
          obtain ⟨q13, hq13, hf⟩ := bd_some hf
          refine MW.callV (As := []) (st := []) lv_RX12_222 rfl (by decide +kernel) (xm_isTieHere hq13) (by decide) (by decide) rfl (Nat.le_of_ble_eq_true rfl) rfl ?_
          show MW l yy_X12_islandLineHere 4 _ _ 62 [some (.ref 137), some (.int p0)] [.int (b2i q13.1)] q13.2
          refine MW.run rfl [(.goto 24, 0)] (pc' := 86) (ls' := [some (.ref 137), some (.int p0)]) (st' := [.int (b2i q13.1)]) (T1 := q13.2) (by decide +kernel) rfl ?_
          have e9 := Option.some.inj hf
          subst e9
          exact MW.zret rfl (b2i_nar _) (by decide +kernel)
      · rw [if_neg c39_6] at hf
        refine MW.run rfl [(.aload_n 0, 0), (.iload_n 1, 0)] (pc' := 44) (ls' := [some (.ref 137), some (.int p0)]) (st' := [.int p0, .ref 137]) (T1 := q5.2) (by decide +kernel) rfl ?_
        obtain ⟨q14, hq14, hf⟩ := bd_some hf
        refine MW.callV (As := [.int p0]) (st := []) lv_RX12_219 rfl (by decide +kernel) (xm_isPersonHere hq14) (by decide) (by decide) rfl (Nat.le_of_ble_eq_true rfl) rfl ?_
        show MW l yy_X12_islandLineHere 4 _ _ 47 [some (.ref 137), some (.int p0)] [.int (b2i q14.1)] q14.2
        have e9 := Option.some.inj hf
        subst e9
        exact MW.zret rfl (b2i_nar _) (by decide +kernel)
    · rw [if_pos c22_4] at hf
      refine MW.run rfl [(.aload_n 0, 0), (.iconst 4, 4), (.iload_n 1, 0)] (pc' := 28) (ls' := [some (.ref 137), some (.int p0)]) (st' := [.int p0, .int 4, .ref 137]) (T1 := q1.2) (by decide +kernel) rfl ?_
      obtain ⟨q15, hq15, hf⟩ := bd_some hf
      refine MW.callV (As := [.int 4, .int p0]) (st := []) lv_RX12_103 rfl (by decide +kernel) (xm_fails hq15) (by decide) (by decide) rfl (Nat.le_of_ble_eq_true rfl) rfl ?_
      show MW l yy_X12_islandLineHere 4 _ _ 31 [some (.ref 137), some (.int p0)] [.int (b2i q15.1)] q15.2
      have e9 := Option.some.inj hf
      subst e9
      exact MW.zret rfl (b2i_nar _) (by decide +kernel)
  · rw [if_neg c7_2] at hf
    refine MW.run rfl [(.aload_n 0, 0), (.iload_n 1, 0)] (pc' := 12) (ls' := [some (.ref 137), some (.int p0)]) (st' := [.int p0, .ref 137]) (T1 := q1.2) (by decide +kernel) rfl ?_
    obtain ⟨q16, hq16, hf⟩ := bd_some hf
    refine MW.callV (As := [.int p0]) (st := []) lv_RX12_214 rfl (by decide +kernel) (xm_areMarksHere hq16) (by decide) (by decide) rfl (Nat.le_of_ble_eq_true rfl) rfl ?_
    show MW l yy_X12_islandLineHere 4 _ _ 15 [some (.ref 137), some (.int p0)] [.int (b2i q16.1)] q16.2
    have e9 := Option.some.inj hf
    subst e9
    exact MW.zret rfl (b2i_nar _) (by decide +kernel)
def fm_isIslandWord  (T : mT) : Option (Bool × mT) := (fm_isWord 469786323827 T).bind fun q1 => if (b2i q1.1) = 0 then ((fm_isWord 123581014175598 q1.2).bind fun q3 => if (b2i q3.1) = 0 then ((fm_isWord 7629157 q3.2).bind fun q5 => if (b2i q5.1) = 0 then ((fm_isWord 1651466612 q5.2).bind fun q7 => if (b2i q7.1) = 0 then ((fm_isWord 444199957363 q7.2).bind fun q9 => if (b2i q9.1) = 0 then (some (false, q9.2)) else (some (true, q9.2))) else (some (true, q7.2))) else (some (true, q5.2))) else (some (true, q3.2))) else (some (true, q1.2))
theorem xm_isIslandWord {l : Launch}  {T : mT} {q : Bool × mT} (hf : fm_isIslandWord  T = some q) : MOk l yy_X12_isIslandWord 2 [] T (some (.int (b2i q.1))) q.2 := by
  refine MOk.of (ls := [some (.ref 137)]) (by decide +kernel) (Nat.le_of_ble_eq_true rfl) rfl ?_
  unfold fm_isIslandWord at hf
  refine MW.run rfl [(.aload_n 0, 0)] (pc' := 1) (ls' := [some (.ref 137)]) (st' := [.ref 137]) (T1 := T) (by decide +kernel) rfl ?_
  refine MW.ldc2 (idx := 212) (v := 469786323827) (tb_in 1188 (by decide +kernel) (by decide +kernel)) (by decide +kernel) ?_
  obtain ⟨q1, hq1, hf⟩ := bd_some hf
  refine MW.callV (As := [.long 469786323827]) (st := []) lv_RX12_93 rfl (by decide +kernel) (xm_isWord hq1) (by decide) (by decide) rfl (Nat.le_of_ble_eq_true rfl) rfl ?_
  show MW l yy_X12_isIslandWord 2 _ _ 7 [some (.ref 137)] [.int (b2i q1.1)] q1.2
  refine MW.if_ne (off := 43) (tgt := 50) (by decide +kernel) (by decide) (fun c7_2 => ?_) (fun c7_2 => ?_)
  · rw [if_neg c7_2] at hf
    refine MW.run rfl [(.iconst 1, 1), (.goto 4, 0)] (pc' := 55) (ls' := [some (.ref 137)]) (st' := [.int 1]) (T1 := q1.2) (by decide +kernel) rfl ?_
    have e9 := Option.some.inj hf
    subst e9
    exact MW.zret rfl (b2i_nar _) (by decide +kernel)
  · rw [if_pos c7_2] at hf
    refine MW.run rfl [(.aload_n 0, 0)] (pc' := 11) (ls' := [some (.ref 137)]) (st' := [.ref 137]) (T1 := q1.2) (by decide +kernel) rfl ?_
    refine MW.ldc2 (idx := 217) (v := 123581014175598) (tb_in 1197 (by decide +kernel) (by decide +kernel)) (by decide +kernel) ?_
    obtain ⟨q3, hq3, hf⟩ := bd_some hf
    refine MW.callV (As := [.long 123581014175598]) (st := []) lv_RX12_93 rfl (by decide +kernel) (xm_isWord hq3) (by decide) (by decide) rfl (Nat.le_of_ble_eq_true rfl) rfl ?_
    show MW l yy_X12_isIslandWord 2 _ _ 17 [some (.ref 137)] [.int (b2i q3.1)] q3.2
    refine MW.if_ne (off := 33) (tgt := 50) (by decide +kernel) (by decide) (fun c17_4 => ?_) (fun c17_4 => ?_)
    · rw [if_neg c17_4] at hf
      refine MW.run rfl [(.iconst 1, 1), (.goto 4, 0)] (pc' := 55) (ls' := [some (.ref 137)]) (st' := [.int 1]) (T1 := q3.2) (by decide +kernel) rfl ?_
      have e9 := Option.some.inj hf
      subst e9
      exact MW.zret rfl (b2i_nar _) (by decide +kernel)
    · rw [if_pos c17_4] at hf
      refine MW.run rfl [(.aload_n 0, 0)] (pc' := 21) (ls' := [some (.ref 137)]) (st' := [.ref 137]) (T1 := q3.2) (by decide +kernel) rfl ?_
      refine MW.ldc2 (idx := 124) (v := 7629157) (tb_in 1198 (by decide +kernel) (by decide +kernel)) (by decide +kernel) ?_
      obtain ⟨q5, hq5, hf⟩ := bd_some hf
      refine MW.callV (As := [.long 7629157]) (st := []) lv_RX12_93 rfl (by decide +kernel) (xm_isWord hq5) (by decide) (by decide) rfl (Nat.le_of_ble_eq_true rfl) rfl ?_
      show MW l yy_X12_isIslandWord 2 _ _ 27 [some (.ref 137)] [.int (b2i q5.1)] q5.2
      refine MW.if_ne (off := 23) (tgt := 50) (by decide +kernel) (by decide) (fun c27_6 => ?_) (fun c27_6 => ?_)
      · rw [if_neg c27_6] at hf
        refine MW.run rfl [(.iconst 1, 1), (.goto 4, 0)] (pc' := 55) (ls' := [some (.ref 137)]) (st' := [.int 1]) (T1 := q5.2) (by decide +kernel) rfl ?_
        have e9 := Option.some.inj hf
        subst e9
        exact MW.zret rfl (b2i_nar _) (by decide +kernel)
      · rw [if_pos c27_6] at hf
        refine MW.run rfl [(.aload_n 0, 0)] (pc' := 31) (ls' := [some (.ref 137)]) (st' := [.ref 137]) (T1 := q5.2) (by decide +kernel) rfl ?_
        refine MW.ldc2 (idx := 225) (v := 1651466612) (tb_in 1199 (by decide +kernel) (by decide +kernel)) (by decide +kernel) ?_
        obtain ⟨q7, hq7, hf⟩ := bd_some hf
        refine MW.callV (As := [.long 1651466612]) (st := []) lv_RX12_93 rfl (by decide +kernel) (xm_isWord hq7) (by decide) (by decide) rfl (Nat.le_of_ble_eq_true rfl) rfl ?_
        show MW l yy_X12_isIslandWord 2 _ _ 37 [some (.ref 137)] [.int (b2i q7.1)] q7.2
        refine MW.if_ne (off := 13) (tgt := 50) (by decide +kernel) (by decide) (fun c37_8 => ?_) (fun c37_8 => ?_)
        · rw [if_neg c37_8] at hf
          refine MW.run rfl [(.iconst 1, 1), (.goto 4, 0)] (pc' := 55) (ls' := [some (.ref 137)]) (st' := [.int 1]) (T1 := q7.2) (by decide +kernel) rfl ?_
          have e9 := Option.some.inj hf
          subst e9
          exact MW.zret rfl (b2i_nar _) (by decide +kernel)
        · rw [if_pos c37_8] at hf
          refine MW.run rfl [(.aload_n 0, 0)] (pc' := 41) (ls' := [some (.ref 137)]) (st' := [.ref 137]) (T1 := q7.2) (by decide +kernel) rfl ?_
          refine MW.ldc2 (idx := 233) (v := 444199957363) (tb_in 1200 (by decide +kernel) (by decide +kernel)) (by decide +kernel) ?_
          obtain ⟨q9, hq9, hf⟩ := bd_some hf
          refine MW.callV (As := [.long 444199957363]) (st := []) lv_RX12_93 rfl (by decide +kernel) (xm_isWord hq9) (by decide) (by decide) rfl (Nat.le_of_ble_eq_true rfl) rfl ?_
          show MW l yy_X12_isIslandWord 2 _ _ 47 [some (.ref 137)] [.int (b2i q9.1)] q9.2
          refine MW.if_eq (off := 7) (tgt := 54) (by decide +kernel) (by decide) (fun c47_10 => ?_) (fun c47_10 => ?_)
          · rw [if_pos c47_10] at hf
            refine MW.run rfl [(.iconst 0, 0)] (pc' := 55) (ls' := [some (.ref 137)]) (st' := [.int 0]) (T1 := q9.2) (by decide +kernel) rfl ?_
            have e9 := Option.some.inj hf
            subst e9
            exact MW.zret rfl (b2i_nar _) (by decide +kernel)
          · rw [if_neg c47_10] at hf
            refine MW.run rfl [(.iconst 1, 1), (.goto 4, 0)] (pc' := 55) (ls' := [some (.ref 137)]) (st' := [.int 1]) (T1 := q9.2) (by decide +kernel) rfl ?_
            have e9 := Option.some.inj hf
            subst e9
            exact MW.zret rfl (b2i_nar _) (by decide +kernel)
def fm_clauseHere  (T : mT) : Option (Bool × mT) := (fm_see T).bind fun q1 => Option.bind (if (q1.2.1 0 11) = 6 then (some (1)) else (some (0)) : Option (Int32)) fun w2 => if w2 = 0 then ((fm_isWord 1952803948 q1.2).bind fun q5 => if (b2i q5.1) = 0 then ((fm_isWord 512802514792 q5.2).bind fun q18 => if (b2i q18.1) = 0 then ((fm_fails 0 (q1.2.1 0 8) q18.2).bind fun q31 => some (q31.1, q31.2)) else (Option.bind (if w2 = 0 then (some (12)) else (some (40)) : Option (Int32)) fun w20 => if (q18.2.1 0 14) = w20 then ((fm_fails 4 (q1.2.1 0 8) q18.2).bind fun q30 => some (q30.1, q30.2)) else (letv (mz q18.2 14 ((q18.2.1 0 14) + 1)) fun T23 => if w2 = 0 then ((fm_isWord 1952803948 T23).bind fun q25 => if (b2i q25.1) = 0 then ((fm_isDoingHere 1 q25.2).bind fun q27 => some (q27.1, q27.2)) else ((fm_isDoingHere 0 q25.2).bind fun q28 => some (q28.1, q28.2))) else ((fm_islandLineHere (q1.2.1 0 8) T23).bind fun q29 => some (q29.1, q29.2))))) else (Option.bind (if w2 = 0 then (some (12)) else (some (40)) : Option (Int32)) fun w7 => if (q5.2.1 0 14) = w7 then ((fm_fails 4 (q1.2.1 0 8) q5.2).bind fun q17 => some (q17.1, q17.2)) else (letv (mz q5.2 14 ((q5.2.1 0 14) + 1)) fun T10 => if w2 = 0 then ((fm_isWord 1952803948 T10).bind fun q12 => if (b2i q12.1) = 0 then ((fm_isDoingHere 1 q12.2).bind fun q14 => some (q14.1, q14.2)) else ((fm_isDoingHere 0 q12.2).bind fun q15 => some (q15.1, q15.2))) else ((fm_islandLineHere (q1.2.1 0 8) T10).bind fun q16 => some (q16.1, q16.2))))) else ((fm_isIslandWord q1.2).bind fun q32 => if (b2i q32.1) = 0 then ((fm_fails 0 (q1.2.1 0 8) q32.2).bind fun q45 => some (q45.1, q45.2)) else (Option.bind (if w2 = 0 then (some (12)) else (some (40)) : Option (Int32)) fun w34 => if (q32.2.1 0 14) = w34 then ((fm_fails 4 (q1.2.1 0 8) q32.2).bind fun q44 => some (q44.1, q44.2)) else (letv (mz q32.2 14 ((q32.2.1 0 14) + 1)) fun T37 => if w2 = 0 then ((fm_isWord 1952803948 T37).bind fun q39 => if (b2i q39.1) = 0 then ((fm_isDoingHere 1 q39.2).bind fun q41 => some (q41.1, q41.2)) else ((fm_isDoingHere 0 q39.2).bind fun q42 => some (q42.1, q42.2))) else ((fm_islandLineHere (q1.2.1 0 8) T37).bind fun q43 => some (q43.1, q43.2)))))
theorem xm_clauseHere {l : Launch}  {T : mT} {q : Bool × mT} (hf : fm_clauseHere  T = some q) : MOk l yy_X12_clauseHere 10 [] T (some (.int (b2i q.1))) q.2 := by
  refine MOk.of (ls := [some (.ref 137), none, none]) (by decide +kernel) (Nat.le_of_ble_eq_true rfl) rfl ?_
  unfold fm_clauseHere at hf
  refine MW.run rfl [(.aload_n 0, 0)] (pc' := 1) (ls' := [some (.ref 137), none, none]) (st' := [.ref 137]) (T1 := T) (by decide +kernel) rfl ?_
  obtain ⟨q1, hq1, hf⟩ := bd_some hf
  refine MW.callV (As := []) (st := []) lv_RX12_85 rfl (by decide +kernel) (xm_see hq1) (by decide) (by decide) rfl (Nat.le_of_ble_eq_true rfl) rfl ?_
  show MW l yy_X12_clauseHere 10 _ _ 4 [some (.ref 137), none, none] [.int q1.1] q1.2
  refine MW.run rfl [(.pop, 0), (.aload_n 0, 0), (.getfield 82, 0), (.istore_n 1, 0), (.aload_n 0, 0), (.getfield 130, 0), (.bipush 6, 6)] (pc' := 16) (ls' := [some (.ref 137), some (.int (q1.2.1 0 8)), none]) (st' := [.int 6, .int (q1.2.1 0 11)]) (T1 := q1.2) (by decide +kernel) rfl ?_
  obtain ⟨w2, hw2, hf⟩ := bd_some hf
  have hJ : MW l yy_X12_clauseHere 10 (some (.int (b2i q.1))) q.2 24 [some (.ref 137), some (.int (q1.2.1 0 8)), none] [.int w2] q1.2 := by
    refine MW.run rfl [(.istore_n 2, 0), (.iload_n 2, 0)] (pc' := 26) (ls' := [some (.ref 137), some (.int (q1.2.1 0 8)), some (.int w2)]) (st' := [.int w2]) (T1 := q1.2) (by decide +kernel) rfl ?_
    refine MW.if_eq (off := 13) (tgt := 39) (by decide +kernel) (by decide) (fun c26_4 => ?_) (fun c26_4 => ?_)
    · rw [if_pos c26_4] at hf
      refine MW.run rfl [(.aload_n 0, 0)] (pc' := 40) (ls' := [some (.ref 137), some (.int (q1.2.1 0 8)), some (.int w2)]) (st' := [.ref 137]) (T1 := q1.2) (by decide +kernel) rfl ?_
      refine MW.ldc2 (idx := 238) (v := 1952803948) (tb_in 1201 (by decide +kernel) (by decide +kernel)) (by decide +kernel) ?_
      obtain ⟨q5, hq5, hf⟩ := bd_some hf
      refine MW.callV (As := [.long 1952803948]) (st := []) lv_RX12_93 rfl (by decide +kernel) (xm_isWord hq5) (by decide) (by decide) rfl (Nat.le_of_ble_eq_true rfl) rfl ?_
      show MW l yy_X12_clauseHere 10 _ _ 46 [some (.ref 137), some (.int (q1.2.1 0 8)), some (.int w2)] [.int (b2i q5.1)] q5.2
      refine MW.if_ne (off := 20) (tgt := 66) (by decide +kernel) (by decide) (fun c46_6 => ?_) (fun c46_6 => ?_)
      · rw [if_neg c46_6] at hf
        refine MW.run rfl [(.aload_n 0, 0), (.getfield 242, 0), (.iload_n 2, 0)] (pc' := 71) (ls' := [some (.ref 137), some (.int (q1.2.1 0 8)), some (.int w2)]) (st' := [.int w2, .int (q5.2.1 0 14)]) (T1 := q5.2) (by decide +kernel) rfl ?_
        obtain ⟨w7, hw7, hf⟩ := bd_some hf
        have hJ : MW l yy_X12_clauseHere 10 (some (.int (b2i q.1))) q.2 81 [some (.ref 137), some (.int (q1.2.1 0 8)), some (.int w2)] [.int w7, .int (q5.2.1 0 14)] q5.2 := by
          refine MW.icmp_ne (off := 10) (tgt := 91) (by decide +kernel) (by decide) (fun c81_9 => ?_) (fun c81_9 => ?_)
          · rw [if_neg c81_9] at hf
            refine MW.run rfl [(.aload_n 0, 0), (.dup, 0), (.getfield 242, 0), (.iconst 1, 1), (.iadd, 0), (.putfield 242, 0)] (pc' := 101) (ls' := [some (.ref 137), some (.int (q1.2.1 0 8)), some (.int w2)]) (st' := []) (T1 := mz q5.2 14 ((q5.2.1 0 14) + 1)) (by decide +kernel) rfl ?_
            obtain ⟨T10, hT10, hf⟩ := letv_some hf
            rw [← hT10]
            refine MW.run rfl [(.iload_n 2, 0)] (pc' := 102) (ls' := [some (.ref 137), some (.int (q1.2.1 0 8)), some (.int w2)]) (st' := [.int w2]) (T1 := T10) (by decide +kernel) rfl ?_
            refine MW.if_eq (off := 11) (tgt := 113) (by decide +kernel) (by decide) (fun c102_11 => ?_) (fun c102_11 => ?_)
            · rw [if_pos c102_11] at hf
              refine MW.run rfl [(.aload_n 0, 0), (.aload_n 0, 0)] (pc' := 115) (ls' := [some (.ref 137), some (.int (q1.2.1 0 8)), some (.int w2)]) (st' := [.ref 137, .ref 137]) (T1 := T10) (by decide +kernel) rfl ?_
              refine MW.ldc2 (idx := 238) (v := 1952803948) (tb_in 1201 (by decide +kernel) (by decide +kernel)) (by decide +kernel) ?_
              obtain ⟨q12, hq12, hf⟩ := bd_some hf
              refine MW.callV (As := [.long 1952803948]) (st := [.ref 137]) lv_RX12_93 rfl (by decide +kernel) (xm_isWord hq12) (by decide) (by decide) rfl (Nat.le_of_ble_eq_true rfl) rfl ?_
              show MW l yy_X12_clauseHere 10 _ _ 121 [some (.ref 137), some (.int (q1.2.1 0 8)), some (.int w2)] [.int (b2i q12.1), .ref 137] q12.2
              refine MW.if_eq (off := 7) (tgt := 128) (by decide +kernel) (by decide) (fun c121_13 => ?_) (fun c121_13 => ?_)
              · rw [if_pos c121_13] at hf
                refine MW.run rfl [(.iconst 1, 1)] (pc' := 129) (ls' := [some (.ref 137), some (.int (q1.2.1 0 8)), some (.int w2)]) (st' := [.int 1, .ref 137]) (T1 := q12.2) (by decide +kernel) rfl ?_
                obtain ⟨q14, hq14, hf⟩ := bd_some hf
                refine MW.callV (As := [.int 1]) (st := []) lv_RX12_248 rfl (by decide +kernel) (xm_isDoingHere hq14) (by decide) (by decide) rfl (Nat.le_of_ble_eq_true rfl) rfl ?_
                show MW l yy_X12_clauseHere 10 _ _ 132 [some (.ref 137), some (.int (q1.2.1 0 8)), some (.int w2)] [.int (b2i q14.1)] q14.2
                have e9 := Option.some.inj hf
                subst e9
                exact MW.zret rfl (b2i_nar _) (by decide +kernel)
              · rw [if_neg c121_13] at hf
                refine MW.run rfl [(.iconst 0, 0), (.goto 4, 0)] (pc' := 129) (ls' := [some (.ref 137), some (.int (q1.2.1 0 8)), some (.int w2)]) (st' := [.int 0, .ref 137]) (T1 := q12.2) (by decide +kernel) rfl ?_
                obtain ⟨q15, hq15, hf⟩ := bd_some hf
                refine MW.callV (As := [.int 0]) (st := []) lv_RX12_248 rfl (by decide +kernel) (xm_isDoingHere hq15) (by decide) (by decide) rfl (Nat.le_of_ble_eq_true rfl) rfl ?_
                show MW l yy_X12_clauseHere 10 _ _ 132 [some (.ref 137), some (.int (q1.2.1 0 8)), some (.int w2)] [.int (b2i q15.1)] q15.2
                have e9 := Option.some.inj hf
                subst e9
                exact MW.zret rfl (b2i_nar _) (by decide +kernel)
            · rw [if_neg c102_11] at hf
              refine MW.run rfl [(.aload_n 0, 0), (.iload_n 1, 0)] (pc' := 107) (ls' := [some (.ref 137), some (.int (q1.2.1 0 8)), some (.int w2)]) (st' := [.int (q1.2.1 0 8), .ref 137]) (T1 := T10) (by decide +kernel) rfl ?_
              obtain ⟨q16, hq16, hf⟩ := bd_some hf
              refine MW.callV (As := [.int (q1.2.1 0 8)]) (st := []) lv_RX12_245 rfl (by decide +kernel) (xm_islandLineHere hq16) (by decide) (by decide) rfl (Nat.le_of_ble_eq_true rfl) rfl ?_
              show MW l yy_X12_clauseHere 10 _ _ 110 [some (.ref 137), some (.int (q1.2.1 0 8)), some (.int w2)] [.int (b2i q16.1)] q16.2
              refine MW.run rfl [(.goto 22, 0)] (pc' := 132) (ls' := [some (.ref 137), some (.int (q1.2.1 0 8)), some (.int w2)]) (st' := [.int (b2i q16.1)]) (T1 := q16.2) (by decide +kernel) rfl ?_
              have e9 := Option.some.inj hf
              subst e9
              exact MW.zret rfl (b2i_nar _) (by decide +kernel)
          · rw [if_pos c81_9] at hf
            refine MW.run rfl [(.aload_n 0, 0), (.iconst 4, 4), (.iload_n 1, 0)] (pc' := 87) (ls' := [some (.ref 137), some (.int (q1.2.1 0 8)), some (.int w2)]) (st' := [.int (q1.2.1 0 8), .int 4, .ref 137]) (T1 := q5.2) (by decide +kernel) rfl ?_
            obtain ⟨q17, hq17, hf⟩ := bd_some hf
            refine MW.callV (As := [.int 4, .int (q1.2.1 0 8)]) (st := []) lv_RX12_103 rfl (by decide +kernel) (xm_fails hq17) (by decide) (by decide) rfl (Nat.le_of_ble_eq_true rfl) rfl ?_
            show MW l yy_X12_clauseHere 10 _ _ 90 [some (.ref 137), some (.int (q1.2.1 0 8)), some (.int w2)] [.int (b2i q17.1)] q17.2
            have e9 := Option.some.inj hf
            subst e9
            exact MW.zret rfl (b2i_nar _) (by decide +kernel)
        clear hf
        refine MW.if_eq (off := 8) (tgt := 79) (by decide +kernel) (by decide) (fun c71_8 => ?_) (fun c71_8 => ?_)
        · rw [if_pos c71_8] at hw7
          refine MW.run rfl [(.bipush 12, 12)] (pc' := 81) (ls' := [some (.ref 137), some (.int (q1.2.1 0 8)), some (.int w2)]) (st' := [.int 12, .int (q5.2.1 0 14)]) (T1 := q5.2) (by decide +kernel) rfl ?_
          have e9 := Option.some.inj hw7
          subst e9
          exact hJ
        · rw [if_neg c71_8] at hw7
          refine MW.run rfl [(.bipush 40, 40), (.goto 5, 0)] (pc' := 81) (ls' := [some (.ref 137), some (.int (q1.2.1 0 8)), some (.int w2)]) (st' := [.int 40, .int (q5.2.1 0 14)]) (T1 := q5.2) (by decide +kernel) rfl ?_
          have e9 := Option.some.inj hw7
          subst e9
          exact hJ
      · rw [if_pos c46_6] at hf
        refine MW.run rfl [(.aload_n 0, 0)] (pc' := 50) (ls' := [some (.ref 137), some (.int (q1.2.1 0 8)), some (.int w2)]) (st' := [.ref 137]) (T1 := q5.2) (by decide +kernel) rfl ?_
        refine MW.ldc2 (idx := 240) (v := 512802514792) (tb_in 1202 (by decide +kernel) (by decide +kernel)) (by decide +kernel) ?_
        obtain ⟨q18, hq18, hf⟩ := bd_some hf
        refine MW.callV (As := [.long 512802514792]) (st := []) lv_RX12_93 rfl (by decide +kernel) (xm_isWord hq18) (by decide) (by decide) rfl (Nat.le_of_ble_eq_true rfl) rfl ?_
        show MW l yy_X12_clauseHere 10 _ _ 56 [some (.ref 137), some (.int (q1.2.1 0 8)), some (.int w2)] [.int (b2i q18.1)] q18.2
        refine MW.if_ne (off := 10) (tgt := 66) (by decide +kernel) (by decide) (fun c56_19 => ?_) (fun c56_19 => ?_)
        · rw [if_neg c56_19] at hf
          refine MW.run rfl [(.aload_n 0, 0), (.getfield 242, 0), (.iload_n 2, 0)] (pc' := 71) (ls' := [some (.ref 137), some (.int (q1.2.1 0 8)), some (.int w2)]) (st' := [.int w2, .int (q18.2.1 0 14)]) (T1 := q18.2) (by decide +kernel) rfl ?_
          obtain ⟨w20, hw20, hf⟩ := bd_some hf
          have hJ : MW l yy_X12_clauseHere 10 (some (.int (b2i q.1))) q.2 81 [some (.ref 137), some (.int (q1.2.1 0 8)), some (.int w2)] [.int w20, .int (q18.2.1 0 14)] q18.2 := by
            refine MW.icmp_ne (off := 10) (tgt := 91) (by decide +kernel) (by decide) (fun c81_22 => ?_) (fun c81_22 => ?_)
            · rw [if_neg c81_22] at hf
              refine MW.run rfl [(.aload_n 0, 0), (.dup, 0), (.getfield 242, 0), (.iconst 1, 1), (.iadd, 0), (.putfield 242, 0)] (pc' := 101) (ls' := [some (.ref 137), some (.int (q1.2.1 0 8)), some (.int w2)]) (st' := []) (T1 := mz q18.2 14 ((q18.2.1 0 14) + 1)) (by decide +kernel) rfl ?_
              obtain ⟨T23, hT23, hf⟩ := letv_some hf
              rw [← hT23]
              refine MW.run rfl [(.iload_n 2, 0)] (pc' := 102) (ls' := [some (.ref 137), some (.int (q1.2.1 0 8)), some (.int w2)]) (st' := [.int w2]) (T1 := T23) (by decide +kernel) rfl ?_
              refine MW.if_eq (off := 11) (tgt := 113) (by decide +kernel) (by decide) (fun c102_24 => ?_) (fun c102_24 => ?_)
              · rw [if_pos c102_24] at hf
                refine MW.run rfl [(.aload_n 0, 0), (.aload_n 0, 0)] (pc' := 115) (ls' := [some (.ref 137), some (.int (q1.2.1 0 8)), some (.int w2)]) (st' := [.ref 137, .ref 137]) (T1 := T23) (by decide +kernel) rfl ?_
                refine MW.ldc2 (idx := 238) (v := 1952803948) (tb_in 1201 (by decide +kernel) (by decide +kernel)) (by decide +kernel) ?_
                obtain ⟨q25, hq25, hf⟩ := bd_some hf
                refine MW.callV (As := [.long 1952803948]) (st := [.ref 137]) lv_RX12_93 rfl (by decide +kernel) (xm_isWord hq25) (by decide) (by decide) rfl (Nat.le_of_ble_eq_true rfl) rfl ?_
                show MW l yy_X12_clauseHere 10 _ _ 121 [some (.ref 137), some (.int (q1.2.1 0 8)), some (.int w2)] [.int (b2i q25.1), .ref 137] q25.2
                refine MW.if_eq (off := 7) (tgt := 128) (by decide +kernel) (by decide) (fun c121_26 => ?_) (fun c121_26 => ?_)
                · rw [if_pos c121_26] at hf
                  refine MW.run rfl [(.iconst 1, 1)] (pc' := 129) (ls' := [some (.ref 137), some (.int (q1.2.1 0 8)), some (.int w2)]) (st' := [.int 1, .ref 137]) (T1 := q25.2) (by decide +kernel) rfl ?_
                  obtain ⟨q27, hq27, hf⟩ := bd_some hf
                  refine MW.callV (As := [.int 1]) (st := []) lv_RX12_248 rfl (by decide +kernel) (xm_isDoingHere hq27) (by decide) (by decide) rfl (Nat.le_of_ble_eq_true rfl) rfl ?_
                  show MW l yy_X12_clauseHere 10 _ _ 132 [some (.ref 137), some (.int (q1.2.1 0 8)), some (.int w2)] [.int (b2i q27.1)] q27.2
                  have e9 := Option.some.inj hf
                  subst e9
                  exact MW.zret rfl (b2i_nar _) (by decide +kernel)
                · rw [if_neg c121_26] at hf
                  refine MW.run rfl [(.iconst 0, 0), (.goto 4, 0)] (pc' := 129) (ls' := [some (.ref 137), some (.int (q1.2.1 0 8)), some (.int w2)]) (st' := [.int 0, .ref 137]) (T1 := q25.2) (by decide +kernel) rfl ?_
                  obtain ⟨q28, hq28, hf⟩ := bd_some hf
                  refine MW.callV (As := [.int 0]) (st := []) lv_RX12_248 rfl (by decide +kernel) (xm_isDoingHere hq28) (by decide) (by decide) rfl (Nat.le_of_ble_eq_true rfl) rfl ?_
                  show MW l yy_X12_clauseHere 10 _ _ 132 [some (.ref 137), some (.int (q1.2.1 0 8)), some (.int w2)] [.int (b2i q28.1)] q28.2
                  have e9 := Option.some.inj hf
                  subst e9
                  exact MW.zret rfl (b2i_nar _) (by decide +kernel)
              · rw [if_neg c102_24] at hf
                refine MW.run rfl [(.aload_n 0, 0), (.iload_n 1, 0)] (pc' := 107) (ls' := [some (.ref 137), some (.int (q1.2.1 0 8)), some (.int w2)]) (st' := [.int (q1.2.1 0 8), .ref 137]) (T1 := T23) (by decide +kernel) rfl ?_
                obtain ⟨q29, hq29, hf⟩ := bd_some hf
                refine MW.callV (As := [.int (q1.2.1 0 8)]) (st := []) lv_RX12_245 rfl (by decide +kernel) (xm_islandLineHere hq29) (by decide) (by decide) rfl (Nat.le_of_ble_eq_true rfl) rfl ?_
                show MW l yy_X12_clauseHere 10 _ _ 110 [some (.ref 137), some (.int (q1.2.1 0 8)), some (.int w2)] [.int (b2i q29.1)] q29.2
                refine MW.run rfl [(.goto 22, 0)] (pc' := 132) (ls' := [some (.ref 137), some (.int (q1.2.1 0 8)), some (.int w2)]) (st' := [.int (b2i q29.1)]) (T1 := q29.2) (by decide +kernel) rfl ?_
                have e9 := Option.some.inj hf
                subst e9
                exact MW.zret rfl (b2i_nar _) (by decide +kernel)
            · rw [if_pos c81_22] at hf
              refine MW.run rfl [(.aload_n 0, 0), (.iconst 4, 4), (.iload_n 1, 0)] (pc' := 87) (ls' := [some (.ref 137), some (.int (q1.2.1 0 8)), some (.int w2)]) (st' := [.int (q1.2.1 0 8), .int 4, .ref 137]) (T1 := q18.2) (by decide +kernel) rfl ?_
              obtain ⟨q30, hq30, hf⟩ := bd_some hf
              refine MW.callV (As := [.int 4, .int (q1.2.1 0 8)]) (st := []) lv_RX12_103 rfl (by decide +kernel) (xm_fails hq30) (by decide) (by decide) rfl (Nat.le_of_ble_eq_true rfl) rfl ?_
              show MW l yy_X12_clauseHere 10 _ _ 90 [some (.ref 137), some (.int (q1.2.1 0 8)), some (.int w2)] [.int (b2i q30.1)] q30.2
              have e9 := Option.some.inj hf
              subst e9
              exact MW.zret rfl (b2i_nar _) (by decide +kernel)
          clear hf
          refine MW.if_eq (off := 8) (tgt := 79) (by decide +kernel) (by decide) (fun c71_21 => ?_) (fun c71_21 => ?_)
          · rw [if_pos c71_21] at hw20
            refine MW.run rfl [(.bipush 12, 12)] (pc' := 81) (ls' := [some (.ref 137), some (.int (q1.2.1 0 8)), some (.int w2)]) (st' := [.int 12, .int (q18.2.1 0 14)]) (T1 := q18.2) (by decide +kernel) rfl ?_
            have e9 := Option.some.inj hw20
            subst e9
            exact hJ
          · rw [if_neg c71_21] at hw20
            refine MW.run rfl [(.bipush 40, 40), (.goto 5, 0)] (pc' := 81) (ls' := [some (.ref 137), some (.int (q1.2.1 0 8)), some (.int w2)]) (st' := [.int 40, .int (q18.2.1 0 14)]) (T1 := q18.2) (by decide +kernel) rfl ?_
            have e9 := Option.some.inj hw20
            subst e9
            exact hJ
        · rw [if_pos c56_19] at hf
          refine MW.run rfl [(.aload_n 0, 0), (.iconst 0, 0), (.iload_n 1, 0)] (pc' := 62) (ls' := [some (.ref 137), some (.int (q1.2.1 0 8)), some (.int w2)]) (st' := [.int (q1.2.1 0 8), .int 0, .ref 137]) (T1 := q18.2) (by decide +kernel) rfl ?_
          obtain ⟨q31, hq31, hf⟩ := bd_some hf
          refine MW.callV (As := [.int 0, .int (q1.2.1 0 8)]) (st := []) lv_RX12_103 rfl (by decide +kernel) (xm_fails hq31) (by decide) (by decide) rfl (Nat.le_of_ble_eq_true rfl) rfl ?_
          show MW l yy_X12_clauseHere 10 _ _ 65 [some (.ref 137), some (.int (q1.2.1 0 8)), some (.int w2)] [.int (b2i q31.1)] q31.2
          have e9 := Option.some.inj hf
          subst e9
          exact MW.zret rfl (b2i_nar _) (by decide +kernel)
    · rw [if_neg c26_4] at hf
      refine MW.run rfl [(.aload_n 0, 0)] (pc' := 30) (ls' := [some (.ref 137), some (.int (q1.2.1 0 8)), some (.int w2)]) (st' := [.ref 137]) (T1 := q1.2) (by decide +kernel) rfl ?_
      obtain ⟨q32, hq32, hf⟩ := bd_some hf
      refine MW.callV (As := []) (st := []) lv_RX12_235 rfl (by decide +kernel) (xm_isIslandWord hq32) (by decide) (by decide) rfl (Nat.le_of_ble_eq_true rfl) rfl ?_
      show MW l yy_X12_clauseHere 10 _ _ 33 [some (.ref 137), some (.int (q1.2.1 0 8)), some (.int w2)] [.int (b2i q32.1)] q32.2
      refine MW.if_ne (off := 33) (tgt := 66) (by decide +kernel) (by decide) (fun c33_33 => ?_) (fun c33_33 => ?_)
      · rw [if_neg c33_33] at hf
        refine MW.run rfl [(.aload_n 0, 0), (.getfield 242, 0), (.iload_n 2, 0)] (pc' := 71) (ls' := [some (.ref 137), some (.int (q1.2.1 0 8)), some (.int w2)]) (st' := [.int w2, .int (q32.2.1 0 14)]) (T1 := q32.2) (by decide +kernel) rfl ?_
        obtain ⟨w34, hw34, hf⟩ := bd_some hf
        have hJ : MW l yy_X12_clauseHere 10 (some (.int (b2i q.1))) q.2 81 [some (.ref 137), some (.int (q1.2.1 0 8)), some (.int w2)] [.int w34, .int (q32.2.1 0 14)] q32.2 := by
          refine MW.icmp_ne (off := 10) (tgt := 91) (by decide +kernel) (by decide) (fun c81_36 => ?_) (fun c81_36 => ?_)
          · rw [if_neg c81_36] at hf
            refine MW.run rfl [(.aload_n 0, 0), (.dup, 0), (.getfield 242, 0), (.iconst 1, 1), (.iadd, 0), (.putfield 242, 0)] (pc' := 101) (ls' := [some (.ref 137), some (.int (q1.2.1 0 8)), some (.int w2)]) (st' := []) (T1 := mz q32.2 14 ((q32.2.1 0 14) + 1)) (by decide +kernel) rfl ?_
            obtain ⟨T37, hT37, hf⟩ := letv_some hf
            rw [← hT37]
            refine MW.run rfl [(.iload_n 2, 0)] (pc' := 102) (ls' := [some (.ref 137), some (.int (q1.2.1 0 8)), some (.int w2)]) (st' := [.int w2]) (T1 := T37) (by decide +kernel) rfl ?_
            refine MW.if_eq (off := 11) (tgt := 113) (by decide +kernel) (by decide) (fun c102_38 => ?_) (fun c102_38 => ?_)
            · rw [if_pos c102_38] at hf
              refine MW.run rfl [(.aload_n 0, 0), (.aload_n 0, 0)] (pc' := 115) (ls' := [some (.ref 137), some (.int (q1.2.1 0 8)), some (.int w2)]) (st' := [.ref 137, .ref 137]) (T1 := T37) (by decide +kernel) rfl ?_
              refine MW.ldc2 (idx := 238) (v := 1952803948) (tb_in 1201 (by decide +kernel) (by decide +kernel)) (by decide +kernel) ?_
              obtain ⟨q39, hq39, hf⟩ := bd_some hf
              refine MW.callV (As := [.long 1952803948]) (st := [.ref 137]) lv_RX12_93 rfl (by decide +kernel) (xm_isWord hq39) (by decide) (by decide) rfl (Nat.le_of_ble_eq_true rfl) rfl ?_
              show MW l yy_X12_clauseHere 10 _ _ 121 [some (.ref 137), some (.int (q1.2.1 0 8)), some (.int w2)] [.int (b2i q39.1), .ref 137] q39.2
              refine MW.if_eq (off := 7) (tgt := 128) (by decide +kernel) (by decide) (fun c121_40 => ?_) (fun c121_40 => ?_)
              · rw [if_pos c121_40] at hf
                refine MW.run rfl [(.iconst 1, 1)] (pc' := 129) (ls' := [some (.ref 137), some (.int (q1.2.1 0 8)), some (.int w2)]) (st' := [.int 1, .ref 137]) (T1 := q39.2) (by decide +kernel) rfl ?_
                obtain ⟨q41, hq41, hf⟩ := bd_some hf
                refine MW.callV (As := [.int 1]) (st := []) lv_RX12_248 rfl (by decide +kernel) (xm_isDoingHere hq41) (by decide) (by decide) rfl (Nat.le_of_ble_eq_true rfl) rfl ?_
                show MW l yy_X12_clauseHere 10 _ _ 132 [some (.ref 137), some (.int (q1.2.1 0 8)), some (.int w2)] [.int (b2i q41.1)] q41.2
                have e9 := Option.some.inj hf
                subst e9
                exact MW.zret rfl (b2i_nar _) (by decide +kernel)
              · rw [if_neg c121_40] at hf
                refine MW.run rfl [(.iconst 0, 0), (.goto 4, 0)] (pc' := 129) (ls' := [some (.ref 137), some (.int (q1.2.1 0 8)), some (.int w2)]) (st' := [.int 0, .ref 137]) (T1 := q39.2) (by decide +kernel) rfl ?_
                obtain ⟨q42, hq42, hf⟩ := bd_some hf
                refine MW.callV (As := [.int 0]) (st := []) lv_RX12_248 rfl (by decide +kernel) (xm_isDoingHere hq42) (by decide) (by decide) rfl (Nat.le_of_ble_eq_true rfl) rfl ?_
                show MW l yy_X12_clauseHere 10 _ _ 132 [some (.ref 137), some (.int (q1.2.1 0 8)), some (.int w2)] [.int (b2i q42.1)] q42.2
                have e9 := Option.some.inj hf
                subst e9
                exact MW.zret rfl (b2i_nar _) (by decide +kernel)
            · rw [if_neg c102_38] at hf
              refine MW.run rfl [(.aload_n 0, 0), (.iload_n 1, 0)] (pc' := 107) (ls' := [some (.ref 137), some (.int (q1.2.1 0 8)), some (.int w2)]) (st' := [.int (q1.2.1 0 8), .ref 137]) (T1 := T37) (by decide +kernel) rfl ?_
              obtain ⟨q43, hq43, hf⟩ := bd_some hf
              refine MW.callV (As := [.int (q1.2.1 0 8)]) (st := []) lv_RX12_245 rfl (by decide +kernel) (xm_islandLineHere hq43) (by decide) (by decide) rfl (Nat.le_of_ble_eq_true rfl) rfl ?_
              show MW l yy_X12_clauseHere 10 _ _ 110 [some (.ref 137), some (.int (q1.2.1 0 8)), some (.int w2)] [.int (b2i q43.1)] q43.2
              refine MW.run rfl [(.goto 22, 0)] (pc' := 132) (ls' := [some (.ref 137), some (.int (q1.2.1 0 8)), some (.int w2)]) (st' := [.int (b2i q43.1)]) (T1 := q43.2) (by decide +kernel) rfl ?_
              have e9 := Option.some.inj hf
              subst e9
              exact MW.zret rfl (b2i_nar _) (by decide +kernel)
          · rw [if_pos c81_36] at hf
            refine MW.run rfl [(.aload_n 0, 0), (.iconst 4, 4), (.iload_n 1, 0)] (pc' := 87) (ls' := [some (.ref 137), some (.int (q1.2.1 0 8)), some (.int w2)]) (st' := [.int (q1.2.1 0 8), .int 4, .ref 137]) (T1 := q32.2) (by decide +kernel) rfl ?_
            obtain ⟨q44, hq44, hf⟩ := bd_some hf
            refine MW.callV (As := [.int 4, .int (q1.2.1 0 8)]) (st := []) lv_RX12_103 rfl (by decide +kernel) (xm_fails hq44) (by decide) (by decide) rfl (Nat.le_of_ble_eq_true rfl) rfl ?_
            show MW l yy_X12_clauseHere 10 _ _ 90 [some (.ref 137), some (.int (q1.2.1 0 8)), some (.int w2)] [.int (b2i q44.1)] q44.2
            have e9 := Option.some.inj hf
            subst e9
            exact MW.zret rfl (b2i_nar _) (by decide +kernel)
        clear hf
        refine MW.if_eq (off := 8) (tgt := 79) (by decide +kernel) (by decide) (fun c71_35 => ?_) (fun c71_35 => ?_)
        · rw [if_pos c71_35] at hw34
          refine MW.run rfl [(.bipush 12, 12)] (pc' := 81) (ls' := [some (.ref 137), some (.int (q1.2.1 0 8)), some (.int w2)]) (st' := [.int 12, .int (q32.2.1 0 14)]) (T1 := q32.2) (by decide +kernel) rfl ?_
          have e9 := Option.some.inj hw34
          subst e9
          exact hJ
        · rw [if_neg c71_35] at hw34
          refine MW.run rfl [(.bipush 40, 40), (.goto 5, 0)] (pc' := 81) (ls' := [some (.ref 137), some (.int (q1.2.1 0 8)), some (.int w2)]) (st' := [.int 40, .int (q32.2.1 0 14)]) (T1 := q32.2) (by decide +kernel) rfl ?_
          have e9 := Option.some.inj hw34
          subst e9
          exact hJ
      · rw [if_pos c33_33] at hf
        refine MW.run rfl [(.goto 23, 0), (.aload_n 0, 0), (.iconst 0, 0), (.iload_n 1, 0)] (pc' := 62) (ls' := [some (.ref 137), some (.int (q1.2.1 0 8)), some (.int w2)]) (st' := [.int (q1.2.1 0 8), .int 0, .ref 137]) (T1 := q32.2) (by decide +kernel) rfl ?_
        obtain ⟨q45, hq45, hf⟩ := bd_some hf
        refine MW.callV (As := [.int 0, .int (q1.2.1 0 8)]) (st := []) lv_RX12_103 rfl (by decide +kernel) (xm_fails hq45) (by decide) (by decide) rfl (Nat.le_of_ble_eq_true rfl) rfl ?_
        show MW l yy_X12_clauseHere 10 _ _ 65 [some (.ref 137), some (.int (q1.2.1 0 8)), some (.int w2)] [.int (b2i q45.1)] q45.2
        have e9 := Option.some.inj hf
        subst e9
        exact MW.zret rfl (b2i_nar _) (by decide +kernel)
  clear hf
  refine MW.icmp_ne (off := 7) (tgt := 23) (by decide +kernel) (by decide) (fun c16_3 => ?_) (fun c16_3 => ?_)
  · rw [if_neg c16_3] at hw2
    refine MW.run rfl [(.iconst 0, 0)] (pc' := 24) (ls' := [some (.ref 137), some (.int (q1.2.1 0 8)), none]) (st' := [.int 0]) (T1 := q1.2) (by decide +kernel) rfl ?_
    have e9 := Option.some.inj hw2
    subst e9
    exact hJ
  · rw [if_pos c16_3] at hw2
    refine MW.run rfl [(.iconst 1, 1), (.goto 4, 0)] (pc' := 24) (ls' := [some (.ref 137), some (.int (q1.2.1 0 8)), none]) (st' := [.int 1]) (T1 := q1.2) (by decide +kernel) rfl ?_
    have e9 := Option.some.inj hw2
    subst e9
    exact hJ
def fm_readsAll_L35  : Nat → Int32 → mT → Option (Int32 × mT)
  | 0, _, _ => none
  | N + 1, a1, T => if a1 = 0 then (some (a1, T)) else ((fm_see T).bind fun q8 => if q8.1 = 59 then (letv (mz q8.2 8 ((q8.2.1 0 8) + 1)) fun T10 => (fm_clauseHere T10).bind fun q11 => fm_readsAll_L35  N (b2i q11.1) q11.2) else (some (a1, q8.2)))
def fm_readsAll  (T : mT) : Option (Bool × mT) := bif inb (T.1 0 11) 7 then (letv (ma T 3 ((T.1 0 11) : Int32).toNatClampNeg 0) fun T1 => letv (mz T1 14 0) fun T2 => letv (mz T2 8 0) fun T3 => letv (mz T3 9 0) fun T4 => letv (mz T4 12 0) fun T5 => (fm_clauseHere T5).bind fun q6 => (fm_readsAll_L35 FU (b2i q6.1) q6.2).bind fun w12 => Option.bind (if w12.1 = 0 then (some (w12.1, w12.2)) else ((fm_see w12.2).bind fun q15 => if q15.1 = (-1) then (some (w12.1, q15.2)) else ((fm_fails 0 (q15.2.1 0 8) q15.2).bind fun q17 => some (b2i q17.1, q17.2))) : Option (Int32 × mT)) fun w13 => Option.bind (if w13.1 = 0 then (some (w13.2)) else (if (w13.2.1 0 11) = 6 then (bif inb 1 112 then (letv (w13.2.1 6 (1 : Int32).toNatClampNeg) fun v21 => if v21 = 0 then ((fm_fails 0 (w13.2.1 0 8) w13.2).bind fun q23 => some (q23.2)) else (some (w13.2))) else none) else (some (w13.2))) : Option (mT)) fun w18 => letv (mz w18 1 0) fun T24 => if (T24.1 0 9) = 0 then (some (true, T24)) else (some (false, T24))) else none
theorem xm_readsAll_L35 {l : Launch} {r : Option Value} {T' : mT}  : ∀ (N : Nat) (a1 : Int32) (T : mT) (W0 : Int32 × mT) (_ : fm_readsAll_L35  N a1 T = some W0) (_ : MW l yy_X12_readsAll 11 r T' 66 [some (.ref 137), some (.int W0.1)] [] W0.2), MW l yy_X12_readsAll 11 r T' 35 [some (.ref 137), some (.int a1)] [] T := by
  intro N
  induction N with
  | zero =>
    intro a1 T W0 hf _
    cases hf
  | succ N ih =>
    intro a1 T W0 hf hk1
    unfold fm_readsAll_L35 at hf
    refine MW.run rfl [(.iload_n 1, 0)] (pc' := 36) (ls' := [some (.ref 137), some (.int a1)]) (st' := [.int a1]) (T1 := T) (by decide +kernel) rfl ?_
    refine MW.if_eq (off := 30) (tgt := 66) (by decide +kernel) (by decide) (fun c36_7 => ?_) (fun c36_7 => ?_)
    · rw [if_pos c36_7] at hf
      have e9 := Option.some.inj hf
      subst e9
      exact hk1
    · rw [if_neg c36_7] at hf
      refine MW.run rfl [(.aload_n 0, 0)] (pc' := 40) (ls' := [some (.ref 137), some (.int a1)]) (st' := [.ref 137]) (T1 := T) (by decide +kernel) rfl ?_
      obtain ⟨q8, hq8, hf⟩ := bd_some hf
      refine MW.callV (As := []) (st := []) lv_RX12_85 rfl (by decide +kernel) (xm_see hq8) (by decide) (by decide) rfl (Nat.le_of_ble_eq_true rfl) rfl ?_
      show MW l yy_X12_readsAll 11 _ _ 43 [some (.ref 137), some (.int a1)] [.int q8.1] q8.2
      refine MW.run rfl [(.bipush 59, 59)] (pc' := 45) (ls' := [some (.ref 137), some (.int a1)]) (st' := [.int 59, .int q8.1]) (T1 := q8.2) (by decide +kernel) rfl ?_
      refine MW.icmp_ne (off := 21) (tgt := 66) (by decide +kernel) (by decide) (fun c45_9 => ?_) (fun c45_9 => ?_)
      · rw [if_neg c45_9] at hf
        have e9 := Option.some.inj hf
        subst e9
        exact hk1
      · rw [if_pos c45_9] at hf
        refine MW.run rfl [(.aload_n 0, 0), (.dup, 0), (.getfield 82, 0), (.iconst 1, 1), (.iadd, 0), (.putfield 82, 0)] (pc' := 58) (ls' := [some (.ref 137), some (.int a1)]) (st' := []) (T1 := mz q8.2 8 ((q8.2.1 0 8) + 1)) (by decide +kernel) rfl ?_
        obtain ⟨T10, hT10, hf⟩ := letv_some hf
        rw [← hT10]
        refine MW.run rfl [(.aload_n 0, 0)] (pc' := 59) (ls' := [some (.ref 137), some (.int a1)]) (st' := [.ref 137]) (T1 := T10) (by decide +kernel) rfl ?_
        obtain ⟨q11, hq11, hf⟩ := bd_some hf
        refine MW.callV (As := []) (st := []) lv_RX12_251 rfl (by decide +kernel) (xm_clauseHere hq11) (by decide) (by decide) rfl (Nat.le_of_ble_eq_true rfl) rfl ?_
        show MW l yy_X12_readsAll 11 _ _ 62 [some (.ref 137), some (.int a1)] [.int (b2i q11.1)] q11.2
        refine MW.run rfl [(.istore_n 1, 0), (.goto (-28), 0)] (pc' := 35) (ls' := [some (.ref 137), some (.int (b2i q11.1))]) (st' := []) (T1 := q11.2) (by decide +kernel) rfl ?_
        exact ih _ _ _ hf hk1
theorem xm_readsAll {l : Launch}  {T : mT} {q : Bool × mT} (hf : fm_readsAll  T = some q) : MOk l yy_X12_readsAll 11 [] T (some (.int (b2i q.1))) q.2 := by
  refine MOk.of (ls := [some (.ref 137), none]) (by decide +kernel) (Nat.le_of_ble_eq_true rfl) rfl ?_
  unfold fm_readsAll at hf
  refine MW.run rfl [(.aload_n 0, 0), (.getfield 17, 0), (.aload_n 0, 0), (.getfield 130, 0), (.iconst 0, 0)] (pc' := 9) (ls' := [some (.ref 137), none]) (st' := [.int 0, .int (T.1 0 11), .ref 140]) (T1 := T) (by decide +kernel) rfl ?_
  obtain ⟨hi_T1, hf⟩ := bi_some hf
  obtain ⟨T1, hT1, hf⟩ := letv_some hf
  refine MW.iast 3 7 rfl (by decide) (fun _ => rfl) (by decide +kernel) (inb_in hi_T1) ?_
  rw [← hT1]
  refine MW.run rfl [(.aload_n 0, 0), (.iconst 0, 0), (.putfield 242, 0)] (pc' := 15) (ls' := [some (.ref 137), none]) (st' := []) (T1 := mz T1 14 0) (by decide +kernel) rfl ?_
  obtain ⟨T2, hT2, hf⟩ := letv_some hf
  rw [← hT2]
  refine MW.run rfl [(.aload_n 0, 0), (.iconst 0, 0), (.putfield 82, 0)] (pc' := 20) (ls' := [some (.ref 137), none]) (st' := []) (T1 := mz T2 8 0) (by decide +kernel) rfl ?_
  obtain ⟨T3, hT3, hf⟩ := letv_some hf
  rw [← hT3]
  refine MW.run rfl [(.aload_n 0, 0), (.iconst 0, 0), (.putfield 79, 0)] (pc' := 25) (ls' := [some (.ref 137), none]) (st' := []) (T1 := mz T3 9 0) (by decide +kernel) rfl ?_
  obtain ⟨T4, hT4, hf⟩ := letv_some hf
  rw [← hT4]
  refine MW.run rfl [(.aload_n 0, 0), (.iconst 0, 0), (.putfield 133, 0)] (pc' := 30) (ls' := [some (.ref 137), none]) (st' := []) (T1 := mz T4 12 0) (by decide +kernel) rfl ?_
  obtain ⟨T5, hT5, hf⟩ := letv_some hf
  rw [← hT5]
  refine MW.run rfl [(.aload_n 0, 0)] (pc' := 31) (ls' := [some (.ref 137), none]) (st' := [.ref 137]) (T1 := T5) (by decide +kernel) rfl ?_
  obtain ⟨q6, hq6, hf⟩ := bd_some hf
  refine MW.callV (As := []) (st := []) lv_RX12_251 rfl (by decide +kernel) (xm_clauseHere hq6) (by decide) (by decide) rfl (Nat.le_of_ble_eq_true rfl) rfl ?_
  show MW l yy_X12_readsAll 11 _ _ 34 [some (.ref 137), none] [.int (b2i q6.1)] q6.2
  refine MW.run rfl [(.istore_n 1, 0)] (pc' := 35) (ls' := [some (.ref 137), some (.int (b2i q6.1))]) (st' := []) (T1 := q6.2) (by decide +kernel) rfl ?_
  obtain ⟨w12, hw12, hf⟩ := bd_some hf
  refine xm_readsAll_L35  FU _ _ _ hw12 ?_
  refine MW.run rfl [(.iload_n 1, 0)] (pc' := 67) (ls' := [some (.ref 137), some (.int w12.1)]) (st' := [.int w12.1]) (T1 := w12.2) (by decide +kernel) rfl ?_
  obtain ⟨w13, hw13, hf⟩ := bd_some hf
  have hJ : MW l yy_X12_readsAll 11 (some (.int (b2i q.1))) q.2 88 [some (.ref 137), some (.int w13.1)] [] w13.2 := by
    refine MW.run rfl [(.iload_n 1, 0)] (pc' := 89) (ls' := [some (.ref 137), some (.int w13.1)]) (st' := [.int w13.1]) (T1 := w13.2) (by decide +kernel) rfl ?_
    obtain ⟨w18, hw18, hf⟩ := bd_some hf
    have hJ : MW l yy_X12_readsAll 11 (some (.int (b2i q.1))) q.2 120 [some (.ref 137), some (.int w13.1)] [] w18 := by
      refine MW.run rfl [(.aload_n 0, 0), (.iconst 0, 0), (.putfield 72, 0)] (pc' := 125) (ls' := [some (.ref 137), some (.int w13.1)]) (st' := []) (T1 := mz w18 1 0) (by decide +kernel) rfl ?_
      obtain ⟨T24, hT24, hf⟩ := letv_some hf
      rw [← hT24]
      refine MW.run rfl [(.aload_n 0, 0), (.getfield 79, 0)] (pc' := 129) (ls' := [some (.ref 137), some (.int w13.1)]) (st' := [.int (T24.1 0 9)]) (T1 := T24) (by decide +kernel) rfl ?_
      refine MW.if_ne (off := 7) (tgt := 136) (by decide +kernel) (by decide) (fun c129_25 => ?_) (fun c129_25 => ?_)
      · rw [if_neg c129_25] at hf
        refine MW.run rfl [(.iconst 0, 0)] (pc' := 137) (ls' := [some (.ref 137), some (.int w13.1)]) (st' := [.int 0]) (T1 := T24) (by decide +kernel) rfl ?_
        have e9 := Option.some.inj hf
        subst e9
        exact MW.zret rfl (b2i_nar _) (by decide +kernel)
      · rw [if_pos c129_25] at hf
        refine MW.run rfl [(.iconst 1, 1), (.goto 4, 0)] (pc' := 137) (ls' := [some (.ref 137), some (.int w13.1)]) (st' := [.int 1]) (T1 := T24) (by decide +kernel) rfl ?_
        have e9 := Option.some.inj hf
        subst e9
        exact MW.zret rfl (b2i_nar _) (by decide +kernel)
    clear hf
    refine MW.if_eq (off := 31) (tgt := 120) (by decide +kernel) (by decide) (fun c89_19 => ?_) (fun c89_19 => ?_)
    · rw [if_pos c89_19] at hw18
      have e9 := Option.some.inj hw18
      subst e9
      exact hJ
    · rw [if_neg c89_19] at hw18
      refine MW.run rfl [(.aload_n 0, 0), (.getfield 130, 0), (.bipush 6, 6)] (pc' := 98) (ls' := [some (.ref 137), some (.int w13.1)]) (st' := [.int 6, .int (w13.2.1 0 11)]) (T1 := w13.2) (by decide +kernel) rfl ?_
      refine MW.icmp_ne (off := 22) (tgt := 120) (by decide +kernel) (by decide) (fun c98_20 => ?_) (fun c98_20 => ?_)
      · rw [if_neg c98_20] at hw18
        have e9 := Option.some.inj hw18
        subst e9
        exact hJ
      · rw [if_pos c98_20] at hw18
        refine MW.run rfl [(.aload_n 0, 0), (.getfield 26, 0), (.iconst 1, 1)] (pc' := 106) (ls' := [some (.ref 137), some (.int w13.1)]) (st' := [.int 1, .ref 143]) (T1 := w13.2) (by decide +kernel) rfl ?_
        obtain ⟨hi_v21, hw18⟩ := bi_some hw18
        obtain ⟨v21, hv21, hw18⟩ := letv_some hw18
        refine MW.iald 6 112 rfl (by decide) rfl (by decide +kernel) (inb_in hi_v21) ?_
        rw [← hv21]
        refine MW.if_ne (off := 13) (tgt := 120) (by decide +kernel) (by decide) (fun c107_22 => ?_) (fun c107_22 => ?_)
        · rw [if_neg c107_22] at hw18
          have e9 := Option.some.inj hw18
          subst e9
          exact hJ
        · rw [if_pos c107_22] at hw18
          refine MW.run rfl [(.aload_n 0, 0), (.iconst 0, 0), (.aload_n 0, 0), (.getfield 82, 0)] (pc' := 116) (ls' := [some (.ref 137), some (.int w13.1)]) (st' := [.int (w13.2.1 0 8), .int 0, .ref 137]) (T1 := w13.2) (by decide +kernel) rfl ?_
          obtain ⟨q23, hq23, hw18⟩ := bd_some hw18
          refine MW.callV (As := [.int 0, .int (w13.2.1 0 8)]) (st := []) lv_RX12_103 rfl (by decide +kernel) (xm_fails hq23) (by decide) (by decide) rfl (Nat.le_of_ble_eq_true rfl) rfl ?_
          show MW l yy_X12_readsAll 11 _ _ 119 [some (.ref 137), some (.int w13.1)] [.int (b2i q23.1)] q23.2
          refine MW.run rfl [(.pop, 0)] (pc' := 120) (ls' := [some (.ref 137), some (.int w13.1)]) (st' := []) (T1 := q23.2) (by decide +kernel) rfl ?_
          have e9 := Option.some.inj hw18
          subst e9
          exact hJ
  clear hf
  refine MW.if_eq (off := 21) (tgt := 88) (by decide +kernel) (by decide) (fun c67_14 => ?_) (fun c67_14 => ?_)
  · rw [if_pos c67_14] at hw13
    have e9 := Option.some.inj hw13
    subst e9
    exact hJ
  · rw [if_neg c67_14] at hw13
    refine MW.run rfl [(.aload_n 0, 0)] (pc' := 71) (ls' := [some (.ref 137), some (.int w12.1)]) (st' := [.ref 137]) (T1 := w12.2) (by decide +kernel) rfl ?_
    obtain ⟨q15, hq15, hw13⟩ := bd_some hw13
    refine MW.callV (As := []) (st := []) lv_RX12_85 rfl (by decide +kernel) (xm_see hq15) (by decide) (by decide) rfl (Nat.le_of_ble_eq_true rfl) rfl ?_
    show MW l yy_X12_readsAll 11 _ _ 74 [some (.ref 137), some (.int w12.1)] [.int q15.1] q15.2
    refine MW.run rfl [(.iconst (-1), (-1))] (pc' := 75) (ls' := [some (.ref 137), some (.int w12.1)]) (st' := [.int (-1), .int q15.1]) (T1 := q15.2) (by decide +kernel) rfl ?_
    refine MW.icmp_eq (off := 13) (tgt := 88) (by decide +kernel) (by decide) (fun c75_16 => ?_) (fun c75_16 => ?_)
    · rw [if_pos c75_16] at hw13
      have e9 := Option.some.inj hw13
      subst e9
      exact hJ
    · rw [if_neg c75_16] at hw13
      refine MW.run rfl [(.aload_n 0, 0), (.iconst 0, 0), (.aload_n 0, 0), (.getfield 82, 0)] (pc' := 84) (ls' := [some (.ref 137), some (.int w12.1)]) (st' := [.int (q15.2.1 0 8), .int 0, .ref 137]) (T1 := q15.2) (by decide +kernel) rfl ?_
      obtain ⟨q17, hq17, hw13⟩ := bd_some hw13
      refine MW.callV (As := [.int 0, .int (q15.2.1 0 8)]) (st := []) lv_RX12_103 rfl (by decide +kernel) (xm_fails hq17) (by decide) (by decide) rfl (Nat.le_of_ble_eq_true rfl) rfl ?_
      show MW l yy_X12_readsAll 11 _ _ 87 [some (.ref 137), some (.int w12.1)] [.int (b2i q17.1)] q17.2
      refine MW.run rfl [(.istore_n 1, 0)] (pc' := 88) (ls' := [some (.ref 137), some (.int (b2i q17.1))]) (st' := []) (T1 := q17.2) (by decide +kernel) rfl ?_
      have e9 := Option.some.inj hw13
      subst e9
      exact hJ
