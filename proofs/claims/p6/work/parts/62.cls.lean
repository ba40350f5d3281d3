/-! ===== the class, method by method (by program) 13 ===== -/
def fc_X11_isRule (b : Nat) (p0 : Int32) (S : cT) : Option (Bool) := if p0 < 0 then (some false) else (if (S.1 b 11) ≤ p0 then (some false) else (if 6 ≤ p0 then (some false) else (some true)))
theorem xc_X11_isRule {l : Launch} {b : Nat} {p0 : Int32} {S : cT} {q : Bool} (hb : cK b = 9) (hf : fc_X11_isRule b p0 S = some q) : COk l yy_X11_isRule 0 [.ref b, .int p0] S (some (.int (b2i q))) S := by
  refine COk.of (ls := [some (.ref b), some (.int p0)]) (by decide +kernel) (Nat.le_of_ble_eq_true rfl) rfl ?_
  unfold fc_X11_isRule at hf
  refine CW.run (blk := [(.iload_n 1, 0)]) (pc' := 1) (ls' := [some (.ref b), some (.int p0)]) (st' := [.int p0]) (by decide +kernel) rfl ?_
  refine CW.if_lt (off := 21) (tgt := 22) (by decide +kernel) (by decide) (fun c1_1 => ?_) (fun c1_1 => ?_)
  · rw [if_pos c1_1] at hf
    refine CW.run (blk := [(.iconst 0, 0)]) (pc' := 23) (ls' := [some (.ref b), some (.int p0)]) (st' := [.int 0]) (by decide +kernel) rfl ?_
    have e9 := Option.some.inj hf
    subst e9
    exact CW.zret rfl (b2i_nar _) (by decide +kernel)
  · rw [if_neg c1_1] at hf
    refine CW.run (blk := [(.iload_n 1, 0), (.aload_n 0, 0)]) (pc' := 6) (ls' := [some (.ref b), some (.int p0)]) (st' := [.ref b, .int p0]) (by decide +kernel) rfl ?_
    refine CW.getf (v := .int (S.1 b 11)) hb (by decide) fl_RX11_102 (by decide +kernel) rfl ?_
    refine CW.icmp_ge (off := 13) (tgt := 22) (by decide +kernel) (by decide) (fun c9_2 => ?_) (fun c9_2 => ?_)
    · rw [if_pos c9_2] at hf
      refine CW.run (blk := [(.iconst 0, 0)]) (pc' := 23) (ls' := [some (.ref b), some (.int p0)]) (st' := [.int 0]) (by decide +kernel) rfl ?_
      have e9 := Option.some.inj hf
      subst e9
      exact CW.zret rfl (b2i_nar _) (by decide +kernel)
    · rw [if_neg c9_2] at hf
      refine CW.run (blk := [(.iload_n 1, 0), (.bipush 6, 6)]) (pc' := 15) (ls' := [some (.ref b), some (.int p0)]) (st' := [.int 6, .int p0]) (by decide +kernel) rfl ?_
      refine CW.icmp_ge (off := 7) (tgt := 22) (by decide +kernel) (by decide) (fun c15_3 => ?_) (fun c15_3 => ?_)
      · rw [if_pos c15_3] at hf
        refine CW.run (blk := [(.iconst 0, 0)]) (pc' := 23) (ls' := [some (.ref b), some (.int p0)]) (st' := [.int 0]) (by decide +kernel) rfl ?_
        have e9 := Option.some.inj hf
        subst e9
        exact CW.zret rfl (b2i_nar _) (by decide +kernel)
      · rw [if_neg c15_3] at hf
        refine CW.run (blk := [(.iconst 1, 1), (.goto 4, 0)]) (pc' := 23) (ls' := [some (.ref b), some (.int p0)]) (st' := [.int 1]) (by decide +kernel) rfl ?_
        have e9 := Option.some.inj hf
        subst e9
        exact CW.zret rfl (b2i_nar _) (by decide +kernel)
def fc_X11_isRuleOrNone (b : Nat) (p0 : Int32) (S : cT) : Option (Bool) := if p0 = (-1) then (some true) else ((fc_X11_isRule b p0 S).bind fun q2 => if (b2i q2) = 0 then (some false) else (some true))
theorem xc_X11_isRuleOrNone {l : Launch} {b : Nat} {p0 : Int32} {S : cT} {q : Bool} (hb : cK b = 9) (hf : fc_X11_isRuleOrNone b p0 S = some q) : COk l yy_X11_isRuleOrNone 1 [.ref b, .int p0] S (some (.int (b2i q))) S := by
  refine COk.of (ls := [some (.ref b), some (.int p0)]) (by decide +kernel) (Nat.le_of_ble_eq_true rfl) rfl ?_
  unfold fc_X11_isRuleOrNone at hf
  refine CW.run (blk := [(.iload_n 1, 0), (.iconst (-1), (-1))]) (pc' := 2) (ls' := [some (.ref b), some (.int p0)]) (st' := [.int (-1), .int p0]) (by decide +kernel) rfl ?_
  refine CW.icmp_eq (off := 11) (tgt := 13) (by decide +kernel) (by decide) (fun c2_1 => ?_) (fun c2_1 => ?_)
  · rw [if_pos c2_1] at hf
    refine CW.run (blk := [(.iconst 1, 1), (.goto 4, 0)]) (pc' := 18) (ls' := [some (.ref b), some (.int p0)]) (st' := [.int 1]) (by decide +kernel) rfl ?_
    have e9 := Option.some.inj hf
    subst e9
    exact CW.zret rfl (b2i_nar _) (by decide +kernel)
  · rw [if_neg c2_1] at hf
    refine CW.run (blk := [(.aload_n 0, 0), (.iload_n 1, 0)]) (pc' := 7) (ls' := [some (.ref b), some (.int p0)]) (st' := [.int p0, .ref b]) (by decide +kernel) rfl ?_
    obtain ⟨q2, hq2, hf⟩ := bd_some hf
    refine CW.callV (As := [.int p0]) (st := []) lv_RX11_227 hb (by decide) rfl rfl (by decide +kernel) (xc_X11_isRule hb hq2) (by decide) (by decide) rfl (Nat.le_of_ble_eq_true rfl) rfl ?_
    show CW l yy_X11_isRuleOrNone 1 _ _ 10 [some (.ref b), some (.int p0)] [.int (b2i q2)] S
    refine CW.if_eq (off := 7) (tgt := 17) (by decide +kernel) (by decide) (fun c10_3 => ?_) (fun c10_3 => ?_)
    · rw [if_pos c10_3] at hf
      refine CW.run (blk := [(.iconst 0, 0)]) (pc' := 18) (ls' := [some (.ref b), some (.int p0)]) (st' := [.int 0]) (by decide +kernel) rfl ?_
      have e9 := Option.some.inj hf
      subst e9
      exact CW.zret rfl (b2i_nar _) (by decide +kernel)
    · rw [if_neg c10_3] at hf
      refine CW.run (blk := [(.iconst 1, 1), (.goto 4, 0)]) (pc' := 18) (ls' := [some (.ref b), some (.int p0)]) (st' := [.int 1]) (by decide +kernel) rfl ?_
      have e9 := Option.some.inj hf
      subst e9
      exact CW.zret rfl (b2i_nar _) (by decide +kernel)
def fc_X11_force (b : Nat) (p0 : Int32) (S : cT) : Option (Int32 × cT) := (fc_X11_isRuleOrNone b p0 S).bind fun q1 => if (b2i q1) = 0 then (some ((-2), S)) else (bif Nat.beq (cK S.2.2.1) 2 then (letv (ca S S.2.2.1 13 p0) fun S4 => some (S.1 S.2.2.1 13, S4)) else none)
theorem xc_X11_force {l : Launch} {b : Nat} {p0 : Int32} {S : cT} {q : Int32 × cT} (hb : cK b = 9) (hf : fc_X11_force b p0 S = some q) : COk l yy_X11_force 2 [.ref b, .int p0] S (some (.int q.1)) q.2 := by
  refine COk.of (ls := [some (.ref b), some (.int p0), none]) (by decide +kernel) (Nat.le_of_ble_eq_true rfl) rfl ?_
  unfold fc_X11_force at hf
  refine CW.run (blk := [(.aload_n 0, 0), (.iload_n 1, 0)]) (pc' := 2) (ls' := [some (.ref b), some (.int p0), none]) (st' := [.int p0, .ref b]) (by decide +kernel) rfl ?_
  obtain ⟨q1, hq1, hf⟩ := bd_some hf
  refine CW.callV (As := [.int p0]) (st := []) lv_RX11_110 hb (by decide) rfl rfl (by decide +kernel) (xc_X11_isRuleOrNone hb hq1) (by decide) (by decide) rfl (Nat.le_of_ble_eq_true rfl) rfl ?_
  show CW l yy_X11_force 2 _ _ 5 [some (.ref b), some (.int p0), none] [.int (b2i q1)] S
  refine CW.if_ne (off := 6) (tgt := 11) (by decide +kernel) (by decide) (fun c5_2 => ?_) (fun c5_2 => ?_)
  · rw [if_neg c5_2] at hf
    refine CW.run (blk := [(.aload_n 0, 0)]) (pc' := 12) (ls' := [some (.ref b), some (.int p0), none]) (st' := [.ref b]) (by decide +kernel) rfl ?_
    refine CW.getf (v := .ref S.2.2.1) hb (by decide) fl_RX11_66 (by decide +kernel) rfl ?_
    obtain ⟨hk3, hf⟩ := bi_some hf
    refine CW.getf (v := .int (S.1 S.2.2.1 13)) (Nat.eq_of_beq_eq_true hk3) (by decide) fl_RX11_90 (by decide +kernel) rfl ?_
    refine CW.run (blk := [(.istore_n 2, 0), (.aload_n 0, 0)]) (pc' := 20) (ls' := [some (.ref b), some (.int p0), some (.int (S.1 S.2.2.1 13))]) (st' := [.ref b]) (by decide +kernel) rfl ?_
    refine CW.getf (v := .ref S.2.2.1) hb (by decide) fl_RX11_66 (by decide +kernel) rfl ?_
    refine CW.run (blk := [(.iload_n 1, 0)]) (pc' := 24) (ls' := [some (.ref b), some (.int p0), some (.int (S.1 S.2.2.1 13))]) (st' := [.int p0, .ref S.2.2.1]) (by decide +kernel) rfl ?_
    refine CW.putI (Nat.eq_of_beq_eq_true hk3) (by decide) fp_RX11_90 (by decide +kernel) (fun _ _ _ => Nat.le_of_ble_eq_true rfl) rfl rfl (fun _ _ _ => rfl) ?_
    obtain ⟨S4, hS4, hf⟩ := letv_some hf
    rw [← hS4]
    refine CW.run (blk := [(.iload_n 2, 0)]) (pc' := 28) (ls' := [some (.ref b), some (.int p0), some (.int (S.1 S.2.2.1 13))]) (st' := [.int (S.1 S.2.2.1 13)]) (by decide +kernel) rfl ?_
    have e9 := Option.some.inj hf
    subst e9
    exact CW.iret rfl (by decide +kernel)
  · rw [if_pos c5_2] at hf
    refine CW.run (blk := [(.bipush (-2), (-2))]) (pc' := 10) (ls' := [some (.ref b), some (.int p0), none]) (st' := [.int (-2)]) (by decide +kernel) rfl ?_
    have e9 := Option.some.inj hf
    subst e9
    exact CW.iret rfl (by decide +kernel)
def fc_X11_ruleAt (b : Nat) (p0 : Int32) (S : cT) : Option (Nat) := (fc_X11_isRule b p0 S).bind fun q1 => if (b2i q1) = 0 then (some (b + 43)) else (bif inb p0 6 then (some (7 + 6 * (p0 : Int32).toNatClampNeg)) else none)
theorem xc_X11_ruleAt {l : Launch} {b : Nat} {p0 : Int32} {S : cT} {q : Nat} (hb : cK b = 9) (hf : fc_X11_ruleAt b p0 S = some q) : COk l yy_X11_ruleAt 1 [.ref b, .int p0] S (some (.ref q)) S := by
  refine COk.of (ls := [some (.ref b), some (.int p0)]) (by decide +kernel) (Nat.le_of_ble_eq_true rfl) rfl ?_
  unfold fc_X11_ruleAt at hf
  refine CW.run (blk := [(.aload_n 0, 0), (.iload_n 1, 0)]) (pc' := 2) (ls' := [some (.ref b), some (.int p0)]) (st' := [.int p0, .ref b]) (by decide +kernel) rfl ?_
  obtain ⟨q1, hq1, hf⟩ := bd_some hf
  refine CW.callV (As := [.int p0]) (st := []) lv_RX11_227 hb (by decide) rfl rfl (by decide +kernel) (xc_X11_isRule hb hq1) (by decide) (by decide) rfl (Nat.le_of_ble_eq_true rfl) rfl ?_
  show CW l yy_X11_ruleAt 1 _ _ 5 [some (.ref b), some (.int p0)] [.int (b2i q1)] S
  refine CW.if_eq (off := 12) (tgt := 17) (by decide +kernel) (by decide) (fun c5_2 => ?_) (fun c5_2 => ?_)
  · rw [if_pos c5_2] at hf
    refine CW.run (blk := [(.aload_n 0, 0)]) (pc' := 18) (ls' := [some (.ref b), some (.int p0)]) (st' := [.ref b]) (by decide +kernel) rfl ?_
    refine CW.getf (v := .ref (b + 43)) hb (by decide) fl_RX11_23 (by decide +kernel) rfl ?_
    have e9 := Option.some.inj hf
    subst e9
    exact CW.aret rfl (by decide +kernel)
  · rw [if_neg c5_2] at hf
    refine CW.run (blk := [(.aload_n 0, 0)]) (pc' := 9) (ls' := [some (.ref b), some (.int p0)]) (st' := [.ref b]) (by decide +kernel) rfl ?_
    refine CW.getf (v := .ref (b + 6)) hb (by decide) fl_RX11_18 (by decide +kernel) rfl ?_
    refine CW.run (blk := [(.iload_n 1, 0)]) (pc' := 13) (ls' := [some (.ref b), some (.int p0)]) (st' := [.int p0, .ref (b + 6)]) (by decide +kernel) rfl ?_
    obtain ⟨hi3, hf⟩ := bi_some hf
    refine CW.aald24 (kk_9_1 hb) (kn_9_1 hb) (by decide +kernel) (inb_in hi3) ?_
    refine CW.run (blk := [(.goto 7, 0)]) (pc' := 21) (ls' := [some (.ref b), some (.int p0)]) (st' := [.ref (7 + 6 * (p0 : Int32).toNatClampNeg)]) (by decide +kernel) rfl ?_
    have e9 := Option.some.inj hf
    subst e9
    exact CW.aret rfl (by decide +kernel)
def fc_X11_inForce (b : Nat) (S : cT) : Option (Nat) := bif Nat.beq (cK S.2.2.1) 2 then ((fc_X11_ruleAt b (S.1 S.2.2.1 13) S).bind fun q2 => bif Nat.beq (cK q2) 6 then (some q2) else none) else none
theorem xc_X11_inForce {l : Launch} {b : Nat} {S : cT} {q : Nat} (hb : cK b = 9) (hf : fc_X11_inForce b S = some q) : COk l yy_X11_inForce 2 [.ref b] S (some (.ref q)) S := by
  refine COk.of (ls := [some (.ref b)]) (by decide +kernel) (Nat.le_of_ble_eq_true rfl) rfl ?_
  unfold fc_X11_inForce at hf
  refine CW.run (blk := [(.aload_n 0, 0), (.aload_n 0, 0)]) (pc' := 2) (ls' := [some (.ref b)]) (st' := [.ref b, .ref b]) (by decide +kernel) rfl ?_
  refine CW.getf (v := .ref S.2.2.1) hb (by decide) fl_RX11_66 (by decide +kernel) rfl ?_
  obtain ⟨hk1, hf⟩ := bi_some hf
  refine CW.getf (v := .int (S.1 S.2.2.1 13)) (Nat.eq_of_beq_eq_true hk1) (by decide) fl_RX11_90 (by decide +kernel) rfl ?_
  obtain ⟨q2, hq2, hf⟩ := bd_some hf
  refine CW.callV (As := [.int (S.1 S.2.2.1 13)]) (st := []) lv_RX11_189 hb (by decide) rfl rfl (by decide +kernel) (xc_X11_ruleAt hb hq2) (by decide) (by decide) rfl (Nat.le_of_ble_eq_true rfl) rfl ?_
  show CW l yy_X11_inForce 2 _ _ 11 [some (.ref b)] [.ref q2] S
  obtain ⟨hk3, hf⟩ := bi_some hf
  have e9 := Option.some.inj hf
  subst e9
  exact CW.aret rfl (by decide +kernel)
def fc_X11_person (b : Nat) (p0 : Int32) (p1 : Int32) (S : cT) : Option (Int32 × cT) := bif Nat.beq (cK S.2.2.1) 2 then ((fc_X2_has S.2.2.1 p0 S).bind fun q2 => if (b2i q2) = 0 then (some ((-1), S)) else (if p1 = 0 then (bif inb p0 8 then (letv (S.1 (S.2.2.1 + 1) (p0 : Int32).toNatClampNeg) fun v5 => some (v5, S)) else none) else (if p1 = 1 then (bif inb p0 8 then (letv (S.1 (S.2.2.1 + 2) (p0 : Int32).toNatClampNeg) fun v7 => some (v7, S)) else none) else (if p1 = 2 then (bif inb p0 8 then (letv (S.1 (S.2.2.1 + 3) (p0 : Int32).toNatClampNeg) fun v9 => some (v9, S)) else none) else (if p1 = 3 then ((fc_X2_looksOf S.2.2.1 p0 S).bind fun q11 => some (q11, S)) else (if p1 = 4 then ((fc_X11_inForce b S).bind fun q13 => bif Nat.beq (cK q13) 6 then ((fc_X4_believed (b + 101) S.2.2.1 q13 p0 S).bind fun q15 => some (q15.1, q15.2)) else none) else (if p1 = 5 then ((fc_X11_inForce b S).bind fun q17 => bif Nat.beq (cK q17) 6 then ((fc_X4_open (b + 101) S.2.2.1 q17 p0 S).bind fun q19 => some (q19.1, q19.2)) else none) else (if p1 = 6 then (if (S.1 S.2.2.1 11) = 0 then (some (0, S)) else (if (S.1 S.2.2.1 10) = p0 then (some (1, S)) else (some (0, S)))) else (if p1 = 7 then (bif inb p0 8 then (letv (S.1 (S.2.2.1 + 4) (p0 : Int32).toNatClampNeg) fun v24 => some (v24, S)) else none) else (some ((-1), S))))))))))) else none
theorem xc_X11_person {l : Launch} {b : Nat} {p0 : Int32} {p1 : Int32} {S : cT} {q : Int32 × cT} (hb : cK b = 9) (hf : fc_X11_person b p0 p1 S = some q) : COk l yy_X11_person 6 [.ref b, .int p0, .int p1] S (some (.int q.1)) q.2 := by
  refine COk.of (ls := [some (.ref b), some (.int p0), some (.int p1)]) (by decide +kernel) (Nat.le_of_ble_eq_true rfl) rfl ?_
  unfold fc_X11_person at hf
  refine CW.run (blk := [(.aload_n 0, 0)]) (pc' := 1) (ls' := [some (.ref b), some (.int p0), some (.int p1)]) (st' := [.ref b]) (by decide +kernel) rfl ?_
  refine CW.getf (v := .ref S.2.2.1) hb (by decide) fl_RX11_66 (by decide +kernel) rfl ?_
  obtain ⟨hk1, hf⟩ := bi_some hf
  refine CW.run (blk := [(.iload_n 1, 0)]) (pc' := 5) (ls' := [some (.ref b), some (.int p0), some (.int p1)]) (st' := [.int p0, .ref S.2.2.1]) (by decide +kernel) rfl ?_
  obtain ⟨q2, hq2, hf⟩ := bd_some hf
  refine CW.callV (As := [.int p0]) (st := []) lv_RX11_114 (Nat.eq_of_beq_eq_true hk1) (by decide) rfl rfl (by decide +kernel) (xc_X2_has (Nat.eq_of_beq_eq_true hk1) hq2) (by decide) (by decide) rfl (Nat.le_of_ble_eq_true rfl) rfl ?_
  show CW l yy_X11_person 6 _ _ 8 [some (.ref b), some (.int p0), some (.int p1)] [.int (b2i q2)] S
  refine CW.if_ne (off := 5) (tgt := 13) (by decide +kernel) (by decide) (fun c8_3 => ?_) (fun c8_3 => ?_)
  · rw [if_neg c8_3] at hf
    refine CW.run (blk := [(.iload_n 2, 0)]) (pc' := 14) (ls' := [some (.ref b), some (.int p0), some (.int p1)]) (st' := [.int p1]) (by decide +kernel) rfl ?_
    by_cases c14_0_4 : p1 = 0
    · rw [if_pos c14_0_4] at hf
      refine CW.tableIn (dflt := 156) (lo := 0) (hi := 7) (offs := #[46, 56, 66, 76, 85, 102, 119, 146]) (len := 46) (off := 46) (tgt := 60) (by decide +kernel) (by rw [c14_0_4]; decide) (by rw [c14_0_4]; decide) (by rw [c14_0_4]; decide) (by decide) ?_
      refine CW.run (blk := [(.aload_n 0, 0)]) (pc' := 61) (ls' := [some (.ref b), some (.int p0), some (.int p1)]) (st' := [.ref b]) (by decide +kernel) rfl ?_
      refine CW.getf (v := .ref S.2.2.1) hb (by decide) fl_RX11_66 (by decide +kernel) rfl ?_
      refine CW.getf (v := .ref (S.2.2.1 + 1)) (Nat.eq_of_beq_eq_true hk1) (by decide) fl_RX11_117 (by decide +kernel) rfl ?_
      refine CW.run (blk := [(.iload_n 1, 0)]) (pc' := 68) (ls' := [some (.ref b), some (.int p0), some (.int p1)]) (st' := [.int p0, .ref (S.2.2.1 + 1)]) (by decide +kernel) rfl ?_
      obtain ⟨hi_v5, hf⟩ := bi_some hf
      obtain ⟨v5, hv5, hf⟩ := letv_some hf
      refine CW.iald (kk_2_0 (Nat.eq_of_beq_eq_true hk1)) (kn_2_0 (Nat.eq_of_beq_eq_true hk1)) (by decide +kernel) (inb_in hi_v5) ?_
      rw [← hv5]
      have e9 := Option.some.inj hf
      subst e9
      exact CW.iret rfl (by decide +kernel)
    rw [if_neg c14_0_4] at hf
    by_cases c14_1_6 : p1 = 1
    · rw [if_pos c14_1_6] at hf
      refine CW.tableIn (dflt := 156) (lo := 0) (hi := 7) (offs := #[46, 56, 66, 76, 85, 102, 119, 146]) (len := 46) (off := 56) (tgt := 70) (by decide +kernel) (by rw [c14_1_6]; decide) (by rw [c14_1_6]; decide) (by rw [c14_1_6]; decide) (by decide) ?_
      refine CW.run (blk := [(.aload_n 0, 0)]) (pc' := 71) (ls' := [some (.ref b), some (.int p0), some (.int p1)]) (st' := [.ref b]) (by decide +kernel) rfl ?_
      refine CW.getf (v := .ref S.2.2.1) hb (by decide) fl_RX11_66 (by decide +kernel) rfl ?_
      refine CW.getf (v := .ref (S.2.2.1 + 2)) (Nat.eq_of_beq_eq_true hk1) (by decide) fl_RX11_120 (by decide +kernel) rfl ?_
      refine CW.run (blk := [(.iload_n 1, 0)]) (pc' := 78) (ls' := [some (.ref b), some (.int p0), some (.int p1)]) (st' := [.int p0, .ref (S.2.2.1 + 2)]) (by decide +kernel) rfl ?_
      obtain ⟨hi_v7, hf⟩ := bi_some hf
      obtain ⟨v7, hv7, hf⟩ := letv_some hf
      refine CW.iald (kk_2_1 (Nat.eq_of_beq_eq_true hk1)) (kn_2_1 (Nat.eq_of_beq_eq_true hk1)) (by decide +kernel) (inb_in hi_v7) ?_
      rw [← hv7]
      have e9 := Option.some.inj hf
      subst e9
      exact CW.iret rfl (by decide +kernel)
    rw [if_neg c14_1_6] at hf
    by_cases c14_2_8 : p1 = 2
    · rw [if_pos c14_2_8] at hf
      refine CW.tableIn (dflt := 156) (lo := 0) (hi := 7) (offs := #[46, 56, 66, 76, 85, 102, 119, 146]) (len := 46) (off := 66) (tgt := 80) (by decide +kernel) (by rw [c14_2_8]; decide) (by rw [c14_2_8]; decide) (by rw [c14_2_8]; decide) (by decide) ?_
      refine CW.run (blk := [(.aload_n 0, 0)]) (pc' := 81) (ls' := [some (.ref b), some (.int p0), some (.int p1)]) (st' := [.ref b]) (by decide +kernel) rfl ?_
      refine CW.getf (v := .ref S.2.2.1) hb (by decide) fl_RX11_66 (by decide +kernel) rfl ?_
      refine CW.getf (v := .ref (S.2.2.1 + 3)) (Nat.eq_of_beq_eq_true hk1) (by decide) fl_RX11_123 (by decide +kernel) rfl ?_
      refine CW.run (blk := [(.iload_n 1, 0)]) (pc' := 88) (ls' := [some (.ref b), some (.int p0), some (.int p1)]) (st' := [.int p0, .ref (S.2.2.1 + 3)]) (by decide +kernel) rfl ?_
      obtain ⟨hi_v9, hf⟩ := bi_some hf
      obtain ⟨v9, hv9, hf⟩ := letv_some hf
      refine CW.iald (kk_2_2 (Nat.eq_of_beq_eq_true hk1)) (kn_2_2 (Nat.eq_of_beq_eq_true hk1)) (by decide +kernel) (inb_in hi_v9) ?_
      rw [← hv9]
      have e9 := Option.some.inj hf
      subst e9
      exact CW.iret rfl (by decide +kernel)
    rw [if_neg c14_2_8] at hf
    by_cases c14_3_10 : p1 = 3
    · rw [if_pos c14_3_10] at hf
      refine CW.tableIn (dflt := 156) (lo := 0) (hi := 7) (offs := #[46, 56, 66, 76, 85, 102, 119, 146]) (len := 46) (off := 76) (tgt := 90) (by decide +kernel) (by rw [c14_3_10]; decide) (by rw [c14_3_10]; decide) (by rw [c14_3_10]; decide) (by decide) ?_
      refine CW.run (blk := [(.aload_n 0, 0)]) (pc' := 91) (ls' := [some (.ref b), some (.int p0), some (.int p1)]) (st' := [.ref b]) (by decide +kernel) rfl ?_
      refine CW.getf (v := .ref S.2.2.1) hb (by decide) fl_RX11_66 (by decide +kernel) rfl ?_
      refine CW.run (blk := [(.iload_n 1, 0)]) (pc' := 95) (ls' := [some (.ref b), some (.int p0), some (.int p1)]) (st' := [.int p0, .ref S.2.2.1]) (by decide +kernel) rfl ?_
      obtain ⟨q11, hq11, hf⟩ := bd_some hf
      refine CW.callV (As := [.int p0]) (st := []) lv_RX11_126 (Nat.eq_of_beq_eq_true hk1) (by decide) rfl rfl (by decide +kernel) (xc_X2_looksOf (Nat.eq_of_beq_eq_true hk1) hq11) (by decide) (by decide) rfl (Nat.le_of_ble_eq_true rfl) rfl ?_
      show CW l yy_X11_person 6 _ _ 98 [some (.ref b), some (.int p0), some (.int p1)] [.int q11] S
      have e9 := Option.some.inj hf
      subst e9
      exact CW.iret rfl (by decide +kernel)
    rw [if_neg c14_3_10] at hf
    by_cases c14_4_12 : p1 = 4
    · rw [if_pos c14_4_12] at hf
      refine CW.tableIn (dflt := 156) (lo := 0) (hi := 7) (offs := #[46, 56, 66, 76, 85, 102, 119, 146]) (len := 46) (off := 85) (tgt := 99) (by decide +kernel) (by rw [c14_4_12]; decide) (by rw [c14_4_12]; decide) (by rw [c14_4_12]; decide) (by decide) ?_
      refine CW.run (blk := [(.aload_n 0, 0)]) (pc' := 100) (ls' := [some (.ref b), some (.int p0), some (.int p1)]) (st' := [.ref b]) (by decide +kernel) rfl ?_
      refine CW.getf (v := .ref (b + 101)) hb (by decide) fl_RX11_48 (by decide +kernel) rfl ?_
      refine CW.run (blk := [(.aload_n 0, 0)]) (pc' := 104) (ls' := [some (.ref b), some (.int p0), some (.int p1)]) (st' := [.ref b, .ref (b + 101)]) (by decide +kernel) rfl ?_
      refine CW.getf (v := .ref S.2.2.1) hb (by decide) fl_RX11_66 (by decide +kernel) rfl ?_
      refine CW.run (blk := [(.aload_n 0, 0)]) (pc' := 108) (ls' := [some (.ref b), some (.int p0), some (.int p1)]) (st' := [.ref b, .ref S.2.2.1, .ref (b + 101)]) (by decide +kernel) rfl ?_
      obtain ⟨q13, hq13, hf⟩ := bd_some hf
      refine CW.callV (As := []) (st := [.ref S.2.2.1, .ref (b + 101)]) lv_RX11_130 hb (by decide) rfl rfl (by decide +kernel) (xc_X11_inForce hb hq13) (by decide) (by decide) rfl (Nat.le_of_ble_eq_true rfl) rfl ?_
      show CW l yy_X11_person 6 _ _ 111 [some (.ref b), some (.int p0), some (.int p1)] [.ref q13, .ref S.2.2.1, .ref (b + 101)] S
      obtain ⟨hk14, hf⟩ := bi_some hf
      refine CW.run (blk := [(.iload_n 1, 0)]) (pc' := 112) (ls' := [some (.ref b), some (.int p0), some (.int p1)]) (st' := [.int p0, .ref q13, .ref S.2.2.1, .ref (b + 101)]) (by decide +kernel) rfl ?_
      obtain ⟨q15, hq15, hf⟩ := bd_some hf
      refine CW.callV (As := [.ref S.2.2.1, .ref q13, .int p0]) (st := []) lv_RX11_133 (kk_9_6 hb) (by decide) rfl rfl (by decide +kernel) (xc_X4_believed (kk_9_6 hb) (Nat.eq_of_beq_eq_true hk1) (Nat.eq_of_beq_eq_true hk14) hq15) (by decide) (by decide) rfl (Nat.le_of_ble_eq_true rfl) rfl ?_
      show CW l yy_X11_person 6 _ _ 115 [some (.ref b), some (.int p0), some (.int p1)] [.int q15.1] q15.2
      have e9 := Option.some.inj hf
      subst e9
      exact CW.iret rfl (by decide +kernel)
    rw [if_neg c14_4_12] at hf
    by_cases c14_5_16 : p1 = 5
    · rw [if_pos c14_5_16] at hf
      refine CW.tableIn (dflt := 156) (lo := 0) (hi := 7) (offs := #[46, 56, 66, 76, 85, 102, 119, 146]) (len := 46) (off := 102) (tgt := 116) (by decide +kernel) (by rw [c14_5_16]; decide) (by rw [c14_5_16]; decide) (by rw [c14_5_16]; decide) (by decide) ?_
      refine CW.run (blk := [(.aload_n 0, 0)]) (pc' := 117) (ls' := [some (.ref b), some (.int p0), some (.int p1)]) (st' := [.ref b]) (by decide +kernel) rfl ?_
      refine CW.getf (v := .ref (b + 101)) hb (by decide) fl_RX11_48 (by decide +kernel) rfl ?_
      refine CW.run (blk := [(.aload_n 0, 0)]) (pc' := 121) (ls' := [some (.ref b), some (.int p0), some (.int p1)]) (st' := [.ref b, .ref (b + 101)]) (by decide +kernel) rfl ?_
      refine CW.getf (v := .ref S.2.2.1) hb (by decide) fl_RX11_66 (by decide +kernel) rfl ?_
      refine CW.run (blk := [(.aload_n 0, 0)]) (pc' := 125) (ls' := [some (.ref b), some (.int p0), some (.int p1)]) (st' := [.ref b, .ref S.2.2.1, .ref (b + 101)]) (by decide +kernel) rfl ?_
      obtain ⟨q17, hq17, hf⟩ := bd_some hf
      refine CW.callV (As := []) (st := [.ref S.2.2.1, .ref (b + 101)]) lv_RX11_130 hb (by decide) rfl rfl (by decide +kernel) (xc_X11_inForce hb hq17) (by decide) (by decide) rfl (Nat.le_of_ble_eq_true rfl) rfl ?_
      show CW l yy_X11_person 6 _ _ 128 [some (.ref b), some (.int p0), some (.int p1)] [.ref q17, .ref S.2.2.1, .ref (b + 101)] S
      obtain ⟨hk18, hf⟩ := bi_some hf
      refine CW.run (blk := [(.iload_n 1, 0)]) (pc' := 129) (ls' := [some (.ref b), some (.int p0), some (.int p1)]) (st' := [.int p0, .ref q17, .ref S.2.2.1, .ref (b + 101)]) (by decide +kernel) rfl ?_
      obtain ⟨q19, hq19, hf⟩ := bd_some hf
      refine CW.callV (As := [.ref S.2.2.1, .ref q17, .int p0]) (st := []) lv_RX11_137 (kk_9_6 hb) (by decide) rfl rfl (by decide +kernel) (xc_X4_open (kk_9_6 hb) (Nat.eq_of_beq_eq_true hk1) (Nat.eq_of_beq_eq_true hk18) hq19) (by decide) (by decide) rfl (Nat.le_of_ble_eq_true rfl) rfl ?_
      show CW l yy_X11_person 6 _ _ 132 [some (.ref b), some (.int p0), some (.int p1)] [.int q19.1] q19.2
      have e9 := Option.some.inj hf
      subst e9
      exact CW.iret rfl (by decide +kernel)
    rw [if_neg c14_5_16] at hf
    by_cases c14_6_20 : p1 = 6
    · rw [if_pos c14_6_20] at hf
      refine CW.tableIn (dflt := 156) (lo := 0) (hi := 7) (offs := #[46, 56, 66, 76, 85, 102, 119, 146]) (len := 46) (off := 119) (tgt := 133) (by decide +kernel) (by rw [c14_6_20]; decide) (by rw [c14_6_20]; decide) (by rw [c14_6_20]; decide) (by decide) ?_
      refine CW.run (blk := [(.aload_n 0, 0)]) (pc' := 134) (ls' := [some (.ref b), some (.int p0), some (.int p1)]) (st' := [.ref b]) (by decide +kernel) rfl ?_
      refine CW.getf (v := .ref S.2.2.1) hb (by decide) fl_RX11_66 (by decide +kernel) rfl ?_
      refine CW.getf (v := .int (S.1 S.2.2.1 11)) (Nat.eq_of_beq_eq_true hk1) (by decide) fl_RX11_140 (by decide +kernel) rfl ?_
      refine CW.if_eq (off := 18) (tgt := 158) (by decide +kernel) (by decide) (fun c140_21 => ?_) (fun c140_21 => ?_)
      · rw [if_pos c140_21] at hf
        refine CW.run (blk := [(.iconst 0, 0)]) (pc' := 159) (ls' := [some (.ref b), some (.int p0), some (.int p1)]) (st' := [.int 0]) (by decide +kernel) rfl ?_
        have e9 := Option.some.inj hf
        subst e9
        exact CW.iret rfl (by decide +kernel)
      · rw [if_neg c140_21] at hf
        refine CW.run (blk := [(.aload_n 0, 0)]) (pc' := 144) (ls' := [some (.ref b), some (.int p0), some (.int p1)]) (st' := [.ref b]) (by decide +kernel) rfl ?_
        refine CW.getf (v := .ref S.2.2.1) hb (by decide) fl_RX11_66 (by decide +kernel) rfl ?_
        refine CW.getf (v := .int (S.1 S.2.2.1 10)) (Nat.eq_of_beq_eq_true hk1) (by decide) fl_RX11_144 (by decide +kernel) rfl ?_
        refine CW.run (blk := [(.iload_n 1, 0)]) (pc' := 151) (ls' := [some (.ref b), some (.int p0), some (.int p1)]) (st' := [.int p0, .int (S.1 S.2.2.1 10)]) (by decide +kernel) rfl ?_
        refine CW.icmp_ne (off := 7) (tgt := 158) (by decide +kernel) (by decide) (fun c151_22 => ?_) (fun c151_22 => ?_)
        · rw [if_neg c151_22] at hf
          refine CW.run (blk := [(.iconst 0, 0)]) (pc' := 159) (ls' := [some (.ref b), some (.int p0), some (.int p1)]) (st' := [.int 0]) (by decide +kernel) rfl ?_
          have e9 := Option.some.inj hf
          subst e9
          exact CW.iret rfl (by decide +kernel)
        · rw [if_pos c151_22] at hf
          refine CW.run (blk := [(.iconst 1, 1), (.goto 4, 0)]) (pc' := 159) (ls' := [some (.ref b), some (.int p0), some (.int p1)]) (st' := [.int 1]) (by decide +kernel) rfl ?_
          have e9 := Option.some.inj hf
          subst e9
          exact CW.iret rfl (by decide +kernel)
    rw [if_neg c14_6_20] at hf
    by_cases c14_7_23 : p1 = 7
    · rw [if_pos c14_7_23] at hf
      refine CW.tableIn (dflt := 156) (lo := 0) (hi := 7) (offs := #[46, 56, 66, 76, 85, 102, 119, 146]) (len := 46) (off := 146) (tgt := 160) (by decide +kernel) (by rw [c14_7_23]; decide) (by rw [c14_7_23]; decide) (by rw [c14_7_23]; decide) (by decide) ?_
      refine CW.run (blk := [(.aload_n 0, 0)]) (pc' := 161) (ls' := [some (.ref b), some (.int p0), some (.int p1)]) (st' := [.ref b]) (by decide +kernel) rfl ?_
      refine CW.getf (v := .ref S.2.2.1) hb (by decide) fl_RX11_66 (by decide +kernel) rfl ?_
      refine CW.getf (v := .ref (S.2.2.1 + 4)) (Nat.eq_of_beq_eq_true hk1) (by decide) fl_RX11_147 (by decide +kernel) rfl ?_
      refine CW.run (blk := [(.iload_n 1, 0)]) (pc' := 168) (ls' := [some (.ref b), some (.int p0), some (.int p1)]) (st' := [.int p0, .ref (S.2.2.1 + 4)]) (by decide +kernel) rfl ?_
      obtain ⟨hi_v24, hf⟩ := bi_some hf
      obtain ⟨v24, hv24, hf⟩ := letv_some hf
      refine CW.iald (kk_2_3 (Nat.eq_of_beq_eq_true hk1)) (kn_2_3 (Nat.eq_of_beq_eq_true hk1)) (by decide +kernel) (inb_in hi_v24) ?_
      rw [← hv24]
      have e9 := Option.some.inj hf
      subst e9
      exact CW.iret rfl (by decide +kernel)
    rw [if_neg c14_7_23] at hf
    refine CW.tableOut (dflt := 156) (lo := 0) (hi := 7) (offs := #[46, 56, 66, 76, 85, 102, 119, 146]) (len := 46) (tgt := 170) (by decide +kernel) (by have := ne_toInt c14_0_4 (k := 0) rfl; have := ne_toInt c14_1_6 (k := 1) rfl; have := ne_toInt c14_2_8 (k := 2) rfl; have := ne_toInt c14_3_10 (k := 3) rfl; have := ne_toInt c14_4_12 (k := 4) rfl; have := ne_toInt c14_5_16 (k := 5) rfl; have := ne_toInt c14_6_20 (k := 6) rfl; have := ne_toInt c14_7_23 (k := 7) rfl; omega) (by decide) ?_
    refine CW.run (blk := [(.iconst (-1), (-1))]) (pc' := 171) (ls' := [some (.ref b), some (.int p0), some (.int p1)]) (st' := [.int (-1)]) (by decide +kernel) rfl ?_
    have e9 := Option.some.inj hf
    subst e9
    exact CW.iret rfl (by decide +kernel)
  · rw [if_pos c8_3] at hf
    refine CW.run (blk := [(.iconst (-1), (-1))]) (pc' := 12) (ls' := [some (.ref b), some (.int p0), some (.int p1)]) (st' := [.int (-1)]) (by decide +kernel) rfl ?_
    have e9 := Option.some.inj hf
    subst e9
    exact CW.iret rfl (by decide +kernel)
def fc_X11_sum (b : Nat) (p0 : Int32) (p1 : Int32) (S : cT) : Option (Int32 × cT) := bif Nat.beq (cK S.2.2.1) 2 then ((fc_X2_has S.2.2.1 p0 S).bind fun q2 => if (b2i q2) = 0 then (some ((-1000000), S)) else ((fc_X2_hasMark S.2.2.1 p1 S).bind fun q4 => if (b2i q4) = 0 then (some ((-1000000), S)) else ((fc_X11_inForce b S).bind fun q6 => bif Nat.beq (cK q6) 6 then ((fc_X4_addUp (b + 101) S.2.2.1 q6 p0 S).bind fun q8 => bif inb p1 6 then (letv (q8.1 ((b + 101) + 4) (p1 : Int32).toNatClampNeg) fun v9 => some (v9, q8)) else none) else none))) else none
theorem xc_X11_sum {l : Launch} {b : Nat} {p0 : Int32} {p1 : Int32} {S : cT} {q : Int32 × cT} (hb : cK b = 9) (hf : fc_X11_sum b p0 p1 S = some q) : COk l yy_X11_sum 5 [.ref b, .int p0, .int p1] S (some (.int q.1)) q.2 := by
  refine COk.of (ls := [some (.ref b), some (.int p0), some (.int p1)]) (by decide +kernel) (Nat.le_of_ble_eq_true rfl) rfl ?_
  unfold fc_X11_sum at hf
  refine CW.run (blk := [(.aload_n 0, 0)]) (pc' := 1) (ls' := [some (.ref b), some (.int p0), some (.int p1)]) (st' := [.ref b]) (by decide +kernel) rfl ?_
  refine CW.getf (v := .ref S.2.2.1) hb (by decide) fl_RX11_66 (by decide +kernel) rfl ?_
  obtain ⟨hk1, hf⟩ := bi_some hf
  refine CW.run (blk := [(.iload_n 1, 0)]) (pc' := 5) (ls' := [some (.ref b), some (.int p0), some (.int p1)]) (st' := [.int p0, .ref S.2.2.1]) (by decide +kernel) rfl ?_
  obtain ⟨q2, hq2, hf⟩ := bd_some hf
  refine CW.callV (As := [.int p0]) (st := []) lv_RX11_114 (Nat.eq_of_beq_eq_true hk1) (by decide) rfl rfl (by decide +kernel) (xc_X2_has (Nat.eq_of_beq_eq_true hk1) hq2) (by decide) (by decide) rfl (Nat.le_of_ble_eq_true rfl) rfl ?_
  show CW l yy_X11_sum 5 _ _ 8 [some (.ref b), some (.int p0), some (.int p1)] [.int (b2i q2)] S
  refine CW.if_eq (off := 14) (tgt := 22) (by decide +kernel) (by decide) (fun c8_3 => ?_) (fun c8_3 => ?_)
  · rw [if_pos c8_3] at hf
    refine CW.ldc (idx := 153) (v := (-1000000)) (tb_in 662 (by decide +kernel) (by decide +kernel)) (by decide +kernel) ?_
    have e9 := Option.some.inj hf
    subst e9
    exact CW.iret rfl (by decide +kernel)
  · rw [if_neg c8_3] at hf
    refine CW.run (blk := [(.aload_n 0, 0)]) (pc' := 12) (ls' := [some (.ref b), some (.int p0), some (.int p1)]) (st' := [.ref b]) (by decide +kernel) rfl ?_
    refine CW.getf (v := .ref S.2.2.1) hb (by decide) fl_RX11_66 (by decide +kernel) rfl ?_
    refine CW.run (blk := [(.iload_n 2, 0)]) (pc' := 16) (ls' := [some (.ref b), some (.int p0), some (.int p1)]) (st' := [.int p1, .ref S.2.2.1]) (by decide +kernel) rfl ?_
    obtain ⟨q4, hq4, hf⟩ := bd_some hf
    refine CW.callV (As := [.int p1]) (st := []) lv_RX11_150 (Nat.eq_of_beq_eq_true hk1) (by decide) rfl rfl (by decide +kernel) (xc_X2_hasMark (Nat.eq_of_beq_eq_true hk1) hq4) (by decide) (by decide) rfl (Nat.le_of_ble_eq_true rfl) rfl ?_
    show CW l yy_X11_sum 5 _ _ 19 [some (.ref b), some (.int p0), some (.int p1)] [.int (b2i q4)] S
    refine CW.if_ne (off := 6) (tgt := 25) (by decide +kernel) (by decide) (fun c19_5 => ?_) (fun c19_5 => ?_)
    · rw [if_neg c19_5] at hf
      refine CW.run (blk := [(.aload_n 0, 0)]) (pc' := 26) (ls' := [some (.ref b), some (.int p0), some (.int p1)]) (st' := [.ref b]) (by decide +kernel) rfl ?_
      refine CW.getf (v := .ref (b + 101)) hb (by decide) fl_RX11_48 (by decide +kernel) rfl ?_
      refine CW.run (blk := [(.aload_n 0, 0)]) (pc' := 30) (ls' := [some (.ref b), some (.int p0), some (.int p1)]) (st' := [.ref b, .ref (b + 101)]) (by decide +kernel) rfl ?_
      refine CW.getf (v := .ref S.2.2.1) hb (by decide) fl_RX11_66 (by decide +kernel) rfl ?_
      refine CW.run (blk := [(.aload_n 0, 0)]) (pc' := 34) (ls' := [some (.ref b), some (.int p0), some (.int p1)]) (st' := [.ref b, .ref S.2.2.1, .ref (b + 101)]) (by decide +kernel) rfl ?_
      obtain ⟨q6, hq6, hf⟩ := bd_some hf
      refine CW.callV (As := []) (st := [.ref S.2.2.1, .ref (b + 101)]) lv_RX11_130 hb (by decide) rfl rfl (by decide +kernel) (xc_X11_inForce hb hq6) (by decide) (by decide) rfl (Nat.le_of_ble_eq_true rfl) rfl ?_
      show CW l yy_X11_sum 5 _ _ 37 [some (.ref b), some (.int p0), some (.int p1)] [.ref q6, .ref S.2.2.1, .ref (b + 101)] S
      obtain ⟨hk7, hf⟩ := bi_some hf
      refine CW.run (blk := [(.iload_n 1, 0)]) (pc' := 38) (ls' := [some (.ref b), some (.int p0), some (.int p1)]) (st' := [.int p0, .ref q6, .ref S.2.2.1, .ref (b + 101)]) (by decide +kernel) rfl ?_
      obtain ⟨q8, hq8, hf⟩ := bd_some hf
      refine CW.callV (As := [.ref S.2.2.1, .ref q6, .int p0]) (st := []) lv_RX11_154 (kk_9_6 hb) (by decide) rfl rfl (by decide +kernel) (xc_X4_addUp (kk_9_6 hb) (Nat.eq_of_beq_eq_true hk1) (Nat.eq_of_beq_eq_true hk7) hq8) (by decide) (by decide) rfl (Nat.le_of_ble_eq_true rfl) rfl ?_
      show CW l yy_X11_sum 5 _ _ 41 [some (.ref b), some (.int p0), some (.int p1)] [] q8
      refine CW.run (blk := [(.aload_n 0, 0)]) (pc' := 42) (ls' := [some (.ref b), some (.int p0), some (.int p1)]) (st' := [.ref b]) (by decide +kernel) rfl ?_
      refine CW.getf (v := .ref (b + 101)) hb (by decide) fl_RX11_48 (by decide +kernel) rfl ?_
      refine CW.getf (v := .ref ((b + 101) + 4)) (kk_9_6 hb) (by decide) fl_RX11_158 (by decide +kernel) rfl ?_
      refine CW.run (blk := [(.iload_n 2, 0)]) (pc' := 49) (ls' := [some (.ref b), some (.int p0), some (.int p1)]) (st' := [.int p1, .ref ((b + 101) + 4)]) (by decide +kernel) rfl ?_
      obtain ⟨hi_v9, hf⟩ := bi_some hf
      obtain ⟨v9, hv9, hf⟩ := letv_some hf
      refine CW.iald (kk_3_1 (kk_9_6 hb)) (kn_3_1 (kk_9_6 hb)) (by decide +kernel) (inb_in hi_v9) ?_
      rw [← hv9]
      have e9 := Option.some.inj hf
      subst e9
      exact CW.iret rfl (by decide +kernel)
    · rw [if_pos c19_5] at hf
      refine CW.ldc (idx := 153) (v := (-1000000)) (tb_in 662 (by decide +kernel) (by decide +kernel)) (by decide +kernel) ?_
      have e9 := Option.some.inj hf
      subst e9
      exact CW.iret rfl (by decide +kernel)
def fc_X11_tie (b : Nat) (p0 : Int32) (p1 : Int32) (S : cT) : Option (Int32) := bif Nat.beq (cK S.2.2.1) 2 then ((fc_X2_hasTwo S.2.2.1 p0 p1 S).bind fun q2 => if (b2i q2) = 0 then (some (-1)) else ((fc_X2_heed S.2.2.1 p0 p1 S).bind fun q4 => some q4)) else none
theorem xc_X11_tie {l : Launch} {b : Nat} {p0 : Int32} {p1 : Int32} {S : cT} {q : Int32} (hb : cK b = 9) (hf : fc_X11_tie b p0 p1 S = some q) : COk l yy_X11_tie 2 [.ref b, .int p0, .int p1] S (some (.int q)) S := by
  refine COk.of (ls := [some (.ref b), some (.int p0), some (.int p1)]) (by decide +kernel) (Nat.le_of_ble_eq_true rfl) rfl ?_
  unfold fc_X11_tie at hf
  refine CW.run (blk := [(.aload_n 0, 0)]) (pc' := 1) (ls' := [some (.ref b), some (.int p0), some (.int p1)]) (st' := [.ref b]) (by decide +kernel) rfl ?_
  refine CW.getf (v := .ref S.2.2.1) hb (by decide) fl_RX11_66 (by decide +kernel) rfl ?_
  obtain ⟨hk1, hf⟩ := bi_some hf
  refine CW.run (blk := [(.iload_n 1, 0), (.iload_n 2, 0)]) (pc' := 6) (ls' := [some (.ref b), some (.int p0), some (.int p1)]) (st' := [.int p1, .int p0, .ref S.2.2.1]) (by decide +kernel) rfl ?_
  obtain ⟨q2, hq2, hf⟩ := bd_some hf
  refine CW.callV (As := [.int p0, .int p1]) (st := []) lv_RX11_161 (Nat.eq_of_beq_eq_true hk1) (by decide) rfl rfl (by decide +kernel) (xc_X2_hasTwo (Nat.eq_of_beq_eq_true hk1) hq2) (by decide) (by decide) rfl (Nat.le_of_ble_eq_true rfl) rfl ?_
  show CW l yy_X11_tie 2 _ _ 9 [some (.ref b), some (.int p0), some (.int p1)] [.int (b2i q2)] S
  refine CW.if_eq (off := 15) (tgt := 24) (by decide +kernel) (by decide) (fun c9_3 => ?_) (fun c9_3 => ?_)
  · rw [if_pos c9_3] at hf
    refine CW.run (blk := [(.iconst (-1), (-1))]) (pc' := 25) (ls' := [some (.ref b), some (.int p0), some (.int p1)]) (st' := [.int (-1)]) (by decide +kernel) rfl ?_
    have e9 := Option.some.inj hf
    subst e9
    exact CW.iret rfl (by decide +kernel)
  · rw [if_neg c9_3] at hf
    refine CW.run (blk := [(.aload_n 0, 0)]) (pc' := 13) (ls' := [some (.ref b), some (.int p0), some (.int p1)]) (st' := [.ref b]) (by decide +kernel) rfl ?_
    refine CW.getf (v := .ref S.2.2.1) hb (by decide) fl_RX11_66 (by decide +kernel) rfl ?_
    refine CW.run (blk := [(.iload_n 1, 0), (.iload_n 2, 0)]) (pc' := 18) (ls' := [some (.ref b), some (.int p0), some (.int p1)]) (st' := [.int p1, .int p0, .ref S.2.2.1]) (by decide +kernel) rfl ?_
    obtain ⟨q4, hq4, hf⟩ := bd_some hf
    refine CW.callV (As := [.int p0, .int p1]) (st := []) lv_RX11_165 (Nat.eq_of_beq_eq_true hk1) (by decide) rfl rfl (by decide +kernel) (xc_X2_heed (Nat.eq_of_beq_eq_true hk1) hq4) (by decide) (by decide) rfl (Nat.le_of_ble_eq_true rfl) rfl ?_
    show CW l yy_X11_tie 2 _ _ 21 [some (.ref b), some (.int p0), some (.int p1)] [.int q4] S
    refine CW.run (blk := [(.goto 4, 0)]) (pc' := 25) (ls' := [some (.ref b), some (.int p0), some (.int p1)]) (st' := [.int q4]) (by decide +kernel) rfl ?_
    have e9 := Option.some.inj hf
    subst e9
    exact CW.iret rfl (by decide +kernel)
def fc_X11_telling (b : Nat) (p0 : Int32) (p1 : Int32) (S : cT) : Option (Int32) := bif Nat.beq (cK S.2.2.1) 2 then ((fc_X6_has (S.2.2.1 + 6) p0 S).bind fun q2 => if (b2i q2) = 0 then (some (-2)) else (if p1 = 0 then ((fc_X6_at (S.2.2.1 + 6) p0 0 S).bind fun q5 => some q5) else (if p1 = 1 then ((fc_X6_at (S.2.2.1 + 6) p0 1 S).bind fun q7 => some q7) else (if p1 = 2 then ((fc_X6_at (S.2.2.1 + 6) p0 2 S).bind fun q9 => some q9) else (if p1 = 3 then ((fc_X6_at (S.2.2.1 + 6) p0 3 S).bind fun q11 => some q11) else (if p1 = 4 then ((fc_X6_at (S.2.2.1 + 6) p0 4 S).bind fun q13 => some q13) else (if p1 = 5 then ((fc_X6_at (S.2.2.1 + 6) p0 5 S).bind fun q15 => some q15) else (if p1 = 6 then ((fc_X2_isLook S.2.2.1 p0 S).bind fun q17 => if (b2i q17) = 0 then (some 0) else (some 1)) else (some (-2)))))))))) else none
theorem xc_X11_telling {l : Launch} {b : Nat} {p0 : Int32} {p1 : Int32} {S : cT} {q : Int32} (hb : cK b = 9) (hf : fc_X11_telling b p0 p1 S = some q) : COk l yy_X11_telling 3 [.ref b, .int p0, .int p1] S (some (.int q)) S := by
  refine COk.of (ls := [some (.ref b), some (.int p0), some (.int p1)]) (by decide +kernel) (Nat.le_of_ble_eq_true rfl) rfl ?_
  unfold fc_X11_telling at hf
  refine CW.run (blk := [(.aload_n 0, 0)]) (pc' := 1) (ls' := [some (.ref b), some (.int p0), some (.int p1)]) (st' := [.ref b]) (by decide +kernel) rfl ?_
  refine CW.getf (v := .ref S.2.2.1) hb (by decide) fl_RX11_66 (by decide +kernel) rfl ?_
  obtain ⟨hk1, hf⟩ := bi_some hf
  refine CW.getf (v := .ref (S.2.2.1 + 6)) (Nat.eq_of_beq_eq_true hk1) (by decide) fl_RX11_169 (by decide +kernel) rfl ?_
  refine CW.run (blk := [(.iload_n 1, 0)]) (pc' := 8) (ls' := [some (.ref b), some (.int p0), some (.int p1)]) (st' := [.int p0, .ref (S.2.2.1 + 6)]) (by decide +kernel) rfl ?_
  obtain ⟨q2, hq2, hf⟩ := bd_some hf
  refine CW.callV (As := [.int p0]) (st := []) lv_RX11_173 (kk_2_5 (Nat.eq_of_beq_eq_true hk1)) (by decide) rfl rfl (by decide +kernel) (xc_X6_has (kk_2_5 (Nat.eq_of_beq_eq_true hk1)) hq2) (by decide) (by decide) rfl (Nat.le_of_ble_eq_true rfl) rfl ?_
  show CW l yy_X11_telling 3 _ _ 11 [some (.ref b), some (.int p0), some (.int p1)] [.int (b2i q2)] S
  refine CW.if_ne (off := 6) (tgt := 17) (by decide +kernel) (by decide) (fun c11_3 => ?_) (fun c11_3 => ?_)
  · rw [if_neg c11_3] at hf
    refine CW.run (blk := [(.iload_n 2, 0)]) (pc' := 18) (ls' := [some (.ref b), some (.int p0), some (.int p1)]) (st' := [.int p1]) (by decide +kernel) rfl ?_
    by_cases c18_0_4 : p1 = 0
    · rw [if_pos c18_0_4] at hf
      refine CW.tableIn (dflt := 137) (lo := 0) (hi := 6) (offs := #[42, 55, 68, 81, 94, 107, 120]) (len := 42) (off := 42) (tgt := 60) (by decide +kernel) (by rw [c18_0_4]; decide) (by rw [c18_0_4]; decide) (by rw [c18_0_4]; decide) (by decide) ?_
      refine CW.run (blk := [(.aload_n 0, 0)]) (pc' := 61) (ls' := [some (.ref b), some (.int p0), some (.int p1)]) (st' := [.ref b]) (by decide +kernel) rfl ?_
      refine CW.getf (v := .ref S.2.2.1) hb (by decide) fl_RX11_66 (by decide +kernel) rfl ?_
      refine CW.getf (v := .ref (S.2.2.1 + 6)) (Nat.eq_of_beq_eq_true hk1) (by decide) fl_RX11_169 (by decide +kernel) rfl ?_
      refine CW.run (blk := [(.iload_n 1, 0), (.iconst 0, 0)]) (pc' := 69) (ls' := [some (.ref b), some (.int p0), some (.int p1)]) (st' := [.int 0, .int p0, .ref (S.2.2.1 + 6)]) (by decide +kernel) rfl ?_
      obtain ⟨q5, hq5, hf⟩ := bd_some hf
      refine CW.callV (As := [.int p0, .int 0]) (st := []) lv_RX11_176 (kk_2_5 (Nat.eq_of_beq_eq_true hk1)) (by decide) rfl rfl (by decide +kernel) (xc_X6_at (kk_2_5 (Nat.eq_of_beq_eq_true hk1)) hq5) (by decide) (by decide) rfl (Nat.le_of_ble_eq_true rfl) rfl ?_
      show CW l yy_X11_telling 3 _ _ 72 [some (.ref b), some (.int p0), some (.int p1)] [.int q5] S
      have e9 := Option.some.inj hf
      subst e9
      exact CW.iret rfl (by decide +kernel)
    rw [if_neg c18_0_4] at hf
    by_cases c18_1_6 : p1 = 1
    · rw [if_pos c18_1_6] at hf
      refine CW.tableIn (dflt := 137) (lo := 0) (hi := 6) (offs := #[42, 55, 68, 81, 94, 107, 120]) (len := 42) (off := 55) (tgt := 73) (by decide +kernel) (by rw [c18_1_6]; decide) (by rw [c18_1_6]; decide) (by rw [c18_1_6]; decide) (by decide) ?_
      refine CW.run (blk := [(.aload_n 0, 0)]) (pc' := 74) (ls' := [some (.ref b), some (.int p0), some (.int p1)]) (st' := [.ref b]) (by decide +kernel) rfl ?_
      refine CW.getf (v := .ref S.2.2.1) hb (by decide) fl_RX11_66 (by decide +kernel) rfl ?_
      refine CW.getf (v := .ref (S.2.2.1 + 6)) (Nat.eq_of_beq_eq_true hk1) (by decide) fl_RX11_169 (by decide +kernel) rfl ?_
      refine CW.run (blk := [(.iload_n 1, 0), (.iconst 1, 1)]) (pc' := 82) (ls' := [some (.ref b), some (.int p0), some (.int p1)]) (st' := [.int 1, .int p0, .ref (S.2.2.1 + 6)]) (by decide +kernel) rfl ?_
      obtain ⟨q7, hq7, hf⟩ := bd_some hf
      refine CW.callV (As := [.int p0, .int 1]) (st := []) lv_RX11_176 (kk_2_5 (Nat.eq_of_beq_eq_true hk1)) (by decide) rfl rfl (by decide +kernel) (xc_X6_at (kk_2_5 (Nat.eq_of_beq_eq_true hk1)) hq7) (by decide) (by decide) rfl (Nat.le_of_ble_eq_true rfl) rfl ?_
      show CW l yy_X11_telling 3 _ _ 85 [some (.ref b), some (.int p0), some (.int p1)] [.int q7] S
      have e9 := Option.some.inj hf
      subst e9
      exact CW.iret rfl (by decide +kernel)
    rw [if_neg c18_1_6] at hf
    by_cases c18_2_8 : p1 = 2
    · rw [if_pos c18_2_8] at hf
      refine CW.tableIn (dflt := 137) (lo := 0) (hi := 6) (offs := #[42, 55, 68, 81, 94, 107, 120]) (len := 42) (off := 68) (tgt := 86) (by decide +kernel) (by rw [c18_2_8]; decide) (by rw [c18_2_8]; decide) (by rw [c18_2_8]; decide) (by decide) ?_
      refine CW.run (blk := [(.aload_n 0, 0)]) (pc' := 87) (ls' := [some (.ref b), some (.int p0), some (.int p1)]) (st' := [.ref b]) (by decide +kernel) rfl ?_
      refine CW.getf (v := .ref S.2.2.1) hb (by decide) fl_RX11_66 (by decide +kernel) rfl ?_
      refine CW.getf (v := .ref (S.2.2.1 + 6)) (Nat.eq_of_beq_eq_true hk1) (by decide) fl_RX11_169 (by decide +kernel) rfl ?_
      refine CW.run (blk := [(.iload_n 1, 0), (.iconst 2, 2)]) (pc' := 95) (ls' := [some (.ref b), some (.int p0), some (.int p1)]) (st' := [.int 2, .int p0, .ref (S.2.2.1 + 6)]) (by decide +kernel) rfl ?_
      obtain ⟨q9, hq9, hf⟩ := bd_some hf
      refine CW.callV (As := [.int p0, .int 2]) (st := []) lv_RX11_176 (kk_2_5 (Nat.eq_of_beq_eq_true hk1)) (by decide) rfl rfl (by decide +kernel) (xc_X6_at (kk_2_5 (Nat.eq_of_beq_eq_true hk1)) hq9) (by decide) (by decide) rfl (Nat.le_of_ble_eq_true rfl) rfl ?_
      show CW l yy_X11_telling 3 _ _ 98 [some (.ref b), some (.int p0), some (.int p1)] [.int q9] S
      have e9 := Option.some.inj hf
      subst e9
      exact CW.iret rfl (by decide +kernel)
    rw [if_neg c18_2_8] at hf
    by_cases c18_3_10 : p1 = 3
    · rw [if_pos c18_3_10] at hf
      refine CW.tableIn (dflt := 137) (lo := 0) (hi := 6) (offs := #[42, 55, 68, 81, 94, 107, 120]) (len := 42) (off := 81) (tgt := 99) (by decide +kernel) (by rw [c18_3_10]; decide) (by rw [c18_3_10]; decide) (by rw [c18_3_10]; decide) (by decide) ?_
      refine CW.run (blk := [(.aload_n 0, 0)]) (pc' := 100) (ls' := [some (.ref b), some (.int p0), some (.int p1)]) (st' := [.ref b]) (by decide +kernel) rfl ?_
      refine CW.getf (v := .ref S.2.2.1) hb (by decide) fl_RX11_66 (by decide +kernel) rfl ?_
      refine CW.getf (v := .ref (S.2.2.1 + 6)) (Nat.eq_of_beq_eq_true hk1) (by decide) fl_RX11_169 (by decide +kernel) rfl ?_
      refine CW.run (blk := [(.iload_n 1, 0), (.iconst 3, 3)]) (pc' := 108) (ls' := [some (.ref b), some (.int p0), some (.int p1)]) (st' := [.int 3, .int p0, .ref (S.2.2.1 + 6)]) (by decide +kernel) rfl ?_
      obtain ⟨q11, hq11, hf⟩ := bd_some hf
      refine CW.callV (As := [.int p0, .int 3]) (st := []) lv_RX11_176 (kk_2_5 (Nat.eq_of_beq_eq_true hk1)) (by decide) rfl rfl (by decide +kernel) (xc_X6_at (kk_2_5 (Nat.eq_of_beq_eq_true hk1)) hq11) (by decide) (by decide) rfl (Nat.le_of_ble_eq_true rfl) rfl ?_
      show CW l yy_X11_telling 3 _ _ 111 [some (.ref b), some (.int p0), some (.int p1)] [.int q11] S
      have e9 := Option.some.inj hf
      subst e9
      exact CW.iret rfl (by decide +kernel)
    rw [if_neg c18_3_10] at hf
    by_cases c18_4_12 : p1 = 4
    · rw [if_pos c18_4_12] at hf
      refine CW.tableIn (dflt := 137) (lo := 0) (hi := 6) (offs := #[42, 55, 68, 81, 94, 107, 120]) (len := 42) (off := 94) (tgt := 112) (by decide +kernel) (by rw [c18_4_12]; decide) (by rw [c18_4_12]; decide) (by rw [c18_4_12]; decide) (by decide) ?_
      refine CW.run (blk := [(.aload_n 0, 0)]) (pc' := 113) (ls' := [some (.ref b), some (.int p0), some (.int p1)]) (st' := [.ref b]) (by decide +kernel) rfl ?_
      refine CW.getf (v := .ref S.2.2.1) hb (by decide) fl_RX11_66 (by decide +kernel) rfl ?_
      refine CW.getf (v := .ref (S.2.2.1 + 6)) (Nat.eq_of_beq_eq_true hk1) (by decide) fl_RX11_169 (by decide +kernel) rfl ?_
      refine CW.run (blk := [(.iload_n 1, 0), (.iconst 4, 4)]) (pc' := 121) (ls' := [some (.ref b), some (.int p0), some (.int p1)]) (st' := [.int 4, .int p0, .ref (S.2.2.1 + 6)]) (by decide +kernel) rfl ?_
      obtain ⟨q13, hq13, hf⟩ := bd_some hf
      refine CW.callV (As := [.int p0, .int 4]) (st := []) lv_RX11_176 (kk_2_5 (Nat.eq_of_beq_eq_true hk1)) (by decide) rfl rfl (by decide +kernel) (xc_X6_at (kk_2_5 (Nat.eq_of_beq_eq_true hk1)) hq13) (by decide) (by decide) rfl (Nat.le_of_ble_eq_true rfl) rfl ?_
      show CW l yy_X11_telling 3 _ _ 124 [some (.ref b), some (.int p0), some (.int p1)] [.int q13] S
      have e9 := Option.some.inj hf
      subst e9
      exact CW.iret rfl (by decide +kernel)
    rw [if_neg c18_4_12] at hf
    by_cases c18_5_14 : p1 = 5
    · rw [if_pos c18_5_14] at hf
      refine CW.tableIn (dflt := 137) (lo := 0) (hi := 6) (offs := #[42, 55, 68, 81, 94, 107, 120]) (len := 42) (off := 107) (tgt := 125) (by decide +kernel) (by rw [c18_5_14]; decide) (by rw [c18_5_14]; decide) (by rw [c18_5_14]; decide) (by decide) ?_
      refine CW.run (blk := [(.aload_n 0, 0)]) (pc' := 126) (ls' := [some (.ref b), some (.int p0), some (.int p1)]) (st' := [.ref b]) (by decide +kernel) rfl ?_
      refine CW.getf (v := .ref S.2.2.1) hb (by decide) fl_RX11_66 (by decide +kernel) rfl ?_
      refine CW.getf (v := .ref (S.2.2.1 + 6)) (Nat.eq_of_beq_eq_true hk1) (by decide) fl_RX11_169 (by decide +kernel) rfl ?_
      refine CW.run (blk := [(.iload_n 1, 0), (.iconst 5, 5)]) (pc' := 134) (ls' := [some (.ref b), some (.int p0), some (.int p1)]) (st' := [.int 5, .int p0, .ref (S.2.2.1 + 6)]) (by decide +kernel) rfl ?_
      obtain ⟨q15, hq15, hf⟩ := bd_some hf
      refine CW.callV (As := [.int p0, .int 5]) (st := []) lv_RX11_176 (kk_2_5 (Nat.eq_of_beq_eq_true hk1)) (by decide) rfl rfl (by decide +kernel) (xc_X6_at (kk_2_5 (Nat.eq_of_beq_eq_true hk1)) hq15) (by decide) (by decide) rfl (Nat.le_of_ble_eq_true rfl) rfl ?_
      show CW l yy_X11_telling 3 _ _ 137 [some (.ref b), some (.int p0), some (.int p1)] [.int q15] S
      have e9 := Option.some.inj hf
      subst e9
      exact CW.iret rfl (by decide +kernel)
    rw [if_neg c18_5_14] at hf
    by_cases c18_6_16 : p1 = 6
    · rw [if_pos c18_6_16] at hf
      refine CW.tableIn (dflt := 137) (lo := 0) (hi := 6) (offs := #[42, 55, 68, 81, 94, 107, 120]) (len := 42) (off := 120) (tgt := 138) (by decide +kernel) (by rw [c18_6_16]; decide) (by rw [c18_6_16]; decide) (by rw [c18_6_16]; decide) (by decide) ?_
      refine CW.run (blk := [(.aload_n 0, 0)]) (pc' := 139) (ls' := [some (.ref b), some (.int p0), some (.int p1)]) (st' := [.ref b]) (by decide +kernel) rfl ?_
      refine CW.getf (v := .ref S.2.2.1) hb (by decide) fl_RX11_66 (by decide +kernel) rfl ?_
      refine CW.run (blk := [(.iload_n 1, 0)]) (pc' := 143) (ls' := [some (.ref b), some (.int p0), some (.int p1)]) (st' := [.int p0, .ref S.2.2.1]) (by decide +kernel) rfl ?_
      obtain ⟨q17, hq17, hf⟩ := bd_some hf
      refine CW.callV (As := [.int p0]) (st := []) lv_RX11_179 (Nat.eq_of_beq_eq_true hk1) (by decide) rfl rfl (by decide +kernel) (xc_X2_isLook (Nat.eq_of_beq_eq_true hk1) hq17) (by decide) (by decide) rfl (Nat.le_of_ble_eq_true rfl) rfl ?_
      show CW l yy_X11_telling 3 _ _ 146 [some (.ref b), some (.int p0), some (.int p1)] [.int (b2i q17)] S
      refine CW.if_eq (off := 7) (tgt := 153) (by decide +kernel) (by decide) (fun c146_18 => ?_) (fun c146_18 => ?_)
      · rw [if_pos c146_18] at hf
        refine CW.run (blk := [(.iconst 0, 0)]) (pc' := 154) (ls' := [some (.ref b), some (.int p0), some (.int p1)]) (st' := [.int 0]) (by decide +kernel) rfl ?_
        have e9 := Option.some.inj hf
        subst e9
        exact CW.iret rfl (by decide +kernel)
      · rw [if_neg c146_18] at hf
        refine CW.run (blk := [(.iconst 1, 1), (.goto 4, 0)]) (pc' := 154) (ls' := [some (.ref b), some (.int p0), some (.int p1)]) (st' := [.int 1]) (by decide +kernel) rfl ?_
        have e9 := Option.some.inj hf
        subst e9
        exact CW.iret rfl (by decide +kernel)
    rw [if_neg c18_6_16] at hf
    refine CW.tableOut (dflt := 137) (lo := 0) (hi := 6) (offs := #[42, 55, 68, 81, 94, 107, 120]) (len := 42) (tgt := 155) (by decide +kernel) (by have := ne_toInt c18_0_4 (k := 0) rfl; have := ne_toInt c18_1_6 (k := 1) rfl; have := ne_toInt c18_2_8 (k := 2) rfl; have := ne_toInt c18_3_10 (k := 3) rfl; have := ne_toInt c18_4_12 (k := 4) rfl; have := ne_toInt c18_5_14 (k := 5) rfl; have := ne_toInt c18_6_16 (k := 6) rfl; omega) (by decide) ?_
    refine CW.run (blk := [(.bipush (-2), (-2))]) (pc' := 157) (ls' := [some (.ref b), some (.int p0), some (.int p1)]) (st' := [.int (-2)]) (by decide +kernel) rfl ?_
    have e9 := Option.some.inj hf
    subst e9
    exact CW.iret rfl (by decide +kernel)
  · rw [if_pos c11_3] at hf
    refine CW.run (blk := [(.bipush (-2), (-2))]) (pc' := 16) (ls' := [some (.ref b), some (.int p0), some (.int p1)]) (st' := [.int (-2)]) (by decide +kernel) rfl ?_
    have e9 := Option.some.inj hf
    subst e9
    exact CW.iret rfl (by decide +kernel)
def fc_X11_canAct (b : Nat) (S : cT) : Option (Bool) := bif Nat.beq (cK S.2.2.1) 2 then (if (S.1 S.2.2.1 9) ≤ 0 then (some false) else (if 9999 ≤ (S.1 S.2.2.1 12) then (some false) else (some true))) else none
theorem xc_X11_canAct {l : Launch} {b : Nat} {S : cT} {q : Bool} (hb : cK b = 9) (hf : fc_X11_canAct b S = some q) : COk l yy_X11_canAct 0 [.ref b] S (some (.int (b2i q))) S := by
  refine COk.of (ls := [some (.ref b)]) (by decide +kernel) (Nat.le_of_ble_eq_true rfl) rfl ?_
  unfold fc_X11_canAct at hf
  refine CW.run (blk := [(.aload_n 0, 0)]) (pc' := 1) (ls' := [some (.ref b)]) (st' := [.ref b]) (by decide +kernel) rfl ?_
  refine CW.getf (v := .ref S.2.2.1) hb (by decide) fl_RX11_66 (by decide +kernel) rfl ?_
  obtain ⟨hk1, hf⟩ := bi_some hf
  refine CW.getf (v := .int (S.1 S.2.2.1 9)) (Nat.eq_of_beq_eq_true hk1) (by decide) fl_RX11_99 (by decide +kernel) rfl ?_
  refine CW.if_le (off := 20) (tgt := 27) (by decide +kernel) (by decide) (fun c7_2 => ?_) (fun c7_2 => ?_)
  · rw [if_pos c7_2] at hf
    refine CW.run (blk := [(.iconst 0, 0)]) (pc' := 28) (ls' := [some (.ref b)]) (st' := [.int 0]) (by decide +kernel) rfl ?_
    have e9 := Option.some.inj hf
    subst e9
    exact CW.zret rfl (b2i_nar _) (by decide +kernel)
  · rw [if_neg c7_2] at hf
    refine CW.run (blk := [(.aload_n 0, 0)]) (pc' := 11) (ls' := [some (.ref b)]) (st' := [.ref b]) (by decide +kernel) rfl ?_
    refine CW.getf (v := .ref S.2.2.1) hb (by decide) fl_RX11_66 (by decide +kernel) rfl ?_
    refine CW.getf (v := .int (S.1 S.2.2.1 12)) (Nat.eq_of_beq_eq_true hk1) (by decide) fl_RX11_205 (by decide +kernel) rfl ?_
    refine CW.run (blk := [(.sipush 9999, 9999)]) (pc' := 20) (ls' := [some (.ref b)]) (st' := [.int 9999, .int (S.1 S.2.2.1 12)]) (by decide +kernel) rfl ?_
    refine CW.icmp_ge (off := 7) (tgt := 27) (by decide +kernel) (by decide) (fun c20_3 => ?_) (fun c20_3 => ?_)
    · rw [if_pos c20_3] at hf
      refine CW.run (blk := [(.iconst 0, 0)]) (pc' := 28) (ls' := [some (.ref b)]) (st' := [.int 0]) (by decide +kernel) rfl ?_
      have e9 := Option.some.inj hf
      subst e9
      exact CW.zret rfl (b2i_nar _) (by decide +kernel)
    · rw [if_neg c20_3] at hf
      refine CW.run (blk := [(.iconst 1, 1), (.goto 4, 0)]) (pc' := 28) (ls' := [some (.ref b)]) (st' := [.int 1]) (by decide +kernel) rfl ?_
      have e9 := Option.some.inj hf
      subst e9
      exact CW.zret rfl (b2i_nar _) (by decide +kernel)
def fc_X11_canTell (b : Nat) (S : cT) : Option (Bool) := (fc_X11_canAct b S).bind fun q1 => if (b2i q1) = 0 then (some false) else (bif Nat.beq (cK S.2.2.1) 2 then ((fc_X6_isFull (S.2.2.1 + 6) S).bind fun q4 => if (b2i q4) = 0 then (some true) else (some false)) else none)
theorem xc_X11_canTell {l : Launch} {b : Nat} {S : cT} {q : Bool} (hb : cK b = 9) (hf : fc_X11_canTell b S = some q) : COk l yy_X11_canTell 1 [.ref b] S (some (.int (b2i q))) S := by
  refine COk.of (ls := [some (.ref b)]) (by decide +kernel) (Nat.le_of_ble_eq_true rfl) rfl ?_
  unfold fc_X11_canTell at hf
  refine CW.run (blk := [(.aload_n 0, 0)]) (pc' := 1) (ls' := [some (.ref b)]) (st' := [.ref b]) (by decide +kernel) rfl ?_
  obtain ⟨q1, hq1, hf⟩ := bd_some hf
  refine CW.callV (As := []) (st := []) lv_RX11_217 hb (by decide) rfl rfl (by decide +kernel) (xc_X11_canAct hb hq1) (by decide) (by decide) rfl (Nat.le_of_ble_eq_true rfl) rfl ?_
  show CW l yy_X11_canTell 1 _ _ 4 [some (.ref b)] [.int (b2i q1)] S
  refine CW.if_eq (off := 20) (tgt := 24) (by decide +kernel) (by decide) (fun c4_2 => ?_) (fun c4_2 => ?_)
  · rw [if_pos c4_2] at hf
    refine CW.run (blk := [(.iconst 0, 0)]) (pc' := 25) (ls' := [some (.ref b)]) (st' := [.int 0]) (by decide +kernel) rfl ?_
    have e9 := Option.some.inj hf
    subst e9
    exact CW.zret rfl (b2i_nar _) (by decide +kernel)
  · rw [if_neg c4_2] at hf
    refine CW.run (blk := [(.aload_n 0, 0)]) (pc' := 8) (ls' := [some (.ref b)]) (st' := [.ref b]) (by decide +kernel) rfl ?_
    refine CW.getf (v := .ref S.2.2.1) hb (by decide) fl_RX11_66 (by decide +kernel) rfl ?_
    obtain ⟨hk3, hf⟩ := bi_some hf
    refine CW.getf (v := .ref (S.2.2.1 + 6)) (Nat.eq_of_beq_eq_true hk3) (by decide) fl_RX11_169 (by decide +kernel) rfl ?_
    obtain ⟨q4, hq4, hf⟩ := bd_some hf
    refine CW.callV (As := []) (st := []) lv_RX11_271 (kk_2_5 (Nat.eq_of_beq_eq_true hk3)) (by decide) rfl rfl (by decide +kernel) (xc_X6_isFull (kk_2_5 (Nat.eq_of_beq_eq_true hk3)) hq4) (by decide) (by decide) rfl (Nat.le_of_ble_eq_true rfl) rfl ?_
    show CW l yy_X11_canTell 1 _ _ 17 [some (.ref b)] [.int (b2i q4)] S
    refine CW.if_ne (off := 7) (tgt := 24) (by decide +kernel) (by decide) (fun c17_5 => ?_) (fun c17_5 => ?_)
    · rw [if_neg c17_5] at hf
      refine CW.run (blk := [(.iconst 0, 0)]) (pc' := 25) (ls' := [some (.ref b)]) (st' := [.int 0]) (by decide +kernel) rfl ?_
      have e9 := Option.some.inj hf
      subst e9
      exact CW.zret rfl (b2i_nar _) (by decide +kernel)
    · rw [if_pos c17_5] at hf
      refine CW.run (blk := [(.iconst 1, 1), (.goto 4, 0)]) (pc' := 25) (ls' := [some (.ref b)]) (st' := [.int 1]) (by decide +kernel) rfl ?_
      have e9 := Option.some.inj hf
      subst e9
      exact CW.zret rfl (b2i_nar _) (by decide +kernel)
def fc_X11_tell (b : Nat) (p0 : Int32) (p1 : Int32) (p2 : Int32) (p3 : Int32) (S : cT) : Option (Int32 × cT) := (fc_X11_isRuleOrNone b p0 S).bind fun q1 => if (b2i q1) = 0 then (some ((-1), S)) else (bif Nat.beq (cK S.2.2.1) 2 then ((fc_X2_hasTwo S.2.2.1 p1 p2 S).bind fun q4 => if (b2i q4) = 0 then (some ((-1), S)) else ((fc_X2_has S.2.2.1 p3 S).bind fun q6 => if (b2i q6) = 0 then (some ((-1), S)) else ((fc_X11_canTell b S).bind fun q8 => if (b2i q8) = 0 then (some ((-1), S)) else (Option.bind (if p1 = p3 then ((fc_X11_inForce b S).bind fun q13 => bif Nat.beq (cK q13) 6 then ((fc_X4_believed (b + 101) S.2.2.1 q13 p1 S).bind fun q15 => some (q15.1, q15.2)) else none) else ((fc_X2_faceOf S.2.2.1 p3 S).bind fun q12 => some (q12, S)) : Option (Int32 × cT)) fun w10 => bif Nat.beq (cK w10.2.2.2.1) 2 then ((fc_X11_ruleAt b p0 w10.2).bind fun q17 => bif Nat.beq (cK q17) 6 then ((fc_X4_told (b + 101) w10.2.2.2.1 q17 p1 p2 p3 w10.1 w10.2).bind fun q19 => bif Nat.beq (cK q19.2.2.2.1) 2 then ((fc_X1_remember (b + 99) q19.2.2.2.1 q19.2).bind fun q21 => bif Nat.beq (cK q21.2.2.1) 2 then ((fc_X2_addTelling q21.2.2.1 p1 p2 p3 q19.1 (-1) q21).bind fun q23 => bif Nat.beq (cK q23.2.2.1) 2 then (letv (ca q23 q23.2.2.1 12 ((q23.1 q23.2.2.1 12) + 1)) fun S25 => bif Nat.beq (cK S25.2.2.1) 2 then (some ((S25.1 (S25.2.2.1 + 6) 3) - 1, S25)) else none) else none) else none) else none) else none) else none)))) else none)
theorem xc_X11_tell {l : Launch} {b : Nat} {p0 : Int32} {p1 : Int32} {p2 : Int32} {p3 : Int32} {S : cT} {q : Int32 × cT} (hb : cK b = 9) (hf : fc_X11_tell b p0 p1 p2 p3 S = some q) : COk l yy_X11_tell 6 [.ref b, .int p0, .int p1, .int p2, .int p3] S (some (.int q.1)) q.2 := by
  refine COk.of (ls := [some (.ref b), some (.int p0), some (.int p1), some (.int p2), some (.int p3), none, none]) (by decide +kernel) (Nat.le_of_ble_eq_true rfl) rfl ?_
  unfold fc_X11_tell at hf
  refine CW.run (blk := [(.aload_n 0, 0), (.iload_n 1, 0)]) (pc' := 2) (ls' := [some (.ref b), some (.int p0), some (.int p1), some (.int p2), some (.int p3), none, none]) (st' := [.int p0, .ref b]) (by decide +kernel) rfl ?_
  obtain ⟨q1, hq1, hf⟩ := bd_some hf
  refine CW.callV (As := [.int p0]) (st := []) lv_RX11_110 hb (by decide) rfl rfl (by decide +kernel) (xc_X11_isRuleOrNone hb hq1) (by decide) (by decide) rfl (Nat.le_of_ble_eq_true rfl) rfl ?_
  show CW l yy_X11_tell 6 _ _ 5 [some (.ref b), some (.int p0), some (.int p1), some (.int p2), some (.int p3), none, none] [.int (b2i q1)] S
  refine CW.if_eq (off := 34) (tgt := 39) (by decide +kernel) (by decide) (fun c5_2 => ?_) (fun c5_2 => ?_)
  · rw [if_pos c5_2] at hf
    refine CW.run (blk := [(.iconst (-1), (-1))]) (pc' := 40) (ls' := [some (.ref b), some (.int p0), some (.int p1), some (.int p2), some (.int p3), none, none]) (st' := [.int (-1)]) (by decide +kernel) rfl ?_
    have e9 := Option.some.inj hf
    subst e9
    exact CW.iret rfl (by decide +kernel)
  · rw [if_neg c5_2] at hf
    refine CW.run (blk := [(.aload_n 0, 0)]) (pc' := 9) (ls' := [some (.ref b), some (.int p0), some (.int p1), some (.int p2), some (.int p3), none, none]) (st' := [.ref b]) (by decide +kernel) rfl ?_
    refine CW.getf (v := .ref S.2.2.1) hb (by decide) fl_RX11_66 (by decide +kernel) rfl ?_
    obtain ⟨hk3, hf⟩ := bi_some hf
    refine CW.run (blk := [(.iload_n 2, 0), (.iload_n 3, 0)]) (pc' := 14) (ls' := [some (.ref b), some (.int p0), some (.int p1), some (.int p2), some (.int p3), none, none]) (st' := [.int p2, .int p1, .ref S.2.2.1]) (by decide +kernel) rfl ?_
    obtain ⟨q4, hq4, hf⟩ := bd_some hf
    refine CW.callV (As := [.int p1, .int p2]) (st := []) lv_RX11_161 (Nat.eq_of_beq_eq_true hk3) (by decide) rfl rfl (by decide +kernel) (xc_X2_hasTwo (Nat.eq_of_beq_eq_true hk3) hq4) (by decide) (by decide) rfl (Nat.le_of_ble_eq_true rfl) rfl ?_
    show CW l yy_X11_tell 6 _ _ 17 [some (.ref b), some (.int p0), some (.int p1), some (.int p2), some (.int p3), none, none] [.int (b2i q4)] S
    refine CW.if_eq (off := 22) (tgt := 39) (by decide +kernel) (by decide) (fun c17_5 => ?_) (fun c17_5 => ?_)
    · rw [if_pos c17_5] at hf
      refine CW.run (blk := [(.iconst (-1), (-1))]) (pc' := 40) (ls' := [some (.ref b), some (.int p0), some (.int p1), some (.int p2), some (.int p3), none, none]) (st' := [.int (-1)]) (by decide +kernel) rfl ?_
      have e9 := Option.some.inj hf
      subst e9
      exact CW.iret rfl (by decide +kernel)
    · rw [if_neg c17_5] at hf
      refine CW.run (blk := [(.aload_n 0, 0)]) (pc' := 21) (ls' := [some (.ref b), some (.int p0), some (.int p1), some (.int p2), some (.int p3), none, none]) (st' := [.ref b]) (by decide +kernel) rfl ?_
      refine CW.getf (v := .ref S.2.2.1) hb (by decide) fl_RX11_66 (by decide +kernel) rfl ?_
      refine CW.run (blk := [(.iload 4, 0)]) (pc' := 26) (ls' := [some (.ref b), some (.int p0), some (.int p1), some (.int p2), some (.int p3), none, none]) (st' := [.int p3, .ref S.2.2.1]) (by decide +kernel) rfl ?_
      obtain ⟨q6, hq6, hf⟩ := bd_some hf
      refine CW.callV (As := [.int p3]) (st := []) lv_RX11_114 (Nat.eq_of_beq_eq_true hk3) (by decide) rfl rfl (by decide +kernel) (xc_X2_has (Nat.eq_of_beq_eq_true hk3) hq6) (by decide) (by decide) rfl (Nat.le_of_ble_eq_true rfl) rfl ?_
      show CW l yy_X11_tell 6 _ _ 29 [some (.ref b), some (.int p0), some (.int p1), some (.int p2), some (.int p3), none, none] [.int (b2i q6)] S
      refine CW.if_eq (off := 10) (tgt := 39) (by decide +kernel) (by decide) (fun c29_7 => ?_) (fun c29_7 => ?_)
      · rw [if_pos c29_7] at hf
        refine CW.run (blk := [(.iconst (-1), (-1))]) (pc' := 40) (ls' := [some (.ref b), some (.int p0), some (.int p1), some (.int p2), some (.int p3), none, none]) (st' := [.int (-1)]) (by decide +kernel) rfl ?_
        have e9 := Option.some.inj hf
        subst e9
        exact CW.iret rfl (by decide +kernel)
      · rw [if_neg c29_7] at hf
        refine CW.run (blk := [(.aload_n 0, 0)]) (pc' := 33) (ls' := [some (.ref b), some (.int p0), some (.int p1), some (.int p2), some (.int p3), none, none]) (st' := [.ref b]) (by decide +kernel) rfl ?_
        obtain ⟨q8, hq8, hf⟩ := bd_some hf
        refine CW.callV (As := []) (st := []) lv_RX11_182 hb (by decide) rfl rfl (by decide +kernel) (xc_X11_canTell hb hq8) (by decide) (by decide) rfl (Nat.le_of_ble_eq_true rfl) rfl ?_
        show CW l yy_X11_tell 6 _ _ 36 [some (.ref b), some (.int p0), some (.int p1), some (.int p2), some (.int p3), none, none] [.int (b2i q8)] S
        refine CW.if_ne (off := 5) (tgt := 41) (by decide +kernel) (by decide) (fun c36_9 => ?_) (fun c36_9 => ?_)
        · rw [if_neg c36_9] at hf
          refine CW.run (blk := [(.iload_n 2, 0), (.iload 4, 0)]) (pc' := 44) (ls' := [some (.ref b), some (.int p0), some (.int p1), some (.int p2), some (.int p3), none, none]) (st' := [.int p3, .int p1]) (by decide +kernel) rfl ?_
          obtain ⟨w10, hw10, hf⟩ := bd_some hf
          have hJ : CW l yy_X11_tell 6 (some (.int q.1)) q.2 75 [some (.ref b), some (.int p0), some (.int p1), some (.int p2), some (.int p3), none, none] [.int w10.1] w10.2 := by
            refine CW.run (blk := [(.istore 5, 0), (.aload_n 0, 0)]) (pc' := 78) (ls' := [some (.ref b), some (.int p0), some (.int p1), some (.int p2), some (.int p3), some (.int w10.1), none]) (st' := [.ref b]) (by decide +kernel) rfl ?_
            refine CW.getf (v := .ref (b + 101)) hb (by decide) fl_RX11_48 (by decide +kernel) rfl ?_
            refine CW.run (blk := [(.aload_n 0, 0)]) (pc' := 82) (ls' := [some (.ref b), some (.int p0), some (.int p1), some (.int p2), some (.int p3), some (.int w10.1), none]) (st' := [.ref b, .ref (b + 101)]) (by decide +kernel) rfl ?_
            refine CW.getf (v := .ref w10.2.2.2.1) hb (by decide) fl_RX11_66 (by decide +kernel) rfl ?_
            obtain ⟨hk16, hf⟩ := bi_some hf
            refine CW.run (blk := [(.aload_n 0, 0), (.iload_n 1, 0)]) (pc' := 87) (ls' := [some (.ref b), some (.int p0), some (.int p1), some (.int p2), some (.int p3), some (.int w10.1), none]) (st' := [.int p0, .ref b, .ref w10.2.2.2.1, .ref (b + 101)]) (by decide +kernel) rfl ?_
            obtain ⟨q17, hq17, hf⟩ := bd_some hf
            refine CW.callV (As := [.int p0]) (st := [.ref w10.2.2.2.1, .ref (b + 101)]) lv_RX11_189 hb (by decide) rfl rfl (by decide +kernel) (xc_X11_ruleAt hb hq17) (by decide) (by decide) rfl (Nat.le_of_ble_eq_true rfl) rfl ?_
            show CW l yy_X11_tell 6 _ _ 90 [some (.ref b), some (.int p0), some (.int p1), some (.int p2), some (.int p3), some (.int w10.1), none] [.ref q17, .ref w10.2.2.2.1, .ref (b + 101)] w10.2
            obtain ⟨hk18, hf⟩ := bi_some hf
            refine CW.run (blk := [(.iload_n 2, 0), (.iload_n 3, 0), (.iload 4, 0), (.iload 5, 0)]) (pc' := 96) (ls' := [some (.ref b), some (.int p0), some (.int p1), some (.int p2), some (.int p3), some (.int w10.1), none]) (st' := [.int w10.1, .int p3, .int p2, .int p1, .ref q17, .ref w10.2.2.2.1, .ref (b + 101)]) (by decide +kernel) rfl ?_
            obtain ⟨q19, hq19, hf⟩ := bd_some hf
            refine CW.callV (As := [.ref w10.2.2.2.1, .ref q17, .int p1, .int p2, .int p3, .int w10.1]) (st := []) lv_RX11_193 (kk_9_6 hb) (by decide) rfl rfl (by decide +kernel) (xc_X4_told (kk_9_6 hb) (Nat.eq_of_beq_eq_true hk16) (Nat.eq_of_beq_eq_true hk18) hq19) (by decide) (by decide) rfl (Nat.le_of_ble_eq_true rfl) rfl ?_
            show CW l yy_X11_tell 6 _ _ 99 [some (.ref b), some (.int p0), some (.int p1), some (.int p2), some (.int p3), some (.int w10.1), none] [.int q19.1] q19.2
            refine CW.run (blk := [(.istore 6, 0), (.aload_n 0, 0)]) (pc' := 102) (ls' := [some (.ref b), some (.int p0), some (.int p1), some (.int p2), some (.int p3), some (.int w10.1), some (.int q19.1)]) (st' := [.ref b]) (by decide +kernel) rfl ?_
            refine CW.getf (v := .ref (b + 99)) hb (by decide) fl_RX11_41 (by decide +kernel) rfl ?_
            refine CW.run (blk := [(.aload_n 0, 0)]) (pc' := 106) (ls' := [some (.ref b), some (.int p0), some (.int p1), some (.int p2), some (.int p3), some (.int w10.1), some (.int q19.1)]) (st' := [.ref b, .ref (b + 99)]) (by decide +kernel) rfl ?_
            refine CW.getf (v := .ref q19.2.2.2.1) hb (by decide) fl_RX11_66 (by decide +kernel) rfl ?_
            obtain ⟨hk20, hf⟩ := bi_some hf
            obtain ⟨q21, hq21, hf⟩ := bd_some hf
            refine CW.callV (As := [.ref q19.2.2.2.1]) (st := []) lv_RX11_197 (kk_9_5 hb) (by decide) rfl rfl (by decide +kernel) (xc_X1_remember (kk_9_5 hb) (Nat.eq_of_beq_eq_true hk20) hq21) (by decide) (by decide) rfl (Nat.le_of_ble_eq_true rfl) rfl ?_
            show CW l yy_X11_tell 6 _ _ 112 [some (.ref b), some (.int p0), some (.int p1), some (.int p2), some (.int p3), some (.int w10.1), some (.int q19.1)] [] q21
            refine CW.run (blk := [(.aload_n 0, 0)]) (pc' := 113) (ls' := [some (.ref b), some (.int p0), some (.int p1), some (.int p2), some (.int p3), some (.int w10.1), some (.int q19.1)]) (st' := [.ref b]) (by decide +kernel) rfl ?_
            refine CW.getf (v := .ref q21.2.2.1) hb (by decide) fl_RX11_66 (by decide +kernel) rfl ?_
            obtain ⟨hk22, hf⟩ := bi_some hf
            refine CW.run (blk := [(.iload_n 2, 0), (.iload_n 3, 0), (.iload 4, 0), (.iload 6, 0), (.iconst (-1), (-1))]) (pc' := 123) (ls' := [some (.ref b), some (.int p0), some (.int p1), some (.int p2), some (.int p3), some (.int w10.1), some (.int q19.1)]) (st' := [.int (-1), .int q19.1, .int p3, .int p2, .int p1, .ref q21.2.2.1]) (by decide +kernel) rfl ?_
            obtain ⟨q23, hq23, hf⟩ := bd_some hf
            refine CW.callV (As := [.int p1, .int p2, .int p3, .int q19.1, .int (-1)]) (st := []) lv_RX11_201 (Nat.eq_of_beq_eq_true hk22) (by decide) rfl rfl (by decide +kernel) (xc_X2_addTelling (Nat.eq_of_beq_eq_true hk22) hq23) (by decide) (by decide) rfl (Nat.le_of_ble_eq_true rfl) rfl ?_
            show CW l yy_X11_tell 6 _ _ 126 [some (.ref b), some (.int p0), some (.int p1), some (.int p2), some (.int p3), some (.int w10.1), some (.int q19.1)] [] q23
            refine CW.run (blk := [(.aload_n 0, 0)]) (pc' := 127) (ls' := [some (.ref b), some (.int p0), some (.int p1), some (.int p2), some (.int p3), some (.int w10.1), some (.int q19.1)]) (st' := [.ref b]) (by decide +kernel) rfl ?_
            refine CW.getf (v := .ref q23.2.2.1) hb (by decide) fl_RX11_66 (by decide +kernel) rfl ?_
            obtain ⟨hk24, hf⟩ := bi_some hf
            refine CW.run (blk := [(.dup, 0)]) (pc' := 131) (ls' := [some (.ref b), some (.int p0), some (.int p1), some (.int p2), some (.int p3), some (.int w10.1), some (.int q19.1)]) (st' := [.ref q23.2.2.1, .ref q23.2.2.1]) (by decide +kernel) rfl ?_
            refine CW.getf (v := .int (q23.1 q23.2.2.1 12)) (Nat.eq_of_beq_eq_true hk24) (by decide) fl_RX11_205 (by decide +kernel) rfl ?_
            refine CW.run (blk := [(.iconst 1, 1), (.iadd, 0)]) (pc' := 136) (ls' := [some (.ref b), some (.int p0), some (.int p1), some (.int p2), some (.int p3), some (.int w10.1), some (.int q19.1)]) (st' := [.int ((q23.1 q23.2.2.1 12) + 1), .ref q23.2.2.1]) (by decide +kernel) rfl ?_
            refine CW.putI (Nat.eq_of_beq_eq_true hk24) (by decide) fp_RX11_205 (by decide +kernel) (fun _ _ _ => Nat.le_of_ble_eq_true rfl) rfl rfl (fun _ _ _ => rfl) ?_
            obtain ⟨S25, hS25, hf⟩ := letv_some hf
            rw [← hS25]
            refine CW.run (blk := [(.aload_n 0, 0)]) (pc' := 140) (ls' := [some (.ref b), some (.int p0), some (.int p1), some (.int p2), some (.int p3), some (.int w10.1), some (.int q19.1)]) (st' := [.ref b]) (by decide +kernel) rfl ?_
            refine CW.getf (v := .ref S25.2.2.1) hb (by decide) fl_RX11_66 (by decide +kernel) rfl ?_
            obtain ⟨hk26, hf⟩ := bi_some hf
            refine CW.getf (v := .ref (S25.2.2.1 + 6)) (Nat.eq_of_beq_eq_true hk26) (by decide) fl_RX11_169 (by decide +kernel) rfl ?_
            refine CW.getf (v := .int (S25.1 (S25.2.2.1 + 6) 3)) (kk_2_5 (Nat.eq_of_beq_eq_true hk26)) (by decide) fl_RX11_208 (by decide +kernel) rfl ?_
            refine CW.run (blk := [(.iconst 1, 1), (.isub, 0)]) (pc' := 151) (ls' := [some (.ref b), some (.int p0), some (.int p1), some (.int p2), some (.int p3), some (.int w10.1), some (.int q19.1)]) (st' := [.int ((S25.1 (S25.2.2.1 + 6) 3) - 1)]) (by decide +kernel) rfl ?_
            have e9 := Option.some.inj hf
            subst e9
            exact CW.iret rfl (by decide +kernel)
          clear hf
          refine CW.icmp_ne (off := 22) (tgt := 66) (by decide +kernel) (by decide) (fun c44_11 => ?_) (fun c44_11 => ?_)
          · rw [if_neg c44_11] at hw10
            refine CW.run (blk := [(.aload_n 0, 0)]) (pc' := 67) (ls' := [some (.ref b), some (.int p0), some (.int p1), some (.int p2), some (.int p3), none, none]) (st' := [.ref b]) (by decide +kernel) rfl ?_
            refine CW.getf (v := .ref S.2.2.1) hb (by decide) fl_RX11_66 (by decide +kernel) rfl ?_
            refine CW.run (blk := [(.iload 4, 0)]) (pc' := 72) (ls' := [some (.ref b), some (.int p0), some (.int p1), some (.int p2), some (.int p3), none, none]) (st' := [.int p3, .ref S.2.2.1]) (by decide +kernel) rfl ?_
            obtain ⟨q12, hq12, hw10⟩ := bd_some hw10
            refine CW.callV (As := [.int p3]) (st := []) lv_RX11_186 (Nat.eq_of_beq_eq_true hk3) (by decide) rfl rfl (by decide +kernel) (xc_X2_faceOf (Nat.eq_of_beq_eq_true hk3) hq12) (by decide) (by decide) rfl (Nat.le_of_ble_eq_true rfl) rfl ?_
            show CW l yy_X11_tell 6 _ _ 75 [some (.ref b), some (.int p0), some (.int p1), some (.int p2), some (.int p3), none, none] [.int q12] S
            have e9 := Option.some.inj hw10
            subst e9
            exact hJ
          · rw [if_pos c44_11] at hw10
            refine CW.run (blk := [(.aload_n 0, 0)]) (pc' := 48) (ls' := [some (.ref b), some (.int p0), some (.int p1), some (.int p2), some (.int p3), none, none]) (st' := [.ref b]) (by decide +kernel) rfl ?_
            refine CW.getf (v := .ref (b + 101)) hb (by decide) fl_RX11_48 (by decide +kernel) rfl ?_
            refine CW.run (blk := [(.aload_n 0, 0)]) (pc' := 52) (ls' := [some (.ref b), some (.int p0), some (.int p1), some (.int p2), some (.int p3), none, none]) (st' := [.ref b, .ref (b + 101)]) (by decide +kernel) rfl ?_
            refine CW.getf (v := .ref S.2.2.1) hb (by decide) fl_RX11_66 (by decide +kernel) rfl ?_
            refine CW.run (blk := [(.aload_n 0, 0)]) (pc' := 56) (ls' := [some (.ref b), some (.int p0), some (.int p1), some (.int p2), some (.int p3), none, none]) (st' := [.ref b, .ref S.2.2.1, .ref (b + 101)]) (by decide +kernel) rfl ?_
            obtain ⟨q13, hq13, hw10⟩ := bd_some hw10
            refine CW.callV (As := []) (st := [.ref S.2.2.1, .ref (b + 101)]) lv_RX11_130 hb (by decide) rfl rfl (by decide +kernel) (xc_X11_inForce hb hq13) (by decide) (by decide) rfl (Nat.le_of_ble_eq_true rfl) rfl ?_
            show CW l yy_X11_tell 6 _ _ 59 [some (.ref b), some (.int p0), some (.int p1), some (.int p2), some (.int p3), none, none] [.ref q13, .ref S.2.2.1, .ref (b + 101)] S
            obtain ⟨hk14, hw10⟩ := bi_some hw10
            refine CW.run (blk := [(.iload_n 2, 0)]) (pc' := 60) (ls' := [some (.ref b), some (.int p0), some (.int p1), some (.int p2), some (.int p3), none, none]) (st' := [.int p1, .ref q13, .ref S.2.2.1, .ref (b + 101)]) (by decide +kernel) rfl ?_
            obtain ⟨q15, hq15, hw10⟩ := bd_some hw10
            refine CW.callV (As := [.ref S.2.2.1, .ref q13, .int p1]) (st := []) lv_RX11_133 (kk_9_6 hb) (by decide) rfl rfl (by decide +kernel) (xc_X4_believed (kk_9_6 hb) (Nat.eq_of_beq_eq_true hk3) (Nat.eq_of_beq_eq_true hk14) hq15) (by decide) (by decide) rfl (Nat.le_of_ble_eq_true rfl) rfl ?_
            show CW l yy_X11_tell 6 _ _ 63 [some (.ref b), some (.int p0), some (.int p1), some (.int p2), some (.int p3), none, none] [.int q15.1] q15.2
            refine CW.run (blk := [(.goto 12, 0)]) (pc' := 75) (ls' := [some (.ref b), some (.int p0), some (.int p1), some (.int p2), some (.int p3), none, none]) (st' := [.int q15.1]) (by decide +kernel) rfl ?_
            have e9 := Option.some.inj hw10
            subst e9
            exact hJ
        · rw [if_pos c36_9] at hf
          refine CW.run (blk := [(.iconst (-1), (-1))]) (pc' := 40) (ls' := [some (.ref b), some (.int p0), some (.int p1), some (.int p2), some (.int p3), none, none]) (st' := [.int (-1)]) (by decide +kernel) rfl ?_
          have e9 := Option.some.inj hf
          subst e9
          exact CW.iret rfl (by decide +kernel)
