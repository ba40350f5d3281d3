/-! ===== the class, method by method (by program) 7 ===== -/
def fc_X3_readAll_L10 (k0 : Nat) (k1 : Nat) : Nat → Int32 → cT → Option (Int32 × cT)
  | 0, _, _ => none
  | N + 1, a2, S => if 40 < a2 then (some (a2, S)) else ((fc_X3_readClause k0 k1 a2 S).bind fun q4 => if (q4.1 k0 8) = 59 then ((fc_X10_step k0 q4).bind fun q6 => fc_X3_readAll_L10 k0 k1 N (a2 + 1) q6) else (some (a2, q4)))
def fc_X3_readAll (p0 : Nat) (p1 : Nat) (S : cT) : Option (cT) := (fc_X2_clear p1 S).bind fun q1 => (fc_X10_scan p0 q1).bind fun q2 => (fc_X3_readAll_L10 p0 p1 FU 0 q2).bind fun w7 => if (w7.2.1 p0 8) = 260 then (if (w7.2.1 p1 9) = 0 then ((fc_X10_refuse p0 0 w7.2).bind fun q11 => some q11) else (some w7.2)) else ((fc_X10_refuse p0 0 w7.2).bind fun q9 => some q9)
theorem xc_X3_readAll_L10 {l : Launch} {r : Option Value} {S' : cT} (k0 : Nat) (k1 : Nat) (hk0 : cK k0 = 8) (hk1 : cK k1 = 2) : ∀ (N : Nat) (a2 : Int32) (S : cT) (W0 : Int32 × cT) (_ : fc_X3_readAll_L10 k0 k1 N a2 S = some W0) (_ : CW l yy_X3_readAll 11 r S' 44 [some (.ref k0), some (.ref k1), some (.int W0.1)] [] W0.2), CW l yy_X3_readAll 11 r S' 10 [some (.ref k0), some (.ref k1), some (.int a2)] [] S := by
  intro N
  induction N with
  | zero =>
    intro a2 S W0 hf _
    cases hf
  | succ N ih =>
    intro a2 S W0 hf hk_1
    unfold fc_X3_readAll_L10 at hf
    refine CW.run (blk := [(.iload_n 2, 0), (.bipush 40, 40)]) (pc' := 13) (ls' := [some (.ref k0), some (.ref k1), some (.int a2)]) (st' := [.int 40, .int a2]) (by decide +kernel) rfl ?_
    refine CW.icmp_gt (off := 31) (tgt := 44) (by decide +kernel) (by decide) (fun c13_3 => ?_) (fun c13_3 => ?_)
    · rw [if_pos c13_3] at hf
      have e9 := Option.some.inj hf
      subst e9
      exact hk_1
    · rw [if_neg c13_3] at hf
      refine CW.run (blk := [(.aload_n 0, 0), (.aload_n 1, 0), (.iload_n 2, 0)]) (pc' := 19) (ls' := [some (.ref k0), some (.ref k1), some (.int a2)]) (st' := [.int a2, .ref k1, .ref k0]) (by decide +kernel) rfl ?_
      obtain ⟨q4, hq4, hf⟩ := bd_some hf
      refine CW.callS (As := [.ref k0, .ref k1, .int a2]) (st := []) lt_RX3_19 (by decide +kernel) (xc_X3_readClause hk0 hk1 hq4) (by decide) (by decide) rfl (Nat.le_of_ble_eq_true rfl) rfl ?_
      show CW l yy_X3_readAll 11 _ _ 22 [some (.ref k0), some (.ref k1), some (.int a2)] [] q4
      refine CW.run (blk := [(.aload_n 0, 0)]) (pc' := 23) (ls' := [some (.ref k0), some (.ref k1), some (.int a2)]) (st' := [.ref k0]) (by decide +kernel) rfl ?_
      refine CW.getf (v := .int (q4.1 k0 8)) hk0 (by decide) fl_RX3_23 (by decide +kernel) rfl ?_
      refine CW.run (blk := [(.bipush 59, 59)]) (pc' := 28) (ls' := [some (.ref k0), some (.ref k1), some (.int a2)]) (st' := [.int 59, .int (q4.1 k0 8)]) (by decide +kernel) rfl ?_
      refine CW.icmp_eq (off := 6) (tgt := 34) (by decide +kernel) (by decide) (fun c28_5 => ?_) (fun c28_5 => ?_)
      · rw [if_pos c28_5] at hf
        refine CW.run (blk := [(.aload_n 0, 0)]) (pc' := 35) (ls' := [some (.ref k0), some (.ref k1), some (.int a2)]) (st' := [.ref k0]) (by decide +kernel) rfl ?_
        obtain ⟨q6, hq6, hf⟩ := bd_some hf
        refine CW.callV (As := []) (st := []) lv_RX3_27 hk0 (by decide) rfl rfl (by decide +kernel) (xc_X10_step hk0 hq6) (by decide) (by decide) rfl (Nat.le_of_ble_eq_true rfl) rfl ?_
        show CW l yy_X3_readAll 11 _ _ 38 [some (.ref k0), some (.ref k1), some (.int a2)] [] q6
        refine CW.run (blk := [(.iinc 2 1, 1), (.goto (-31), 0)]) (pc' := 10) (ls' := [some (.ref k0), some (.ref k1), some (.int (a2 + 1))]) (st' := []) (by decide +kernel) rfl ?_
        exact ih _ _ _ hf hk_1
      · rw [if_neg c28_5] at hf
        refine CW.run (blk := [(.goto 13, 0)]) (pc' := 44) (ls' := [some (.ref k0), some (.ref k1), some (.int a2)]) (st' := []) (by decide +kernel) rfl ?_
        have e9 := Option.some.inj hf
        subst e9
        exact hk_1
theorem xc_X3_readAll {l : Launch} {p0 : Nat} {p1 : Nat} {S : cT} {q : cT} (h0 : cK p0 = 8) (h1 : cK p1 = 2) (hf : fc_X3_readAll p0 p1 S = some q) : COk l yy_X3_readAll 11 [.ref p0, .ref p1] S none q := by
  refine COk.of (ls := [some (.ref p0), some (.ref p1), none]) (by decide +kernel) (Nat.le_of_ble_eq_true rfl) rfl ?_
  unfold fc_X3_readAll at hf
  refine CW.run (blk := [(.aload_n 1, 0)]) (pc' := 1) (ls' := [some (.ref p0), some (.ref p1), none]) (st' := [.ref p1]) (by decide +kernel) rfl ?_
  obtain ⟨q1, hq1, hf⟩ := bd_some hf
  refine CW.callV (As := []) (st := []) lv_RX3_7 h1 (by decide) rfl rfl (by decide +kernel) (xc_X2_clear h1 hq1) (by decide) (by decide) rfl (Nat.le_of_ble_eq_true rfl) rfl ?_
  show CW l yy_X3_readAll 11 _ _ 4 [some (.ref p0), some (.ref p1), none] [] q1
  refine CW.run (blk := [(.aload_n 0, 0)]) (pc' := 5) (ls' := [some (.ref p0), some (.ref p1), none]) (st' := [.ref p0]) (by decide +kernel) rfl ?_
  obtain ⟨q2, hq2, hf⟩ := bd_some hf
  refine CW.callV (As := []) (st := []) lv_RX3_12 h0 (by decide) rfl rfl (by decide +kernel) (xc_X10_scan h0 hq2) (by decide) (by decide) rfl (Nat.le_of_ble_eq_true rfl) rfl ?_
  show CW l yy_X3_readAll 11 _ _ 8 [some (.ref p0), some (.ref p1), none] [] q2
  refine CW.run (blk := [(.iconst 0, 0), (.istore_n 2, 0)]) (pc' := 10) (ls' := [some (.ref p0), some (.ref p1), some (.int 0)]) (st' := []) (by decide +kernel) rfl ?_
  obtain ⟨w7, hw7, hf⟩ := bd_some hf
  refine xc_X3_readAll_L10 p0 p1 h0 h1 FU _ _ _ hw7 ?_
  refine CW.run (blk := [(.aload_n 0, 0)]) (pc' := 45) (ls' := [some (.ref p0), some (.ref p1), some (.int w7.1)]) (st' := [.ref p0]) (by decide +kernel) rfl ?_
  refine CW.getf (v := .int (w7.2.1 p0 8)) h0 (by decide) fl_RX3_23 (by decide +kernel) rfl ?_
  refine CW.run (blk := [(.sipush 260, 260)]) (pc' := 51) (ls' := [some (.ref p0), some (.ref p1), some (.int w7.1)]) (st' := [.int 260, .int (w7.2.1 p0 8)]) (by decide +kernel) rfl ?_
  refine CW.icmp_ne (off := 10) (tgt := 61) (by decide +kernel) (by decide) (fun c51_8 => ?_) (fun c51_8 => ?_)
  · rw [if_neg c51_8] at hf
    refine CW.run (blk := [(.aload_n 0, 0), (.iconst 0, 0)]) (pc' := 63) (ls' := [some (.ref p0), some (.ref p1), some (.int w7.1)]) (st' := [.int 0, .ref p0]) (by decide +kernel) rfl ?_
    obtain ⟨q9, hq9, hf⟩ := bd_some hf
    refine CW.callV (As := [.int 0]) (st := []) lv_RX3_33 h0 (by decide) rfl rfl (by decide +kernel) (xc_X10_refuse h0 hq9) (by decide) (by decide) rfl (Nat.le_of_ble_eq_true rfl) rfl ?_
    show CW l yy_X3_readAll 11 _ _ 66 [some (.ref p0), some (.ref p1), some (.int w7.1)] [] q9
    have e9 := Option.some.inj hf
    subst e9
    exact CW.vret rfl (by decide +kernel)
  · rw [if_pos c51_8] at hf
    refine CW.run (blk := [(.aload_n 1, 0)]) (pc' := 55) (ls' := [some (.ref p0), some (.ref p1), some (.int w7.1)]) (st' := [.ref p1]) (by decide +kernel) rfl ?_
    refine CW.getf (v := .int (w7.2.1 p1 9)) h1 (by decide) fl_RX3_30 (by decide +kernel) rfl ?_
    refine CW.if_ne (off := 8) (tgt := 66) (by decide +kernel) (by decide) (fun c58_10 => ?_) (fun c58_10 => ?_)
    · rw [if_neg c58_10] at hf
      have e9 := Option.some.inj hf
      subst e9
      exact CW.vret rfl (by decide +kernel)
    · rw [if_pos c58_10] at hf
      refine CW.run (blk := [(.aload_n 0, 0), (.iconst 0, 0)]) (pc' := 63) (ls' := [some (.ref p0), some (.ref p1), some (.int w7.1)]) (st' := [.int 0, .ref p0]) (by decide +kernel) rfl ?_
      obtain ⟨q11, hq11, hf⟩ := bd_some hf
      refine CW.callV (As := [.int 0]) (st := []) lv_RX3_33 h0 (by decide) rfl rfl (by decide +kernel) (xc_X10_refuse h0 hq11) (by decide) (by decide) rfl (Nat.le_of_ble_eq_true rfl) rfl ?_
      show CW l yy_X3_readAll 11 _ _ 66 [some (.ref p0), some (.ref p1), some (.int w7.1)] [] q11
      have e9 := Option.some.inj hf
      subst e9
      exact CW.vret rfl (by decide +kernel)
def fc_X9_set (b : Nat) (p0 : Nat) (p1 : Int32) (p2 : Int32) (p3 : Int32) (p4 : Int32) (S : cT) : Option (cT) := bif inb 0 8 then (letv (cb S (b + 1) (0 : Int32).toNatClampNeg ((p1 : Int32).toInt64)) fun S2 => bif inb 1 8 then (letv (cb S2 (b + 1) (1 : Int32).toNatClampNeg ((p2 : Int32).toInt64)) fun S4 => bif inb 2 8 then (letv (cb S4 (b + 1) (2 : Int32).toNatClampNeg ((p3 : Int32).toInt64)) fun S6 => bif inb 3 8 then (letv (cb S6 (b + 1) (3 : Int32).toNatClampNeg (((S6.1 p0 12) : Int32).toInt64)) fun S8 => bif inb 4 8 then (letv (cb S8 (b + 1) (4 : Int32).toNatClampNeg ((p4 : Int32).toInt64)) fun S10 => (fc_X2_heed p0 p2 p1 S10).bind fun q11 => bif inb 5 8 then (letv (cb S10 (b + 1) (5 : Int32).toNatClampNeg ((q11 : Int32).toInt64)) fun S13 => bif inb 6 8 then (letv (cb S13 (b + 1) (6 : Int32).toNatClampNeg 0) fun S15 => bif inb 7 8 then (letv (cb S15 (b + 1) (7 : Int32).toNatClampNeg 0) fun S17 => some S17) else none) else none) else none) else none) else none) else none) else none) else none
theorem xc_X9_set {l : Launch} {b : Nat} {p0 : Nat} {p1 : Int32} {p2 : Int32} {p3 : Int32} {p4 : Int32} {S : cT} {q : cT} (hb : cK b = 7) (h0 : cK p0 = 2) (hf : fc_X9_set b p0 p1 p2 p3 p4 S = some q) : COk l yy_X9_set 1 [.ref b, .ref p0, .int p1, .int p2, .int p3, .int p4] S none q := by
  refine COk.of (ls := [some (.ref b), some (.ref p0), some (.int p1), some (.int p2), some (.int p3), some (.int p4)]) (by decide +kernel) (Nat.le_of_ble_eq_true rfl) rfl ?_
  unfold fc_X9_set at hf
  refine CW.run (blk := [(.aload_n 0, 0)]) (pc' := 1) (ls' := [some (.ref b), some (.ref p0), some (.int p1), some (.int p2), some (.int p3), some (.int p4)]) (st' := [.ref b]) (by decide +kernel) rfl ?_
  refine CW.getf (v := .ref (b + 1)) hb (by decide) fl_RX9_9 (by decide +kernel) rfl ?_
  refine CW.run (blk := [(.iconst 0, 0), (.iload_n 2, 0), (.i2l, 0)]) (pc' := 7) (ls' := [some (.ref b), some (.ref p0), some (.int p1), some (.int p2), some (.int p3), some (.int p4)]) (st' := [.long ((p1 : Int32).toInt64), .int 0, .ref (b + 1)]) (by decide +kernel) rfl ?_
  obtain ⟨hi1, hf⟩ := bi_some hf
  refine CW.last (kk_7_0 hb) (kn_7_0 hb) (by decide +kernel) (inb_in hi1) ?_
  obtain ⟨S2, hS2, hf⟩ := letv_some hf
  rw [← hS2]
  refine CW.run (blk := [(.aload_n 0, 0)]) (pc' := 9) (ls' := [some (.ref b), some (.ref p0), some (.int p1), some (.int p2), some (.int p3), some (.int p4)]) (st' := [.ref b]) (by decide +kernel) rfl ?_
  refine CW.getf (v := .ref (b + 1)) hb (by decide) fl_RX9_9 (by decide +kernel) rfl ?_
  refine CW.run (blk := [(.iconst 1, 1), (.iload_n 3, 0), (.i2l, 0)]) (pc' := 15) (ls' := [some (.ref b), some (.ref p0), some (.int p1), some (.int p2), some (.int p3), some (.int p4)]) (st' := [.long ((p2 : Int32).toInt64), .int 1, .ref (b + 1)]) (by decide +kernel) rfl ?_
  obtain ⟨hi3, hf⟩ := bi_some hf
  refine CW.last (kk_7_0 hb) (kn_7_0 hb) (by decide +kernel) (inb_in hi3) ?_
  obtain ⟨S4, hS4, hf⟩ := letv_some hf
  rw [← hS4]
  refine CW.run (blk := [(.aload_n 0, 0)]) (pc' := 17) (ls' := [some (.ref b), some (.ref p0), some (.int p1), some (.int p2), some (.int p3), some (.int p4)]) (st' := [.ref b]) (by decide +kernel) rfl ?_
  refine CW.getf (v := .ref (b + 1)) hb (by decide) fl_RX9_9 (by decide +kernel) rfl ?_
  refine CW.run (blk := [(.iconst 2, 2), (.iload 4, 0), (.i2l, 0)]) (pc' := 24) (ls' := [some (.ref b), some (.ref p0), some (.int p1), some (.int p2), some (.int p3), some (.int p4)]) (st' := [.long ((p3 : Int32).toInt64), .int 2, .ref (b + 1)]) (by decide +kernel) rfl ?_
  obtain ⟨hi5, hf⟩ := bi_some hf
  refine CW.last (kk_7_0 hb) (kn_7_0 hb) (by decide +kernel) (inb_in hi5) ?_
  obtain ⟨S6, hS6, hf⟩ := letv_some hf
  rw [← hS6]
  refine CW.run (blk := [(.aload_n 0, 0)]) (pc' := 26) (ls' := [some (.ref b), some (.ref p0), some (.int p1), some (.int p2), some (.int p3), some (.int p4)]) (st' := [.ref b]) (by decide +kernel) rfl ?_
  refine CW.getf (v := .ref (b + 1)) hb (by decide) fl_RX9_9 (by decide +kernel) rfl ?_
  refine CW.run (blk := [(.iconst 3, 3), (.aload_n 1, 0)]) (pc' := 31) (ls' := [some (.ref b), some (.ref p0), some (.int p1), some (.int p2), some (.int p3), some (.int p4)]) (st' := [.ref p0, .int 3, .ref (b + 1)]) (by decide +kernel) rfl ?_
  refine CW.getf (v := .int (S6.1 p0 12)) h0 (by decide) fl_RX9_18 (by decide +kernel) rfl ?_
  refine CW.run (blk := [(.i2l, 0)]) (pc' := 35) (ls' := [some (.ref b), some (.ref p0), some (.int p1), some (.int p2), some (.int p3), some (.int p4)]) (st' := [.long (((S6.1 p0 12) : Int32).toInt64), .int 3, .ref (b + 1)]) (by decide +kernel) rfl ?_
  obtain ⟨hi7, hf⟩ := bi_some hf
  refine CW.last (kk_7_0 hb) (kn_7_0 hb) (by decide +kernel) (inb_in hi7) ?_
  obtain ⟨S8, hS8, hf⟩ := letv_some hf
  rw [← hS8]
  refine CW.run (blk := [(.aload_n 0, 0)]) (pc' := 37) (ls' := [some (.ref b), some (.ref p0), some (.int p1), some (.int p2), some (.int p3), some (.int p4)]) (st' := [.ref b]) (by decide +kernel) rfl ?_
  refine CW.getf (v := .ref (b + 1)) hb (by decide) fl_RX9_9 (by decide +kernel) rfl ?_
  refine CW.run (blk := [(.iconst 4, 4), (.iload 5, 0), (.i2l, 0)]) (pc' := 44) (ls' := [some (.ref b), some (.ref p0), some (.int p1), some (.int p2), some (.int p3), some (.int p4)]) (st' := [.long ((p4 : Int32).toInt64), .int 4, .ref (b + 1)]) (by decide +kernel) rfl ?_
  obtain ⟨hi9, hf⟩ := bi_some hf
  refine CW.last (kk_7_0 hb) (kn_7_0 hb) (by decide +kernel) (inb_in hi9) ?_
  obtain ⟨S10, hS10, hf⟩ := letv_some hf
  rw [← hS10]
  refine CW.run (blk := [(.aload_n 0, 0)]) (pc' := 46) (ls' := [some (.ref b), some (.ref p0), some (.int p1), some (.int p2), some (.int p3), some (.int p4)]) (st' := [.ref b]) (by decide +kernel) rfl ?_
  refine CW.getf (v := .ref (b + 1)) hb (by decide) fl_RX9_9 (by decide +kernel) rfl ?_
  refine CW.run (blk := [(.iconst 5, 5), (.aload_n 1, 0), (.iload_n 3, 0), (.iload_n 2, 0)]) (pc' := 53) (ls' := [some (.ref b), some (.ref p0), some (.int p1), some (.int p2), some (.int p3), some (.int p4)]) (st' := [.int p1, .int p2, .ref p0, .int 5, .ref (b + 1)]) (by decide +kernel) rfl ?_
  obtain ⟨q11, hq11, hf⟩ := bd_some hf
  refine CW.callV (As := [.int p2, .int p1]) (st := [.int 5, .ref (b + 1)]) lv_RX9_24 h0 (by decide) rfl rfl (by decide +kernel) (xc_X2_heed h0 hq11) (by decide) (by decide) rfl (Nat.le_of_ble_eq_true rfl) rfl ?_
  show CW l yy_X9_set 1 _ _ 56 [some (.ref b), some (.ref p0), some (.int p1), some (.int p2), some (.int p3), some (.int p4)] [.int q11, .int 5, .ref (b + 1)] S10
  refine CW.run (blk := [(.i2l, 0)]) (pc' := 57) (ls' := [some (.ref b), some (.ref p0), some (.int p1), some (.int p2), some (.int p3), some (.int p4)]) (st' := [.long ((q11 : Int32).toInt64), .int 5, .ref (b + 1)]) (by decide +kernel) rfl ?_
  obtain ⟨hi12, hf⟩ := bi_some hf
  refine CW.last (kk_7_0 hb) (kn_7_0 hb) (by decide +kernel) (inb_in hi12) ?_
  obtain ⟨S13, hS13, hf⟩ := letv_some hf
  rw [← hS13]
  refine CW.run (blk := [(.aload_n 0, 0)]) (pc' := 59) (ls' := [some (.ref b), some (.ref p0), some (.int p1), some (.int p2), some (.int p3), some (.int p4)]) (st' := [.ref b]) (by decide +kernel) rfl ?_
  refine CW.getf (v := .ref (b + 1)) hb (by decide) fl_RX9_9 (by decide +kernel) rfl ?_
  refine CW.run (blk := [(.bipush 6, 6), (.lconst 0, 0)]) (pc' := 65) (ls' := [some (.ref b), some (.ref p0), some (.int p1), some (.int p2), some (.int p3), some (.int p4)]) (st' := [.long 0, .int 6, .ref (b + 1)]) (by decide +kernel) rfl ?_
  obtain ⟨hi14, hf⟩ := bi_some hf
  refine CW.last (kk_7_0 hb) (kn_7_0 hb) (by decide +kernel) (inb_in hi14) ?_
  obtain ⟨S15, hS15, hf⟩ := letv_some hf
  rw [← hS15]
  refine CW.run (blk := [(.aload_n 0, 0)]) (pc' := 67) (ls' := [some (.ref b), some (.ref p0), some (.int p1), some (.int p2), some (.int p3), some (.int p4)]) (st' := [.ref b]) (by decide +kernel) rfl ?_
  refine CW.getf (v := .ref (b + 1)) hb (by decide) fl_RX9_9 (by decide +kernel) rfl ?_
  refine CW.run (blk := [(.bipush 7, 7), (.lconst 0, 0)]) (pc' := 73) (ls' := [some (.ref b), some (.ref p0), some (.int p1), some (.int p2), some (.int p3), some (.int p4)]) (st' := [.long 0, .int 7, .ref (b + 1)]) (by decide +kernel) rfl ?_
  obtain ⟨hi16, hf⟩ := bi_some hf
  refine CW.last (kk_7_0 hb) (kn_7_0 hb) (by decide +kernel) (inb_in hi16) ?_
  obtain ⟨S17, hS17, hf⟩ := letv_some hf
  rw [← hS17]
  have e9 := Option.some.inj hf
  subst e9
  exact CW.vret rfl (by decide +kernel)
def fc_X7_joined (p0 : Int32) (p1 : Int64) (p2 : Int64) : Option (Int64) := if p0 = 37 then (if (lg_cmp p2 0) = 0 then (some 0) else (if (p2 : Int64) = 0 then none else (some (p1 - p1 / p2 * p2)))) else (if p0 = 42 then (some (p1 * p2)) else (if p0 = 43 then (some (p1 + p2)) else (if p0 = 45 then (some (p1 - p2)) else (if p0 = 47 then (if (lg_cmp p2 0) = 0 then (some 0) else (if (p2 : Int64) = 0 then none else (some (p1 / p2)))) else (if p0 = 60 then (if 0 ≤ (lg_cmp p1 p2) then (some 0) else (some 1)) else (if p0 = 61 then (if (lg_cmp p1 p2) = 0 then (some 1) else (some 0)) else (if p0 = 62 then (if (lg_cmp p1 p2) ≤ 0 then (some 0) else (some 1)) else (if p0 = 256 then (if 0 < (lg_cmp p1 p2) then (some 0) else (some 1)) else (if p0 = 257 then (if (lg_cmp p1 p2) < 0 then (some 0) else (some 1)) else (if p0 = 316 then (some (p1 &&& p2)) else (some (p1 ||| p2))))))))))))
theorem xc_X7_joined {l : Launch} {p0 : Int32} {p1 : Int64} {p2 : Int64} {q : Int64} (hf : fc_X7_joined p0 p1 p2 = some q) : POk l yy_X7_joined 0 [.int p0, .long p1, .long p2] (some (.long q)) := by
  refine POk.of (ls := [some (.int p0), some (.long p1), none, some (.long p2), none]) (by decide +kernel) (Nat.le_of_ble_eq_true rfl) rfl ?_
  unfold fc_X7_joined at hf
  refine PW.run (blk := [(.iload_n 0, 0)]) (pc' := 1) (ls' := [some (.int p0), some (.long p1), none, some (.long p2), none]) (st' := [.int p0]) (by decide +kernel) rfl ?_
  by_cases c1_37_1 : p0 = 37
  · rw [if_pos c1_37_1] at hf
    refine PW.lookup (dflt := 203) (ps := #[(37, 125), (42, 107), (43, 99), (45, 103), (47, 111), (60, 139), (61, 151), (62, 163), (256, 175), (257, 187), (316, 199)]) (len := 99) (off := 125) (tgt := 126) (by decide +kernel) (by decide) (by rw [c1_37_1]; decide) (by decide) ?_
    refine PW.run (blk := [(.lload_n 3, 0), (.lconst 0, 0), (.lcmp, 0)]) (pc' := 129) (ls' := [some (.int p0), some (.long p1), none, some (.long p2), none]) (st' := [.int (lg_cmp p2 0)]) (by decide +kernel) rfl ?_
    refine PW.if_ne (off := 7) (tgt := 136) (by decide +kernel) (by decide) (fun c129_2 => ?_) (fun c129_2 => ?_)
    · rw [if_neg c129_2] at hf
      refine PW.run (blk := [(.lload_n 1, 0), (.lload_n 3, 0)]) (pc' := 138) (ls' := [some (.int p0), some (.long p1), none, some (.long p2), none]) (st' := [.long p2, .long p1]) (by decide +kernel) rfl ?_
      obtain ⟨hn3, hf⟩ := nz_some hf
      refine PW.lrem hn3 (by decide +kernel) ?_
      have e9 := Option.some.inj hf
      subst e9
      exact PW.lret rfl (by decide +kernel)
    · rw [if_pos c129_2] at hf
      refine PW.run (blk := [(.lconst 0, 0), (.goto 6, 0)]) (pc' := 139) (ls' := [some (.int p0), some (.long p1), none, some (.long p2), none]) (st' := [.long 0]) (by decide +kernel) rfl ?_
      have e9 := Option.some.inj hf
      subst e9
      exact PW.lret rfl (by decide +kernel)
  rw [if_neg c1_37_1] at hf
  by_cases c1_42_4 : p0 = 42
  · rw [if_pos c1_42_4] at hf
    refine PW.lookup (dflt := 203) (ps := #[(37, 125), (42, 107), (43, 99), (45, 103), (47, 111), (60, 139), (61, 151), (62, 163), (256, 175), (257, 187), (316, 199)]) (len := 99) (off := 107) (tgt := 108) (by decide +kernel) (by decide) (by rw [c1_42_4]; decide) (by decide) ?_
    refine PW.run (blk := [(.lload_n 1, 0), (.lload_n 3, 0), (.lmul, 0)]) (pc' := 111) (ls' := [some (.int p0), some (.long p1), none, some (.long p2), none]) (st' := [.long (p1 * p2)]) (by decide +kernel) rfl ?_
    have e9 := Option.some.inj hf
    subst e9
    exact PW.lret rfl (by decide +kernel)
  rw [if_neg c1_42_4] at hf
  by_cases c1_43_5 : p0 = 43
  · rw [if_pos c1_43_5] at hf
    refine PW.lookup (dflt := 203) (ps := #[(37, 125), (42, 107), (43, 99), (45, 103), (47, 111), (60, 139), (61, 151), (62, 163), (256, 175), (257, 187), (316, 199)]) (len := 99) (off := 99) (tgt := 100) (by decide +kernel) (by decide) (by rw [c1_43_5]; decide) (by decide) ?_
    refine PW.run (blk := [(.lload_n 1, 0), (.lload_n 3, 0), (.ladd, 0)]) (pc' := 103) (ls' := [some (.int p0), some (.long p1), none, some (.long p2), none]) (st' := [.long (p1 + p2)]) (by decide +kernel) rfl ?_
    have e9 := Option.some.inj hf
    subst e9
    exact PW.lret rfl (by decide +kernel)
  rw [if_neg c1_43_5] at hf
  by_cases c1_45_6 : p0 = 45
  · rw [if_pos c1_45_6] at hf
    refine PW.lookup (dflt := 203) (ps := #[(37, 125), (42, 107), (43, 99), (45, 103), (47, 111), (60, 139), (61, 151), (62, 163), (256, 175), (257, 187), (316, 199)]) (len := 99) (off := 103) (tgt := 104) (by decide +kernel) (by decide) (by rw [c1_45_6]; decide) (by decide) ?_
    refine PW.run (blk := [(.lload_n 1, 0), (.lload_n 3, 0), (.lsub, 0)]) (pc' := 107) (ls' := [some (.int p0), some (.long p1), none, some (.long p2), none]) (st' := [.long (p1 - p2)]) (by decide +kernel) rfl ?_
    have e9 := Option.some.inj hf
    subst e9
    exact PW.lret rfl (by decide +kernel)
  rw [if_neg c1_45_6] at hf
  by_cases c1_47_7 : p0 = 47
  · rw [if_pos c1_47_7] at hf
    refine PW.lookup (dflt := 203) (ps := #[(37, 125), (42, 107), (43, 99), (45, 103), (47, 111), (60, 139), (61, 151), (62, 163), (256, 175), (257, 187), (316, 199)]) (len := 99) (off := 111) (tgt := 112) (by decide +kernel) (by decide) (by rw [c1_47_7]; decide) (by decide) ?_
    refine PW.run (blk := [(.lload_n 3, 0), (.lconst 0, 0), (.lcmp, 0)]) (pc' := 115) (ls' := [some (.int p0), some (.long p1), none, some (.long p2), none]) (st' := [.int (lg_cmp p2 0)]) (by decide +kernel) rfl ?_
    refine PW.if_ne (off := 7) (tgt := 122) (by decide +kernel) (by decide) (fun c115_8 => ?_) (fun c115_8 => ?_)
    · rw [if_neg c115_8] at hf
      refine PW.run (blk := [(.lload_n 1, 0), (.lload_n 3, 0)]) (pc' := 124) (ls' := [some (.int p0), some (.long p1), none, some (.long p2), none]) (st' := [.long p2, .long p1]) (by decide +kernel) rfl ?_
      obtain ⟨hn9, hf⟩ := nz_some hf
      refine PW.ldiv hn9 (by decide +kernel) ?_
      have e9 := Option.some.inj hf
      subst e9
      exact PW.lret rfl (by decide +kernel)
    · rw [if_pos c115_8] at hf
      refine PW.run (blk := [(.lconst 0, 0), (.goto 6, 0)]) (pc' := 125) (ls' := [some (.int p0), some (.long p1), none, some (.long p2), none]) (st' := [.long 0]) (by decide +kernel) rfl ?_
      have e9 := Option.some.inj hf
      subst e9
      exact PW.lret rfl (by decide +kernel)
  rw [if_neg c1_47_7] at hf
  by_cases c1_60_10 : p0 = 60
  · rw [if_pos c1_60_10] at hf
    refine PW.lookup (dflt := 203) (ps := #[(37, 125), (42, 107), (43, 99), (45, 103), (47, 111), (60, 139), (61, 151), (62, 163), (256, 175), (257, 187), (316, 199)]) (len := 99) (off := 139) (tgt := 140) (by decide +kernel) (by decide) (by rw [c1_60_10]; decide) (by decide) ?_
    refine PW.run (blk := [(.lload_n 1, 0), (.lload_n 3, 0), (.lcmp, 0)]) (pc' := 143) (ls' := [some (.int p0), some (.long p1), none, some (.long p2), none]) (st' := [.int (lg_cmp p1 p2)]) (by decide +kernel) rfl ?_
    refine PW.if_ge (off := 7) (tgt := 150) (by decide +kernel) (by decide) (fun c143_11 => ?_) (fun c143_11 => ?_)
    · rw [if_pos c143_11] at hf
      refine PW.run (blk := [(.lconst 0, 0)]) (pc' := 151) (ls' := [some (.int p0), some (.long p1), none, some (.long p2), none]) (st' := [.long 0]) (by decide +kernel) rfl ?_
      have e9 := Option.some.inj hf
      subst e9
      exact PW.lret rfl (by decide +kernel)
    · rw [if_neg c143_11] at hf
      refine PW.run (blk := [(.lconst 1, 0), (.goto 4, 0)]) (pc' := 151) (ls' := [some (.int p0), some (.long p1), none, some (.long p2), none]) (st' := [.long 1]) (by decide +kernel) rfl ?_
      have e9 := Option.some.inj hf
      subst e9
      exact PW.lret rfl (by decide +kernel)
  rw [if_neg c1_60_10] at hf
  by_cases c1_61_12 : p0 = 61
  · rw [if_pos c1_61_12] at hf
    refine PW.lookup (dflt := 203) (ps := #[(37, 125), (42, 107), (43, 99), (45, 103), (47, 111), (60, 139), (61, 151), (62, 163), (256, 175), (257, 187), (316, 199)]) (len := 99) (off := 151) (tgt := 152) (by decide +kernel) (by decide) (by rw [c1_61_12]; decide) (by decide) ?_
    refine PW.run (blk := [(.lload_n 1, 0), (.lload_n 3, 0), (.lcmp, 0)]) (pc' := 155) (ls' := [some (.int p0), some (.long p1), none, some (.long p2), none]) (st' := [.int (lg_cmp p1 p2)]) (by decide +kernel) rfl ?_
    refine PW.if_ne (off := 7) (tgt := 162) (by decide +kernel) (by decide) (fun c155_13 => ?_) (fun c155_13 => ?_)
    · rw [if_neg c155_13] at hf
      refine PW.run (blk := [(.lconst 0, 0)]) (pc' := 163) (ls' := [some (.int p0), some (.long p1), none, some (.long p2), none]) (st' := [.long 0]) (by decide +kernel) rfl ?_
      have e9 := Option.some.inj hf
      subst e9
      exact PW.lret rfl (by decide +kernel)
    · rw [if_pos c155_13] at hf
      refine PW.run (blk := [(.lconst 1, 0), (.goto 4, 0)]) (pc' := 163) (ls' := [some (.int p0), some (.long p1), none, some (.long p2), none]) (st' := [.long 1]) (by decide +kernel) rfl ?_
      have e9 := Option.some.inj hf
      subst e9
      exact PW.lret rfl (by decide +kernel)
  rw [if_neg c1_61_12] at hf
  by_cases c1_62_14 : p0 = 62
  · rw [if_pos c1_62_14] at hf
    refine PW.lookup (dflt := 203) (ps := #[(37, 125), (42, 107), (43, 99), (45, 103), (47, 111), (60, 139), (61, 151), (62, 163), (256, 175), (257, 187), (316, 199)]) (len := 99) (off := 163) (tgt := 164) (by decide +kernel) (by decide) (by rw [c1_62_14]; decide) (by decide) ?_
    refine PW.run (blk := [(.lload_n 1, 0), (.lload_n 3, 0), (.lcmp, 0)]) (pc' := 167) (ls' := [some (.int p0), some (.long p1), none, some (.long p2), none]) (st' := [.int (lg_cmp p1 p2)]) (by decide +kernel) rfl ?_
    refine PW.if_le (off := 7) (tgt := 174) (by decide +kernel) (by decide) (fun c167_15 => ?_) (fun c167_15 => ?_)
    · rw [if_pos c167_15] at hf
      refine PW.run (blk := [(.lconst 0, 0)]) (pc' := 175) (ls' := [some (.int p0), some (.long p1), none, some (.long p2), none]) (st' := [.long 0]) (by decide +kernel) rfl ?_
      have e9 := Option.some.inj hf
      subst e9
      exact PW.lret rfl (by decide +kernel)
    · rw [if_neg c167_15] at hf
      refine PW.run (blk := [(.lconst 1, 0), (.goto 4, 0)]) (pc' := 175) (ls' := [some (.int p0), some (.long p1), none, some (.long p2), none]) (st' := [.long 1]) (by decide +kernel) rfl ?_
      have e9 := Option.some.inj hf
      subst e9
      exact PW.lret rfl (by decide +kernel)
  rw [if_neg c1_62_14] at hf
  by_cases c1_256_16 : p0 = 256
  · rw [if_pos c1_256_16] at hf
    refine PW.lookup (dflt := 203) (ps := #[(37, 125), (42, 107), (43, 99), (45, 103), (47, 111), (60, 139), (61, 151), (62, 163), (256, 175), (257, 187), (316, 199)]) (len := 99) (off := 175) (tgt := 176) (by decide +kernel) (by decide) (by rw [c1_256_16]; decide) (by decide) ?_
    refine PW.run (blk := [(.lload_n 1, 0), (.lload_n 3, 0), (.lcmp, 0)]) (pc' := 179) (ls' := [some (.int p0), some (.long p1), none, some (.long p2), none]) (st' := [.int (lg_cmp p1 p2)]) (by decide +kernel) rfl ?_
    refine PW.if_gt (off := 7) (tgt := 186) (by decide +kernel) (by decide) (fun c179_17 => ?_) (fun c179_17 => ?_)
    · rw [if_pos c179_17] at hf
      refine PW.run (blk := [(.lconst 0, 0)]) (pc' := 187) (ls' := [some (.int p0), some (.long p1), none, some (.long p2), none]) (st' := [.long 0]) (by decide +kernel) rfl ?_
      have e9 := Option.some.inj hf
      subst e9
      exact PW.lret rfl (by decide +kernel)
    · rw [if_neg c179_17] at hf
      refine PW.run (blk := [(.lconst 1, 0), (.goto 4, 0)]) (pc' := 187) (ls' := [some (.int p0), some (.long p1), none, some (.long p2), none]) (st' := [.long 1]) (by decide +kernel) rfl ?_
      have e9 := Option.some.inj hf
      subst e9
      exact PW.lret rfl (by decide +kernel)
  rw [if_neg c1_256_16] at hf
  by_cases c1_257_18 : p0 = 257
  · rw [if_pos c1_257_18] at hf
    refine PW.lookup (dflt := 203) (ps := #[(37, 125), (42, 107), (43, 99), (45, 103), (47, 111), (60, 139), (61, 151), (62, 163), (256, 175), (257, 187), (316, 199)]) (len := 99) (off := 187) (tgt := 188) (by decide +kernel) (by decide) (by rw [c1_257_18]; decide) (by decide) ?_
    refine PW.run (blk := [(.lload_n 1, 0), (.lload_n 3, 0), (.lcmp, 0)]) (pc' := 191) (ls' := [some (.int p0), some (.long p1), none, some (.long p2), none]) (st' := [.int (lg_cmp p1 p2)]) (by decide +kernel) rfl ?_
    refine PW.if_lt (off := 7) (tgt := 198) (by decide +kernel) (by decide) (fun c191_19 => ?_) (fun c191_19 => ?_)
    · rw [if_pos c191_19] at hf
      refine PW.run (blk := [(.lconst 0, 0)]) (pc' := 199) (ls' := [some (.int p0), some (.long p1), none, some (.long p2), none]) (st' := [.long 0]) (by decide +kernel) rfl ?_
      have e9 := Option.some.inj hf
      subst e9
      exact PW.lret rfl (by decide +kernel)
    · rw [if_neg c191_19] at hf
      refine PW.run (blk := [(.lconst 1, 0), (.goto 4, 0)]) (pc' := 199) (ls' := [some (.int p0), some (.long p1), none, some (.long p2), none]) (st' := [.long 1]) (by decide +kernel) rfl ?_
      have e9 := Option.some.inj hf
      subst e9
      exact PW.lret rfl (by decide +kernel)
  rw [if_neg c1_257_18] at hf
  by_cases c1_316_20 : p0 = 316
  · rw [if_pos c1_316_20] at hf
    refine PW.lookup (dflt := 203) (ps := #[(37, 125), (42, 107), (43, 99), (45, 103), (47, 111), (60, 139), (61, 151), (62, 163), (256, 175), (257, 187), (316, 199)]) (len := 99) (off := 199) (tgt := 200) (by decide +kernel) (by decide) (by rw [c1_316_20]; decide) (by decide) ?_
    refine PW.run (blk := [(.lload_n 1, 0), (.lload_n 3, 0), (.land, 0)]) (pc' := 203) (ls' := [some (.int p0), some (.long p1), none, some (.long p2), none]) (st' := [.long (p1 &&& p2)]) (by decide +kernel) rfl ?_
    have e9 := Option.some.inj hf
    subst e9
    exact PW.lret rfl (by decide +kernel)
  rw [if_neg c1_316_20] at hf
  refine PW.lookup (dflt := 203) (ps := #[(37, 125), (42, 107), (43, 99), (45, 103), (47, 111), (60, 139), (61, 151), (62, 163), (256, 175), (257, 187), (316, 199)]) (len := 99) (off := 203) (tgt := 204) (by decide +kernel) (by decide) (by simp only [Op.lookupswitch.offset, if_neg, not_false_eq_true, Ne.symm (ne_toInt c1_37_1 (k := 37) rfl), Ne.symm (ne_toInt c1_42_4 (k := 42) rfl), Ne.symm (ne_toInt c1_43_5 (k := 43) rfl), Ne.symm (ne_toInt c1_45_6 (k := 45) rfl), Ne.symm (ne_toInt c1_47_7 (k := 47) rfl), Ne.symm (ne_toInt c1_60_10 (k := 60) rfl), Ne.symm (ne_toInt c1_61_12 (k := 61) rfl), Ne.symm (ne_toInt c1_62_14 (k := 62) rfl), Ne.symm (ne_toInt c1_256_16 (k := 256) rfl), Ne.symm (ne_toInt c1_257_18 (k := 257) rfl), Ne.symm (ne_toInt c1_316_20 (k := 316) rfl)]) (by decide) ?_
  refine PW.run (blk := [(.lload_n 1, 0), (.lload_n 3, 0), (.lor, 0)]) (pc' := 207) (ls' := [some (.int p0), some (.long p1), none, some (.long p2), none]) (st' := [.long (p1 ||| p2)]) (by decide +kernel) rfl ?_
  have e9 := Option.some.inj hf
  subst e9
  exact PW.lret rfl (by decide +kernel)
def fc_X7_reckoned_L16 (k0 : Nat) (k2 : Int32) (k3 : Nat) (k4 : Nat) : Nat → Int32 → Int32 → cT → Option (Int32 × Int32 × cT)
  | 0, _, _, _ => none
  | N + 1, a5, a6, S => if k2 ≤ a6 then (some (a5, a6, S)) else (if 400 ≤ a6 then (some (a5, a6, S)) else (bif inb a6 400 then (letv (S.1 (k0 + 1) (a6 : Int32).toNatClampNeg) fun v3 => if v3 < (-8) then (if v3 = (-317) then (if a5 < 1 then (if a5 < 2 then (fc_X7_reckoned_L16 k0 k2 k3 k4 N a5 (a6 + 1) S) else (bif inb ((a5 + (-1)) - 1) 64 then (letv (S.2.1 k4 (((a5 + (-1)) - 1) : Int32).toNatClampNeg) fun v14 => bif inb (a5 + (-1)) 64 then (letv (S.2.1 k4 ((a5 + (-1)) : Int32).toNatClampNeg) fun v15 => (fc_X7_joined (-v3) v14 v15).bind fun q16 => bif inb ((a5 + (-1)) - 1) 64 then (letv (cb S k4 (((a5 + (-1)) - 1) : Int32).toNatClampNeg q16) fun S18 => fc_X7_reckoned_L16 k0 k2 k3 k4 N (a5 + (-1)) (a6 + 1) S18) else none) else none) else none)) else (bif inb (a5 - 1) 64 then (letv (S.2.1 k4 ((a5 - 1) : Int32).toNatClampNeg) fun v19 => bif inb (a5 - 1) 64 then (letv (cb S k4 ((a5 - 1) : Int32).toNatClampNeg (1 - v19)) fun S21 => fc_X7_reckoned_L16 k0 k2 k3 k4 N a5 (a6 + 1) S21) else none) else none)) else (if a5 < 2 then (fc_X7_reckoned_L16 k0 k2 k3 k4 N a5 (a6 + 1) S) else (bif inb ((a5 + (-1)) - 1) 64 then (letv (S.2.1 k4 (((a5 + (-1)) - 1) : Int32).toNatClampNeg) fun v7 => bif inb (a5 + (-1)) 64 then (letv (S.2.1 k4 ((a5 + (-1)) : Int32).toNatClampNeg) fun v8 => (fc_X7_joined (-v3) v7 v8).bind fun q9 => bif inb ((a5 + (-1)) - 1) 64 then (letv (cb S k4 (((a5 + (-1)) - 1) : Int32).toNatClampNeg q9) fun S11 => fc_X7_reckoned_L16 k0 k2 k3 k4 N (a5 + (-1)) (a6 + 1) S11) else none) else none) else none))) else (if 64 ≤ a5 then (if v3 = (-317) then (if a5 < 1 then (if a5 < 2 then (fc_X7_reckoned_L16 k0 k2 k3 k4 N a5 (a6 + 1) S) else (bif inb ((a5 + (-1)) - 1) 64 then (letv (S.2.1 k4 (((a5 + (-1)) - 1) : Int32).toNatClampNeg) fun v32 => bif inb (a5 + (-1)) 64 then (letv (S.2.1 k4 ((a5 + (-1)) : Int32).toNatClampNeg) fun v33 => (fc_X7_joined (-v3) v32 v33).bind fun q34 => bif inb ((a5 + (-1)) - 1) 64 then (letv (cb S k4 (((a5 + (-1)) - 1) : Int32).toNatClampNeg q34) fun S36 => fc_X7_reckoned_L16 k0 k2 k3 k4 N (a5 + (-1)) (a6 + 1) S36) else none) else none) else none)) else (bif inb (a5 - 1) 64 then (letv (S.2.1 k4 ((a5 - 1) : Int32).toNatClampNeg) fun v37 => bif inb (a5 - 1) 64 then (letv (cb S k4 ((a5 - 1) : Int32).toNatClampNeg (1 - v37)) fun S39 => fc_X7_reckoned_L16 k0 k2 k3 k4 N a5 (a6 + 1) S39) else none) else none)) else (if a5 < 2 then (fc_X7_reckoned_L16 k0 k2 k3 k4 N a5 (a6 + 1) S) else (bif inb ((a5 + (-1)) - 1) 64 then (letv (S.2.1 k4 (((a5 + (-1)) - 1) : Int32).toNatClampNeg) fun v25 => bif inb (a5 + (-1)) 64 then (letv (S.2.1 k4 ((a5 + (-1)) : Int32).toNatClampNeg) fun v26 => (fc_X7_joined (-v3) v25 v26).bind fun q27 => bif inb ((a5 + (-1)) - 1) 64 then (letv (cb S k4 (((a5 + (-1)) - 1) : Int32).toNatClampNeg q27) fun S29 => fc_X7_reckoned_L16 k0 k2 k3 k4 N (a5 + (-1)) (a6 + 1) S29) else none) else none) else none))) else (if v3 < 0 then (bif inb ((-1) - v3) 8 then (letv (S.2.1 (k3 + 1) (((-1) - v3) : Int32).toNatClampNeg) fun v41 => bif inb a5 64 then (letv (cb S k4 (a5 : Int32).toNatClampNeg v41) fun S43 => fc_X7_reckoned_L16 k0 k2 k3 k4 N (a5 + 1) (a6 + 1) S43) else none) else none) else (bif inb a5 64 then (letv (cb S k4 (a5 : Int32).toNatClampNeg ((v3 : Int32).toInt64)) fun S45 => fc_X7_reckoned_L16 k0 k2 k3 k4 N (a5 + 1) (a6 + 1) S45) else none)))) else none))
def fc_X7_reckoned (b : Nat) (p0 : Int32) (p1 : Int32) (p2 : Nat) (S : cT) : Option (Int64 × cT) := (fc_X7_reckoned_L16 b p1 p2 (p2 + 2) FU 0 (mxI p0 0) S).bind fun w46 => if w46.1 < 1 then (some (0, w46.2.2)) else (bif inb (w46.1 - 1) 64 then (letv (w46.2.2.2.1 (p2 + 2) ((w46.1 - 1) : Int32).toNatClampNeg) fun v48 => some (v48, w46.2.2)) else none)
theorem xc_X7_reckoned_L16 {l : Launch} {r : Option Value} {S' : cT} (k0 : Nat) (k1 : Int32) (k2 : Int32) (k3 : Nat) (k4 : Nat) (hk0 : cK k0 = 6) (hk3 : cK k3 = 7) (hk4 : cK k4 = 21) (hn4 : cN k4 = 64) : ∀ (N : Nat) (a5 : Int32) (a6 : Int32) (S : cT) (W0 : Int32 × Int32 × cT) (_ : fc_X7_reckoned_L16 k0 k2 k3 k4 N a5 a6 S = some W0) (_ : CW l yy_X7_reckoned 1 r S' 157 [some (.ref k0), some (.int k1), some (.int k2), some (.ref k3), some (.ref k4), some (.int W0.1), some (.int W0.2.1), none] [] W0.2.2), CW l yy_X7_reckoned 1 r S' 16 [some (.ref k0), some (.int k1), some (.int k2), some (.ref k3), some (.ref k4), some (.int a5), some (.int a6), none] [] S := by
  intro N
  induction N with
  | zero =>
    intro a5 a6 S W0 hf _
    cases hf
  | succ N ih =>
    intro a5 a6 S W0 hf hk_1
    unfold fc_X7_reckoned_L16 at hf
    refine CW.run (blk := [(.iload 6, 0), (.iload_n 2, 0)]) (pc' := 19) (ls' := [some (.ref k0), some (.int k1), some (.int k2), some (.ref k3), some (.ref k4), some (.int a5), some (.int a6), none]) (st' := [.int k2, .int a6]) (by decide +kernel) rfl ?_
    refine CW.icmp_ge (off := 138) (tgt := 157) (by decide +kernel) (by decide) (fun c19_1 => ?_) (fun c19_1 => ?_)
    · rw [if_pos c19_1] at hf
      have e9 := Option.some.inj hf
      subst e9
      exact hk_1
    · rw [if_neg c19_1] at hf
      refine CW.run (blk := [(.iload 6, 0), (.sipush 400, 400)]) (pc' := 27) (ls' := [some (.ref k0), some (.int k1), some (.int k2), some (.ref k3), some (.ref k4), some (.int a5), some (.int a6), none]) (st' := [.int 400, .int a6]) (by decide +kernel) rfl ?_
      refine CW.icmp_ge (off := 130) (tgt := 157) (by decide +kernel) (by decide) (fun c27_2 => ?_) (fun c27_2 => ?_)
      · rw [if_pos c27_2] at hf
        have e9 := Option.some.inj hf
        subst e9
        exact hk_1
      · rw [if_neg c27_2] at hf
        refine CW.run (blk := [(.aload_n 0, 0)]) (pc' := 31) (ls' := [some (.ref k0), some (.int k1), some (.int k2), some (.ref k3), some (.ref k4), some (.int a5), some (.int a6), none]) (st' := [.ref k0]) (by decide +kernel) rfl ?_
        refine CW.getf (v := .ref (k0 + 1)) hk0 (by decide) fl_RX7_9 (by decide +kernel) rfl ?_
        refine CW.run (blk := [(.iload 6, 0)]) (pc' := 36) (ls' := [some (.ref k0), some (.int k1), some (.int k2), some (.ref k3), some (.ref k4), some (.int a5), some (.int a6), none]) (st' := [.int a6, .ref (k0 + 1)]) (by decide +kernel) rfl ?_
        obtain ⟨hi_v3, hf⟩ := bi_some hf
        obtain ⟨v3, hv3, hf⟩ := letv_some hf
        refine CW.iald (kk_6_0 hk0) (kn_6_0 hk0) (by decide +kernel) (inb_in hi_v3) ?_
        rw [← hv3]
        refine CW.run (blk := [(.istore 7, 0), (.iload 7, 0), (.bipush (-8), (-8))]) (pc' := 43) (ls' := [some (.ref k0), some (.int k1), some (.int k2), some (.ref k3), some (.ref k4), some (.int a5), some (.int a6), some (.int v3)]) (st' := [.int (-8), .int v3]) (by decide +kernel) rfl ?_
        refine CW.icmp_lt (off := 41) (tgt := 84) (by decide +kernel) (by decide) (fun c43_4 => ?_) (fun c43_4 => ?_)
        · rw [if_pos c43_4] at hf
          refine CW.run (blk := [(.iload 7, 0), (.sipush (-317), (-317))]) (pc' := 89) (ls' := [some (.ref k0), some (.int k1), some (.int k2), some (.ref k3), some (.ref k4), some (.int a5), some (.int a6), some (.int v3)]) (st' := [.int (-317), .int v3]) (by decide +kernel) rfl ?_
          refine CW.icmp_ne (off := 28) (tgt := 117) (by decide +kernel) (by decide) (fun c89_5 => ?_) (fun c89_5 => ?_)
          · rw [if_neg c89_5] at hf
            refine CW.run (blk := [(.iload 5, 0), (.iconst 2, 2)]) (pc' := 120) (ls' := [some (.ref k0), some (.int k1), some (.int k2), some (.ref k3), some (.ref k4), some (.int a5), some (.int a6), some (.int v3)]) (st' := [.int 2, .int a5]) (by decide +kernel) rfl ?_
            refine CW.icmp_lt (off := 31) (tgt := 151) (by decide +kernel) (by decide) (fun c120_6 => ?_) (fun c120_6 => ?_)
            · rw [if_pos c120_6] at hf
              refine CW.run (blk := [(.iinc 6 1, 1), (.goto (-138), 0)]) (pc' := 16) (ls' := [some (.ref k0), some (.int k1), some (.int k2), some (.ref k3), some (.ref k4), some (.int a5), some (.int (a6 + 1)), some (.int v3)]) (st' := []) (by decide +kernel) rfl ?_
              refine CW.fgt (ls' := [some (.ref k0), some (.int k1), some (.int k2), some (.ref k3), some (.ref k4), some (.int a5), some (.int (a6 + 1)), none]) (by repeat' (first | exact trivial | refine ⟨rfl, ?_⟩)) ?_
              exact ih _ _ _ _ hf hk_1
            · rw [if_neg c120_6] at hf
              refine CW.run (blk := [(.iinc 5 (-1), (-1)), (.aload 4, 0), (.iload 5, 0), (.iconst 1, 1), (.isub, 0), (.iload 7, 0), (.ineg, 0), (.aload 4, 0), (.iload 5, 0), (.iconst 1, 1), (.isub, 0)]) (pc' := 141) (ls' := [some (.ref k0), some (.int k1), some (.int k2), some (.ref k3), some (.ref k4), some (.int (a5 + (-1))), some (.int a6), some (.int v3)]) (st' := [.int ((a5 + (-1)) - 1), .ref k4, .int (-v3), .int ((a5 + (-1)) - 1), .ref k4]) (by decide +kernel) rfl ?_
              obtain ⟨hi_v7, hf⟩ := bi_some hf
              obtain ⟨v7, hv7, hf⟩ := letv_some hf
              refine CW.lald hk4 hn4 (by decide +kernel) (inb_in hi_v7) ?_
              rw [← hv7]
              refine CW.run (blk := [(.aload 4, 0), (.iload 5, 0)]) (pc' := 146) (ls' := [some (.ref k0), some (.int k1), some (.int k2), some (.ref k3), some (.ref k4), some (.int (a5 + (-1))), some (.int a6), some (.int v3)]) (st' := [.int (a5 + (-1)), .ref k4, .long v7, .int (-v3), .int ((a5 + (-1)) - 1), .ref k4]) (by decide +kernel) rfl ?_
              obtain ⟨hi_v8, hf⟩ := bi_some hf
              obtain ⟨v8, hv8, hf⟩ := letv_some hf
              refine CW.lald hk4 hn4 (by decide +kernel) (inb_in hi_v8) ?_
              rw [← hv8]
              obtain ⟨q9, hq9, hf⟩ := bd_some hf
              refine CW.callP (As := [.int (-v3), .long v7, .long v8]) (st := [.int ((a5 + (-1)) - 1), .ref k4]) lt_RX7_62 (by decide +kernel) (xc_X7_joined hq9) (by decide) (by decide) rfl (Nat.le_of_ble_eq_true rfl) rfl ?_
              show CW l yy_X7_reckoned 1 _ _ 150 [some (.ref k0), some (.int k1), some (.int k2), some (.ref k3), some (.ref k4), some (.int (a5 + (-1))), some (.int a6), some (.int v3)] [.long q9, .int ((a5 + (-1)) - 1), .ref k4] S
              obtain ⟨hi10, hf⟩ := bi_some hf
              refine CW.last hk4 hn4 (by decide +kernel) (inb_in hi10) ?_
              obtain ⟨S11, hS11, hf⟩ := letv_some hf
              rw [← hS11]
              refine CW.run (blk := [(.iinc 6 1, 1), (.goto (-138), 0)]) (pc' := 16) (ls' := [some (.ref k0), some (.int k1), some (.int k2), some (.ref k3), some (.ref k4), some (.int (a5 + (-1))), some (.int (a6 + 1)), some (.int v3)]) (st' := []) (by decide +kernel) rfl ?_
              refine CW.fgt (ls' := [some (.ref k0), some (.int k1), some (.int k2), some (.ref k3), some (.ref k4), some (.int (a5 + (-1))), some (.int (a6 + 1)), none]) (by repeat' (first | exact trivial | refine ⟨rfl, ?_⟩)) ?_
              exact ih _ _ _ _ hf hk_1
          · rw [if_pos c89_5] at hf
            refine CW.run (blk := [(.iload 5, 0), (.iconst 1, 1)]) (pc' := 95) (ls' := [some (.ref k0), some (.int k1), some (.int k2), some (.ref k3), some (.ref k4), some (.int a5), some (.int a6), some (.int v3)]) (st' := [.int 1, .int a5]) (by decide +kernel) rfl ?_
            refine CW.icmp_lt (off := 22) (tgt := 117) (by decide +kernel) (by decide) (fun c95_12 => ?_) (fun c95_12 => ?_)
            · rw [if_pos c95_12] at hf
              refine CW.run (blk := [(.iload 5, 0), (.iconst 2, 2)]) (pc' := 120) (ls' := [some (.ref k0), some (.int k1), some (.int k2), some (.ref k3), some (.ref k4), some (.int a5), some (.int a6), some (.int v3)]) (st' := [.int 2, .int a5]) (by decide +kernel) rfl ?_
              refine CW.icmp_lt (off := 31) (tgt := 151) (by decide +kernel) (by decide) (fun c120_13 => ?_) (fun c120_13 => ?_)
              · rw [if_pos c120_13] at hf
                refine CW.run (blk := [(.iinc 6 1, 1), (.goto (-138), 0)]) (pc' := 16) (ls' := [some (.ref k0), some (.int k1), some (.int k2), some (.ref k3), some (.ref k4), some (.int a5), some (.int (a6 + 1)), some (.int v3)]) (st' := []) (by decide +kernel) rfl ?_
                refine CW.fgt (ls' := [some (.ref k0), some (.int k1), some (.int k2), some (.ref k3), some (.ref k4), some (.int a5), some (.int (a6 + 1)), none]) (by repeat' (first | exact trivial | refine ⟨rfl, ?_⟩)) ?_
                exact ih _ _ _ _ hf hk_1
              · rw [if_neg c120_13] at hf
                refine CW.run (blk := [(.iinc 5 (-1), (-1)), (.aload 4, 0), (.iload 5, 0), (.iconst 1, 1), (.isub, 0), (.iload 7, 0), (.ineg, 0), (.aload 4, 0), (.iload 5, 0), (.iconst 1, 1), (.isub, 0)]) (pc' := 141) (ls' := [some (.ref k0), some (.int k1), some (.int k2), some (.ref k3), some (.ref k4), some (.int (a5 + (-1))), some (.int a6), some (.int v3)]) (st' := [.int ((a5 + (-1)) - 1), .ref k4, .int (-v3), .int ((a5 + (-1)) - 1), .ref k4]) (by decide +kernel) rfl ?_
                obtain ⟨hi_v14, hf⟩ := bi_some hf
                obtain ⟨v14, hv14, hf⟩ := letv_some hf
                refine CW.lald hk4 hn4 (by decide +kernel) (inb_in hi_v14) ?_
                rw [← hv14]
                refine CW.run (blk := [(.aload 4, 0), (.iload 5, 0)]) (pc' := 146) (ls' := [some (.ref k0), some (.int k1), some (.int k2), some (.ref k3), some (.ref k4), some (.int (a5 + (-1))), some (.int a6), some (.int v3)]) (st' := [.int (a5 + (-1)), .ref k4, .long v14, .int (-v3), .int ((a5 + (-1)) - 1), .ref k4]) (by decide +kernel) rfl ?_
                obtain ⟨hi_v15, hf⟩ := bi_some hf
                obtain ⟨v15, hv15, hf⟩ := letv_some hf
                refine CW.lald hk4 hn4 (by decide +kernel) (inb_in hi_v15) ?_
                rw [← hv15]
                obtain ⟨q16, hq16, hf⟩ := bd_some hf
                refine CW.callP (As := [.int (-v3), .long v14, .long v15]) (st := [.int ((a5 + (-1)) - 1), .ref k4]) lt_RX7_62 (by decide +kernel) (xc_X7_joined hq16) (by decide) (by decide) rfl (Nat.le_of_ble_eq_true rfl) rfl ?_
                show CW l yy_X7_reckoned 1 _ _ 150 [some (.ref k0), some (.int k1), some (.int k2), some (.ref k3), some (.ref k4), some (.int (a5 + (-1))), some (.int a6), some (.int v3)] [.long q16, .int ((a5 + (-1)) - 1), .ref k4] S
                obtain ⟨hi17, hf⟩ := bi_some hf
                refine CW.last hk4 hn4 (by decide +kernel) (inb_in hi17) ?_
                obtain ⟨S18, hS18, hf⟩ := letv_some hf
                rw [← hS18]
                refine CW.run (blk := [(.iinc 6 1, 1), (.goto (-138), 0)]) (pc' := 16) (ls' := [some (.ref k0), some (.int k1), some (.int k2), some (.ref k3), some (.ref k4), some (.int (a5 + (-1))), some (.int (a6 + 1)), some (.int v3)]) (st' := []) (by decide +kernel) rfl ?_
                refine CW.fgt (ls' := [some (.ref k0), some (.int k1), some (.int k2), some (.ref k3), some (.ref k4), some (.int (a5 + (-1))), some (.int (a6 + 1)), none]) (by repeat' (first | exact trivial | refine ⟨rfl, ?_⟩)) ?_
                exact ih _ _ _ _ hf hk_1
            · rw [if_neg c95_12] at hf
              refine CW.run (blk := [(.aload 4, 0), (.iload 5, 0), (.iconst 1, 1), (.isub, 0), (.lconst 1, 0), (.aload 4, 0), (.iload 5, 0), (.iconst 1, 1), (.isub, 0)]) (pc' := 111) (ls' := [some (.ref k0), some (.int k1), some (.int k2), some (.ref k3), some (.ref k4), some (.int a5), some (.int a6), some (.int v3)]) (st' := [.int (a5 - 1), .ref k4, .long 1, .int (a5 - 1), .ref k4]) (by decide +kernel) rfl ?_
              obtain ⟨hi_v19, hf⟩ := bi_some hf
              obtain ⟨v19, hv19, hf⟩ := letv_some hf
              refine CW.lald hk4 hn4 (by decide +kernel) (inb_in hi_v19) ?_
              rw [← hv19]
              refine CW.run (blk := [(.lsub, 0)]) (pc' := 113) (ls' := [some (.ref k0), some (.int k1), some (.int k2), some (.ref k3), some (.ref k4), some (.int a5), some (.int a6), some (.int v3)]) (st' := [.long (1 - v19), .int (a5 - 1), .ref k4]) (by decide +kernel) rfl ?_
              obtain ⟨hi20, hf⟩ := bi_some hf
              refine CW.last hk4 hn4 (by decide +kernel) (inb_in hi20) ?_
              obtain ⟨S21, hS21, hf⟩ := letv_some hf
              rw [← hS21]
              refine CW.run (blk := [(.goto 37, 0), (.iinc 6 1, 1), (.goto (-138), 0)]) (pc' := 16) (ls' := [some (.ref k0), some (.int k1), some (.int k2), some (.ref k3), some (.ref k4), some (.int a5), some (.int (a6 + 1)), some (.int v3)]) (st' := []) (by decide +kernel) rfl ?_
              refine CW.fgt (ls' := [some (.ref k0), some (.int k1), some (.int k2), some (.ref k3), some (.ref k4), some (.int a5), some (.int (a6 + 1)), none]) (by repeat' (first | exact trivial | refine ⟨rfl, ?_⟩)) ?_
              exact ih _ _ _ _ hf hk_1
        · rw [if_neg c43_4] at hf
          refine CW.run (blk := [(.iload 5, 0), (.bipush 64, 64)]) (pc' := 50) (ls' := [some (.ref k0), some (.int k1), some (.int k2), some (.ref k3), some (.ref k4), some (.int a5), some (.int a6), some (.int v3)]) (st' := [.int 64, .int a5]) (by decide +kernel) rfl ?_
          refine CW.icmp_ge (off := 34) (tgt := 84) (by decide +kernel) (by decide) (fun c50_22 => ?_) (fun c50_22 => ?_)
          · rw [if_pos c50_22] at hf
            refine CW.run (blk := [(.iload 7, 0), (.sipush (-317), (-317))]) (pc' := 89) (ls' := [some (.ref k0), some (.int k1), some (.int k2), some (.ref k3), some (.ref k4), some (.int a5), some (.int a6), some (.int v3)]) (st' := [.int (-317), .int v3]) (by decide +kernel) rfl ?_
            refine CW.icmp_ne (off := 28) (tgt := 117) (by decide +kernel) (by decide) (fun c89_23 => ?_) (fun c89_23 => ?_)
            · rw [if_neg c89_23] at hf
              refine CW.run (blk := [(.iload 5, 0), (.iconst 2, 2)]) (pc' := 120) (ls' := [some (.ref k0), some (.int k1), some (.int k2), some (.ref k3), some (.ref k4), some (.int a5), some (.int a6), some (.int v3)]) (st' := [.int 2, .int a5]) (by decide +kernel) rfl ?_
              refine CW.icmp_lt (off := 31) (tgt := 151) (by decide +kernel) (by decide) (fun c120_24 => ?_) (fun c120_24 => ?_)
              · rw [if_pos c120_24] at hf
                refine CW.run (blk := [(.iinc 6 1, 1), (.goto (-138), 0)]) (pc' := 16) (ls' := [some (.ref k0), some (.int k1), some (.int k2), some (.ref k3), some (.ref k4), some (.int a5), some (.int (a6 + 1)), some (.int v3)]) (st' := []) (by decide +kernel) rfl ?_
                refine CW.fgt (ls' := [some (.ref k0), some (.int k1), some (.int k2), some (.ref k3), some (.ref k4), some (.int a5), some (.int (a6 + 1)), none]) (by repeat' (first | exact trivial | refine ⟨rfl, ?_⟩)) ?_
                exact ih _ _ _ _ hf hk_1
              · rw [if_neg c120_24] at hf
                refine CW.run (blk := [(.iinc 5 (-1), (-1)), (.aload 4, 0), (.iload 5, 0), (.iconst 1, 1), (.isub, 0), (.iload 7, 0), (.ineg, 0), (.aload 4, 0), (.iload 5, 0), (.iconst 1, 1), (.isub, 0)]) (pc' := 141) (ls' := [some (.ref k0), some (.int k1), some (.int k2), some (.ref k3), some (.ref k4), some (.int (a5 + (-1))), some (.int a6), some (.int v3)]) (st' := [.int ((a5 + (-1)) - 1), .ref k4, .int (-v3), .int ((a5 + (-1)) - 1), .ref k4]) (by decide +kernel) rfl ?_
                obtain ⟨hi_v25, hf⟩ := bi_some hf
                obtain ⟨v25, hv25, hf⟩ := letv_some hf
                refine CW.lald hk4 hn4 (by decide +kernel) (inb_in hi_v25) ?_
                rw [← hv25]
                refine CW.run (blk := [(.aload 4, 0), (.iload 5, 0)]) (pc' := 146) (ls' := [some (.ref k0), some (.int k1), some (.int k2), some (.ref k3), some (.ref k4), some (.int (a5 + (-1))), some (.int a6), some (.int v3)]) (st' := [.int (a5 + (-1)), .ref k4, .long v25, .int (-v3), .int ((a5 + (-1)) - 1), .ref k4]) (by decide +kernel) rfl ?_
                obtain ⟨hi_v26, hf⟩ := bi_some hf
                obtain ⟨v26, hv26, hf⟩ := letv_some hf
                refine CW.lald hk4 hn4 (by decide +kernel) (inb_in hi_v26) ?_
                rw [← hv26]
                obtain ⟨q27, hq27, hf⟩ := bd_some hf
                refine CW.callP (As := [.int (-v3), .long v25, .long v26]) (st := [.int ((a5 + (-1)) - 1), .ref k4]) lt_RX7_62 (by decide +kernel) (xc_X7_joined hq27) (by decide) (by decide) rfl (Nat.le_of_ble_eq_true rfl) rfl ?_
                show CW l yy_X7_reckoned 1 _ _ 150 [some (.ref k0), some (.int k1), some (.int k2), some (.ref k3), some (.ref k4), some (.int (a5 + (-1))), some (.int a6), some (.int v3)] [.long q27, .int ((a5 + (-1)) - 1), .ref k4] S
                obtain ⟨hi28, hf⟩ := bi_some hf
                refine CW.last hk4 hn4 (by decide +kernel) (inb_in hi28) ?_
                obtain ⟨S29, hS29, hf⟩ := letv_some hf
                rw [← hS29]
                refine CW.run (blk := [(.iinc 6 1, 1), (.goto (-138), 0)]) (pc' := 16) (ls' := [some (.ref k0), some (.int k1), some (.int k2), some (.ref k3), some (.ref k4), some (.int (a5 + (-1))), some (.int (a6 + 1)), some (.int v3)]) (st' := []) (by decide +kernel) rfl ?_
                refine CW.fgt (ls' := [some (.ref k0), some (.int k1), some (.int k2), some (.ref k3), some (.ref k4), some (.int (a5 + (-1))), some (.int (a6 + 1)), none]) (by repeat' (first | exact trivial | refine ⟨rfl, ?_⟩)) ?_
                exact ih _ _ _ _ hf hk_1
            · rw [if_pos c89_23] at hf
              refine CW.run (blk := [(.iload 5, 0), (.iconst 1, 1)]) (pc' := 95) (ls' := [some (.ref k0), some (.int k1), some (.int k2), some (.ref k3), some (.ref k4), some (.int a5), some (.int a6), some (.int v3)]) (st' := [.int 1, .int a5]) (by decide +kernel) rfl ?_
              refine CW.icmp_lt (off := 22) (tgt := 117) (by decide +kernel) (by decide) (fun c95_30 => ?_) (fun c95_30 => ?_)
              · rw [if_pos c95_30] at hf
                refine CW.run (blk := [(.iload 5, 0), (.iconst 2, 2)]) (pc' := 120) (ls' := [some (.ref k0), some (.int k1), some (.int k2), some (.ref k3), some (.ref k4), some (.int a5), some (.int a6), some (.int v3)]) (st' := [.int 2, .int a5]) (by decide +kernel) rfl ?_
                refine CW.icmp_lt (off := 31) (tgt := 151) (by decide +kernel) (by decide) (fun c120_31 => ?_) (fun c120_31 => ?_)
                · rw [if_pos c120_31] at hf
                  refine CW.run (blk := [(.iinc 6 1, 1), (.goto (-138), 0)]) (pc' := 16) (ls' := [some (.ref k0), some (.int k1), some (.int k2), some (.ref k3), some (.ref k4), some (.int a5), some (.int (a6 + 1)), some (.int v3)]) (st' := []) (by decide +kernel) rfl ?_
                  refine CW.fgt (ls' := [some (.ref k0), some (.int k1), some (.int k2), some (.ref k3), some (.ref k4), some (.int a5), some (.int (a6 + 1)), none]) (by repeat' (first | exact trivial | refine ⟨rfl, ?_⟩)) ?_
                  exact ih _ _ _ _ hf hk_1
                · rw [if_neg c120_31] at hf
                  refine CW.run (blk := [(.iinc 5 (-1), (-1)), (.aload 4, 0), (.iload 5, 0), (.iconst 1, 1), (.isub, 0), (.iload 7, 0), (.ineg, 0), (.aload 4, 0), (.iload 5, 0), (.iconst 1, 1), (.isub, 0)]) (pc' := 141) (ls' := [some (.ref k0), some (.int k1), some (.int k2), some (.ref k3), some (.ref k4), some (.int (a5 + (-1))), some (.int a6), some (.int v3)]) (st' := [.int ((a5 + (-1)) - 1), .ref k4, .int (-v3), .int ((a5 + (-1)) - 1), .ref k4]) (by decide +kernel) rfl ?_
                  obtain ⟨hi_v32, hf⟩ := bi_some hf
                  obtain ⟨v32, hv32, hf⟩ := letv_some hf
                  refine CW.lald hk4 hn4 (by decide +kernel) (inb_in hi_v32) ?_
                  rw [← hv32]
                  refine CW.run (blk := [(.aload 4, 0), (.iload 5, 0)]) (pc' := 146) (ls' := [some (.ref k0), some (.int k1), some (.int k2), some (.ref k3), some (.ref k4), some (.int (a5 + (-1))), some (.int a6), some (.int v3)]) (st' := [.int (a5 + (-1)), .ref k4, .long v32, .int (-v3), .int ((a5 + (-1)) - 1), .ref k4]) (by decide +kernel) rfl ?_
                  obtain ⟨hi_v33, hf⟩ := bi_some hf
                  obtain ⟨v33, hv33, hf⟩ := letv_some hf
                  refine CW.lald hk4 hn4 (by decide +kernel) (inb_in hi_v33) ?_
                  rw [← hv33]
                  obtain ⟨q34, hq34, hf⟩ := bd_some hf
                  refine CW.callP (As := [.int (-v3), .long v32, .long v33]) (st := [.int ((a5 + (-1)) - 1), .ref k4]) lt_RX7_62 (by decide +kernel) (xc_X7_joined hq34) (by decide) (by decide) rfl (Nat.le_of_ble_eq_true rfl) rfl ?_
                  show CW l yy_X7_reckoned 1 _ _ 150 [some (.ref k0), some (.int k1), some (.int k2), some (.ref k3), some (.ref k4), some (.int (a5 + (-1))), some (.int a6), some (.int v3)] [.long q34, .int ((a5 + (-1)) - 1), .ref k4] S
                  obtain ⟨hi35, hf⟩ := bi_some hf
                  refine CW.last hk4 hn4 (by decide +kernel) (inb_in hi35) ?_
                  obtain ⟨S36, hS36, hf⟩ := letv_some hf
                  rw [← hS36]
                  refine CW.run (blk := [(.iinc 6 1, 1), (.goto (-138), 0)]) (pc' := 16) (ls' := [some (.ref k0), some (.int k1), some (.int k2), some (.ref k3), some (.ref k4), some (.int (a5 + (-1))), some (.int (a6 + 1)), some (.int v3)]) (st' := []) (by decide +kernel) rfl ?_
                  refine CW.fgt (ls' := [some (.ref k0), some (.int k1), some (.int k2), some (.ref k3), some (.ref k4), some (.int (a5 + (-1))), some (.int (a6 + 1)), none]) (by repeat' (first | exact trivial | refine ⟨rfl, ?_⟩)) ?_
                  exact ih _ _ _ _ hf hk_1
              · rw [if_neg c95_30] at hf
                refine CW.run (blk := [(.aload 4, 0), (.iload 5, 0), (.iconst 1, 1), (.isub, 0), (.lconst 1, 0), (.aload 4, 0), (.iload 5, 0), (.iconst 1, 1), (.isub, 0)]) (pc' := 111) (ls' := [some (.ref k0), some (.int k1), some (.int k2), some (.ref k3), some (.ref k4), some (.int a5), some (.int a6), some (.int v3)]) (st' := [.int (a5 - 1), .ref k4, .long 1, .int (a5 - 1), .ref k4]) (by decide +kernel) rfl ?_
                obtain ⟨hi_v37, hf⟩ := bi_some hf
                obtain ⟨v37, hv37, hf⟩ := letv_some hf
                refine CW.lald hk4 hn4 (by decide +kernel) (inb_in hi_v37) ?_
                rw [← hv37]
                refine CW.run (blk := [(.lsub, 0)]) (pc' := 113) (ls' := [some (.ref k0), some (.int k1), some (.int k2), some (.ref k3), some (.ref k4), some (.int a5), some (.int a6), some (.int v3)]) (st' := [.long (1 - v37), .int (a5 - 1), .ref k4]) (by decide +kernel) rfl ?_
                obtain ⟨hi38, hf⟩ := bi_some hf
                refine CW.last hk4 hn4 (by decide +kernel) (inb_in hi38) ?_
                obtain ⟨S39, hS39, hf⟩ := letv_some hf
                rw [← hS39]
                refine CW.run (blk := [(.goto 37, 0), (.iinc 6 1, 1), (.goto (-138), 0)]) (pc' := 16) (ls' := [some (.ref k0), some (.int k1), some (.int k2), some (.ref k3), some (.ref k4), some (.int a5), some (.int (a6 + 1)), some (.int v3)]) (st' := []) (by decide +kernel) rfl ?_
                refine CW.fgt (ls' := [some (.ref k0), some (.int k1), some (.int k2), some (.ref k3), some (.ref k4), some (.int a5), some (.int (a6 + 1)), none]) (by repeat' (first | exact trivial | refine ⟨rfl, ?_⟩)) ?_
                exact ih _ _ _ _ hf hk_1
          · rw [if_neg c50_22] at hf
            refine CW.run (blk := [(.aload 4, 0), (.iload 5, 0), (.iload 7, 0)]) (pc' := 59) (ls' := [some (.ref k0), some (.int k1), some (.int k2), some (.ref k3), some (.ref k4), some (.int a5), some (.int a6), some (.int v3)]) (st' := [.int v3, .int a5, .ref k4]) (by decide +kernel) rfl ?_
            refine CW.if_lt (off := 9) (tgt := 68) (by decide +kernel) (by decide) (fun c59_40 => ?_) (fun c59_40 => ?_)
            · rw [if_pos c59_40] at hf
              refine CW.run (blk := [(.aload_n 3, 0)]) (pc' := 69) (ls' := [some (.ref k0), some (.int k1), some (.int k2), some (.ref k3), some (.ref k4), some (.int a5), some (.int a6), some (.int v3)]) (st' := [.ref k3, .int a5, .ref k4]) (by decide +kernel) rfl ?_
              refine CW.getf (v := .ref (k3 + 1)) hk3 (by decide) fl_RX7_59 (by decide +kernel) rfl ?_
              refine CW.run (blk := [(.iconst (-1), (-1)), (.iload 7, 0), (.isub, 0)]) (pc' := 76) (ls' := [some (.ref k0), some (.int k1), some (.int k2), some (.ref k3), some (.ref k4), some (.int a5), some (.int a6), some (.int v3)]) (st' := [.int ((-1) - v3), .ref (k3 + 1), .int a5, .ref k4]) (by decide +kernel) rfl ?_
              obtain ⟨hi_v41, hf⟩ := bi_some hf
              obtain ⟨v41, hv41, hf⟩ := letv_some hf
              refine CW.lald (kk_7_0 hk3) (kn_7_0 hk3) (by decide +kernel) (inb_in hi_v41) ?_
              rw [← hv41]
              obtain ⟨hi42, hf⟩ := bi_some hf
              refine CW.last hk4 hn4 (by decide +kernel) (inb_in hi42) ?_
              obtain ⟨S43, hS43, hf⟩ := letv_some hf
              rw [← hS43]
              refine CW.run (blk := [(.iinc 5 1, 1), (.goto 70, 0), (.iinc 6 1, 1), (.goto (-138), 0)]) (pc' := 16) (ls' := [some (.ref k0), some (.int k1), some (.int k2), some (.ref k3), some (.ref k4), some (.int (a5 + 1)), some (.int (a6 + 1)), some (.int v3)]) (st' := []) (by decide +kernel) rfl ?_
              refine CW.fgt (ls' := [some (.ref k0), some (.int k1), some (.int k2), some (.ref k3), some (.ref k4), some (.int (a5 + 1)), some (.int (a6 + 1)), none]) (by repeat' (first | exact trivial | refine ⟨rfl, ?_⟩)) ?_
              exact ih _ _ _ _ hf hk_1
            · rw [if_neg c59_40] at hf
              refine CW.run (blk := [(.iload 7, 0), (.i2l, 0), (.goto 12, 0)]) (pc' := 77) (ls' := [some (.ref k0), some (.int k1), some (.int k2), some (.ref k3), some (.ref k4), some (.int a5), some (.int a6), some (.int v3)]) (st' := [.long ((v3 : Int32).toInt64), .int a5, .ref k4]) (by decide +kernel) rfl ?_
              obtain ⟨hi44, hf⟩ := bi_some hf
              refine CW.last hk4 hn4 (by decide +kernel) (inb_in hi44) ?_
              obtain ⟨S45, hS45, hf⟩ := letv_some hf
              rw [← hS45]
              refine CW.run (blk := [(.iinc 5 1, 1), (.goto 70, 0), (.iinc 6 1, 1), (.goto (-138), 0)]) (pc' := 16) (ls' := [some (.ref k0), some (.int k1), some (.int k2), some (.ref k3), some (.ref k4), some (.int (a5 + 1)), some (.int (a6 + 1)), some (.int v3)]) (st' := []) (by decide +kernel) rfl ?_
              refine CW.fgt (ls' := [some (.ref k0), some (.int k1), some (.int k2), some (.ref k3), some (.ref k4), some (.int (a5 + 1)), some (.int (a6 + 1)), none]) (by repeat' (first | exact trivial | refine ⟨rfl, ?_⟩)) ?_
              exact ih _ _ _ _ hf hk_1
theorem xc_X7_reckoned {l : Launch} {b : Nat} {p0 : Int32} {p1 : Int32} {p2 : Nat} {S : cT} {q : Int64 × cT} (hb : cK b = 6) (h2 : cK p2 = 7) (hf : fc_X7_reckoned b p0 p1 p2 S = some q) : COk l yy_X7_reckoned 1 [.ref b, .int p0, .int p1, .ref p2] S (some (.long q.1)) q.2 := by
  refine COk.of (ls := [some (.ref b), some (.int p0), some (.int p1), some (.ref p2), none, none, none, none]) (by decide +kernel) (Nat.le_of_ble_eq_true rfl) rfl ?_
  unfold fc_X7_reckoned at hf
  refine CW.run (blk := [(.aload_n 3, 0)]) (pc' := 1) (ls' := [some (.ref b), some (.int p0), some (.int p1), some (.ref p2), none, none, none, none]) (st' := [.ref p2]) (by decide +kernel) rfl ?_
  refine CW.getf (v := .ref (p2 + 2)) h2 (by decide) fl_RX7_50 (by decide +kernel) rfl ?_
  refine CW.run (blk := [(.astore 4, 0), (.iconst 0, 0), (.istore 5, 0), (.iload_n 1, 0), (.iconst 0, 0)]) (pc' := 11) (ls' := [some (.ref b), some (.int p0), some (.int p1), some (.ref p2), some (.ref (p2 + 2)), some (.int 0), none, none]) (st' := [.int 0, .int p0]) (by decide +kernel) rfl ?_
  refine CW.mmax (idx := 56) (tb_in 626 (by decide +kernel) (by decide +kernel)) (by decide +kernel) (by decide) (Nat.le_of_ble_eq_true rfl) ?_
  refine CW.run (blk := [(.istore 6, 0)]) (pc' := 16) (ls' := [some (.ref b), some (.int p0), some (.int p1), some (.ref p2), some (.ref (p2 + 2)), some (.int 0), some (.int (mxI p0 0)), none]) (st' := []) (by decide +kernel) rfl ?_
  obtain ⟨w46, hw46, hf⟩ := bd_some hf
  refine xc_X7_reckoned_L16 b p0 p1 p2 (p2 + 2) hb h2 (kk_7_1 h2) (kn_7_1 h2) FU _ _ _ _ hw46 ?_
  refine CW.run (blk := [(.iload 5, 0), (.iconst 1, 1)]) (pc' := 160) (ls' := [some (.ref b), some (.int p0), some (.int p1), some (.ref p2), some (.ref (p2 + 2)), some (.int w46.1), some (.int w46.2.1), none]) (st' := [.int 1, .int w46.1]) (by decide +kernel) rfl ?_
  refine CW.icmp_lt (off := 13) (tgt := 173) (by decide +kernel) (by decide) (fun c160_47 => ?_) (fun c160_47 => ?_)
  · rw [if_pos c160_47] at hf
    refine CW.run (blk := [(.lconst 0, 0)]) (pc' := 174) (ls' := [some (.ref b), some (.int p0), some (.int p1), some (.ref p2), some (.ref (p2 + 2)), some (.int w46.1), some (.int w46.2.1), none]) (st' := [.long 0]) (by decide +kernel) rfl ?_
    have e9 := Option.some.inj hf
    subst e9
    exact CW.lret rfl (by decide +kernel)
  · rw [if_neg c160_47] at hf
    refine CW.run (blk := [(.aload 4, 0), (.iload 5, 0), (.iconst 1, 1), (.isub, 0)]) (pc' := 169) (ls' := [some (.ref b), some (.int p0), some (.int p1), some (.ref p2), some (.ref (p2 + 2)), some (.int w46.1), some (.int w46.2.1), none]) (st' := [.int (w46.1 - 1), .ref (p2 + 2)]) (by decide +kernel) rfl ?_
    obtain ⟨hi_v48, hf⟩ := bi_some hf
    obtain ⟨v48, hv48, hf⟩ := letv_some hf
    refine CW.lald (kk_7_1 h2) (kn_7_1 h2) (by decide +kernel) (inb_in hi_v48) ?_
    rw [← hv48]
    refine CW.run (blk := [(.goto 4, 0)]) (pc' := 174) (ls' := [some (.ref b), some (.int p0), some (.int p1), some (.ref p2), some (.ref (p2 + 2)), some (.int w46.1), some (.int w46.2.1), none]) (st' := [.long v48]) (by decide +kernel) rfl ?_
    have e9 := Option.some.inj hf
    subst e9
    exact CW.lret rfl (by decide +kernel)
