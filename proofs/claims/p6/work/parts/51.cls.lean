/-! ===== the class, method by method (by program) 2 ===== -/
def fc_X6_copyFrom (b : Nat) (p0 : Nat) (S : cT) : Option (cT) := bif cpok 0 0 (mnI ((S.1 p0 3) * (S.1 p0 1)) ((S.1 b 2) * (S.1 b 1))) (cN (p0 + 1)) (cN (b + 1)) then (letv (cf S (b + 1) (va_cpy (S.1 (p0 + 1)) (S.1 (b + 1)) (0 : Int32).toNatClampNeg (0 : Int32).toNatClampNeg ((mnI ((S.1 p0 3) * (S.1 p0 1)) ((S.1 b 2) * (S.1 b 1))) : Int32).toNatClampNeg)) fun S2 => letv (ca S2 b 3 (mnI (S2.1 p0 3) (S2.1 b 2))) fun S3 => some S3) else none
theorem xc_X6_copyFrom {l : Launch} {b : Nat} {p0 : Nat} {S : cT} {q : cT} (hb : cK b = 5) (h0 : cK p0 = 5) (hf : fc_X6_copyFrom b p0 S = some q) : COk l yy_X6_copyFrom 1 [.ref b, .ref p0] S none q := by
  refine COk.of (ls := [some (.ref b), some (.ref p0), none]) (by decide +kernel) (Nat.le_of_ble_eq_true rfl) rfl ?_
  unfold fc_X6_copyFrom at hf
  refine CW.run (blk := [(.aload_n 1, 0)]) (pc' := 1) (ls' := [some (.ref b), some (.ref p0), none]) (st' := [.ref p0]) (by decide +kernel) rfl ?_
  refine CW.getf (v := .int (S.1 p0 3)) h0 (by decide) fl_RX6_22 (by decide +kernel) rfl ?_
  refine CW.run (blk := [(.aload_n 1, 0)]) (pc' := 5) (ls' := [some (.ref b), some (.ref p0), none]) (st' := [.ref p0, .int (S.1 p0 3)]) (by decide +kernel) rfl ?_
  refine CW.getf (v := .int (S.1 p0 1)) h0 (by decide) fl_RX6_15 (by decide +kernel) rfl ?_
  refine CW.run (blk := [(.imul, 0), (.aload_n 0, 0)]) (pc' := 10) (ls' := [some (.ref b), some (.ref p0), none]) (st' := [.ref b, .int ((S.1 p0 3) * (S.1 p0 1))]) (by decide +kernel) rfl ?_
  refine CW.getf (v := .int (S.1 b 2)) hb (by decide) fl_RX6_9 (by decide +kernel) rfl ?_
  refine CW.run (blk := [(.aload_n 0, 0)]) (pc' := 14) (ls' := [some (.ref b), some (.ref p0), none]) (st' := [.ref b, .int (S.1 b 2), .int ((S.1 p0 3) * (S.1 p0 1))]) (by decide +kernel) rfl ?_
  refine CW.getf (v := .int (S.1 b 1)) hb (by decide) fl_RX6_15 (by decide +kernel) rfl ?_
  refine CW.run (blk := [(.imul, 0)]) (pc' := 18) (ls' := [some (.ref b), some (.ref p0), none]) (st' := [.int ((S.1 b 2) * (S.1 b 1)), .int ((S.1 p0 3) * (S.1 p0 1))]) (by decide +kernel) rfl ?_
  refine CW.mmin (idx := 29) (tb_in 1007 (by decide +kernel) (by decide +kernel)) (by decide +kernel) (by decide) (Nat.le_of_ble_eq_true rfl) ?_
  refine CW.run (blk := [(.istore_n 2, 0), (.aload_n 1, 0)]) (pc' := 23) (ls' := [some (.ref b), some (.ref p0), some (.int (mnI ((S.1 p0 3) * (S.1 p0 1)) ((S.1 b 2) * (S.1 b 1))))]) (st' := [.ref p0]) (by decide +kernel) rfl ?_
  refine CW.getf (v := .ref (p0 + 1)) h0 (by decide) fl_RX6_18 (by decide +kernel) rfl ?_
  refine CW.run (blk := [(.iconst 0, 0), (.aload_n 0, 0)]) (pc' := 28) (ls' := [some (.ref b), some (.ref p0), some (.int (mnI ((S.1 p0 3) * (S.1 p0 1)) ((S.1 b 2) * (S.1 b 1))))]) (st' := [.ref b, .int 0, .ref (p0 + 1)]) (by decide +kernel) rfl ?_
  refine CW.getf (v := .ref (b + 1)) hb (by decide) fl_RX6_18 (by decide +kernel) rfl ?_
  refine CW.run (blk := [(.iconst 0, 0), (.iload_n 2, 0)]) (pc' := 33) (ls' := [some (.ref b), some (.ref p0), some (.int (mnI ((S.1 p0 3) * (S.1 p0 1)) ((S.1 b 2) * (S.1 b 1))))]) (st' := [.int (mnI ((S.1 p0 3) * (S.1 p0 1)) ((S.1 b 2) * (S.1 b 1))), .int 0, .ref (b + 1), .int 0, .ref (p0 + 1)]) (by decide +kernel) rfl ?_
  obtain ⟨hc1, hf⟩ := bi_some hf
  refine CW.copyi (idx := 35) (tb_in 1008 (by decide +kernel) (by decide +kernel)) (kk_5_0 h0) rfl (kk_5_0 hb) rfl (by decide +kernel) hc1 (by decide) (Nat.le_of_ble_eq_true rfl) ?_
  obtain ⟨S2, hS2, hf⟩ := letv_some hf
  rw [← hS2]
  refine CW.run (blk := [(.aload_n 0, 0), (.aload_n 1, 0)]) (pc' := 38) (ls' := [some (.ref b), some (.ref p0), some (.int (mnI ((S.1 p0 3) * (S.1 p0 1)) ((S.1 b 2) * (S.1 b 1))))]) (st' := [.ref p0, .ref b]) (by decide +kernel) rfl ?_
  refine CW.getf (v := .int (S2.1 p0 3)) h0 (by decide) fl_RX6_22 (by decide +kernel) rfl ?_
  refine CW.run (blk := [(.aload_n 0, 0)]) (pc' := 42) (ls' := [some (.ref b), some (.ref p0), some (.int (mnI ((S.1 p0 3) * (S.1 p0 1)) ((S.1 b 2) * (S.1 b 1))))]) (st' := [.ref b, .int (S2.1 p0 3), .ref b]) (by decide +kernel) rfl ?_
  refine CW.getf (v := .int (S2.1 b 2)) hb (by decide) fl_RX6_9 (by decide +kernel) rfl ?_
  refine CW.mmin (idx := 29) (tb_in 1007 (by decide +kernel) (by decide +kernel)) (by decide +kernel) (by decide) (Nat.le_of_ble_eq_true rfl) ?_
  refine CW.putI hb (by decide) fp_RX6_22 (by decide +kernel) (fun _ _ _ => Nat.le_of_ble_eq_true rfl) rfl rfl (fun _ _ _ => rfl) ?_
  obtain ⟨S3, hS3, hf⟩ := letv_some hf
  rw [← hS3]
  have e9 := Option.some.inj hf
  subst e9
  exact CW.vret rfl (by decide +kernel)
def fc_X2_copyFrom (b : Nat) (p0 : Nat) (S : cT) : Option (cT) := bif cpok 0 0 8 8 8 then (letv (cf S (b + 1) (va_cpy (S.1 (p0 + 1)) (S.1 (b + 1)) (0 : Int32).toNatClampNeg (0 : Int32).toNatClampNeg (8 : Int32).toNatClampNeg)) fun S2 => bif cpok 0 0 8 8 8 then (letv (cf S2 (b + 2) (va_cpy (S2.1 (p0 + 2)) (S2.1 (b + 2)) (0 : Int32).toNatClampNeg (0 : Int32).toNatClampNeg (8 : Int32).toNatClampNeg)) fun S4 => bif cpok 0 0 8 8 8 then (letv (cf S4 (b + 3) (va_cpy (S4.1 (p0 + 3)) (S4.1 (b + 3)) (0 : Int32).toNatClampNeg (0 : Int32).toNatClampNeg (8 : Int32).toNatClampNeg)) fun S6 => bif cpok 0 0 8 8 8 then (letv (cf S6 (b + 4) (va_cpy (S6.1 (p0 + 4)) (S6.1 (b + 4)) (0 : Int32).toNatClampNeg (0 : Int32).toNatClampNeg (8 : Int32).toNatClampNeg)) fun S8 => bif cpok 0 0 64 64 64 then (letv (cf S8 (b + 5) (va_cpy (S8.1 (p0 + 5)) (S8.1 (b + 5)) (0 : Int32).toNatClampNeg (0 : Int32).toNatClampNeg (64 : Int32).toNatClampNeg)) fun S10 => (fc_X6_copyFrom (b + 6) (p0 + 6) S10).bind fun q11 => (fc_X6_copyFrom (b + 8) (p0 + 8) q11).bind fun q12 => (fc_X6_copyFrom (b + 10) (p0 + 10) q12).bind fun q13 => letv (ca q13 b 8 (q13.1 p0 8)) fun S14 => letv (ca S14 b 9 (S14.1 p0 9)) fun S15 => letv (ca S15 b 10 (S15.1 p0 10)) fun S16 => bif isB (S16.1 p0 11) then (letv (ca S16 b 11 (S16.1 p0 11)) fun S18 => letv (ca S18 b 12 (S18.1 p0 12)) fun S19 => letv (ca S19 b 13 (S19.1 p0 13)) fun S20 => letv (ca S20 b 14 (S20.1 p0 14)) fun S21 => some S21) else none) else none) else none) else none) else none) else none
theorem xc_X2_copyFrom {l : Launch} {b : Nat} {p0 : Nat} {S : cT} {q : cT} (hb : cK b = 2) (h0 : cK p0 = 2) (hf : fc_X2_copyFrom b p0 S = some q) : COk l yy_X2_copyFrom 2 [.ref b, .ref p0] S none q := by
  refine COk.of (ls := [some (.ref b), some (.ref p0)]) (by decide +kernel) (Nat.le_of_ble_eq_true rfl) rfl ?_
  unfold fc_X2_copyFrom at hf
  refine CW.run (blk := [(.aload_n 1, 0)]) (pc' := 1) (ls' := [some (.ref b), some (.ref p0)]) (st' := [.ref p0]) (by decide +kernel) rfl ?_
  refine CW.getf (v := .ref (p0 + 1)) h0 (by decide) fl_RX2_11 (by decide +kernel) rfl ?_
  refine CW.run (blk := [(.iconst 0, 0), (.aload_n 0, 0)]) (pc' := 6) (ls' := [some (.ref b), some (.ref p0)]) (st' := [.ref b, .int 0, .ref (p0 + 1)]) (by decide +kernel) rfl ?_
  refine CW.getf (v := .ref (b + 1)) hb (by decide) fl_RX2_11 (by decide +kernel) rfl ?_
  refine CW.run (blk := [(.iconst 0, 0), (.bipush 8, 8)]) (pc' := 12) (ls' := [some (.ref b), some (.ref p0)]) (st' := [.int 8, .int 0, .ref (b + 1), .int 0, .ref (p0 + 1)]) (by decide +kernel) rfl ?_
  obtain ⟨hc1, hf⟩ := bi_some hf
  refine CW.copyi (idx := 66) (tb_in 1002 (by decide +kernel) (by decide +kernel)) (kk_2_0 h0) (kn_2_0 h0) (kk_2_0 hb) (kn_2_0 hb) (by decide +kernel) hc1 (by decide) (Nat.le_of_ble_eq_true rfl) ?_
  obtain ⟨S2, hS2, hf⟩ := letv_some hf
  rw [← hS2]
  refine CW.run (blk := [(.aload_n 1, 0)]) (pc' := 16) (ls' := [some (.ref b), some (.ref p0)]) (st' := [.ref p0]) (by decide +kernel) rfl ?_
  refine CW.getf (v := .ref (p0 + 2)) h0 (by decide) fl_RX2_15 (by decide +kernel) rfl ?_
  refine CW.run (blk := [(.iconst 0, 0), (.aload_n 0, 0)]) (pc' := 21) (ls' := [some (.ref b), some (.ref p0)]) (st' := [.ref b, .int 0, .ref (p0 + 2)]) (by decide +kernel) rfl ?_
  refine CW.getf (v := .ref (b + 2)) hb (by decide) fl_RX2_15 (by decide +kernel) rfl ?_
  refine CW.run (blk := [(.iconst 0, 0), (.bipush 8, 8)]) (pc' := 27) (ls' := [some (.ref b), some (.ref p0)]) (st' := [.int 8, .int 0, .ref (b + 2), .int 0, .ref (p0 + 2)]) (by decide +kernel) rfl ?_
  obtain ⟨hc3, hf⟩ := bi_some hf
  refine CW.copyi (idx := 66) (tb_in 1002 (by decide +kernel) (by decide +kernel)) (kk_2_1 h0) (kn_2_1 h0) (kk_2_1 hb) (kn_2_1 hb) (by decide +kernel) hc3 (by decide) (Nat.le_of_ble_eq_true rfl) ?_
  obtain ⟨S4, hS4, hf⟩ := letv_some hf
  rw [← hS4]
  refine CW.run (blk := [(.aload_n 1, 0)]) (pc' := 31) (ls' := [some (.ref b), some (.ref p0)]) (st' := [.ref p0]) (by decide +kernel) rfl ?_
  refine CW.getf (v := .ref (p0 + 3)) h0 (by decide) fl_RX2_18 (by decide +kernel) rfl ?_
  refine CW.run (blk := [(.iconst 0, 0), (.aload_n 0, 0)]) (pc' := 36) (ls' := [some (.ref b), some (.ref p0)]) (st' := [.ref b, .int 0, .ref (p0 + 3)]) (by decide +kernel) rfl ?_
  refine CW.getf (v := .ref (b + 3)) hb (by decide) fl_RX2_18 (by decide +kernel) rfl ?_
  refine CW.run (blk := [(.iconst 0, 0), (.bipush 8, 8)]) (pc' := 42) (ls' := [some (.ref b), some (.ref p0)]) (st' := [.int 8, .int 0, .ref (b + 3), .int 0, .ref (p0 + 3)]) (by decide +kernel) rfl ?_
  obtain ⟨hc5, hf⟩ := bi_some hf
  refine CW.copyi (idx := 66) (tb_in 1002 (by decide +kernel) (by decide +kernel)) (kk_2_2 h0) (kn_2_2 h0) (kk_2_2 hb) (kn_2_2 hb) (by decide +kernel) hc5 (by decide) (Nat.le_of_ble_eq_true rfl) ?_
  obtain ⟨S6, hS6, hf⟩ := letv_some hf
  rw [← hS6]
  refine CW.run (blk := [(.aload_n 1, 0)]) (pc' := 46) (ls' := [some (.ref b), some (.ref p0)]) (st' := [.ref p0]) (by decide +kernel) rfl ?_
  refine CW.getf (v := .ref (p0 + 4)) h0 (by decide) fl_RX2_21 (by decide +kernel) rfl ?_
  refine CW.run (blk := [(.iconst 0, 0), (.aload_n 0, 0)]) (pc' := 51) (ls' := [some (.ref b), some (.ref p0)]) (st' := [.ref b, .int 0, .ref (p0 + 4)]) (by decide +kernel) rfl ?_
  refine CW.getf (v := .ref (b + 4)) hb (by decide) fl_RX2_21 (by decide +kernel) rfl ?_
  refine CW.run (blk := [(.iconst 0, 0), (.bipush 8, 8)]) (pc' := 57) (ls' := [some (.ref b), some (.ref p0)]) (st' := [.int 8, .int 0, .ref (b + 4), .int 0, .ref (p0 + 4)]) (by decide +kernel) rfl ?_
  obtain ⟨hc7, hf⟩ := bi_some hf
  refine CW.copyi (idx := 66) (tb_in 1002 (by decide +kernel) (by decide +kernel)) (kk_2_3 h0) (kn_2_3 h0) (kk_2_3 hb) (kn_2_3 hb) (by decide +kernel) hc7 (by decide) (Nat.le_of_ble_eq_true rfl) ?_
  obtain ⟨S8, hS8, hf⟩ := letv_some hf
  rw [← hS8]
  refine CW.run (blk := [(.aload_n 1, 0)]) (pc' := 61) (ls' := [some (.ref b), some (.ref p0)]) (st' := [.ref p0]) (by decide +kernel) rfl ?_
  refine CW.getf (v := .ref (p0 + 5)) h0 (by decide) fl_RX2_24 (by decide +kernel) rfl ?_
  refine CW.run (blk := [(.iconst 0, 0), (.aload_n 0, 0)]) (pc' := 66) (ls' := [some (.ref b), some (.ref p0)]) (st' := [.ref b, .int 0, .ref (p0 + 5)]) (by decide +kernel) rfl ?_
  refine CW.getf (v := .ref (b + 5)) hb (by decide) fl_RX2_24 (by decide +kernel) rfl ?_
  refine CW.run (blk := [(.iconst 0, 0), (.bipush 64, 64)]) (pc' := 72) (ls' := [some (.ref b), some (.ref p0)]) (st' := [.int 64, .int 0, .ref (b + 5), .int 0, .ref (p0 + 5)]) (by decide +kernel) rfl ?_
  obtain ⟨hc9, hf⟩ := bi_some hf
  refine CW.copyi (idx := 66) (tb_in 1002 (by decide +kernel) (by decide +kernel)) (kk_2_4 h0) (kn_2_4 h0) (kk_2_4 hb) (kn_2_4 hb) (by decide +kernel) hc9 (by decide) (Nat.le_of_ble_eq_true rfl) ?_
  obtain ⟨S10, hS10, hf⟩ := letv_some hf
  rw [← hS10]
  refine CW.run (blk := [(.aload_n 0, 0)]) (pc' := 76) (ls' := [some (.ref b), some (.ref p0)]) (st' := [.ref b]) (by decide +kernel) rfl ?_
  refine CW.getf (v := .ref (b + 6)) hb (by decide) fl_RX2_32 (by decide +kernel) rfl ?_
  refine CW.run (blk := [(.aload_n 1, 0)]) (pc' := 80) (ls' := [some (.ref b), some (.ref p0)]) (st' := [.ref p0, .ref (b + 6)]) (by decide +kernel) rfl ?_
  refine CW.getf (v := .ref (p0 + 6)) h0 (by decide) fl_RX2_32 (by decide +kernel) rfl ?_
  obtain ⟨q11, hq11, hf⟩ := bd_some hf
  refine CW.callV (As := [.ref (p0 + 6)]) (st := []) lv_RX2_72 (kk_2_5 hb) (by decide) rfl rfl (by decide +kernel) (xc_X6_copyFrom (kk_2_5 hb) (kk_2_5 h0) hq11) (by decide) (by decide) rfl (Nat.le_of_ble_eq_true rfl) rfl ?_
  show CW l yy_X2_copyFrom 2 _ _ 86 [some (.ref b), some (.ref p0)] [] q11
  refine CW.run (blk := [(.aload_n 0, 0)]) (pc' := 87) (ls' := [some (.ref b), some (.ref p0)]) (st' := [.ref b]) (by decide +kernel) rfl ?_
  refine CW.getf (v := .ref (b + 8)) hb (by decide) fl_RX2_36 (by decide +kernel) rfl ?_
  refine CW.run (blk := [(.aload_n 1, 0)]) (pc' := 91) (ls' := [some (.ref b), some (.ref p0)]) (st' := [.ref p0, .ref (b + 8)]) (by decide +kernel) rfl ?_
  refine CW.getf (v := .ref (p0 + 8)) h0 (by decide) fl_RX2_36 (by decide +kernel) rfl ?_
  obtain ⟨q12, hq12, hf⟩ := bd_some hf
  refine CW.callV (As := [.ref (p0 + 8)]) (st := []) lv_RX2_72 (kk_2_6 hb) (by decide) rfl rfl (by decide +kernel) (xc_X6_copyFrom (kk_2_6 hb) (kk_2_6 h0) hq12) (by decide) (by decide) rfl (Nat.le_of_ble_eq_true rfl) rfl ?_
  show CW l yy_X2_copyFrom 2 _ _ 97 [some (.ref b), some (.ref p0)] [] q12
  refine CW.run (blk := [(.aload_n 0, 0)]) (pc' := 98) (ls' := [some (.ref b), some (.ref p0)]) (st' := [.ref b]) (by decide +kernel) rfl ?_
  refine CW.getf (v := .ref (b + 10)) hb (by decide) fl_RX2_39 (by decide +kernel) rfl ?_
  refine CW.run (blk := [(.aload_n 1, 0)]) (pc' := 102) (ls' := [some (.ref b), some (.ref p0)]) (st' := [.ref p0, .ref (b + 10)]) (by decide +kernel) rfl ?_
  refine CW.getf (v := .ref (p0 + 10)) h0 (by decide) fl_RX2_39 (by decide +kernel) rfl ?_
  obtain ⟨q13, hq13, hf⟩ := bd_some hf
  refine CW.callV (As := [.ref (p0 + 10)]) (st := []) lv_RX2_72 (kk_2_7 hb) (by decide) rfl rfl (by decide +kernel) (xc_X6_copyFrom (kk_2_7 hb) (kk_2_7 h0) hq13) (by decide) (by decide) rfl (Nat.le_of_ble_eq_true rfl) rfl ?_
  show CW l yy_X2_copyFrom 2 _ _ 108 [some (.ref b), some (.ref p0)] [] q13
  refine CW.run (blk := [(.aload_n 0, 0), (.aload_n 1, 0)]) (pc' := 110) (ls' := [some (.ref b), some (.ref p0)]) (st' := [.ref p0, .ref b]) (by decide +kernel) rfl ?_
  refine CW.getf (v := .int (q13.1 p0 8)) h0 (by decide) fl_RX2_50 (by decide +kernel) rfl ?_
  refine CW.putI hb (by decide) fp_RX2_50 (by decide +kernel) (fun _ _ _ => Nat.le_of_ble_eq_true rfl) rfl rfl (fun _ _ _ => rfl) ?_
  obtain ⟨S14, hS14, hf⟩ := letv_some hf
  rw [← hS14]
  refine CW.run (blk := [(.aload_n 0, 0), (.aload_n 1, 0)]) (pc' := 118) (ls' := [some (.ref b), some (.ref p0)]) (st' := [.ref p0, .ref b]) (by decide +kernel) rfl ?_
  refine CW.getf (v := .int (S14.1 p0 9)) h0 (by decide) fl_RX2_53 (by decide +kernel) rfl ?_
  refine CW.putI hb (by decide) fp_RX2_53 (by decide +kernel) (fun _ _ _ => Nat.le_of_ble_eq_true rfl) rfl rfl (fun _ _ _ => rfl) ?_
  obtain ⟨S15, hS15, hf⟩ := letv_some hf
  rw [← hS15]
  refine CW.run (blk := [(.aload_n 0, 0), (.aload_n 1, 0)]) (pc' := 126) (ls' := [some (.ref b), some (.ref p0)]) (st' := [.ref p0, .ref b]) (by decide +kernel) rfl ?_
  refine CW.getf (v := .int (S15.1 p0 10)) h0 (by decide) fl_RX2_56 (by decide +kernel) rfl ?_
  refine CW.putI hb (by decide) fp_RX2_56 (by decide +kernel) (fun _ _ _ => Nat.le_of_ble_eq_true rfl) rfl rfl (fun _ _ _ => rfl) ?_
  obtain ⟨S16, hS16, hf⟩ := letv_some hf
  rw [← hS16]
  refine CW.run (blk := [(.aload_n 0, 0), (.aload_n 1, 0)]) (pc' := 134) (ls' := [some (.ref b), some (.ref p0)]) (st' := [.ref p0, .ref b]) (by decide +kernel) rfl ?_
  refine CW.getf (v := .int (S16.1 p0 11)) h0 (by decide) fl_RX2_59 (by decide +kernel) rfl ?_
  obtain ⟨hz17, hf⟩ := bi_some hf
  refine CW.putI hb (by decide) fp_RX2_59 (by decide +kernel) (fun _ _ _ => Nat.le_of_ble_eq_true rfl) (isB_nar hz17) (isB_fit hz17) (fun _ _ _ => rfl) ?_
  obtain ⟨S18, hS18, hf⟩ := letv_some hf
  rw [← hS18]
  refine CW.run (blk := [(.aload_n 0, 0), (.aload_n 1, 0)]) (pc' := 142) (ls' := [some (.ref b), some (.ref p0)]) (st' := [.ref p0, .ref b]) (by decide +kernel) rfl ?_
  refine CW.getf (v := .int (S18.1 p0 12)) h0 (by decide) fl_RX2_63 (by decide +kernel) rfl ?_
  refine CW.putI hb (by decide) fp_RX2_63 (by decide +kernel) (fun _ _ _ => Nat.le_of_ble_eq_true rfl) rfl rfl (fun _ _ _ => rfl) ?_
  obtain ⟨S19, hS19, hf⟩ := letv_some hf
  rw [← hS19]
  refine CW.run (blk := [(.aload_n 0, 0), (.aload_n 1, 0)]) (pc' := 150) (ls' := [some (.ref b), some (.ref p0)]) (st' := [.ref p0, .ref b]) (by decide +kernel) rfl ?_
  refine CW.getf (v := .int (S19.1 p0 13)) h0 (by decide) fl_RX2_42 (by decide +kernel) rfl ?_
  refine CW.putI hb (by decide) fp_RX2_42 (by decide +kernel) (fun _ _ _ => Nat.le_of_ble_eq_true rfl) rfl rfl (fun _ _ _ => rfl) ?_
  obtain ⟨S20, hS20, hf⟩ := letv_some hf
  rw [← hS20]
  refine CW.run (blk := [(.aload_n 0, 0), (.aload_n 1, 0)]) (pc' := 158) (ls' := [some (.ref b), some (.ref p0)]) (st' := [.ref p0, .ref b]) (by decide +kernel) rfl ?_
  refine CW.getf (v := .int (S20.1 p0 14)) h0 (by decide) fl_RX2_76 (by decide +kernel) rfl ?_
  refine CW.putI hb (by decide) fp_RX2_76 (by decide +kernel) (fun _ _ _ => Nat.le_of_ble_eq_true rfl) rfl rfl (fun _ _ _ => rfl) ?_
  obtain ⟨S21, hS21, hf⟩ := letv_some hf
  rw [← hS21]
  have e9 := Option.some.inj hf
  subst e9
  exact CW.vret rfl (by decide +kernel)
def fc_X2_has (b : Nat) (p0 : Int32) (S : cT) : Option (Bool) := if p0 < 0 then (some false) else (if (S.1 b 9) ≤ p0 then (some false) else (if 8 ≤ p0 then (some false) else (some true)))
theorem xc_X2_has {l : Launch} {b : Nat} {p0 : Int32} {S : cT} {q : Bool} (hb : cK b = 2) (hf : fc_X2_has b p0 S = some q) : COk l yy_X2_has 0 [.ref b, .int p0] S (some (.int (b2i q))) S := by
  refine COk.of (ls := [some (.ref b), some (.int p0)]) (by decide +kernel) (Nat.le_of_ble_eq_true rfl) rfl ?_
  unfold fc_X2_has at hf
  refine CW.run (blk := [(.iload_n 1, 0)]) (pc' := 1) (ls' := [some (.ref b), some (.int p0)]) (st' := [.int p0]) (by decide +kernel) rfl ?_
  refine CW.if_lt (off := 21) (tgt := 22) (by decide +kernel) (by decide) (fun c1_1 => ?_) (fun c1_1 => ?_)
  · rw [if_pos c1_1] at hf
    refine CW.run (blk := [(.iconst 0, 0)]) (pc' := 23) (ls' := [some (.ref b), some (.int p0)]) (st' := [.int 0]) (by decide +kernel) rfl ?_
    have e9 := Option.some.inj hf
    subst e9
    exact CW.zret rfl (b2i_nar _) (by decide +kernel)
  · rw [if_neg c1_1] at hf
    refine CW.run (blk := [(.iload_n 1, 0), (.aload_n 0, 0)]) (pc' := 6) (ls' := [some (.ref b), some (.int p0)]) (st' := [.ref b, .int p0]) (by decide +kernel) rfl ?_
    refine CW.getf (v := .int (S.1 b 9)) hb (by decide) fl_RX2_53 (by decide +kernel) rfl ?_
    refine CW.icmp_ge (off := 13) (tgt := 22) (by decide +kernel) (by decide) (fun c9_2 => ?_) (fun c9_2 => ?_)
    · rw [if_pos c9_2] at hf
      refine CW.run (blk := [(.iconst 0, 0)]) (pc' := 23) (ls' := [some (.ref b), some (.int p0)]) (st' := [.int 0]) (by decide +kernel) rfl ?_
      have e9 := Option.some.inj hf
      subst e9
      exact CW.zret rfl (b2i_nar _) (by decide +kernel)
    · rw [if_neg c9_2] at hf
      refine CW.run (blk := [(.iload_n 1, 0), (.bipush 8, 8)]) (pc' := 15) (ls' := [some (.ref b), some (.int p0)]) (st' := [.int 8, .int p0]) (by decide +kernel) rfl ?_
      refine CW.icmp_ge (off := 7) (tgt := 22) (by decide +kernel) (by decide) (fun c15_3 => ?_) (fun c15_3 => ?_)
      · rw [if_pos c15_3] at hf
        refine CW.run (blk := [(.iconst 0, 0)]) (pc' := 23) (ls' := [some (.ref b), some (.int p0)]) (st' := [.int 0]) (by decide +kernel) rfl ?_
        have e9 := Option.some.inj hf
        subst e9
        exact CW.zret rfl (b2i_nar _) (by decide +kernel)
      · rw [if_neg c15_3] at hf
        refine CW.run (blk := [(.iconst 1, 1), (.goto 4, 0)]) (pc' := 23) (ls' := [some (.ref b), some (.int p0)]) (st' := [.int 1]) (by decide +kernel) rfl ?_
        have e9 := Option.some.inj hf
        subst e9
        exact CW.zret rfl (b2i_nar _) (by decide +kernel)
def fc_X2_hasTwo (b : Nat) (p0 : Int32) (p1 : Int32) (S : cT) : Option (Bool) := (fc_X2_has b p0 S).bind fun q1 => if (b2i q1) = 0 then (some false) else ((fc_X2_has b p1 S).bind fun q3 => if (b2i q3) = 0 then (some false) else (if p0 = p1 then (some false) else (some true)))
theorem xc_X2_hasTwo {l : Launch} {b : Nat} {p0 : Int32} {p1 : Int32} {S : cT} {q : Bool} (hb : cK b = 2) (hf : fc_X2_hasTwo b p0 p1 S = some q) : COk l yy_X2_hasTwo 1 [.ref b, .int p0, .int p1] S (some (.int (b2i q))) S := by
  refine COk.of (ls := [some (.ref b), some (.int p0), some (.int p1)]) (by decide +kernel) (Nat.le_of_ble_eq_true rfl) rfl ?_
  unfold fc_X2_hasTwo at hf
  refine CW.run (blk := [(.aload_n 0, 0), (.iload_n 1, 0)]) (pc' := 2) (ls' := [some (.ref b), some (.int p0), some (.int p1)]) (st' := [.int p0, .ref b]) (by decide +kernel) rfl ?_
  obtain ⟨q1, hq1, hf⟩ := bd_some hf
  refine CW.callV (As := [.int p0]) (st := []) lv_RX2_79 hb (by decide) rfl rfl (by decide +kernel) (xc_X2_has hb hq1) (by decide) (by decide) rfl (Nat.le_of_ble_eq_true rfl) rfl ?_
  show CW l yy_X2_hasTwo 1 _ _ 5 [some (.ref b), some (.int p0), some (.int p1)] [.int (b2i q1)] S
  refine CW.if_eq (off := 20) (tgt := 25) (by decide +kernel) (by decide) (fun c5_2 => ?_) (fun c5_2 => ?_)
  · rw [if_pos c5_2] at hf
    refine CW.run (blk := [(.iconst 0, 0)]) (pc' := 26) (ls' := [some (.ref b), some (.int p0), some (.int p1)]) (st' := [.int 0]) (by decide +kernel) rfl ?_
    have e9 := Option.some.inj hf
    subst e9
    exact CW.zret rfl (b2i_nar _) (by decide +kernel)
  · rw [if_neg c5_2] at hf
    refine CW.run (blk := [(.aload_n 0, 0), (.iload_n 2, 0)]) (pc' := 10) (ls' := [some (.ref b), some (.int p0), some (.int p1)]) (st' := [.int p1, .ref b]) (by decide +kernel) rfl ?_
    obtain ⟨q3, hq3, hf⟩ := bd_some hf
    refine CW.callV (As := [.int p1]) (st := []) lv_RX2_79 hb (by decide) rfl rfl (by decide +kernel) (xc_X2_has hb hq3) (by decide) (by decide) rfl (Nat.le_of_ble_eq_true rfl) rfl ?_
    show CW l yy_X2_hasTwo 1 _ _ 13 [some (.ref b), some (.int p0), some (.int p1)] [.int (b2i q3)] S
    refine CW.if_eq (off := 12) (tgt := 25) (by decide +kernel) (by decide) (fun c13_4 => ?_) (fun c13_4 => ?_)
    · rw [if_pos c13_4] at hf
      refine CW.run (blk := [(.iconst 0, 0)]) (pc' := 26) (ls' := [some (.ref b), some (.int p0), some (.int p1)]) (st' := [.int 0]) (by decide +kernel) rfl ?_
      have e9 := Option.some.inj hf
      subst e9
      exact CW.zret rfl (b2i_nar _) (by decide +kernel)
    · rw [if_neg c13_4] at hf
      refine CW.run (blk := [(.iload_n 1, 0), (.iload_n 2, 0)]) (pc' := 18) (ls' := [some (.ref b), some (.int p0), some (.int p1)]) (st' := [.int p1, .int p0]) (by decide +kernel) rfl ?_
      refine CW.icmp_eq (off := 7) (tgt := 25) (by decide +kernel) (by decide) (fun c18_5 => ?_) (fun c18_5 => ?_)
      · rw [if_pos c18_5] at hf
        refine CW.run (blk := [(.iconst 0, 0)]) (pc' := 26) (ls' := [some (.ref b), some (.int p0), some (.int p1)]) (st' := [.int 0]) (by decide +kernel) rfl ?_
        have e9 := Option.some.inj hf
        subst e9
        exact CW.zret rfl (b2i_nar _) (by decide +kernel)
      · rw [if_neg c18_5] at hf
        refine CW.run (blk := [(.iconst 1, 1), (.goto 4, 0)]) (pc' := 26) (ls' := [some (.ref b), some (.int p0), some (.int p1)]) (st' := [.int 1]) (by decide +kernel) rfl ?_
        have e9 := Option.some.inj hf
        subst e9
        exact CW.zret rfl (b2i_nar _) (by decide +kernel)
def fc_X2_hasMark (b : Nat) (p0 : Int32) (S : cT) : Option (Bool) := if p0 < 0 then (some false) else (if (S.1 b 8) ≤ p0 then (some false) else (if 6 ≤ p0 then (some false) else (some true)))
theorem xc_X2_hasMark {l : Launch} {b : Nat} {p0 : Int32} {S : cT} {q : Bool} (hb : cK b = 2) (hf : fc_X2_hasMark b p0 S = some q) : COk l yy_X2_hasMark 0 [.ref b, .int p0] S (some (.int (b2i q))) S := by
  refine COk.of (ls := [some (.ref b), some (.int p0)]) (by decide +kernel) (Nat.le_of_ble_eq_true rfl) rfl ?_
  unfold fc_X2_hasMark at hf
  refine CW.run (blk := [(.iload_n 1, 0)]) (pc' := 1) (ls' := [some (.ref b), some (.int p0)]) (st' := [.int p0]) (by decide +kernel) rfl ?_
  refine CW.if_lt (off := 21) (tgt := 22) (by decide +kernel) (by decide) (fun c1_1 => ?_) (fun c1_1 => ?_)
  · rw [if_pos c1_1] at hf
    refine CW.run (blk := [(.iconst 0, 0)]) (pc' := 23) (ls' := [some (.ref b), some (.int p0)]) (st' := [.int 0]) (by decide +kernel) rfl ?_
    have e9 := Option.some.inj hf
    subst e9
    exact CW.zret rfl (b2i_nar _) (by decide +kernel)
  · rw [if_neg c1_1] at hf
    refine CW.run (blk := [(.iload_n 1, 0), (.aload_n 0, 0)]) (pc' := 6) (ls' := [some (.ref b), some (.int p0)]) (st' := [.ref b, .int p0]) (by decide +kernel) rfl ?_
    refine CW.getf (v := .int (S.1 b 8)) hb (by decide) fl_RX2_50 (by decide +kernel) rfl ?_
    refine CW.icmp_ge (off := 13) (tgt := 22) (by decide +kernel) (by decide) (fun c9_2 => ?_) (fun c9_2 => ?_)
    · rw [if_pos c9_2] at hf
      refine CW.run (blk := [(.iconst 0, 0)]) (pc' := 23) (ls' := [some (.ref b), some (.int p0)]) (st' := [.int 0]) (by decide +kernel) rfl ?_
      have e9 := Option.some.inj hf
      subst e9
      exact CW.zret rfl (b2i_nar _) (by decide +kernel)
    · rw [if_neg c9_2] at hf
      refine CW.run (blk := [(.iload_n 1, 0), (.bipush 6, 6)]) (pc' := 15) (ls' := [some (.ref b), some (.int p0)]) (st' := [.int 6, .int p0]) (by decide +kernel) rfl ?_
      refine CW.icmp_ge (off := 7) (tgt := 22) (by decide +kernel) (by decide) (fun c15_3 => ?_) (fun c15_3 => ?_)
      · rw [if_pos c15_3] at hf
        refine CW.run (blk := [(.iconst 0, 0)]) (pc' := 23) (ls' := [some (.ref b), some (.int p0)]) (st' := [.int 0]) (by decide +kernel) rfl ?_
        have e9 := Option.some.inj hf
        subst e9
        exact CW.zret rfl (b2i_nar _) (by decide +kernel)
      · rw [if_neg c15_3] at hf
        refine CW.run (blk := [(.iconst 1, 1), (.goto 4, 0)]) (pc' := 23) (ls' := [some (.ref b), some (.int p0)]) (st' := [.int 1]) (by decide +kernel) rfl ?_
        have e9 := Option.some.inj hf
        subst e9
        exact CW.zret rfl (b2i_nar _) (by decide +kernel)
def fc_X2_isFace (b : Nat) (p0 : Int32) (S : cT) : Option (Bool) := if p0 < 0 then (some false) else ((fc_X2_lastFace b S).bind fun q2 => if q2 < p0 then (some false) else (some true))
theorem xc_X2_isFace {l : Launch} {b : Nat} {p0 : Int32} {S : cT} {q : Bool} (hb : cK b = 2) (hf : fc_X2_isFace b p0 S = some q) : COk l yy_X2_isFace 1 [.ref b, .int p0] S (some (.int (b2i q))) S := by
  refine COk.of (ls := [some (.ref b), some (.int p0)]) (by decide +kernel) (Nat.le_of_ble_eq_true rfl) rfl ?_
  unfold fc_X2_isFace at hf
  refine CW.run (blk := [(.iload_n 1, 0)]) (pc' := 1) (ls' := [some (.ref b), some (.int p0)]) (st' := [.int p0]) (by decide +kernel) rfl ?_
  refine CW.if_lt (off := 15) (tgt := 16) (by decide +kernel) (by decide) (fun c1_1 => ?_) (fun c1_1 => ?_)
  · rw [if_pos c1_1] at hf
    refine CW.run (blk := [(.iconst 0, 0)]) (pc' := 17) (ls' := [some (.ref b), some (.int p0)]) (st' := [.int 0]) (by decide +kernel) rfl ?_
    have e9 := Option.some.inj hf
    subst e9
    exact CW.zret rfl (b2i_nar _) (by decide +kernel)
  · rw [if_neg c1_1] at hf
    refine CW.run (blk := [(.iload_n 1, 0), (.aload_n 0, 0)]) (pc' := 6) (ls' := [some (.ref b), some (.int p0)]) (st' := [.ref b, .int p0]) (by decide +kernel) rfl ?_
    obtain ⟨q2, hq2, hf⟩ := bd_some hf
    refine CW.callV (As := []) (st := [.int p0]) lv_RX2_83 hb (by decide) rfl rfl (by decide +kernel) (xc_X2_lastFace hb hq2) (by decide) (by decide) rfl (Nat.le_of_ble_eq_true rfl) rfl ?_
    show CW l yy_X2_isFace 1 _ _ 9 [some (.ref b), some (.int p0)] [.int q2, .int p0] S
    refine CW.icmp_gt (off := 7) (tgt := 16) (by decide +kernel) (by decide) (fun c9_3 => ?_) (fun c9_3 => ?_)
    · rw [if_pos c9_3] at hf
      refine CW.run (blk := [(.iconst 0, 0)]) (pc' := 17) (ls' := [some (.ref b), some (.int p0)]) (st' := [.int 0]) (by decide +kernel) rfl ?_
      have e9 := Option.some.inj hf
      subst e9
      exact CW.zret rfl (b2i_nar _) (by decide +kernel)
    · rw [if_neg c9_3] at hf
      refine CW.run (blk := [(.iconst 1, 1), (.goto 4, 0)]) (pc' := 17) (ls' := [some (.ref b), some (.int p0)]) (st' := [.int 1]) (by decide +kernel) rfl ?_
      have e9 := Option.some.inj hf
      subst e9
      exact CW.zret rfl (b2i_nar _) (by decide +kernel)
def fc_X2_faceOf (b : Nat) (p0 : Int32) (S : cT) : Option (Int32) := (fc_X2_has b p0 S).bind fun q1 => if (b2i q1) = 0 then (some 0) else (bif inb p0 8 then (letv (S.1 (b + 1) (p0 : Int32).toNatClampNeg) fun v3 => some v3) else none)
theorem xc_X2_faceOf {l : Launch} {b : Nat} {p0 : Int32} {S : cT} {q : Int32} (hb : cK b = 2) (hf : fc_X2_faceOf b p0 S = some q) : COk l yy_X2_faceOf 1 [.ref b, .int p0] S (some (.int q)) S := by
  refine COk.of (ls := [some (.ref b), some (.int p0)]) (by decide +kernel) (Nat.le_of_ble_eq_true rfl) rfl ?_
  unfold fc_X2_faceOf at hf
  refine CW.run (blk := [(.aload_n 0, 0), (.iload_n 1, 0)]) (pc' := 2) (ls' := [some (.ref b), some (.int p0)]) (st' := [.int p0, .ref b]) (by decide +kernel) rfl ?_
  obtain ⟨q1, hq1, hf⟩ := bd_some hf
  refine CW.callV (As := [.int p0]) (st := []) lv_RX2_79 hb (by decide) rfl rfl (by decide +kernel) (xc_X2_has hb hq1) (by decide) (by decide) rfl (Nat.le_of_ble_eq_true rfl) rfl ?_
  show CW l yy_X2_faceOf 1 _ _ 5 [some (.ref b), some (.int p0)] [.int (b2i q1)] S
  refine CW.if_eq (off := 12) (tgt := 17) (by decide +kernel) (by decide) (fun c5_2 => ?_) (fun c5_2 => ?_)
  · rw [if_pos c5_2] at hf
    refine CW.run (blk := [(.iconst 0, 0)]) (pc' := 18) (ls' := [some (.ref b), some (.int p0)]) (st' := [.int 0]) (by decide +kernel) rfl ?_
    have e9 := Option.some.inj hf
    subst e9
    exact CW.iret rfl (by decide +kernel)
  · rw [if_neg c5_2] at hf
    refine CW.run (blk := [(.aload_n 0, 0)]) (pc' := 9) (ls' := [some (.ref b), some (.int p0)]) (st' := [.ref b]) (by decide +kernel) rfl ?_
    refine CW.getf (v := .ref (b + 1)) hb (by decide) fl_RX2_11 (by decide +kernel) rfl ?_
    refine CW.run (blk := [(.iload_n 1, 0)]) (pc' := 13) (ls' := [some (.ref b), some (.int p0)]) (st' := [.int p0, .ref (b + 1)]) (by decide +kernel) rfl ?_
    obtain ⟨hi_v3, hf⟩ := bi_some hf
    obtain ⟨v3, hv3, hf⟩ := letv_some hf
    refine CW.iald (kk_2_0 hb) (kn_2_0 hb) (by decide +kernel) (inb_in hi_v3) ?_
    rw [← hv3]
    refine CW.run (blk := [(.goto 4, 0)]) (pc' := 18) (ls' := [some (.ref b), some (.int p0)]) (st' := [.int v3]) (by decide +kernel) rfl ?_
    have e9 := Option.some.inj hf
    subst e9
    exact CW.iret rfl (by decide +kernel)
def fc_X2_hasBoat (b : Nat) (p0 : Int32) (p1 : Int32) (S : cT) : Option (Bool) := (fc_X2_hasTwo b p0 p1 S).bind fun q1 => if (b2i q1) = 0 then (some false) else (bif inb p0 8 then (letv (S.1 (b + 4) (p0 : Int32).toNatClampNeg) fun v3 => if (((v3 : Int32) >>> (p1 &&& 31)) &&& 1) = 0 then (some false) else (some true)) else none)
theorem xc_X2_hasBoat {l : Launch} {b : Nat} {p0 : Int32} {p1 : Int32} {S : cT} {q : Bool} (hb : cK b = 2) (hf : fc_X2_hasBoat b p0 p1 S = some q) : COk l yy_X2_hasBoat 2 [.ref b, .int p0, .int p1] S (some (.int (b2i q))) S := by
  refine COk.of (ls := [some (.ref b), some (.int p0), some (.int p1)]) (by decide +kernel) (Nat.le_of_ble_eq_true rfl) rfl ?_
  unfold fc_X2_hasBoat at hf
  refine CW.run (blk := [(.aload_n 0, 0), (.iload_n 1, 0), (.iload_n 2, 0)]) (pc' := 3) (ls' := [some (.ref b), some (.int p0), some (.int p1)]) (st' := [.int p1, .int p0, .ref b]) (by decide +kernel) rfl ?_
  obtain ⟨q1, hq1, hf⟩ := bd_some hf
  refine CW.callV (As := [.int p0, .int p1]) (st := []) lv_RX2_87 hb (by decide) rfl rfl (by decide +kernel) (xc_X2_hasTwo hb hq1) (by decide) (by decide) rfl (Nat.le_of_ble_eq_true rfl) rfl ?_
  show CW l yy_X2_hasBoat 2 _ _ 6 [some (.ref b), some (.int p0), some (.int p1)] [.int (b2i q1)] S
  refine CW.if_eq (off := 20) (tgt := 26) (by decide +kernel) (by decide) (fun c6_2 => ?_) (fun c6_2 => ?_)
  · rw [if_pos c6_2] at hf
    refine CW.run (blk := [(.iconst 0, 0)]) (pc' := 27) (ls' := [some (.ref b), some (.int p0), some (.int p1)]) (st' := [.int 0]) (by decide +kernel) rfl ?_
    have e9 := Option.some.inj hf
    subst e9
    exact CW.zret rfl (b2i_nar _) (by decide +kernel)
  · rw [if_neg c6_2] at hf
    refine CW.run (blk := [(.aload_n 0, 0)]) (pc' := 10) (ls' := [some (.ref b), some (.int p0), some (.int p1)]) (st' := [.ref b]) (by decide +kernel) rfl ?_
    refine CW.getf (v := .ref (b + 4)) hb (by decide) fl_RX2_21 (by decide +kernel) rfl ?_
    refine CW.run (blk := [(.iload_n 1, 0)]) (pc' := 14) (ls' := [some (.ref b), some (.int p0), some (.int p1)]) (st' := [.int p0, .ref (b + 4)]) (by decide +kernel) rfl ?_
    obtain ⟨hi_v3, hf⟩ := bi_some hf
    obtain ⟨v3, hv3, hf⟩ := letv_some hf
    refine CW.iald (kk_2_3 hb) (kn_2_3 hb) (by decide +kernel) (inb_in hi_v3) ?_
    rw [← hv3]
    refine CW.run (blk := [(.iload_n 2, 0), (.ishr, 0), (.iconst 1, 1), (.iand, 0)]) (pc' := 19) (ls' := [some (.ref b), some (.int p0), some (.int p1)]) (st' := [.int (((v3 : Int32) >>> (p1 &&& 31)) &&& 1)]) (by decide +kernel) rfl ?_
    refine CW.if_eq (off := 7) (tgt := 26) (by decide +kernel) (by decide) (fun c19_4 => ?_) (fun c19_4 => ?_)
    · rw [if_pos c19_4] at hf
      refine CW.run (blk := [(.iconst 0, 0)]) (pc' := 27) (ls' := [some (.ref b), some (.int p0), some (.int p1)]) (st' := [.int 0]) (by decide +kernel) rfl ?_
      have e9 := Option.some.inj hf
      subst e9
      exact CW.zret rfl (b2i_nar _) (by decide +kernel)
    · rw [if_neg c19_4] at hf
      refine CW.run (blk := [(.iconst 1, 1), (.goto 4, 0)]) (pc' := 27) (ls' := [some (.ref b), some (.int p0), some (.int p1)]) (st' := [.int 1]) (by decide +kernel) rfl ?_
      have e9 := Option.some.inj hf
      subst e9
      exact CW.zret rfl (b2i_nar _) (by decide +kernel)
def fc_X2_heed (b : Nat) (p0 : Int32) (p1 : Int32) (S : cT) : Option (Int32) := Option.bind (if p0 < 0 then (some (0)) else (if 8 ≤ p0 then (some (0)) else (if p1 < 0 then (some (0)) else (if 8 ≤ p1 then (some (0)) else (some (1))))) : Option (Int32)) fun w1 => if w1 = 0 then (some 0) else (bif inb ((p0 * 8) + p1) 64 then (letv (S.1 (b + 5) (((p0 * 8) + p1) : Int32).toNatClampNeg) fun v7 => some v7) else none)
theorem xc_X2_heed {l : Launch} {b : Nat} {p0 : Int32} {p1 : Int32} {S : cT} {q : Int32} (hb : cK b = 2) (hf : fc_X2_heed b p0 p1 S = some q) : COk l yy_X2_heed 0 [.ref b, .int p0, .int p1] S (some (.int q)) S := by
  refine COk.of (ls := [some (.ref b), some (.int p0), some (.int p1), none]) (by decide +kernel) (Nat.le_of_ble_eq_true rfl) rfl ?_
  unfold fc_X2_heed at hf
  refine CW.run (blk := [(.iload_n 1, 0)]) (pc' := 1) (ls' := [some (.ref b), some (.int p0), some (.int p1), none]) (st' := [.int p0]) (by decide +kernel) rfl ?_
  obtain ⟨w1, hw1, hf⟩ := bd_some hf
  have hJ : CW l yy_X2_heed 0 (some (.int q)) S 25 [some (.ref b), some (.int p0), some (.int p1), none] [.int w1] S := by
    refine CW.run (blk := [(.istore_n 3, 0), (.iload_n 3, 0)]) (pc' := 27) (ls' := [some (.ref b), some (.int p0), some (.int p1), some (.int w1)]) (st' := [.int w1]) (by decide +kernel) rfl ?_
    refine CW.if_eq (off := 17) (tgt := 44) (by decide +kernel) (by decide) (fun c27_6 => ?_) (fun c27_6 => ?_)
    · rw [if_pos c27_6] at hf
      refine CW.run (blk := [(.iconst 0, 0)]) (pc' := 45) (ls' := [some (.ref b), some (.int p0), some (.int p1), some (.int w1)]) (st' := [.int 0]) (by decide +kernel) rfl ?_
      have e9 := Option.some.inj hf
      subst e9
      exact CW.iret rfl (by decide +kernel)
    · rw [if_neg c27_6] at hf
      refine CW.run (blk := [(.aload_n 0, 0)]) (pc' := 31) (ls' := [some (.ref b), some (.int p0), some (.int p1), some (.int w1)]) (st' := [.ref b]) (by decide +kernel) rfl ?_
      refine CW.getf (v := .ref (b + 5)) hb (by decide) fl_RX2_24 (by decide +kernel) rfl ?_
      refine CW.run (blk := [(.iload_n 1, 0), (.bipush 8, 8), (.imul, 0), (.iload_n 2, 0), (.iadd, 0)]) (pc' := 40) (ls' := [some (.ref b), some (.int p0), some (.int p1), some (.int w1)]) (st' := [.int ((p0 * 8) + p1), .ref (b + 5)]) (by decide +kernel) rfl ?_
      obtain ⟨hi_v7, hf⟩ := bi_some hf
      obtain ⟨v7, hv7, hf⟩ := letv_some hf
      refine CW.iald (kk_2_4 hb) (kn_2_4 hb) (by decide +kernel) (inb_in hi_v7) ?_
      rw [← hv7]
      refine CW.run (blk := [(.goto 4, 0)]) (pc' := 45) (ls' := [some (.ref b), some (.int p0), some (.int p1), some (.int w1)]) (st' := [.int v7]) (by decide +kernel) rfl ?_
      have e9 := Option.some.inj hf
      subst e9
      exact CW.iret rfl (by decide +kernel)
  clear hf
  refine CW.if_lt (off := 23) (tgt := 24) (by decide +kernel) (by decide) (fun c1_2 => ?_) (fun c1_2 => ?_)
  · rw [if_pos c1_2] at hw1
    refine CW.run (blk := [(.iconst 0, 0)]) (pc' := 25) (ls' := [some (.ref b), some (.int p0), some (.int p1), none]) (st' := [.int 0]) (by decide +kernel) rfl ?_
    have e9 := Option.some.inj hw1
    subst e9
    exact hJ
  · rw [if_neg c1_2] at hw1
    refine CW.run (blk := [(.iload_n 1, 0), (.bipush 8, 8)]) (pc' := 7) (ls' := [some (.ref b), some (.int p0), some (.int p1), none]) (st' := [.int 8, .int p0]) (by decide +kernel) rfl ?_
    refine CW.icmp_ge (off := 17) (tgt := 24) (by decide +kernel) (by decide) (fun c7_3 => ?_) (fun c7_3 => ?_)
    · rw [if_pos c7_3] at hw1
      refine CW.run (blk := [(.iconst 0, 0)]) (pc' := 25) (ls' := [some (.ref b), some (.int p0), some (.int p1), none]) (st' := [.int 0]) (by decide +kernel) rfl ?_
      have e9 := Option.some.inj hw1
      subst e9
      exact hJ
    · rw [if_neg c7_3] at hw1
      refine CW.run (blk := [(.iload_n 2, 0)]) (pc' := 11) (ls' := [some (.ref b), some (.int p0), some (.int p1), none]) (st' := [.int p1]) (by decide +kernel) rfl ?_
      refine CW.if_lt (off := 13) (tgt := 24) (by decide +kernel) (by decide) (fun c11_4 => ?_) (fun c11_4 => ?_)
      · rw [if_pos c11_4] at hw1
        refine CW.run (blk := [(.iconst 0, 0)]) (pc' := 25) (ls' := [some (.ref b), some (.int p0), some (.int p1), none]) (st' := [.int 0]) (by decide +kernel) rfl ?_
        have e9 := Option.some.inj hw1
        subst e9
        exact hJ
      · rw [if_neg c11_4] at hw1
        refine CW.run (blk := [(.iload_n 2, 0), (.bipush 8, 8)]) (pc' := 17) (ls' := [some (.ref b), some (.int p0), some (.int p1), none]) (st' := [.int 8, .int p1]) (by decide +kernel) rfl ?_
        refine CW.icmp_ge (off := 7) (tgt := 24) (by decide +kernel) (by decide) (fun c17_5 => ?_) (fun c17_5 => ?_)
        · rw [if_pos c17_5] at hw1
          refine CW.run (blk := [(.iconst 0, 0)]) (pc' := 25) (ls' := [some (.ref b), some (.int p0), some (.int p1), none]) (st' := [.int 0]) (by decide +kernel) rfl ?_
          have e9 := Option.some.inj hw1
          subst e9
          exact hJ
        · rw [if_neg c17_5] at hw1
          refine CW.run (blk := [(.iconst 1, 1), (.goto 4, 0)]) (pc' := 25) (ls' := [some (.ref b), some (.int p0), some (.int p1), none]) (st' := [.int 1]) (by decide +kernel) rfl ?_
          have e9 := Option.some.inj hw1
          subst e9
          exact hJ
def fc_X2_whoHeedsMost_L7 (k0 : Nat) (k1 : Int32) (S : cT) : Nat → Int32 → Int32 → Int32 → Option (Int32 × Int32 × Int32)
  | 0, _, _, _ => none
  | N + 1, a2, a3, a4 => if (S.1 k0 9) ≤ a4 then (some (a2, a3, a4)) else ((fc_X2_heed k0 a4 k1 S).bind fun q2 => if q2 ≤ a3 then (fc_X2_whoHeedsMost_L7 k0 k1 S N a2 a3 (a4 + 1)) else ((fc_X2_heed k0 a4 k1 S).bind fun q4 => fc_X2_whoHeedsMost_L7 k0 k1 S N a4 q4 (a4 + 1)))
def fc_X2_whoHeedsMost (b : Nat) (p0 : Int32) (S : cT) : Option (Int32) := (fc_X2_whoHeedsMost_L7 b p0 S FU (-1) 0 0).bind fun w5 => some w5.1
theorem xc_X2_whoHeedsMost_L7 {l : Launch} {r : Option Value} {S' : cT} (k0 : Nat) (k1 : Int32) (S : cT) (hk0 : cK k0 = 2) : ∀ (N : Nat) (a2 : Int32) (a3 : Int32) (a4 : Int32) (W0 : Int32 × Int32 × Int32) (_ : fc_X2_whoHeedsMost_L7 k0 k1 S N a2 a3 a4 = some W0) (_ : CW l yy_X2_whoHeedsMost 1 r S' 44 [some (.ref k0), some (.int k1), some (.int W0.1), some (.int W0.2.1), some (.int W0.2.2)] [] S), CW l yy_X2_whoHeedsMost 1 r S' 7 [some (.ref k0), some (.int k1), some (.int a2), some (.int a3), some (.int a4)] [] S := by
  intro N
  induction N with
  | zero =>
    intro a2 a3 a4 W0 hf _
    cases hf
  | succ N ih =>
    intro a2 a3 a4 W0 hf hk_1
    unfold fc_X2_whoHeedsMost_L7 at hf
    refine CW.run (blk := [(.iload 4, 0), (.aload_n 0, 0)]) (pc' := 10) (ls' := [some (.ref k0), some (.int k1), some (.int a2), some (.int a3), some (.int a4)]) (st' := [.ref k0, .int a4]) (by decide +kernel) rfl ?_
    refine CW.getf (v := .int (S.1 k0 9)) hk0 (by decide) fl_RX2_53 (by decide +kernel) rfl ?_
    refine CW.icmp_ge (off := 31) (tgt := 44) (by decide +kernel) (by decide) (fun c13_1 => ?_) (fun c13_1 => ?_)
    · rw [if_pos c13_1] at hf
      have e9 := Option.some.inj hf
      subst e9
      exact hk_1
    · rw [if_neg c13_1] at hf
      refine CW.run (blk := [(.aload_n 0, 0), (.iload 4, 0), (.iload_n 1, 0)]) (pc' := 20) (ls' := [some (.ref k0), some (.int k1), some (.int a2), some (.int a3), some (.int a4)]) (st' := [.int k1, .int a4, .ref k0]) (by decide +kernel) rfl ?_
      obtain ⟨q2, hq2, hf⟩ := bd_some hf
      refine CW.callV (As := [.int a4, .int k1]) (st := []) lv_RX2_91 hk0 (by decide) rfl rfl (by decide +kernel) (xc_X2_heed hk0 hq2) (by decide) (by decide) rfl (Nat.le_of_ble_eq_true rfl) rfl ?_
      show CW l yy_X2_whoHeedsMost 1 _ _ 23 [some (.ref k0), some (.int k1), some (.int a2), some (.int a3), some (.int a4)] [.int q2] S
      refine CW.run (blk := [(.iload_n 3, 0)]) (pc' := 24) (ls' := [some (.ref k0), some (.int k1), some (.int a2), some (.int a3), some (.int a4)]) (st' := [.int a3, .int q2]) (by decide +kernel) rfl ?_
      refine CW.icmp_le (off := 14) (tgt := 38) (by decide +kernel) (by decide) (fun c24_3 => ?_) (fun c24_3 => ?_)
      · rw [if_pos c24_3] at hf
        refine CW.run (blk := [(.iinc 4 1, 1), (.goto (-34), 0)]) (pc' := 7) (ls' := [some (.ref k0), some (.int k1), some (.int a2), some (.int a3), some (.int (a4 + 1))]) (st' := []) (by decide +kernel) rfl ?_
        exact ih _ _ _ _ hf hk_1
      · rw [if_neg c24_3] at hf
        refine CW.run (blk := [(.iload 4, 0), (.istore_n 2, 0), (.aload_n 0, 0), (.iload 4, 0), (.iload_n 1, 0)]) (pc' := 34) (ls' := [some (.ref k0), some (.int k1), some (.int a4), some (.int a3), some (.int a4)]) (st' := [.int k1, .int a4, .ref k0]) (by decide +kernel) rfl ?_
        obtain ⟨q4, hq4, hf⟩ := bd_some hf
        refine CW.callV (As := [.int a4, .int k1]) (st := []) lv_RX2_91 hk0 (by decide) rfl rfl (by decide +kernel) (xc_X2_heed hk0 hq4) (by decide) (by decide) rfl (Nat.le_of_ble_eq_true rfl) rfl ?_
        show CW l yy_X2_whoHeedsMost 1 _ _ 37 [some (.ref k0), some (.int k1), some (.int a4), some (.int a3), some (.int a4)] [.int q4] S
        refine CW.run (blk := [(.istore_n 3, 0), (.iinc 4 1, 1), (.goto (-34), 0)]) (pc' := 7) (ls' := [some (.ref k0), some (.int k1), some (.int a4), some (.int q4), some (.int (a4 + 1))]) (st' := []) (by decide +kernel) rfl ?_
        exact ih _ _ _ _ hf hk_1
theorem xc_X2_whoHeedsMost {l : Launch} {b : Nat} {p0 : Int32} {S : cT} {q : Int32} (hb : cK b = 2) (hf : fc_X2_whoHeedsMost b p0 S = some q) : COk l yy_X2_whoHeedsMost 1 [.ref b, .int p0] S (some (.int q)) S := by
  refine COk.of (ls := [some (.ref b), some (.int p0), none, none, none]) (by decide +kernel) (Nat.le_of_ble_eq_true rfl) rfl ?_
  unfold fc_X2_whoHeedsMost at hf
  refine CW.run (blk := [(.iconst (-1), (-1)), (.istore_n 2, 0), (.iconst 0, 0), (.istore_n 3, 0), (.iconst 0, 0), (.istore 4, 0)]) (pc' := 7) (ls' := [some (.ref b), some (.int p0), some (.int (-1)), some (.int 0), some (.int 0)]) (st' := []) (by decide +kernel) rfl ?_
  obtain ⟨w5, hw5, hf⟩ := bd_some hf
  refine xc_X2_whoHeedsMost_L7 b p0 S hb FU _ _ _ _ hw5 ?_
  refine CW.run (blk := [(.iload_n 2, 0)]) (pc' := 45) (ls' := [some (.ref b), some (.int p0), some (.int w5.1), some (.int w5.2.1), some (.int w5.2.2)]) (st' := [.int w5.1]) (by decide +kernel) rfl ?_
  have e9 := Option.some.inj hf
  subst e9
  exact CW.iret rfl (by decide +kernel)
def fc_X2_nextDraw (b : Nat) (S : cT) : Option (Int32 × cT) := letv (ca S b 14 ((((((((S.1 b 14) : Int32).toInt64) * 1103515245) + 12345) &&& 2147483647) : Int64).toInt32)) fun S1 => if (65536 : Int32) = 0 then none else (some ((S1.1 b 14) / 65536, S1))
theorem xc_X2_nextDraw {l : Launch} {b : Nat} {S : cT} {q : Int32 × cT} (hb : cK b = 2) (hf : fc_X2_nextDraw b S = some q) : COk l yy_X2_nextDraw 0 [.ref b] S (some (.int q.1)) q.2 := by
  refine COk.of (ls := [some (.ref b)]) (by decide +kernel) (Nat.le_of_ble_eq_true rfl) rfl ?_
  unfold fc_X2_nextDraw at hf
  refine CW.run (blk := [(.aload_n 0, 0), (.aload_n 0, 0)]) (pc' := 2) (ls' := [some (.ref b)]) (st' := [.ref b, .ref b]) (by decide +kernel) rfl ?_
  refine CW.getf (v := .int (S.1 b 14)) hb (by decide) fl_RX2_76 (by decide +kernel) rfl ?_
  refine CW.run (blk := [(.i2l, 0)]) (pc' := 6) (ls' := [some (.ref b)]) (st' := [.long (((S.1 b 14) : Int32).toInt64), .ref b]) (by decide +kernel) rfl ?_
  refine CW.ldc2 (idx := 95) (v := 1103515245) (tb_in 1017 (by decide +kernel) (by decide +kernel)) (by decide +kernel) ?_
  refine CW.run (blk := [(.lmul, 0)]) (pc' := 10) (ls' := [some (.ref b)]) (st' := [.long ((((S.1 b 14) : Int32).toInt64) * 1103515245), .ref b]) (by decide +kernel) rfl ?_
  refine CW.ldc2 (idx := 97) (v := 12345) (tb_in 1018 (by decide +kernel) (by decide +kernel)) (by decide +kernel) ?_
  refine CW.run (blk := [(.ladd, 0)]) (pc' := 14) (ls' := [some (.ref b)]) (st' := [.long (((((S.1 b 14) : Int32).toInt64) * 1103515245) + 12345), .ref b]) (by decide +kernel) rfl ?_
  refine CW.ldc2 (idx := 99) (v := 2147483647) (tb_in 1019 (by decide +kernel) (by decide +kernel)) (by decide +kernel) ?_
  refine CW.run (blk := [(.land, 0), (.l2i, 0)]) (pc' := 19) (ls' := [some (.ref b)]) (st' := [.int ((((((((S.1 b 14) : Int32).toInt64) * 1103515245) + 12345) &&& 2147483647) : Int64).toInt32), .ref b]) (by decide +kernel) rfl ?_
  refine CW.putI hb (by decide) fp_RX2_76 (by decide +kernel) (fun _ _ _ => Nat.le_of_ble_eq_true rfl) rfl rfl (fun _ _ _ => rfl) ?_
  obtain ⟨S1, hS1, hf⟩ := letv_some hf
  rw [← hS1]
  refine CW.run (blk := [(.aload_n 0, 0)]) (pc' := 23) (ls' := [some (.ref b)]) (st' := [.ref b]) (by decide +kernel) rfl ?_
  refine CW.getf (v := .int (S1.1 b 14)) hb (by decide) fl_RX2_76 (by decide +kernel) rfl ?_
  refine CW.ldc (idx := 101) (v := 65536) (tb_in 1020 (by decide +kernel) (by decide +kernel)) (by decide +kernel) ?_
  obtain ⟨hn2, hf⟩ := nz_some hf
  refine CW.idiv hn2 (by decide +kernel) ?_
  have e9 := Option.some.inj hf
  subst e9
  exact CW.iret rfl (by decide +kernel)
def fc_X6_addRow (b : Nat) (S : cT) : Option (cT) := if (S.1 b 2) ≤ (S.1 b 3) then (some S) else (letv (ca S b 3 ((S.1 b 3) + 1)) fun S2 => some S2)
theorem xc_X6_addRow {l : Launch} {b : Nat} {S : cT} {q : cT} (hb : cK b = 5) (hf : fc_X6_addRow b S = some q) : COk l yy_X6_addRow 0 [.ref b] S none q := by
  refine COk.of (ls := [some (.ref b)]) (by decide +kernel) (Nat.le_of_ble_eq_true rfl) rfl ?_
  unfold fc_X6_addRow at hf
  refine CW.run (blk := [(.aload_n 0, 0)]) (pc' := 1) (ls' := [some (.ref b)]) (st' := [.ref b]) (by decide +kernel) rfl ?_
  refine CW.getf (v := .int (S.1 b 3)) hb (by decide) fl_RX6_22 (by decide +kernel) rfl ?_
  refine CW.run (blk := [(.aload_n 0, 0)]) (pc' := 5) (ls' := [some (.ref b)]) (st' := [.ref b, .int (S.1 b 3)]) (by decide +kernel) rfl ?_
  refine CW.getf (v := .int (S.1 b 2)) hb (by decide) fl_RX6_9 (by decide +kernel) rfl ?_
  refine CW.icmp_ge (off := 13) (tgt := 21) (by decide +kernel) (by decide) (fun c8_1 => ?_) (fun c8_1 => ?_)
  · rw [if_pos c8_1] at hf
    have e9 := Option.some.inj hf
    subst e9
    exact CW.vret rfl (by decide +kernel)
  · rw [if_neg c8_1] at hf
    refine CW.run (blk := [(.aload_n 0, 0), (.dup, 0)]) (pc' := 13) (ls' := [some (.ref b)]) (st' := [.ref b, .ref b]) (by decide +kernel) rfl ?_
    refine CW.getf (v := .int (S.1 b 3)) hb (by decide) fl_RX6_22 (by decide +kernel) rfl ?_
    refine CW.run (blk := [(.iconst 1, 1), (.iadd, 0)]) (pc' := 18) (ls' := [some (.ref b)]) (st' := [.int ((S.1 b 3) + 1), .ref b]) (by decide +kernel) rfl ?_
    refine CW.putI hb (by decide) fp_RX6_22 (by decide +kernel) (fun _ _ _ => Nat.le_of_ble_eq_true rfl) rfl rfl (fun _ _ _ => rfl) ?_
    obtain ⟨S2, hS2, hf⟩ := letv_some hf
    rw [← hS2]
    have e9 := Option.some.inj hf
    subst e9
    exact CW.vret rfl (by decide +kernel)
def fc_X6_put (b : Nat) (p0 : Int32) (p1 : Int32) (S : cT) : Option (cT) := if (S.1 b 3) ≤ 0 then (some S) else (if p0 < 0 then (some S) else (if (S.1 b 1) ≤ p0 then (some S) else (bif inb ((((S.1 b 3) - 1) * (S.1 b 1)) + p0) (cN (b + 1)) then (letv (ca S (b + 1) (((((S.1 b 3) - 1) * (S.1 b 1)) + p0) : Int32).toNatClampNeg p1) fun S5 => some S5) else none)))
theorem xc_X6_put {l : Launch} {b : Nat} {p0 : Int32} {p1 : Int32} {S : cT} {q : cT} (hb : cK b = 5) (hf : fc_X6_put b p0 p1 S = some q) : COk l yy_X6_put 0 [.ref b, .int p0, .int p1] S none q := by
  refine COk.of (ls := [some (.ref b), some (.int p0), some (.int p1)]) (by decide +kernel) (Nat.le_of_ble_eq_true rfl) rfl ?_
  unfold fc_X6_put at hf
  refine CW.run (blk := [(.aload_n 0, 0)]) (pc' := 1) (ls' := [some (.ref b), some (.int p0), some (.int p1)]) (st' := [.ref b]) (by decide +kernel) rfl ?_
  refine CW.getf (v := .int (S.1 b 3)) hb (by decide) fl_RX6_22 (by decide +kernel) rfl ?_
  refine CW.if_le (off := 34) (tgt := 38) (by decide +kernel) (by decide) (fun c4_1 => ?_) (fun c4_1 => ?_)
  · rw [if_pos c4_1] at hf
    have e9 := Option.some.inj hf
    subst e9
    exact CW.vret rfl (by decide +kernel)
  · rw [if_neg c4_1] at hf
    refine CW.run (blk := [(.iload_n 1, 0)]) (pc' := 8) (ls' := [some (.ref b), some (.int p0), some (.int p1)]) (st' := [.int p0]) (by decide +kernel) rfl ?_
    refine CW.if_lt (off := 30) (tgt := 38) (by decide +kernel) (by decide) (fun c8_2 => ?_) (fun c8_2 => ?_)
    · rw [if_pos c8_2] at hf
      have e9 := Option.some.inj hf
      subst e9
      exact CW.vret rfl (by decide +kernel)
    · rw [if_neg c8_2] at hf
      refine CW.run (blk := [(.iload_n 1, 0), (.aload_n 0, 0)]) (pc' := 13) (ls' := [some (.ref b), some (.int p0), some (.int p1)]) (st' := [.ref b, .int p0]) (by decide +kernel) rfl ?_
      refine CW.getf (v := .int (S.1 b 1)) hb (by decide) fl_RX6_15 (by decide +kernel) rfl ?_
      refine CW.icmp_ge (off := 22) (tgt := 38) (by decide +kernel) (by decide) (fun c16_3 => ?_) (fun c16_3 => ?_)
      · rw [if_pos c16_3] at hf
        have e9 := Option.some.inj hf
        subst e9
        exact CW.vret rfl (by decide +kernel)
      · rw [if_neg c16_3] at hf
        refine CW.run (blk := [(.aload_n 0, 0)]) (pc' := 20) (ls' := [some (.ref b), some (.int p0), some (.int p1)]) (st' := [.ref b]) (by decide +kernel) rfl ?_
        refine CW.getf (v := .ref (b + 1)) hb (by decide) fl_RX6_18 (by decide +kernel) rfl ?_
        refine CW.run (blk := [(.aload_n 0, 0)]) (pc' := 24) (ls' := [some (.ref b), some (.int p0), some (.int p1)]) (st' := [.ref b, .ref (b + 1)]) (by decide +kernel) rfl ?_
        refine CW.getf (v := .int (S.1 b 3)) hb (by decide) fl_RX6_22 (by decide +kernel) rfl ?_
        refine CW.run (blk := [(.iconst 1, 1), (.isub, 0), (.aload_n 0, 0)]) (pc' := 30) (ls' := [some (.ref b), some (.int p0), some (.int p1)]) (st' := [.ref b, .int ((S.1 b 3) - 1), .ref (b + 1)]) (by decide +kernel) rfl ?_
        refine CW.getf (v := .int (S.1 b 1)) hb (by decide) fl_RX6_15 (by decide +kernel) rfl ?_
        refine CW.run (blk := [(.imul, 0), (.iload_n 1, 0), (.iadd, 0), (.iload_n 2, 0)]) (pc' := 37) (ls' := [some (.ref b), some (.int p0), some (.int p1)]) (st' := [.int p1, .int ((((S.1 b 3) - 1) * (S.1 b 1)) + p0), .ref (b + 1)]) (by decide +kernel) rfl ?_
        obtain ⟨hi4, hf⟩ := bi_some hf
        refine CW.iast (kk_5_0 hb) rfl (by decide +kernel) (inb_in hi4) ?_
        obtain ⟨S5, hS5, hf⟩ := letv_some hf
        rw [← hS5]
        have e9 := Option.some.inj hf
        subst e9
        exact CW.vret rfl (by decide +kernel)
def fc_X2_addTelling (b : Nat) (p0 : Int32) (p1 : Int32) (p2 : Int32) (p3 : Int32) (p4 : Int32) (S : cT) : Option (cT) := Option.bind (if p4 = (-1) then (some (0)) else ((fc_X6_at (b + 6) p4 6 S).bind fun q3 => some (q3 + 1)) : Option (Int32)) fun w1 => (fc_X6_addRow (b + 6) S).bind fun q4 => (fc_X6_put (b + 6) 0 p0 q4).bind fun q5 => (fc_X6_put (b + 6) 1 p1 q5).bind fun q6 => (fc_X6_put (b + 6) 2 p2 q6).bind fun q7 => (fc_X6_put (b + 6) 3 p3 q7).bind fun q8 => (fc_X6_put (b + 6) 4 (q8.1 b 12) q8).bind fun q9 => (fc_X6_put (b + 6) 5 p4 q9).bind fun q10 => (fc_X6_put (b + 6) 6 w1 q10).bind fun q11 => some q11
theorem xc_X2_addTelling {l : Launch} {b : Nat} {p0 : Int32} {p1 : Int32} {p2 : Int32} {p3 : Int32} {p4 : Int32} {S : cT} {q : cT} (hb : cK b = 2) (hf : fc_X2_addTelling b p0 p1 p2 p3 p4 S = some q) : COk l yy_X2_addTelling 2 [.ref b, .int p0, .int p1, .int p2, .int p3, .int p4] S none q := by
  refine COk.of (ls := [some (.ref b), some (.int p0), some (.int p1), some (.int p2), some (.int p3), some (.int p4), none]) (by decide +kernel) (Nat.le_of_ble_eq_true rfl) rfl ?_
  unfold fc_X2_addTelling at hf
  refine CW.run (blk := [(.iload 5, 0), (.iconst (-1), (-1))]) (pc' := 3) (ls' := [some (.ref b), some (.int p0), some (.int p1), some (.int p2), some (.int p3), some (.int p4), none]) (st' := [.int (-1), .int p4]) (by decide +kernel) rfl ?_
  obtain ⟨w1, hw1, hf⟩ := bd_some hf
  have hJ : CW l yy_X2_addTelling 2 none q 23 [some (.ref b), some (.int p0), some (.int p1), some (.int p2), some (.int p3), some (.int p4), none] [.int w1] S := by
    refine CW.run (blk := [(.istore 6, 0), (.aload_n 0, 0)]) (pc' := 26) (ls' := [some (.ref b), some (.int p0), some (.int p1), some (.int p2), some (.int p3), some (.int p4), some (.int w1)]) (st' := [.ref b]) (by decide +kernel) rfl ?_
    refine CW.getf (v := .ref (b + 6)) hb (by decide) fl_RX2_32 (by decide +kernel) rfl ?_
    obtain ⟨q4, hq4, hf⟩ := bd_some hf
    refine CW.callV (As := []) (st := []) lv_RX2_105 (kk_2_5 hb) (by decide) rfl rfl (by decide +kernel) (xc_X6_addRow (kk_2_5 hb) hq4) (by decide) (by decide) rfl (Nat.le_of_ble_eq_true rfl) rfl ?_
    show CW l yy_X2_addTelling 2 _ _ 32 [some (.ref b), some (.int p0), some (.int p1), some (.int p2), some (.int p3), some (.int p4), some (.int w1)] [] q4
    refine CW.run (blk := [(.aload_n 0, 0)]) (pc' := 33) (ls' := [some (.ref b), some (.int p0), some (.int p1), some (.int p2), some (.int p3), some (.int p4), some (.int w1)]) (st' := [.ref b]) (by decide +kernel) rfl ?_
    refine CW.getf (v := .ref (b + 6)) hb (by decide) fl_RX2_32 (by decide +kernel) rfl ?_
    refine CW.run (blk := [(.iconst 0, 0), (.iload_n 1, 0)]) (pc' := 38) (ls' := [some (.ref b), some (.int p0), some (.int p1), some (.int p2), some (.int p3), some (.int p4), some (.int w1)]) (st' := [.int p0, .int 0, .ref (b + 6)]) (by decide +kernel) rfl ?_
    obtain ⟨q5, hq5, hf⟩ := bd_some hf
    refine CW.callV (As := [.int 0, .int p0]) (st := []) lv_RX2_108 (kk_2_5 hb) (by decide) rfl rfl (by decide +kernel) (xc_X6_put (kk_2_5 hb) hq5) (by decide) (by decide) rfl (Nat.le_of_ble_eq_true rfl) rfl ?_
    show CW l yy_X2_addTelling 2 _ _ 41 [some (.ref b), some (.int p0), some (.int p1), some (.int p2), some (.int p3), some (.int p4), some (.int w1)] [] q5
    refine CW.run (blk := [(.aload_n 0, 0)]) (pc' := 42) (ls' := [some (.ref b), some (.int p0), some (.int p1), some (.int p2), some (.int p3), some (.int p4), some (.int w1)]) (st' := [.ref b]) (by decide +kernel) rfl ?_
    refine CW.getf (v := .ref (b + 6)) hb (by decide) fl_RX2_32 (by decide +kernel) rfl ?_
    refine CW.run (blk := [(.iconst 1, 1), (.iload_n 2, 0)]) (pc' := 47) (ls' := [some (.ref b), some (.int p0), some (.int p1), some (.int p2), some (.int p3), some (.int p4), some (.int w1)]) (st' := [.int p1, .int 1, .ref (b + 6)]) (by decide +kernel) rfl ?_
    obtain ⟨q6, hq6, hf⟩ := bd_some hf
    refine CW.callV (As := [.int 1, .int p1]) (st := []) lv_RX2_108 (kk_2_5 hb) (by decide) rfl rfl (by decide +kernel) (xc_X6_put (kk_2_5 hb) hq6) (by decide) (by decide) rfl (Nat.le_of_ble_eq_true rfl) rfl ?_
    show CW l yy_X2_addTelling 2 _ _ 50 [some (.ref b), some (.int p0), some (.int p1), some (.int p2), some (.int p3), some (.int p4), some (.int w1)] [] q6
    refine CW.run (blk := [(.aload_n 0, 0)]) (pc' := 51) (ls' := [some (.ref b), some (.int p0), some (.int p1), some (.int p2), some (.int p3), some (.int p4), some (.int w1)]) (st' := [.ref b]) (by decide +kernel) rfl ?_
    refine CW.getf (v := .ref (b + 6)) hb (by decide) fl_RX2_32 (by decide +kernel) rfl ?_
    refine CW.run (blk := [(.iconst 2, 2), (.iload_n 3, 0)]) (pc' := 56) (ls' := [some (.ref b), some (.int p0), some (.int p1), some (.int p2), some (.int p3), some (.int p4), some (.int w1)]) (st' := [.int p2, .int 2, .ref (b + 6)]) (by decide +kernel) rfl ?_
    obtain ⟨q7, hq7, hf⟩ := bd_some hf
    refine CW.callV (As := [.int 2, .int p2]) (st := []) lv_RX2_108 (kk_2_5 hb) (by decide) rfl rfl (by decide +kernel) (xc_X6_put (kk_2_5 hb) hq7) (by decide) (by decide) rfl (Nat.le_of_ble_eq_true rfl) rfl ?_
    show CW l yy_X2_addTelling 2 _ _ 59 [some (.ref b), some (.int p0), some (.int p1), some (.int p2), some (.int p3), some (.int p4), some (.int w1)] [] q7
    refine CW.run (blk := [(.aload_n 0, 0)]) (pc' := 60) (ls' := [some (.ref b), some (.int p0), some (.int p1), some (.int p2), some (.int p3), some (.int p4), some (.int w1)]) (st' := [.ref b]) (by decide +kernel) rfl ?_
    refine CW.getf (v := .ref (b + 6)) hb (by decide) fl_RX2_32 (by decide +kernel) rfl ?_
    refine CW.run (blk := [(.iconst 3, 3), (.iload 4, 0)]) (pc' := 66) (ls' := [some (.ref b), some (.int p0), some (.int p1), some (.int p2), some (.int p3), some (.int p4), some (.int w1)]) (st' := [.int p3, .int 3, .ref (b + 6)]) (by decide +kernel) rfl ?_
    obtain ⟨q8, hq8, hf⟩ := bd_some hf
    refine CW.callV (As := [.int 3, .int p3]) (st := []) lv_RX2_108 (kk_2_5 hb) (by decide) rfl rfl (by decide +kernel) (xc_X6_put (kk_2_5 hb) hq8) (by decide) (by decide) rfl (Nat.le_of_ble_eq_true rfl) rfl ?_
    show CW l yy_X2_addTelling 2 _ _ 69 [some (.ref b), some (.int p0), some (.int p1), some (.int p2), some (.int p3), some (.int p4), some (.int w1)] [] q8
    refine CW.run (blk := [(.aload_n 0, 0)]) (pc' := 70) (ls' := [some (.ref b), some (.int p0), some (.int p1), some (.int p2), some (.int p3), some (.int p4), some (.int w1)]) (st' := [.ref b]) (by decide +kernel) rfl ?_
    refine CW.getf (v := .ref (b + 6)) hb (by decide) fl_RX2_32 (by decide +kernel) rfl ?_
    refine CW.run (blk := [(.iconst 4, 4), (.aload_n 0, 0)]) (pc' := 75) (ls' := [some (.ref b), some (.int p0), some (.int p1), some (.int p2), some (.int p3), some (.int p4), some (.int w1)]) (st' := [.ref b, .int 4, .ref (b + 6)]) (by decide +kernel) rfl ?_
    refine CW.getf (v := .int (q8.1 b 12)) hb (by decide) fl_RX2_63 (by decide +kernel) rfl ?_
    obtain ⟨q9, hq9, hf⟩ := bd_some hf
    refine CW.callV (As := [.int 4, .int (q8.1 b 12)]) (st := []) lv_RX2_108 (kk_2_5 hb) (by decide) rfl rfl (by decide +kernel) (xc_X6_put (kk_2_5 hb) hq9) (by decide) (by decide) rfl (Nat.le_of_ble_eq_true rfl) rfl ?_
    show CW l yy_X2_addTelling 2 _ _ 81 [some (.ref b), some (.int p0), some (.int p1), some (.int p2), some (.int p3), some (.int p4), some (.int w1)] [] q9
    refine CW.run (blk := [(.aload_n 0, 0)]) (pc' := 82) (ls' := [some (.ref b), some (.int p0), some (.int p1), some (.int p2), some (.int p3), some (.int p4), some (.int w1)]) (st' := [.ref b]) (by decide +kernel) rfl ?_
    refine CW.getf (v := .ref (b + 6)) hb (by decide) fl_RX2_32 (by decide +kernel) rfl ?_
    refine CW.run (blk := [(.iconst 5, 5), (.iload 5, 0)]) (pc' := 88) (ls' := [some (.ref b), some (.int p0), some (.int p1), some (.int p2), some (.int p3), some (.int p4), some (.int w1)]) (st' := [.int p4, .int 5, .ref (b + 6)]) (by decide +kernel) rfl ?_
    obtain ⟨q10, hq10, hf⟩ := bd_some hf
    refine CW.callV (As := [.int 5, .int p4]) (st := []) lv_RX2_108 (kk_2_5 hb) (by decide) rfl rfl (by decide +kernel) (xc_X6_put (kk_2_5 hb) hq10) (by decide) (by decide) rfl (Nat.le_of_ble_eq_true rfl) rfl ?_
    show CW l yy_X2_addTelling 2 _ _ 91 [some (.ref b), some (.int p0), some (.int p1), some (.int p2), some (.int p3), some (.int p4), some (.int w1)] [] q10
    refine CW.run (blk := [(.aload_n 0, 0)]) (pc' := 92) (ls' := [some (.ref b), some (.int p0), some (.int p1), some (.int p2), some (.int p3), some (.int p4), some (.int w1)]) (st' := [.ref b]) (by decide +kernel) rfl ?_
    refine CW.getf (v := .ref (b + 6)) hb (by decide) fl_RX2_32 (by decide +kernel) rfl ?_
    refine CW.run (blk := [(.bipush 6, 6), (.iload 6, 0)]) (pc' := 99) (ls' := [some (.ref b), some (.int p0), some (.int p1), some (.int p2), some (.int p3), some (.int p4), some (.int w1)]) (st' := [.int w1, .int 6, .ref (b + 6)]) (by decide +kernel) rfl ?_
    obtain ⟨q11, hq11, hf⟩ := bd_some hf
    refine CW.callV (As := [.int 6, .int w1]) (st := []) lv_RX2_108 (kk_2_5 hb) (by decide) rfl rfl (by decide +kernel) (xc_X6_put (kk_2_5 hb) hq11) (by decide) (by decide) rfl (Nat.le_of_ble_eq_true rfl) rfl ?_
    show CW l yy_X2_addTelling 2 _ _ 102 [some (.ref b), some (.int p0), some (.int p1), some (.int p2), some (.int p3), some (.int p4), some (.int w1)] [] q11
    have e9 := Option.some.inj hf
    subst e9
    exact CW.vret rfl (by decide +kernel)
  clear hf
  refine CW.icmp_ne (off := 7) (tgt := 10) (by decide +kernel) (by decide) (fun c3_2 => ?_) (fun c3_2 => ?_)
  · rw [if_neg c3_2] at hw1
    refine CW.run (blk := [(.aload_n 0, 0)]) (pc' := 11) (ls' := [some (.ref b), some (.int p0), some (.int p1), some (.int p2), some (.int p3), some (.int p4), none]) (st' := [.ref b]) (by decide +kernel) rfl ?_
    refine CW.getf (v := .ref (b + 6)) hb (by decide) fl_RX2_32 (by decide +kernel) rfl ?_
    refine CW.run (blk := [(.iload 5, 0), (.bipush 6, 6)]) (pc' := 18) (ls' := [some (.ref b), some (.int p0), some (.int p1), some (.int p2), some (.int p3), some (.int p4), none]) (st' := [.int 6, .int p4, .ref (b + 6)]) (by decide +kernel) rfl ?_
    obtain ⟨q3, hq3, hw1⟩ := bd_some hw1
    refine CW.callV (As := [.int p4, .int 6]) (st := []) lv_RX2_102 (kk_2_5 hb) (by decide) rfl rfl (by decide +kernel) (xc_X6_at (kk_2_5 hb) hq3) (by decide) (by decide) rfl (Nat.le_of_ble_eq_true rfl) rfl ?_
    show CW l yy_X2_addTelling 2 _ _ 21 [some (.ref b), some (.int p0), some (.int p1), some (.int p2), some (.int p3), some (.int p4), none] [.int q3] S
    refine CW.run (blk := [(.iconst 1, 1), (.iadd, 0)]) (pc' := 23) (ls' := [some (.ref b), some (.int p0), some (.int p1), some (.int p2), some (.int p3), some (.int p4), none]) (st' := [.int (q3 + 1)]) (by decide +kernel) rfl ?_
    have e9 := Option.some.inj hw1
    subst e9
    exact hJ
  · rw [if_pos c3_2] at hw1
    refine CW.run (blk := [(.iconst 0, 0), (.goto 16, 0)]) (pc' := 23) (ls' := [some (.ref b), some (.int p0), some (.int p1), some (.int p2), some (.int p3), some (.int p4), none]) (st' := [.int 0]) (by decide +kernel) rfl ?_
    have e9 := Option.some.inj hw1
    subst e9
    exact hJ
