/-! ===== the class, method by method (by program) 5 ===== -/
def fc_X10_scanWord_L4 (k0 : Nat) (S : cT) : Nat → Int32 → Int32 → Option (Int32 × Int32)
  | 0, _, _ => none
  | N + 1, a2, a3 => if 400 ≤ a3 then (some (a2, a3)) else ((fc_X10_byteAt k0 a2 S).bind fun q2 => (fc_X10_isLetter q2).bind fun q3 => if (b2i q3) = 0 then (some (a2, a3)) else (fc_X10_scanWord_L4 k0 S N (a2 + 1) (a3 + 1)))
def fc_X10_scanWord (b : Nat) (p0 : Int32) (S : cT) : Option (Int32 × cT) := (fc_X10_scanWord_L4 b S FU p0 0).bind fun w5 => (fc_X10_wordOf b p0 w5.1 S).bind fun q6 => (fc_X10_addToken b q6 p0 0 S).bind fun q7 => some (w5.1, q7)
theorem xc_X10_scanWord_L4 {l : Launch} {r : Option Value} {S' : cT} (k0 : Nat) (k1 : Int32) (S : cT) (hk0 : cK k0 = 8) : ∀ (N : Nat) (a2 : Int32) (a3 : Int32) (W0 : Int32 × Int32) (_ : fc_X10_scanWord_L4 k0 S N a2 a3 = some W0) (_ : CW l yy_X10_scanWord 8 r S' 31 [some (.ref k0), some (.int k1), some (.int W0.1), some (.int W0.2)] [] S), CW l yy_X10_scanWord 8 r S' 4 [some (.ref k0), some (.int k1), some (.int a2), some (.int a3)] [] S := by
  intro N
  induction N with
  | zero =>
    intro a2 a3 W0 hf _
    cases hf
  | succ N ih =>
    intro a2 a3 W0 hf hk_1
    unfold fc_X10_scanWord_L4 at hf
    refine CW.run (blk := [(.iload_n 3, 0), (.sipush 400, 400)]) (pc' := 8) (ls' := [some (.ref k0), some (.int k1), some (.int a2), some (.int a3)]) (st' := [.int 400, .int a3]) (by decide +kernel) rfl ?_
    refine CW.icmp_ge (off := 23) (tgt := 31) (by decide +kernel) (by decide) (fun c8_1 => ?_) (fun c8_1 => ?_)
    · rw [if_pos c8_1] at hf
      have e9 := Option.some.inj hf
      subst e9
      exact hk_1
    · rw [if_neg c8_1] at hf
      refine CW.run (blk := [(.aload_n 0, 0), (.iload_n 2, 0)]) (pc' := 13) (ls' := [some (.ref k0), some (.int k1), some (.int a2), some (.int a3)]) (st' := [.int a2, .ref k0]) (by decide +kernel) rfl ?_
      obtain ⟨q2, hq2, hf⟩ := bd_some hf
      refine CW.callV (As := [.int a2]) (st := []) lv_RX10_49 hk0 (by decide) rfl rfl (by decide +kernel) (xc_X10_byteAt hk0 hq2) (by decide) (by decide) rfl (Nat.le_of_ble_eq_true rfl) rfl ?_
      show CW l yy_X10_scanWord 8 _ _ 16 [some (.ref k0), some (.int k1), some (.int a2), some (.int a3)] [.int q2] S
      obtain ⟨q3, hq3, hf⟩ := bd_some hf
      refine CW.callP (As := [.int q2]) (st := []) lt_RX10_59 (by decide +kernel) (xc_X10_isLetter hq3) (by decide) (by decide) rfl (Nat.le_of_ble_eq_true rfl) rfl ?_
      show CW l yy_X10_scanWord 8 _ _ 19 [some (.ref k0), some (.int k1), some (.int a2), some (.int a3)] [.int (b2i q3)] S
      refine CW.if_eq (off := 12) (tgt := 31) (by decide +kernel) (by decide) (fun c19_4 => ?_) (fun c19_4 => ?_)
      · rw [if_pos c19_4] at hf
        have e9 := Option.some.inj hf
        subst e9
        exact hk_1
      · rw [if_neg c19_4] at hf
        refine CW.run (blk := [(.iinc 2 1, 1), (.iinc 3 1, 1), (.goto (-24), 0)]) (pc' := 4) (ls' := [some (.ref k0), some (.int k1), some (.int (a2 + 1)), some (.int (a3 + 1))]) (st' := []) (by decide +kernel) rfl ?_
        exact ih _ _ _ hf hk_1
theorem xc_X10_scanWord {l : Launch} {b : Nat} {p0 : Int32} {S : cT} {q : Int32 × cT} (hb : cK b = 8) (hf : fc_X10_scanWord b p0 S = some q) : COk l yy_X10_scanWord 8 [.ref b, .int p0] S (some (.int q.1)) q.2 := by
  refine COk.of (ls := [some (.ref b), some (.int p0), none, none]) (by decide +kernel) (Nat.le_of_ble_eq_true rfl) rfl ?_
  unfold fc_X10_scanWord at hf
  refine CW.run (blk := [(.iload_n 1, 0), (.istore_n 2, 0), (.iconst 0, 0), (.istore_n 3, 0)]) (pc' := 4) (ls' := [some (.ref b), some (.int p0), some (.int p0), some (.int 0)]) (st' := []) (by decide +kernel) rfl ?_
  obtain ⟨w5, hw5, hf⟩ := bd_some hf
  refine xc_X10_scanWord_L4 b p0 S hb FU _ _ _ hw5 ?_
  refine CW.run (blk := [(.aload_n 0, 0), (.aload_n 0, 0), (.iload_n 1, 0), (.iload_n 2, 0)]) (pc' := 35) (ls' := [some (.ref b), some (.int p0), some (.int w5.1), some (.int w5.2)]) (st' := [.int w5.1, .int p0, .ref b, .ref b]) (by decide +kernel) rfl ?_
  obtain ⟨q6, hq6, hf⟩ := bd_some hf
  refine CW.callV (As := [.int p0, .int w5.1]) (st := [.ref b]) lv_RX10_65 hb (by decide) rfl rfl (by decide +kernel) (xc_X10_wordOf hb hq6) (by decide) (by decide) rfl (Nat.le_of_ble_eq_true rfl) rfl ?_
  show CW l yy_X10_scanWord 8 _ _ 38 [some (.ref b), some (.int p0), some (.int w5.1), some (.int w5.2)] [.int q6, .ref b] S
  refine CW.run (blk := [(.iload_n 1, 0), (.iconst 0, 0)]) (pc' := 40) (ls' := [some (.ref b), some (.int p0), some (.int w5.1), some (.int w5.2)]) (st' := [.int 0, .int p0, .int q6, .ref b]) (by decide +kernel) rfl ?_
  obtain ⟨q7, hq7, hf⟩ := bd_some hf
  refine CW.callV (As := [.int q6, .int p0, .int 0]) (st := []) lv_RX10_39 hb (by decide) rfl rfl (by decide +kernel) (xc_X10_addToken hb hq7) (by decide) (by decide) rfl (Nat.le_of_ble_eq_true rfl) rfl ?_
  show CW l yy_X10_scanWord 8 _ _ 43 [some (.ref b), some (.int p0), some (.int w5.1), some (.int w5.2)] [] q7
  refine CW.run (blk := [(.iload_n 2, 0)]) (pc' := 44) (ls' := [some (.ref b), some (.int p0), some (.int w5.1), some (.int w5.2)]) (st' := [.int w5.1]) (by decide +kernel) rfl ?_
  have e9 := Option.some.inj hf
  subst e9
  exact CW.iret rfl (by decide +kernel)
def fc_X10_scanOne (b : Nat) (p0 : Int32) (S : cT) : Option (Int32 × cT) := (fc_X10_byteAt b p0 S).bind fun q1 => if q1 = 32 then (some (p0 + 1, S)) else ((fc_X10_isDigit q1).bind fun q3 => if (b2i q3) = 0 then ((fc_X10_isLetter q1).bind fun q5 => if (b2i q5) = 0 then (if q1 = 60 then ((fc_X10_byteAt b (p0 + 1) S).bind fun q8 => if q8 = 61 then (Option.bind (if q1 = 60 then (some (256)) else (some (257)) : Option (Int32)) fun w11 => (fc_X10_addToken b w11 p0 0 S).bind fun q13 => some (p0 + 2, q13)) else ((fc_X10_addToken b q1 p0 0 S).bind fun q10 => some (p0 + 1, q10))) else (if q1 = 62 then ((fc_X10_byteAt b (p0 + 1) S).bind fun q16 => if q16 = 61 then (Option.bind (if q1 = 60 then (some (256)) else (some (257)) : Option (Int32)) fun w19 => (fc_X10_addToken b w19 p0 0 S).bind fun q21 => some (p0 + 2, q21)) else ((fc_X10_addToken b q1 p0 0 S).bind fun q18 => some (p0 + 1, q18))) else ((fc_X10_addToken b q1 p0 0 S).bind fun q15 => some (p0 + 1, q15)))) else ((fc_X10_scanWord b p0 S).bind fun q22 => some (q22.1, q22.2))) else ((fc_X10_scanNumber b p0 S).bind fun q23 => some (q23.1, q23.2)))
theorem xc_X10_scanOne {l : Launch} {b : Nat} {p0 : Int32} {S : cT} {q : Int32 × cT} (hb : cK b = 8) (hf : fc_X10_scanOne b p0 S = some q) : COk l yy_X10_scanOne 9 [.ref b, .int p0] S (some (.int q.1)) q.2 := by
  refine COk.of (ls := [some (.ref b), some (.int p0), none]) (by decide +kernel) (Nat.le_of_ble_eq_true rfl) rfl ?_
  unfold fc_X10_scanOne at hf
  refine CW.run (blk := [(.aload_n 0, 0), (.iload_n 1, 0)]) (pc' := 2) (ls' := [some (.ref b), some (.int p0), none]) (st' := [.int p0, .ref b]) (by decide +kernel) rfl ?_
  obtain ⟨q1, hq1, hf⟩ := bd_some hf
  refine CW.callV (As := [.int p0]) (st := []) lv_RX10_49 hb (by decide) rfl rfl (by decide +kernel) (xc_X10_byteAt hb hq1) (by decide) (by decide) rfl (Nat.le_of_ble_eq_true rfl) rfl ?_
  show CW l yy_X10_scanOne 9 _ _ 5 [some (.ref b), some (.int p0), none] [.int q1] S
  refine CW.run (blk := [(.istore_n 2, 0), (.iload_n 2, 0), (.bipush 32, 32)]) (pc' := 9) (ls' := [some (.ref b), some (.int p0), some (.int q1)]) (st' := [.int 32, .int q1]) (by decide +kernel) rfl ?_
  refine CW.icmp_ne (off := 7) (tgt := 16) (by decide +kernel) (by decide) (fun c9_2 => ?_) (fun c9_2 => ?_)
  · rw [if_neg c9_2] at hf
    refine CW.run (blk := [(.iload_n 2, 0)]) (pc' := 17) (ls' := [some (.ref b), some (.int p0), some (.int q1)]) (st' := [.int q1]) (by decide +kernel) rfl ?_
    obtain ⟨q3, hq3, hf⟩ := bd_some hf
    refine CW.callP (As := [.int q1]) (st := []) lt_RX10_52 (by decide +kernel) (xc_X10_isDigit hq3) (by decide) (by decide) rfl (Nat.le_of_ble_eq_true rfl) rfl ?_
    show CW l yy_X10_scanOne 9 _ _ 20 [some (.ref b), some (.int p0), some (.int q1)] [.int (b2i q3)] S
    refine CW.if_eq (off := 9) (tgt := 29) (by decide +kernel) (by decide) (fun c20_4 => ?_) (fun c20_4 => ?_)
    · rw [if_pos c20_4] at hf
      refine CW.run (blk := [(.iload_n 2, 0)]) (pc' := 30) (ls' := [some (.ref b), some (.int p0), some (.int q1)]) (st' := [.int q1]) (by decide +kernel) rfl ?_
      obtain ⟨q5, hq5, hf⟩ := bd_some hf
      refine CW.callP (As := [.int q1]) (st := []) lt_RX10_59 (by decide +kernel) (xc_X10_isLetter hq5) (by decide) (by decide) rfl (Nat.le_of_ble_eq_true rfl) rfl ?_
      show CW l yy_X10_scanOne 9 _ _ 33 [some (.ref b), some (.int p0), some (.int q1)] [.int (b2i q5)] S
      refine CW.if_eq (off := 9) (tgt := 42) (by decide +kernel) (by decide) (fun c33_6 => ?_) (fun c33_6 => ?_)
      · rw [if_pos c33_6] at hf
        refine CW.run (blk := [(.iload_n 2, 0), (.bipush 60, 60)]) (pc' := 45) (ls' := [some (.ref b), some (.int p0), some (.int q1)]) (st' := [.int 60, .int q1]) (by decide +kernel) rfl ?_
        refine CW.icmp_eq (off := 9) (tgt := 54) (by decide +kernel) (by decide) (fun c45_7 => ?_) (fun c45_7 => ?_)
        · rw [if_pos c45_7] at hf
          refine CW.run (blk := [(.aload_n 0, 0), (.iload_n 1, 0), (.iconst 1, 1), (.iadd, 0)]) (pc' := 58) (ls' := [some (.ref b), some (.int p0), some (.int q1)]) (st' := [.int (p0 + 1), .ref b]) (by decide +kernel) rfl ?_
          obtain ⟨q8, hq8, hf⟩ := bd_some hf
          refine CW.callV (As := [.int (p0 + 1)]) (st := []) lv_RX10_49 hb (by decide) rfl rfl (by decide +kernel) (xc_X10_byteAt hb hq8) (by decide) (by decide) rfl (Nat.le_of_ble_eq_true rfl) rfl ?_
          show CW l yy_X10_scanOne 9 _ _ 61 [some (.ref b), some (.int p0), some (.int q1)] [.int q8] S
          refine CW.run (blk := [(.bipush 61, 61)]) (pc' := 63) (ls' := [some (.ref b), some (.int p0), some (.int q1)]) (st' := [.int 61, .int q8]) (by decide +kernel) rfl ?_
          refine CW.icmp_ne (off := 28) (tgt := 91) (by decide +kernel) (by decide) (fun c63_9 => ?_) (fun c63_9 => ?_)
          · rw [if_neg c63_9] at hf
            refine CW.run (blk := [(.aload_n 0, 0), (.iload_n 2, 0), (.iload_n 1, 0), (.iconst 0, 0)]) (pc' := 95) (ls' := [some (.ref b), some (.int p0), some (.int q1)]) (st' := [.int 0, .int p0, .int q1, .ref b]) (by decide +kernel) rfl ?_
            obtain ⟨q10, hq10, hf⟩ := bd_some hf
            refine CW.callV (As := [.int q1, .int p0, .int 0]) (st := []) lv_RX10_39 hb (by decide) rfl rfl (by decide +kernel) (xc_X10_addToken hb hq10) (by decide) (by decide) rfl (Nat.le_of_ble_eq_true rfl) rfl ?_
            show CW l yy_X10_scanOne 9 _ _ 98 [some (.ref b), some (.int p0), some (.int q1)] [] q10
            refine CW.run (blk := [(.iload_n 1, 0), (.iconst 1, 1), (.iadd, 0)]) (pc' := 101) (ls' := [some (.ref b), some (.int p0), some (.int q1)]) (st' := [.int (p0 + 1)]) (by decide +kernel) rfl ?_
            have e9 := Option.some.inj hf
            subst e9
            exact CW.iret rfl (by decide +kernel)
          · rw [if_pos c63_9] at hf
            refine CW.run (blk := [(.aload_n 0, 0), (.iload_n 2, 0), (.bipush 60, 60)]) (pc' := 70) (ls' := [some (.ref b), some (.int p0), some (.int q1)]) (st' := [.int 60, .int q1, .ref b]) (by decide +kernel) rfl ?_
            obtain ⟨w11, hw11, hf⟩ := bd_some hf
            have hJ : CW l yy_X10_scanOne 9 (some (.int q.1)) q.2 82 [some (.ref b), some (.int p0), some (.int q1)] [.int w11, .ref b] S := by
              refine CW.run (blk := [(.iload_n 1, 0), (.iconst 0, 0)]) (pc' := 84) (ls' := [some (.ref b), some (.int p0), some (.int q1)]) (st' := [.int 0, .int p0, .int w11, .ref b]) (by decide +kernel) rfl ?_
              obtain ⟨q13, hq13, hf⟩ := bd_some hf
              refine CW.callV (As := [.int w11, .int p0, .int 0]) (st := []) lv_RX10_39 hb (by decide) rfl rfl (by decide +kernel) (xc_X10_addToken hb hq13) (by decide) (by decide) rfl (Nat.le_of_ble_eq_true rfl) rfl ?_
              show CW l yy_X10_scanOne 9 _ _ 87 [some (.ref b), some (.int p0), some (.int q1)] [] q13
              refine CW.run (blk := [(.iload_n 1, 0), (.iconst 2, 2), (.iadd, 0)]) (pc' := 90) (ls' := [some (.ref b), some (.int p0), some (.int q1)]) (st' := [.int (p0 + 2)]) (by decide +kernel) rfl ?_
              have e9 := Option.some.inj hf
              subst e9
              exact CW.iret rfl (by decide +kernel)
            clear hf
            refine CW.icmp_ne (off := 9) (tgt := 79) (by decide +kernel) (by decide) (fun c70_12 => ?_) (fun c70_12 => ?_)
            · rw [if_neg c70_12] at hw11
              refine CW.run (blk := [(.sipush 257, 257)]) (pc' := 82) (ls' := [some (.ref b), some (.int p0), some (.int q1)]) (st' := [.int 257, .ref b]) (by decide +kernel) rfl ?_
              have e9 := Option.some.inj hw11
              subst e9
              exact hJ
            · rw [if_pos c70_12] at hw11
              refine CW.run (blk := [(.sipush 256, 256), (.goto 6, 0)]) (pc' := 82) (ls' := [some (.ref b), some (.int p0), some (.int q1)]) (st' := [.int 256, .ref b]) (by decide +kernel) rfl ?_
              have e9 := Option.some.inj hw11
              subst e9
              exact hJ
        · rw [if_neg c45_7] at hf
          refine CW.run (blk := [(.iload_n 2, 0), (.bipush 62, 62)]) (pc' := 51) (ls' := [some (.ref b), some (.int p0), some (.int q1)]) (st' := [.int 62, .int q1]) (by decide +kernel) rfl ?_
          refine CW.icmp_ne (off := 40) (tgt := 91) (by decide +kernel) (by decide) (fun c51_14 => ?_) (fun c51_14 => ?_)
          · rw [if_neg c51_14] at hf
            refine CW.run (blk := [(.aload_n 0, 0), (.iload_n 2, 0), (.iload_n 1, 0), (.iconst 0, 0)]) (pc' := 95) (ls' := [some (.ref b), some (.int p0), some (.int q1)]) (st' := [.int 0, .int p0, .int q1, .ref b]) (by decide +kernel) rfl ?_
            obtain ⟨q15, hq15, hf⟩ := bd_some hf
            refine CW.callV (As := [.int q1, .int p0, .int 0]) (st := []) lv_RX10_39 hb (by decide) rfl rfl (by decide +kernel) (xc_X10_addToken hb hq15) (by decide) (by decide) rfl (Nat.le_of_ble_eq_true rfl) rfl ?_
            show CW l yy_X10_scanOne 9 _ _ 98 [some (.ref b), some (.int p0), some (.int q1)] [] q15
            refine CW.run (blk := [(.iload_n 1, 0), (.iconst 1, 1), (.iadd, 0)]) (pc' := 101) (ls' := [some (.ref b), some (.int p0), some (.int q1)]) (st' := [.int (p0 + 1)]) (by decide +kernel) rfl ?_
            have e9 := Option.some.inj hf
            subst e9
            exact CW.iret rfl (by decide +kernel)
          · rw [if_pos c51_14] at hf
            refine CW.run (blk := [(.aload_n 0, 0), (.iload_n 1, 0), (.iconst 1, 1), (.iadd, 0)]) (pc' := 58) (ls' := [some (.ref b), some (.int p0), some (.int q1)]) (st' := [.int (p0 + 1), .ref b]) (by decide +kernel) rfl ?_
            obtain ⟨q16, hq16, hf⟩ := bd_some hf
            refine CW.callV (As := [.int (p0 + 1)]) (st := []) lv_RX10_49 hb (by decide) rfl rfl (by decide +kernel) (xc_X10_byteAt hb hq16) (by decide) (by decide) rfl (Nat.le_of_ble_eq_true rfl) rfl ?_
            show CW l yy_X10_scanOne 9 _ _ 61 [some (.ref b), some (.int p0), some (.int q1)] [.int q16] S
            refine CW.run (blk := [(.bipush 61, 61)]) (pc' := 63) (ls' := [some (.ref b), some (.int p0), some (.int q1)]) (st' := [.int 61, .int q16]) (by decide +kernel) rfl ?_
            refine CW.icmp_ne (off := 28) (tgt := 91) (by decide +kernel) (by decide) (fun c63_17 => ?_) (fun c63_17 => ?_)
            · rw [if_neg c63_17] at hf
              refine CW.run (blk := [(.aload_n 0, 0), (.iload_n 2, 0), (.iload_n 1, 0), (.iconst 0, 0)]) (pc' := 95) (ls' := [some (.ref b), some (.int p0), some (.int q1)]) (st' := [.int 0, .int p0, .int q1, .ref b]) (by decide +kernel) rfl ?_
              obtain ⟨q18, hq18, hf⟩ := bd_some hf
              refine CW.callV (As := [.int q1, .int p0, .int 0]) (st := []) lv_RX10_39 hb (by decide) rfl rfl (by decide +kernel) (xc_X10_addToken hb hq18) (by decide) (by decide) rfl (Nat.le_of_ble_eq_true rfl) rfl ?_
              show CW l yy_X10_scanOne 9 _ _ 98 [some (.ref b), some (.int p0), some (.int q1)] [] q18
              refine CW.run (blk := [(.iload_n 1, 0), (.iconst 1, 1), (.iadd, 0)]) (pc' := 101) (ls' := [some (.ref b), some (.int p0), some (.int q1)]) (st' := [.int (p0 + 1)]) (by decide +kernel) rfl ?_
              have e9 := Option.some.inj hf
              subst e9
              exact CW.iret rfl (by decide +kernel)
            · rw [if_pos c63_17] at hf
              refine CW.run (blk := [(.aload_n 0, 0), (.iload_n 2, 0), (.bipush 60, 60)]) (pc' := 70) (ls' := [some (.ref b), some (.int p0), some (.int q1)]) (st' := [.int 60, .int q1, .ref b]) (by decide +kernel) rfl ?_
              obtain ⟨w19, hw19, hf⟩ := bd_some hf
              have hJ : CW l yy_X10_scanOne 9 (some (.int q.1)) q.2 82 [some (.ref b), some (.int p0), some (.int q1)] [.int w19, .ref b] S := by
                refine CW.run (blk := [(.iload_n 1, 0), (.iconst 0, 0)]) (pc' := 84) (ls' := [some (.ref b), some (.int p0), some (.int q1)]) (st' := [.int 0, .int p0, .int w19, .ref b]) (by decide +kernel) rfl ?_
                obtain ⟨q21, hq21, hf⟩ := bd_some hf
                refine CW.callV (As := [.int w19, .int p0, .int 0]) (st := []) lv_RX10_39 hb (by decide) rfl rfl (by decide +kernel) (xc_X10_addToken hb hq21) (by decide) (by decide) rfl (Nat.le_of_ble_eq_true rfl) rfl ?_
                show CW l yy_X10_scanOne 9 _ _ 87 [some (.ref b), some (.int p0), some (.int q1)] [] q21
                refine CW.run (blk := [(.iload_n 1, 0), (.iconst 2, 2), (.iadd, 0)]) (pc' := 90) (ls' := [some (.ref b), some (.int p0), some (.int q1)]) (st' := [.int (p0 + 2)]) (by decide +kernel) rfl ?_
                have e9 := Option.some.inj hf
                subst e9
                exact CW.iret rfl (by decide +kernel)
              clear hf
              refine CW.icmp_ne (off := 9) (tgt := 79) (by decide +kernel) (by decide) (fun c70_20 => ?_) (fun c70_20 => ?_)
              · rw [if_neg c70_20] at hw19
                refine CW.run (blk := [(.sipush 257, 257)]) (pc' := 82) (ls' := [some (.ref b), some (.int p0), some (.int q1)]) (st' := [.int 257, .ref b]) (by decide +kernel) rfl ?_
                have e9 := Option.some.inj hw19
                subst e9
                exact hJ
              · rw [if_pos c70_20] at hw19
                refine CW.run (blk := [(.sipush 256, 256), (.goto 6, 0)]) (pc' := 82) (ls' := [some (.ref b), some (.int p0), some (.int q1)]) (st' := [.int 256, .ref b]) (by decide +kernel) rfl ?_
                have e9 := Option.some.inj hw19
                subst e9
                exact hJ
      · rw [if_neg c33_6] at hf
        refine CW.run (blk := [(.aload_n 0, 0), (.iload_n 1, 0)]) (pc' := 38) (ls' := [some (.ref b), some (.int p0), some (.int q1)]) (st' := [.int p0, .ref b]) (by decide +kernel) rfl ?_
        obtain ⟨q22, hq22, hf⟩ := bd_some hf
        refine CW.callV (As := [.int p0]) (st := []) lv_RX10_62 hb (by decide) rfl rfl (by decide +kernel) (xc_X10_scanWord hb hq22) (by decide) (by decide) rfl (Nat.le_of_ble_eq_true rfl) rfl ?_
        show CW l yy_X10_scanOne 9 _ _ 41 [some (.ref b), some (.int p0), some (.int q1)] [.int q22.1] q22.2
        have e9 := Option.some.inj hf
        subst e9
        exact CW.iret rfl (by decide +kernel)
    · rw [if_neg c20_4] at hf
      refine CW.run (blk := [(.aload_n 0, 0), (.iload_n 1, 0)]) (pc' := 25) (ls' := [some (.ref b), some (.int p0), some (.int q1)]) (st' := [.int p0, .ref b]) (by decide +kernel) rfl ?_
      obtain ⟨q23, hq23, hf⟩ := bd_some hf
      refine CW.callV (As := [.int p0]) (st := []) lv_RX10_56 hb (by decide) rfl rfl (by decide +kernel) (xc_X10_scanNumber hb hq23) (by decide) (by decide) rfl (Nat.le_of_ble_eq_true rfl) rfl ?_
      show CW l yy_X10_scanOne 9 _ _ 28 [some (.ref b), some (.int p0), some (.int q1)] [.int q23.1] q23.2
      have e9 := Option.some.inj hf
      subst e9
      exact CW.iret rfl (by decide +kernel)
  · rw [if_pos c9_2] at hf
    refine CW.run (blk := [(.iload_n 1, 0), (.iconst 1, 1), (.iadd, 0)]) (pc' := 15) (ls' := [some (.ref b), some (.int p0), some (.int q1)]) (st' := [.int (p0 + 1)]) (by decide +kernel) rfl ?_
    have e9 := Option.some.inj hf
    subst e9
    exact CW.iret rfl (by decide +kernel)
def fc_X10_scan_L19 (k0 : Nat) : Nat → Int32 → Int32 → cT → Option (Int32 × Int32 × cT)
  | 0, _, _, _ => none
  | N + 1, a1, a2, S => if 400 ≤ a2 then (some (a1, a2, S)) else (if (S.1 k0 4) ≤ a1 then (some (a1, a2, S)) else ((fc_X10_scanOne k0 a1 S).bind fun q6 => fc_X10_scan_L19 k0 N q6.1 (a2 + 1) q6.2))
def fc_X10_scan (b : Nat) (S : cT) : Option (cT) := letv (ca S b 5 0) fun S1 => letv (ca S1 b 6 0) fun S2 => letv (ca S2 b 7 0) fun S3 => (fc_X10_scan_L19 b FU 0 0 S3).bind fun w7 => (fc_X10_addToken b 260 (w7.2.2.1 b 4) 0 w7.2.2).bind fun q8 => bif inb 0 401 then (letv (q8.1 (b + 2) (0 : Int32).toNatClampNeg) fun v9 => letv (ca q8 b 8 v9) fun S10 => bif inb 0 401 then (letv (S10.1 (b + 4) (0 : Int32).toNatClampNeg) fun v11 => letv (ca S10 b 9 v11) fun S12 => some S12) else none) else none
theorem xc_X10_scan_L19 {l : Launch} {r : Option Value} {S' : cT} (k0 : Nat) (hk0 : cK k0 = 8) : ∀ (N : Nat) (a1 : Int32) (a2 : Int32) (S : cT) (W0 : Int32 × Int32 × cT) (_ : fc_X10_scan_L19 k0 N a1 a2 S = some W0) (_ : CW l yy_X10_scan 10 r S' 46 [some (.ref k0), some (.int W0.1), some (.int W0.2.1)] [] W0.2.2), CW l yy_X10_scan 10 r S' 19 [some (.ref k0), some (.int a1), some (.int a2)] [] S := by
  intro N
  induction N with
  | zero =>
    intro a1 a2 S W0 hf _
    cases hf
  | succ N ih =>
    intro a1 a2 S W0 hf hk_1
    unfold fc_X10_scan_L19 at hf
    refine CW.run (blk := [(.iload_n 2, 0), (.sipush 400, 400)]) (pc' := 23) (ls' := [some (.ref k0), some (.int a1), some (.int a2)]) (st' := [.int 400, .int a2]) (by decide +kernel) rfl ?_
    refine CW.icmp_ge (off := 23) (tgt := 46) (by decide +kernel) (by decide) (fun c23_4 => ?_) (fun c23_4 => ?_)
    · rw [if_pos c23_4] at hf
      have e9 := Option.some.inj hf
      subst e9
      exact hk_1
    · rw [if_neg c23_4] at hf
      refine CW.run (blk := [(.iload_n 1, 0), (.aload_n 0, 0)]) (pc' := 28) (ls' := [some (.ref k0), some (.int a1), some (.int a2)]) (st' := [.ref k0, .int a1]) (by decide +kernel) rfl ?_
      refine CW.getf (v := .int (S.1 k0 4)) hk0 (by decide) fl_RX10_22 (by decide +kernel) rfl ?_
      refine CW.icmp_ge (off := 15) (tgt := 46) (by decide +kernel) (by decide) (fun c31_5 => ?_) (fun c31_5 => ?_)
      · rw [if_pos c31_5] at hf
        have e9 := Option.some.inj hf
        subst e9
        exact hk_1
      · rw [if_neg c31_5] at hf
        refine CW.run (blk := [(.aload_n 0, 0), (.iload_n 1, 0)]) (pc' := 36) (ls' := [some (.ref k0), some (.int a1), some (.int a2)]) (st' := [.int a1, .ref k0]) (by decide +kernel) rfl ?_
        obtain ⟨q6, hq6, hf⟩ := bd_some hf
        refine CW.callV (As := [.int a1]) (st := []) lv_RX10_35 hk0 (by decide) rfl rfl (by decide +kernel) (xc_X10_scanOne hk0 hq6) (by decide) (by decide) rfl (Nat.le_of_ble_eq_true rfl) rfl ?_
        show CW l yy_X10_scan 10 _ _ 39 [some (.ref k0), some (.int a1), some (.int a2)] [.int q6.1] q6.2
        refine CW.run (blk := [(.istore_n 1, 0), (.iinc 2 1, 1), (.goto (-24), 0)]) (pc' := 19) (ls' := [some (.ref k0), some (.int q6.1), some (.int (a2 + 1))]) (st' := []) (by decide +kernel) rfl ?_
        exact ih _ _ _ _ hf hk_1
theorem xc_X10_scan {l : Launch} {b : Nat} {S : cT} {q : cT} (hb : cK b = 8) (hf : fc_X10_scan b S = some q) : COk l yy_X10_scan 10 [.ref b] S none q := by
  refine COk.of (ls := [some (.ref b), none, none]) (by decide +kernel) (Nat.le_of_ble_eq_true rfl) rfl ?_
  unfold fc_X10_scan at hf
  refine CW.run (blk := [(.aload_n 0, 0), (.iconst 0, 0)]) (pc' := 2) (ls' := [some (.ref b), none, none]) (st' := [.int 0, .ref b]) (by decide +kernel) rfl ?_
  refine CW.putI hb (by decide) fp_RX10_26 (by decide +kernel) (fun _ _ _ => Nat.le_of_ble_eq_true rfl) rfl rfl (fun _ _ _ => rfl) ?_
  obtain ⟨S1, hS1, hf⟩ := letv_some hf
  rw [← hS1]
  refine CW.run (blk := [(.aload_n 0, 0), (.iconst 0, 0)]) (pc' := 7) (ls' := [some (.ref b), none, none]) (st' := [.int 0, .ref b]) (by decide +kernel) rfl ?_
  refine CW.putI hb (by decide) fp_RX10_29 (by decide +kernel) (fun _ _ _ => Nat.le_of_ble_eq_true rfl) rfl rfl (fun _ _ _ => rfl) ?_
  obtain ⟨S2, hS2, hf⟩ := letv_some hf
  rw [← hS2]
  refine CW.run (blk := [(.aload_n 0, 0), (.iconst 0, 0)]) (pc' := 12) (ls' := [some (.ref b), none, none]) (st' := [.int 0, .ref b]) (by decide +kernel) rfl ?_
  refine CW.putI hb (by decide) fp_RX10_32 (by decide +kernel) (fun _ _ _ => Nat.le_of_ble_eq_true rfl) rfl rfl (fun _ _ _ => rfl) ?_
  obtain ⟨S3, hS3, hf⟩ := letv_some hf
  rw [← hS3]
  refine CW.run (blk := [(.iconst 0, 0), (.istore_n 1, 0), (.iconst 0, 0), (.istore_n 2, 0)]) (pc' := 19) (ls' := [some (.ref b), some (.int 0), some (.int 0)]) (st' := []) (by decide +kernel) rfl ?_
  obtain ⟨w7, hw7, hf⟩ := bd_some hf
  refine xc_X10_scan_L19 b hb FU _ _ _ _ hw7 ?_
  refine CW.run (blk := [(.aload_n 0, 0), (.sipush 260, 260), (.aload_n 0, 0)]) (pc' := 51) (ls' := [some (.ref b), some (.int w7.1), some (.int w7.2.1)]) (st' := [.ref b, .int 260, .ref b]) (by decide +kernel) rfl ?_
  refine CW.getf (v := .int (w7.2.2.1 b 4)) hb (by decide) fl_RX10_22 (by decide +kernel) rfl ?_
  refine CW.run (blk := [(.iconst 0, 0)]) (pc' := 55) (ls' := [some (.ref b), some (.int w7.1), some (.int w7.2.1)]) (st' := [.int 0, .int (w7.2.2.1 b 4), .int 260, .ref b]) (by decide +kernel) rfl ?_
  obtain ⟨q8, hq8, hf⟩ := bd_some hf
  refine CW.callV (As := [.int 260, .int (w7.2.2.1 b 4), .int 0]) (st := []) lv_RX10_39 hb (by decide) rfl rfl (by decide +kernel) (xc_X10_addToken hb hq8) (by decide) (by decide) rfl (Nat.le_of_ble_eq_true rfl) rfl ?_
  show CW l yy_X10_scan 10 _ _ 58 [some (.ref b), some (.int w7.1), some (.int w7.2.1)] [] q8
  refine CW.run (blk := [(.aload_n 0, 0), (.aload_n 0, 0)]) (pc' := 60) (ls' := [some (.ref b), some (.int w7.1), some (.int w7.2.1)]) (st' := [.ref b, .ref b]) (by decide +kernel) rfl ?_
  refine CW.getf (v := .ref (b + 2)) hb (by decide) fl_RX10_13 (by decide +kernel) rfl ?_
  refine CW.run (blk := [(.iconst 0, 0)]) (pc' := 64) (ls' := [some (.ref b), some (.int w7.1), some (.int w7.2.1)]) (st' := [.int 0, .ref (b + 2), .ref b]) (by decide +kernel) rfl ?_
  obtain ⟨hi_v9, hf⟩ := bi_some hf
  obtain ⟨v9, hv9, hf⟩ := letv_some hf
  refine CW.iald (kk_8_1 hb) (kn_8_1 hb) (by decide +kernel) (inb_in hi_v9) ?_
  rw [← hv9]
  refine CW.putI hb (by decide) fp_RX10_43 (by decide +kernel) (fun _ _ _ => Nat.le_of_ble_eq_true rfl) rfl rfl (fun _ _ _ => rfl) ?_
  obtain ⟨S10, hS10, hf⟩ := letv_some hf
  rw [← hS10]
  refine CW.run (blk := [(.aload_n 0, 0), (.aload_n 0, 0)]) (pc' := 70) (ls' := [some (.ref b), some (.int w7.1), some (.int w7.2.1)]) (st' := [.ref b, .ref b]) (by decide +kernel) rfl ?_
  refine CW.getf (v := .ref (b + 4)) hb (by decide) fl_RX10_19 (by decide +kernel) rfl ?_
  refine CW.run (blk := [(.iconst 0, 0)]) (pc' := 74) (ls' := [some (.ref b), some (.int w7.1), some (.int w7.2.1)]) (st' := [.int 0, .ref (b + 4), .ref b]) (by decide +kernel) rfl ?_
  obtain ⟨hi_v11, hf⟩ := bi_some hf
  obtain ⟨v11, hv11, hf⟩ := letv_some hf
  refine CW.iald (kk_8_3 hb) (kn_8_3 hb) (by decide +kernel) (inb_in hi_v11) ?_
  rw [← hv11]
  refine CW.putI hb (by decide) fp_RX10_46 (by decide +kernel) (fun _ _ _ => Nat.le_of_ble_eq_true rfl) rfl rfl (fun _ _ _ => rfl) ?_
  obtain ⟨S12, hS12, hf⟩ := letv_some hf
  rw [← hS12]
  have e9 := Option.some.inj hf
  subst e9
  exact CW.vret rfl (by decide +kernel)
def fc_X10_refuse (b : Nat) (p0 : Int32) (S : cT) : Option (cT) := if (S.1 b 7) = 0 then (if (S.1 b 6) < 0 then (some S) else (if 400 < (S.1 b 6) then (some S) else (bif inb (S.1 b 6) 401 then (letv (S.1 (b + 3) ((S.1 b 6) : Int32).toNatClampNeg) fun v4 => letv (ca S b 7 ((1 + (8 * v4)) + p0)) fun S5 => letv (ca S5 b 8 259) fun S6 => some S6) else none))) else (some S)
theorem xc_X10_refuse {l : Launch} {b : Nat} {p0 : Int32} {S : cT} {q : cT} (hb : cK b = 8) (hf : fc_X10_refuse b p0 S = some q) : COk l yy_X10_refuse 0 [.ref b, .int p0] S none q := by
  refine COk.of (ls := [some (.ref b), some (.int p0)]) (by decide +kernel) (Nat.le_of_ble_eq_true rfl) rfl ?_
  unfold fc_X10_refuse at hf
  refine CW.run (blk := [(.aload_n 0, 0)]) (pc' := 1) (ls' := [some (.ref b), some (.int p0)]) (st' := [.ref b]) (by decide +kernel) rfl ?_
  refine CW.getf (v := .int (S.1 b 7)) hb (by decide) fl_RX10_32 (by decide +kernel) rfl ?_
  refine CW.if_ne (off := 47) (tgt := 51) (by decide +kernel) (by decide) (fun c4_1 => ?_) (fun c4_1 => ?_)
  · rw [if_neg c4_1] at hf
    have e9 := Option.some.inj hf
    subst e9
    exact CW.vret rfl (by decide +kernel)
  · rw [if_pos c4_1] at hf
    refine CW.run (blk := [(.aload_n 0, 0)]) (pc' := 8) (ls' := [some (.ref b), some (.int p0)]) (st' := [.ref b]) (by decide +kernel) rfl ?_
    refine CW.getf (v := .int (S.1 b 6)) hb (by decide) fl_RX10_29 (by decide +kernel) rfl ?_
    refine CW.if_lt (off := 40) (tgt := 51) (by decide +kernel) (by decide) (fun c11_2 => ?_) (fun c11_2 => ?_)
    · rw [if_pos c11_2] at hf
      have e9 := Option.some.inj hf
      subst e9
      exact CW.vret rfl (by decide +kernel)
    · rw [if_neg c11_2] at hf
      refine CW.run (blk := [(.aload_n 0, 0)]) (pc' := 15) (ls' := [some (.ref b), some (.int p0)]) (st' := [.ref b]) (by decide +kernel) rfl ?_
      refine CW.getf (v := .int (S.1 b 6)) hb (by decide) fl_RX10_29 (by decide +kernel) rfl ?_
      refine CW.run (blk := [(.sipush 400, 400)]) (pc' := 21) (ls' := [some (.ref b), some (.int p0)]) (st' := [.int 400, .int (S.1 b 6)]) (by decide +kernel) rfl ?_
      refine CW.icmp_gt (off := 30) (tgt := 51) (by decide +kernel) (by decide) (fun c21_3 => ?_) (fun c21_3 => ?_)
      · rw [if_pos c21_3] at hf
        have e9 := Option.some.inj hf
        subst e9
        exact CW.vret rfl (by decide +kernel)
      · rw [if_neg c21_3] at hf
        refine CW.run (blk := [(.aload_n 0, 0), (.iconst 1, 1), (.bipush 8, 8), (.aload_n 0, 0)]) (pc' := 29) (ls' := [some (.ref b), some (.int p0)]) (st' := [.ref b, .int 8, .int 1, .ref b]) (by decide +kernel) rfl ?_
        refine CW.getf (v := .ref (b + 3)) hb (by decide) fl_RX10_16 (by decide +kernel) rfl ?_
        refine CW.run (blk := [(.aload_n 0, 0)]) (pc' := 33) (ls' := [some (.ref b), some (.int p0)]) (st' := [.ref b, .ref (b + 3), .int 8, .int 1, .ref b]) (by decide +kernel) rfl ?_
        refine CW.getf (v := .int (S.1 b 6)) hb (by decide) fl_RX10_29 (by decide +kernel) rfl ?_
        obtain ⟨hi_v4, hf⟩ := bi_some hf
        obtain ⟨v4, hv4, hf⟩ := letv_some hf
        refine CW.iald (kk_8_2 hb) (kn_8_2 hb) (by decide +kernel) (inb_in hi_v4) ?_
        rw [← hv4]
        refine CW.run (blk := [(.imul, 0), (.iadd, 0), (.iload_n 1, 0), (.iadd, 0)]) (pc' := 41) (ls' := [some (.ref b), some (.int p0)]) (st' := [.int ((1 + (8 * v4)) + p0), .ref b]) (by decide +kernel) rfl ?_
        refine CW.putI hb (by decide) fp_RX10_32 (by decide +kernel) (fun _ _ _ => Nat.le_of_ble_eq_true rfl) rfl rfl (fun _ _ _ => rfl) ?_
        obtain ⟨S5, hS5, hf⟩ := letv_some hf
        rw [← hS5]
        refine CW.run (blk := [(.aload_n 0, 0), (.sipush 259, 259)]) (pc' := 48) (ls' := [some (.ref b), some (.int p0)]) (st' := [.int 259, .ref b]) (by decide +kernel) rfl ?_
        refine CW.putI hb (by decide) fp_RX10_43 (by decide +kernel) (fun _ _ _ => Nat.le_of_ble_eq_true rfl) rfl rfl (fun _ _ _ => rfl) ?_
        obtain ⟨S6, hS6, hf⟩ := letv_some hf
        rw [← hS6]
        have e9 := Option.some.inj hf
        subst e9
        exact CW.vret rfl (by decide +kernel)
def fc_X10_step (b : Nat) (S : cT) : Option (cT) := if (S.1 b 7) = 0 then (if (S.1 b 6) < 0 then (some S) else (if (S.1 b 5) ≤ ((S.1 b 6) + 1) then (some S) else (if 400 ≤ (S.1 b 6) then (some S) else (letv (ca S b 6 ((S.1 b 6) + 1)) fun S5 => bif inb (S5.1 b 6) 401 then (letv (S5.1 (b + 2) ((S5.1 b 6) : Int32).toNatClampNeg) fun v6 => letv (ca S5 b 8 v6) fun S7 => bif inb (S7.1 b 6) 401 then (letv (S7.1 (b + 4) ((S7.1 b 6) : Int32).toNatClampNeg) fun v8 => letv (ca S7 b 9 v8) fun S9 => some S9) else none) else none)))) else (some S)
theorem xc_X10_step {l : Launch} {b : Nat} {S : cT} {q : cT} (hb : cK b = 8) (hf : fc_X10_step b S = some q) : COk l yy_X10_step 0 [.ref b] S none q := by
  refine COk.of (ls := [some (.ref b)]) (by decide +kernel) (Nat.le_of_ble_eq_true rfl) rfl ?_
  unfold fc_X10_step at hf
  refine CW.run (blk := [(.aload_n 0, 0)]) (pc' := 1) (ls' := [some (.ref b)]) (st' := [.ref b]) (by decide +kernel) rfl ?_
  refine CW.getf (v := .int (S.1 b 7)) hb (by decide) fl_RX10_32 (by decide +kernel) rfl ?_
  refine CW.if_ne (off := 69) (tgt := 73) (by decide +kernel) (by decide) (fun c4_1 => ?_) (fun c4_1 => ?_)
  · rw [if_neg c4_1] at hf
    have e9 := Option.some.inj hf
    subst e9
    exact CW.vret rfl (by decide +kernel)
  · rw [if_pos c4_1] at hf
    refine CW.run (blk := [(.aload_n 0, 0)]) (pc' := 8) (ls' := [some (.ref b)]) (st' := [.ref b]) (by decide +kernel) rfl ?_
    refine CW.getf (v := .int (S.1 b 6)) hb (by decide) fl_RX10_29 (by decide +kernel) rfl ?_
    refine CW.if_lt (off := 62) (tgt := 73) (by decide +kernel) (by decide) (fun c11_2 => ?_) (fun c11_2 => ?_)
    · rw [if_pos c11_2] at hf
      have e9 := Option.some.inj hf
      subst e9
      exact CW.vret rfl (by decide +kernel)
    · rw [if_neg c11_2] at hf
      refine CW.run (blk := [(.aload_n 0, 0)]) (pc' := 15) (ls' := [some (.ref b)]) (st' := [.ref b]) (by decide +kernel) rfl ?_
      refine CW.getf (v := .int (S.1 b 6)) hb (by decide) fl_RX10_29 (by decide +kernel) rfl ?_
      refine CW.run (blk := [(.iconst 1, 1), (.iadd, 0), (.aload_n 0, 0)]) (pc' := 21) (ls' := [some (.ref b)]) (st' := [.ref b, .int ((S.1 b 6) + 1)]) (by decide +kernel) rfl ?_
      refine CW.getf (v := .int (S.1 b 5)) hb (by decide) fl_RX10_26 (by decide +kernel) rfl ?_
      refine CW.icmp_ge (off := 49) (tgt := 73) (by decide +kernel) (by decide) (fun c24_3 => ?_) (fun c24_3 => ?_)
      · rw [if_pos c24_3] at hf
        have e9 := Option.some.inj hf
        subst e9
        exact CW.vret rfl (by decide +kernel)
      · rw [if_neg c24_3] at hf
        refine CW.run (blk := [(.aload_n 0, 0)]) (pc' := 28) (ls' := [some (.ref b)]) (st' := [.ref b]) (by decide +kernel) rfl ?_
        refine CW.getf (v := .int (S.1 b 6)) hb (by decide) fl_RX10_29 (by decide +kernel) rfl ?_
        refine CW.run (blk := [(.sipush 400, 400)]) (pc' := 34) (ls' := [some (.ref b)]) (st' := [.int 400, .int (S.1 b 6)]) (by decide +kernel) rfl ?_
        refine CW.icmp_ge (off := 39) (tgt := 73) (by decide +kernel) (by decide) (fun c34_4 => ?_) (fun c34_4 => ?_)
        · rw [if_pos c34_4] at hf
          have e9 := Option.some.inj hf
          subst e9
          exact CW.vret rfl (by decide +kernel)
        · rw [if_neg c34_4] at hf
          refine CW.run (blk := [(.aload_n 0, 0), (.dup, 0)]) (pc' := 39) (ls' := [some (.ref b)]) (st' := [.ref b, .ref b]) (by decide +kernel) rfl ?_
          refine CW.getf (v := .int (S.1 b 6)) hb (by decide) fl_RX10_29 (by decide +kernel) rfl ?_
          refine CW.run (blk := [(.iconst 1, 1), (.iadd, 0)]) (pc' := 44) (ls' := [some (.ref b)]) (st' := [.int ((S.1 b 6) + 1), .ref b]) (by decide +kernel) rfl ?_
          refine CW.putI hb (by decide) fp_RX10_29 (by decide +kernel) (fun _ _ _ => Nat.le_of_ble_eq_true rfl) rfl rfl (fun _ _ _ => rfl) ?_
          obtain ⟨S5, hS5, hf⟩ := letv_some hf
          rw [← hS5]
          refine CW.run (blk := [(.aload_n 0, 0), (.aload_n 0, 0)]) (pc' := 49) (ls' := [some (.ref b)]) (st' := [.ref b, .ref b]) (by decide +kernel) rfl ?_
          refine CW.getf (v := .ref (b + 2)) hb (by decide) fl_RX10_13 (by decide +kernel) rfl ?_
          refine CW.run (blk := [(.aload_n 0, 0)]) (pc' := 53) (ls' := [some (.ref b)]) (st' := [.ref b, .ref (b + 2), .ref b]) (by decide +kernel) rfl ?_
          refine CW.getf (v := .int (S5.1 b 6)) hb (by decide) fl_RX10_29 (by decide +kernel) rfl ?_
          obtain ⟨hi_v6, hf⟩ := bi_some hf
          obtain ⟨v6, hv6, hf⟩ := letv_some hf
          refine CW.iald (kk_8_1 hb) (kn_8_1 hb) (by decide +kernel) (inb_in hi_v6) ?_
          rw [← hv6]
          refine CW.putI hb (by decide) fp_RX10_43 (by decide +kernel) (fun _ _ _ => Nat.le_of_ble_eq_true rfl) rfl rfl (fun _ _ _ => rfl) ?_
          obtain ⟨S7, hS7, hf⟩ := letv_some hf
          rw [← hS7]
          refine CW.run (blk := [(.aload_n 0, 0), (.aload_n 0, 0)]) (pc' := 62) (ls' := [some (.ref b)]) (st' := [.ref b, .ref b]) (by decide +kernel) rfl ?_
          refine CW.getf (v := .ref (b + 4)) hb (by decide) fl_RX10_19 (by decide +kernel) rfl ?_
          refine CW.run (blk := [(.aload_n 0, 0)]) (pc' := 66) (ls' := [some (.ref b)]) (st' := [.ref b, .ref (b + 4), .ref b]) (by decide +kernel) rfl ?_
          refine CW.getf (v := .int (S7.1 b 6)) hb (by decide) fl_RX10_29 (by decide +kernel) rfl ?_
          obtain ⟨hi_v8, hf⟩ := bi_some hf
          obtain ⟨v8, hv8, hf⟩ := letv_some hf
          refine CW.iald (kk_8_3 hb) (kn_8_3 hb) (by decide +kernel) (inb_in hi_v8) ?_
          rw [← hv8]
          refine CW.putI hb (by decide) fp_RX10_46 (by decide +kernel) (fun _ _ _ => Nat.le_of_ble_eq_true rfl) rfl rfl (fun _ _ _ => rfl) ?_
          obtain ⟨S9, hS9, hf⟩ := letv_some hf
          rw [← hS9]
          have e9 := Option.some.inj hf
          subst e9
          exact CW.vret rfl (by decide +kernel)
def fc_X10_takeNumber (b : Nat) (p0 : Int32) (p1 : Int32) (S : cT) : Option (Int32 × cT) := if (S.1 b 8) = 258 then (if (S.1 b 9) < p0 then ((fc_X10_refuse b 1 S).bind fun q3 => some (p0, q3)) else (if (S.1 b 9) ≤ p1 then ((fc_X10_step b S).bind fun q5 => some (S.1 b 9, q5)) else ((fc_X10_refuse b 1 S).bind fun q6 => some (p0, q6)))) else ((fc_X10_refuse b 0 S).bind fun q7 => some (p0, q7))
theorem xc_X10_takeNumber {l : Launch} {b : Nat} {p0 : Int32} {p1 : Int32} {S : cT} {q : Int32 × cT} (hb : cK b = 8) (hf : fc_X10_takeNumber b p0 p1 S = some q) : COk l yy_X10_takeNumber 1 [.ref b, .int p0, .int p1] S (some (.int q.1)) q.2 := by
  refine COk.of (ls := [some (.ref b), some (.int p0), some (.int p1), none]) (by decide +kernel) (Nat.le_of_ble_eq_true rfl) rfl ?_
  unfold fc_X10_takeNumber at hf
  refine CW.run (blk := [(.aload_n 0, 0)]) (pc' := 1) (ls' := [some (.ref b), some (.int p0), some (.int p1), none]) (st' := [.ref b]) (by decide +kernel) rfl ?_
  refine CW.getf (v := .int (S.1 b 8)) hb (by decide) fl_RX10_43 (by decide +kernel) rfl ?_
  refine CW.run (blk := [(.sipush 258, 258)]) (pc' := 7) (ls' := [some (.ref b), some (.int p0), some (.int p1), none]) (st' := [.int 258, .int (S.1 b 8)]) (by decide +kernel) rfl ?_
  refine CW.icmp_eq (off := 10) (tgt := 17) (by decide +kernel) (by decide) (fun c7_1 => ?_) (fun c7_1 => ?_)
  · rw [if_pos c7_1] at hf
    refine CW.run (blk := [(.aload_n 0, 0)]) (pc' := 18) (ls' := [some (.ref b), some (.int p0), some (.int p1), none]) (st' := [.ref b]) (by decide +kernel) rfl ?_
    refine CW.getf (v := .int (S.1 b 9)) hb (by decide) fl_RX10_46 (by decide +kernel) rfl ?_
    refine CW.run (blk := [(.istore_n 3, 0), (.iload_n 3, 0), (.iload_n 1, 0)]) (pc' := 24) (ls' := [some (.ref b), some (.int p0), some (.int p1), some (.int (S.1 b 9))]) (st' := [.int p0, .int (S.1 b 9)]) (by decide +kernel) rfl ?_
    refine CW.icmp_lt (off := 8) (tgt := 32) (by decide +kernel) (by decide) (fun c24_2 => ?_) (fun c24_2 => ?_)
    · rw [if_pos c24_2] at hf
      refine CW.run (blk := [(.aload_n 0, 0), (.iconst 1, 1)]) (pc' := 34) (ls' := [some (.ref b), some (.int p0), some (.int p1), some (.int (S.1 b 9))]) (st' := [.int 1, .ref b]) (by decide +kernel) rfl ?_
      obtain ⟨q3, hq3, hf⟩ := bd_some hf
      refine CW.callV (As := [.int 1]) (st := []) lv_RX10_85 hb (by decide) rfl rfl (by decide +kernel) (xc_X10_refuse hb hq3) (by decide) (by decide) rfl (Nat.le_of_ble_eq_true rfl) rfl ?_
      show CW l yy_X10_takeNumber 1 _ _ 37 [some (.ref b), some (.int p0), some (.int p1), some (.int (S.1 b 9))] [] q3
      refine CW.run (blk := [(.iload_n 1, 0)]) (pc' := 38) (ls' := [some (.ref b), some (.int p0), some (.int p1), some (.int (S.1 b 9))]) (st' := [.int p0]) (by decide +kernel) rfl ?_
      have e9 := Option.some.inj hf
      subst e9
      exact CW.iret rfl (by decide +kernel)
    · rw [if_neg c24_2] at hf
      refine CW.run (blk := [(.iload_n 3, 0), (.iload_n 2, 0)]) (pc' := 29) (ls' := [some (.ref b), some (.int p0), some (.int p1), some (.int (S.1 b 9))]) (st' := [.int p1, .int (S.1 b 9)]) (by decide +kernel) rfl ?_
      refine CW.icmp_le (off := 10) (tgt := 39) (by decide +kernel) (by decide) (fun c29_4 => ?_) (fun c29_4 => ?_)
      · rw [if_pos c29_4] at hf
        refine CW.run (blk := [(.aload_n 0, 0)]) (pc' := 40) (ls' := [some (.ref b), some (.int p0), some (.int p1), some (.int (S.1 b 9))]) (st' := [.ref b]) (by decide +kernel) rfl ?_
        obtain ⟨q5, hq5, hf⟩ := bd_some hf
        refine CW.callV (As := []) (st := []) lv_RX10_89 hb (by decide) rfl rfl (by decide +kernel) (xc_X10_step hb hq5) (by decide) (by decide) rfl (Nat.le_of_ble_eq_true rfl) rfl ?_
        show CW l yy_X10_takeNumber 1 _ _ 43 [some (.ref b), some (.int p0), some (.int p1), some (.int (S.1 b 9))] [] q5
        refine CW.run (blk := [(.iload_n 3, 0)]) (pc' := 44) (ls' := [some (.ref b), some (.int p0), some (.int p1), some (.int (S.1 b 9))]) (st' := [.int (S.1 b 9)]) (by decide +kernel) rfl ?_
        have e9 := Option.some.inj hf
        subst e9
        exact CW.iret rfl (by decide +kernel)
      · rw [if_neg c29_4] at hf
        refine CW.run (blk := [(.aload_n 0, 0), (.iconst 1, 1)]) (pc' := 34) (ls' := [some (.ref b), some (.int p0), some (.int p1), some (.int (S.1 b 9))]) (st' := [.int 1, .ref b]) (by decide +kernel) rfl ?_
        obtain ⟨q6, hq6, hf⟩ := bd_some hf
        refine CW.callV (As := [.int 1]) (st := []) lv_RX10_85 hb (by decide) rfl rfl (by decide +kernel) (xc_X10_refuse hb hq6) (by decide) (by decide) rfl (Nat.le_of_ble_eq_true rfl) rfl ?_
        show CW l yy_X10_takeNumber 1 _ _ 37 [some (.ref b), some (.int p0), some (.int p1), some (.int (S.1 b 9))] [] q6
        refine CW.run (blk := [(.iload_n 1, 0)]) (pc' := 38) (ls' := [some (.ref b), some (.int p0), some (.int p1), some (.int (S.1 b 9))]) (st' := [.int p0]) (by decide +kernel) rfl ?_
        have e9 := Option.some.inj hf
        subst e9
        exact CW.iret rfl (by decide +kernel)
  · rw [if_neg c7_1] at hf
    refine CW.run (blk := [(.aload_n 0, 0), (.iconst 0, 0)]) (pc' := 12) (ls' := [some (.ref b), some (.int p0), some (.int p1), none]) (st' := [.int 0, .ref b]) (by decide +kernel) rfl ?_
    obtain ⟨q7, hq7, hf⟩ := bd_some hf
    refine CW.callV (As := [.int 0]) (st := []) lv_RX10_85 hb (by decide) rfl rfl (by decide +kernel) (xc_X10_refuse hb hq7) (by decide) (by decide) rfl (Nat.le_of_ble_eq_true rfl) rfl ?_
    show CW l yy_X10_takeNumber 1 _ _ 15 [some (.ref b), some (.int p0), some (.int p1), none] [] q7
    refine CW.run (blk := [(.iload_n 1, 0)]) (pc' := 16) (ls' := [some (.ref b), some (.int p0), some (.int p1), none]) (st' := [.int p0]) (by decide +kernel) rfl ?_
    have e9 := Option.some.inj hf
    subst e9
    exact CW.iret rfl (by decide +kernel)
def fc_X3_readPerson (p0 : Nat) (p1 : Nat) (S : cT) : Option (cT) := (fc_X2_lastFace p1 S).bind fun q1 => (fc_X10_takeNumber p0 0 q1 S).bind fun q2 => (fc_X10_takeNumber p0 0 99 q2.2).bind fun q3 => if (q3.2.1 p0 7) = 0 then (if 8 ≤ (q3.2.1 p1 9) then (some q3.2) else (bif inb (q3.2.1 p1 9) 8 then (letv (ca q3.2 (p1 + 1) ((q3.2.1 p1 9) : Int32).toNatClampNeg q2.1) fun S7 => bif inb (S7.1 p1 9) 8 then (letv (ca S7 (p1 + 2) ((S7.1 p1 9) : Int32).toNatClampNeg q3.1) fun S9 => letv (ca S9 p1 9 ((S9.1 p1 9) + 1)) fun S10 => some S10) else none) else none)) else (some q3.2)
theorem xc_X3_readPerson {l : Launch} {p0 : Nat} {p1 : Nat} {S : cT} {q : cT} (h0 : cK p0 = 8) (h1 : cK p1 = 2) (hf : fc_X3_readPerson p0 p1 S = some q) : COk l yy_X3_readPerson 2 [.ref p0, .ref p1] S none q := by
  refine COk.of (ls := [some (.ref p0), some (.ref p1), none, none]) (by decide +kernel) (Nat.le_of_ble_eq_true rfl) rfl ?_
  unfold fc_X3_readPerson at hf
  refine CW.run (blk := [(.aload_n 0, 0), (.iconst 0, 0), (.aload_n 1, 0)]) (pc' := 3) (ls' := [some (.ref p0), some (.ref p1), none, none]) (st' := [.ref p1, .int 0, .ref p0]) (by decide +kernel) rfl ?_
  obtain ⟨q1, hq1, hf⟩ := bd_some hf
  refine CW.callV (As := []) (st := [.int 0, .ref p0]) lv_RX3_57 h1 (by decide) rfl rfl (by decide +kernel) (xc_X2_lastFace h1 hq1) (by decide) (by decide) rfl (Nat.le_of_ble_eq_true rfl) rfl ?_
  show CW l yy_X3_readPerson 2 _ _ 6 [some (.ref p0), some (.ref p1), none, none] [.int q1, .int 0, .ref p0] S
  obtain ⟨q2, hq2, hf⟩ := bd_some hf
  refine CW.callV (As := [.int 0, .int q1]) (st := []) lv_RX3_37 h0 (by decide) rfl rfl (by decide +kernel) (xc_X10_takeNumber h0 hq2) (by decide) (by decide) rfl (Nat.le_of_ble_eq_true rfl) rfl ?_
  show CW l yy_X3_readPerson 2 _ _ 9 [some (.ref p0), some (.ref p1), none, none] [.int q2.1] q2.2
  refine CW.run (blk := [(.istore_n 2, 0), (.aload_n 0, 0), (.iconst 0, 0), (.bipush 99, 99)]) (pc' := 14) (ls' := [some (.ref p0), some (.ref p1), some (.int q2.1), none]) (st' := [.int 99, .int 0, .ref p0]) (by decide +kernel) rfl ?_
  obtain ⟨q3, hq3, hf⟩ := bd_some hf
  refine CW.callV (As := [.int 0, .int 99]) (st := []) lv_RX3_37 h0 (by decide) rfl rfl (by decide +kernel) (xc_X10_takeNumber h0 hq3) (by decide) (by decide) rfl (Nat.le_of_ble_eq_true rfl) rfl ?_
  show CW l yy_X3_readPerson 2 _ _ 17 [some (.ref p0), some (.ref p1), some (.int q2.1), none] [.int q3.1] q3.2
  refine CW.run (blk := [(.istore_n 3, 0), (.aload_n 0, 0)]) (pc' := 19) (ls' := [some (.ref p0), some (.ref p1), some (.int q2.1), some (.int q3.1)]) (st' := [.ref p0]) (by decide +kernel) rfl ?_
  refine CW.getf (v := .int (q3.2.1 p0 7)) h0 (by decide) fl_RX3_61 (by decide +kernel) rfl ?_
  refine CW.if_ne (off := 42) (tgt := 64) (by decide +kernel) (by decide) (fun c22_4 => ?_) (fun c22_4 => ?_)
  · rw [if_neg c22_4] at hf
    have e9 := Option.some.inj hf
    subst e9
    exact CW.vret rfl (by decide +kernel)
  · rw [if_pos c22_4] at hf
    refine CW.run (blk := [(.aload_n 1, 0)]) (pc' := 26) (ls' := [some (.ref p0), some (.ref p1), some (.int q2.1), some (.int q3.1)]) (st' := [.ref p1]) (by decide +kernel) rfl ?_
    refine CW.getf (v := .int (q3.2.1 p1 9)) h1 (by decide) fl_RX3_30 (by decide +kernel) rfl ?_
    refine CW.run (blk := [(.bipush 8, 8)]) (pc' := 31) (ls' := [some (.ref p0), some (.ref p1), some (.int q2.1), some (.int q3.1)]) (st' := [.int 8, .int (q3.2.1 p1 9)]) (by decide +kernel) rfl ?_
    refine CW.icmp_ge (off := 33) (tgt := 64) (by decide +kernel) (by decide) (fun c31_5 => ?_) (fun c31_5 => ?_)
    · rw [if_pos c31_5] at hf
      have e9 := Option.some.inj hf
      subst e9
      exact CW.vret rfl (by decide +kernel)
    · rw [if_neg c31_5] at hf
      refine CW.run (blk := [(.aload_n 1, 0)]) (pc' := 35) (ls' := [some (.ref p0), some (.ref p1), some (.int q2.1), some (.int q3.1)]) (st' := [.ref p1]) (by decide +kernel) rfl ?_
      refine CW.getf (v := .ref (p1 + 1)) h1 (by decide) fl_RX3_64 (by decide +kernel) rfl ?_
      refine CW.run (blk := [(.aload_n 1, 0)]) (pc' := 39) (ls' := [some (.ref p0), some (.ref p1), some (.int q2.1), some (.int q3.1)]) (st' := [.ref p1, .ref (p1 + 1)]) (by decide +kernel) rfl ?_
      refine CW.getf (v := .int (q3.2.1 p1 9)) h1 (by decide) fl_RX3_30 (by decide +kernel) rfl ?_
      refine CW.run (blk := [(.iload_n 2, 0)]) (pc' := 43) (ls' := [some (.ref p0), some (.ref p1), some (.int q2.1), some (.int q3.1)]) (st' := [.int q2.1, .int (q3.2.1 p1 9), .ref (p1 + 1)]) (by decide +kernel) rfl ?_
      obtain ⟨hi6, hf⟩ := bi_some hf
      refine CW.iast (kk_2_0 h1) (kn_2_0 h1) (by decide +kernel) (inb_in hi6) ?_
      obtain ⟨S7, hS7, hf⟩ := letv_some hf
      rw [← hS7]
      refine CW.run (blk := [(.aload_n 1, 0)]) (pc' := 45) (ls' := [some (.ref p0), some (.ref p1), some (.int q2.1), some (.int q3.1)]) (st' := [.ref p1]) (by decide +kernel) rfl ?_
      refine CW.getf (v := .ref (p1 + 2)) h1 (by decide) fl_RX3_68 (by decide +kernel) rfl ?_
      refine CW.run (blk := [(.aload_n 1, 0)]) (pc' := 49) (ls' := [some (.ref p0), some (.ref p1), some (.int q2.1), some (.int q3.1)]) (st' := [.ref p1, .ref (p1 + 2)]) (by decide +kernel) rfl ?_
      refine CW.getf (v := .int (S7.1 p1 9)) h1 (by decide) fl_RX3_30 (by decide +kernel) rfl ?_
      refine CW.run (blk := [(.iload_n 3, 0)]) (pc' := 53) (ls' := [some (.ref p0), some (.ref p1), some (.int q2.1), some (.int q3.1)]) (st' := [.int q3.1, .int (S7.1 p1 9), .ref (p1 + 2)]) (by decide +kernel) rfl ?_
      obtain ⟨hi8, hf⟩ := bi_some hf
      refine CW.iast (kk_2_1 h1) (kn_2_1 h1) (by decide +kernel) (inb_in hi8) ?_
      obtain ⟨S9, hS9, hf⟩ := letv_some hf
      rw [← hS9]
      refine CW.run (blk := [(.aload_n 1, 0), (.dup, 0)]) (pc' := 56) (ls' := [some (.ref p0), some (.ref p1), some (.int q2.1), some (.int q3.1)]) (st' := [.ref p1, .ref p1]) (by decide +kernel) rfl ?_
      refine CW.getf (v := .int (S9.1 p1 9)) h1 (by decide) fl_RX3_30 (by decide +kernel) rfl ?_
      refine CW.run (blk := [(.iconst 1, 1), (.iadd, 0)]) (pc' := 61) (ls' := [some (.ref p0), some (.ref p1), some (.int q2.1), some (.int q3.1)]) (st' := [.int ((S9.1 p1 9) + 1), .ref p1]) (by decide +kernel) rfl ?_
      refine CW.putI h1 (by decide) fp_RX3_30 (by decide +kernel) (fun _ _ _ => Nat.le_of_ble_eq_true rfl) rfl rfl (fun _ _ _ => rfl) ?_
      obtain ⟨S10, hS10, hf⟩ := letv_some hf
      rw [← hS10]
      have e9 := Option.some.inj hf
      subst e9
      exact CW.vret rfl (by decide +kernel)
def fc_X3_takeOther (p0 : Nat) (p1 : Nat) (p2 : Int32) (S : cT) : Option (Int32 × cT) := Option.bind (if (S.1 p0 8) = 258 then (if (S.1 p0 9) = p2 then ((fc_X10_refuse p0 1 S).bind fun q4 => some (q4)) else (some (S))) else (some (S)) : Option (cT)) fun w1 => (fc_X10_takeNumber p0 0 ((w1.1 p1 9) - 1) w1).bind fun q5 => some (q5.1, q5.2)
theorem xc_X3_takeOther {l : Launch} {p0 : Nat} {p1 : Nat} {p2 : Int32} {S : cT} {q : Int32 × cT} (h0 : cK p0 = 8) (h1 : cK p1 = 2) (hf : fc_X3_takeOther p0 p1 p2 S = some q) : COk l yy_X3_takeOther 2 [.ref p0, .ref p1, .int p2] S (some (.int q.1)) q.2 := by
  refine COk.of (ls := [some (.ref p0), some (.ref p1), some (.int p2)]) (by decide +kernel) (Nat.le_of_ble_eq_true rfl) rfl ?_
  unfold fc_X3_takeOther at hf
  refine CW.run (blk := [(.aload_n 0, 0)]) (pc' := 1) (ls' := [some (.ref p0), some (.ref p1), some (.int p2)]) (st' := [.ref p0]) (by decide +kernel) rfl ?_
  refine CW.getf (v := .int (S.1 p0 8)) h0 (by decide) fl_RX3_23 (by decide +kernel) rfl ?_
  refine CW.run (blk := [(.sipush 258, 258)]) (pc' := 7) (ls' := [some (.ref p0), some (.ref p1), some (.int p2)]) (st' := [.int 258, .int (S.1 p0 8)]) (by decide +kernel) rfl ?_
  obtain ⟨w1, hw1, hf⟩ := bd_some hf
  have hJ : CW l yy_X3_takeOther 2 (some (.int q.1)) q.2 23 [some (.ref p0), some (.ref p1), some (.int p2)] [] w1 := by
    refine CW.run (blk := [(.aload_n 0, 0), (.iconst 0, 0), (.aload_n 1, 0)]) (pc' := 26) (ls' := [some (.ref p0), some (.ref p1), some (.int p2)]) (st' := [.ref p1, .int 0, .ref p0]) (by decide +kernel) rfl ?_
    refine CW.getf (v := .int (w1.1 p1 9)) h1 (by decide) fl_RX3_30 (by decide +kernel) rfl ?_
    refine CW.run (blk := [(.iconst 1, 1), (.isub, 0)]) (pc' := 31) (ls' := [some (.ref p0), some (.ref p1), some (.int p2)]) (st' := [.int ((w1.1 p1 9) - 1), .int 0, .ref p0]) (by decide +kernel) rfl ?_
    obtain ⟨q5, hq5, hf⟩ := bd_some hf
    refine CW.callV (As := [.int 0, .int ((w1.1 p1 9) - 1)]) (st := []) lv_RX3_37 h0 (by decide) rfl rfl (by decide +kernel) (xc_X10_takeNumber h0 hq5) (by decide) (by decide) rfl (Nat.le_of_ble_eq_true rfl) rfl ?_
    show CW l yy_X3_takeOther 2 _ _ 34 [some (.ref p0), some (.ref p1), some (.int p2)] [.int q5.1] q5.2
    have e9 := Option.some.inj hf
    subst e9
    exact CW.iret rfl (by decide +kernel)
  clear hf
  refine CW.icmp_ne (off := 16) (tgt := 23) (by decide +kernel) (by decide) (fun c7_2 => ?_) (fun c7_2 => ?_)
  · rw [if_neg c7_2] at hw1
    have e9 := Option.some.inj hw1
    subst e9
    exact hJ
  · rw [if_pos c7_2] at hw1
    refine CW.run (blk := [(.aload_n 0, 0)]) (pc' := 11) (ls' := [some (.ref p0), some (.ref p1), some (.int p2)]) (st' := [.ref p0]) (by decide +kernel) rfl ?_
    refine CW.getf (v := .int (S.1 p0 9)) h0 (by decide) fl_RX3_85 (by decide +kernel) rfl ?_
    refine CW.run (blk := [(.iload_n 2, 0)]) (pc' := 15) (ls' := [some (.ref p0), some (.ref p1), some (.int p2)]) (st' := [.int p2, .int (S.1 p0 9)]) (by decide +kernel) rfl ?_
    refine CW.icmp_ne (off := 8) (tgt := 23) (by decide +kernel) (by decide) (fun c15_3 => ?_) (fun c15_3 => ?_)
    · rw [if_neg c15_3] at hw1
      have e9 := Option.some.inj hw1
      subst e9
      exact hJ
    · rw [if_pos c15_3] at hw1
      refine CW.run (blk := [(.aload_n 0, 0), (.iconst 1, 1)]) (pc' := 20) (ls' := [some (.ref p0), some (.ref p1), some (.int p2)]) (st' := [.int 1, .ref p0]) (by decide +kernel) rfl ?_
      obtain ⟨q4, hq4, hw1⟩ := bd_some hw1
      refine CW.callV (As := [.int 1]) (st := []) lv_RX3_33 h0 (by decide) rfl rfl (by decide +kernel) (xc_X10_refuse h0 hq4) (by decide) (by decide) rfl (Nat.le_of_ble_eq_true rfl) rfl ?_
      show CW l yy_X3_takeOther 2 _ _ 23 [some (.ref p0), some (.ref p1), some (.int p2)] [] q4
      have e9 := Option.some.inj hw1
      subst e9
      exact hJ
def fc_X3_readTie (p0 : Nat) (p1 : Nat) (S : cT) : Option (cT) := (fc_X10_takeNumber p0 0 ((S.1 p1 9) - 1) S).bind fun q1 => (fc_X3_takeOther p0 p1 q1.1 q1.2).bind fun q2 => (fc_X10_takeNumber p0 1 9 q2.2).bind fun q3 => if (q3.2.1 p0 7) = 0 then ((fc_X2_hasTwo p1 q1.1 q2.1 q3.2).bind fun q5 => if (b2i q5) = 0 then (some q3.2) else (bif inb ((q1.1 * 8) + q2.1) 64 then (letv (ca q3.2 (p1 + 5) (((q1.1 * 8) + q2.1) : Int32).toNatClampNeg q3.1) fun S8 => some S8) else none)) else (some q3.2)
theorem xc_X3_readTie {l : Launch} {p0 : Nat} {p1 : Nat} {S : cT} {q : cT} (h0 : cK p0 = 8) (h1 : cK p1 = 2) (hf : fc_X3_readTie p0 p1 S = some q) : COk l yy_X3_readTie 3 [.ref p0, .ref p1] S none q := by
  refine COk.of (ls := [some (.ref p0), some (.ref p1), none, none, none]) (by decide +kernel) (Nat.le_of_ble_eq_true rfl) rfl ?_
  unfold fc_X3_readTie at hf
  refine CW.run (blk := [(.aload_n 0, 0), (.iconst 0, 0), (.aload_n 1, 0)]) (pc' := 3) (ls' := [some (.ref p0), some (.ref p1), none, none, none]) (st' := [.ref p1, .int 0, .ref p0]) (by decide +kernel) rfl ?_
  refine CW.getf (v := .int (S.1 p1 9)) h1 (by decide) fl_RX3_30 (by decide +kernel) rfl ?_
  refine CW.run (blk := [(.iconst 1, 1), (.isub, 0)]) (pc' := 8) (ls' := [some (.ref p0), some (.ref p1), none, none, none]) (st' := [.int ((S.1 p1 9) - 1), .int 0, .ref p0]) (by decide +kernel) rfl ?_
  obtain ⟨q1, hq1, hf⟩ := bd_some hf
  refine CW.callV (As := [.int 0, .int ((S.1 p1 9) - 1)]) (st := []) lv_RX3_37 h0 (by decide) rfl rfl (by decide +kernel) (xc_X10_takeNumber h0 hq1) (by decide) (by decide) rfl (Nat.le_of_ble_eq_true rfl) rfl ?_
  show CW l yy_X3_readTie 3 _ _ 11 [some (.ref p0), some (.ref p1), none, none, none] [.int q1.1] q1.2
  refine CW.run (blk := [(.istore_n 2, 0), (.aload_n 0, 0), (.aload_n 1, 0), (.iload_n 2, 0)]) (pc' := 15) (ls' := [some (.ref p0), some (.ref p1), some (.int q1.1), none, none]) (st' := [.int q1.1, .ref p1, .ref p0]) (by decide +kernel) rfl ?_
  obtain ⟨q2, hq2, hf⟩ := bd_some hf
  refine CW.callS (As := [.ref p0, .ref p1, .int q1.1]) (st := []) lt_RX3_71 (by decide +kernel) (xc_X3_takeOther h0 h1 hq2) (by decide) (by decide) rfl (Nat.le_of_ble_eq_true rfl) rfl ?_
  show CW l yy_X3_readTie 3 _ _ 18 [some (.ref p0), some (.ref p1), some (.int q1.1), none, none] [.int q2.1] q2.2
  refine CW.run (blk := [(.istore_n 3, 0), (.aload_n 0, 0), (.iconst 1, 1), (.bipush 9, 9)]) (pc' := 23) (ls' := [some (.ref p0), some (.ref p1), some (.int q1.1), some (.int q2.1), none]) (st' := [.int 9, .int 1, .ref p0]) (by decide +kernel) rfl ?_
  obtain ⟨q3, hq3, hf⟩ := bd_some hf
  refine CW.callV (As := [.int 1, .int 9]) (st := []) lv_RX3_37 h0 (by decide) rfl rfl (by decide +kernel) (xc_X10_takeNumber h0 hq3) (by decide) (by decide) rfl (Nat.le_of_ble_eq_true rfl) rfl ?_
  show CW l yy_X3_readTie 3 _ _ 26 [some (.ref p0), some (.ref p1), some (.int q1.1), some (.int q2.1), none] [.int q3.1] q3.2
  refine CW.run (blk := [(.istore 4, 0), (.aload_n 0, 0)]) (pc' := 29) (ls' := [some (.ref p0), some (.ref p1), some (.int q1.1), some (.int q2.1), some (.int q3.1)]) (st' := [.ref p0]) (by decide +kernel) rfl ?_
  refine CW.getf (v := .int (q3.2.1 p0 7)) h0 (by decide) fl_RX3_61 (by decide +kernel) rfl ?_
  refine CW.if_ne (off := 25) (tgt := 57) (by decide +kernel) (by decide) (fun c32_4 => ?_) (fun c32_4 => ?_)
  · rw [if_neg c32_4] at hf
    have e9 := Option.some.inj hf
    subst e9
    exact CW.vret rfl (by decide +kernel)
  · rw [if_pos c32_4] at hf
    refine CW.run (blk := [(.aload_n 1, 0), (.iload_n 2, 0), (.iload_n 3, 0)]) (pc' := 38) (ls' := [some (.ref p0), some (.ref p1), some (.int q1.1), some (.int q2.1), some (.int q3.1)]) (st' := [.int q2.1, .int q1.1, .ref p1]) (by decide +kernel) rfl ?_
    obtain ⟨q5, hq5, hf⟩ := bd_some hf
    refine CW.callV (As := [.int q1.1, .int q2.1]) (st := []) lv_RX3_75 h1 (by decide) rfl rfl (by decide +kernel) (xc_X2_hasTwo h1 hq5) (by decide) (by decide) rfl (Nat.le_of_ble_eq_true rfl) rfl ?_
    show CW l yy_X3_readTie 3 _ _ 41 [some (.ref p0), some (.ref p1), some (.int q1.1), some (.int q2.1), some (.int q3.1)] [.int (b2i q5)] q3.2
    refine CW.if_eq (off := 16) (tgt := 57) (by decide +kernel) (by decide) (fun c41_6 => ?_) (fun c41_6 => ?_)
    · rw [if_pos c41_6] at hf
      have e9 := Option.some.inj hf
      subst e9
      exact CW.vret rfl (by decide +kernel)
    · rw [if_neg c41_6] at hf
      refine CW.run (blk := [(.aload_n 1, 0)]) (pc' := 45) (ls' := [some (.ref p0), some (.ref p1), some (.int q1.1), some (.int q2.1), some (.int q3.1)]) (st' := [.ref p1]) (by decide +kernel) rfl ?_
      refine CW.getf (v := .ref (p1 + 5)) h1 (by decide) fl_RX3_79 (by decide +kernel) rfl ?_
      refine CW.run (blk := [(.iload_n 2, 0), (.bipush 8, 8), (.imul, 0), (.iload_n 3, 0), (.iadd, 0), (.iload 4, 0)]) (pc' := 56) (ls' := [some (.ref p0), some (.ref p1), some (.int q1.1), some (.int q2.1), some (.int q3.1)]) (st' := [.int q3.1, .int ((q1.1 * 8) + q2.1), .ref (p1 + 5)]) (by decide +kernel) rfl ?_
      obtain ⟨hi7, hf⟩ := bi_some hf
      refine CW.iast (kk_2_4 h1) (kn_2_4 h1) (by decide +kernel) (inb_in hi7) ?_
      obtain ⟨S8, hS8, hf⟩ := letv_some hf
      rw [← hS8]
      have e9 := Option.some.inj hf
      subst e9
      exact CW.vret rfl (by decide +kernel)
def fc_X3_readBoat (p0 : Nat) (p1 : Nat) (S : cT) : Option (cT) := (fc_X10_takeNumber p0 0 ((S.1 p1 9) - 1) S).bind fun q1 => (fc_X3_takeOther p0 p1 q1.1 q1.2).bind fun q2 => if (q2.2.1 p0 7) = 0 then ((fc_X2_hasTwo p1 q1.1 q2.1 q2.2).bind fun q4 => if (b2i q4) = 0 then (some q2.2) else (bif inb q1.1 8 then (letv (q2.2.1 (p1 + 4) (q1.1 : Int32).toNatClampNeg) fun v6 => bif inb q1.1 8 then (letv (ca q2.2 (p1 + 4) (q1.1 : Int32).toNatClampNeg (v6 ||| ((1 : Int32) <<< (q2.1 &&& 31)))) fun S8 => bif inb q2.1 8 then (letv (S8.1 (p1 + 4) (q2.1 : Int32).toNatClampNeg) fun v9 => bif inb q2.1 8 then (letv (ca S8 (p1 + 4) (q2.1 : Int32).toNatClampNeg (v9 ||| ((1 : Int32) <<< (q1.1 &&& 31)))) fun S11 => some S11) else none) else none) else none) else none)) else (some q2.2)
theorem xc_X3_readBoat {l : Launch} {p0 : Nat} {p1 : Nat} {S : cT} {q : cT} (h0 : cK p0 = 8) (h1 : cK p1 = 2) (hf : fc_X3_readBoat p0 p1 S = some q) : COk l yy_X3_readBoat 3 [.ref p0, .ref p1] S none q := by
  refine COk.of (ls := [some (.ref p0), some (.ref p1), none, none]) (by decide +kernel) (Nat.le_of_ble_eq_true rfl) rfl ?_
  unfold fc_X3_readBoat at hf
  refine CW.run (blk := [(.aload_n 0, 0), (.iconst 0, 0), (.aload_n 1, 0)]) (pc' := 3) (ls' := [some (.ref p0), some (.ref p1), none, none]) (st' := [.ref p1, .int 0, .ref p0]) (by decide +kernel) rfl ?_
  refine CW.getf (v := .int (S.1 p1 9)) h1 (by decide) fl_RX3_30 (by decide +kernel) rfl ?_
  refine CW.run (blk := [(.iconst 1, 1), (.isub, 0)]) (pc' := 8) (ls' := [some (.ref p0), some (.ref p1), none, none]) (st' := [.int ((S.1 p1 9) - 1), .int 0, .ref p0]) (by decide +kernel) rfl ?_
  obtain ⟨q1, hq1, hf⟩ := bd_some hf
  refine CW.callV (As := [.int 0, .int ((S.1 p1 9) - 1)]) (st := []) lv_RX3_37 h0 (by decide) rfl rfl (by decide +kernel) (xc_X10_takeNumber h0 hq1) (by decide) (by decide) rfl (Nat.le_of_ble_eq_true rfl) rfl ?_
  show CW l yy_X3_readBoat 3 _ _ 11 [some (.ref p0), some (.ref p1), none, none] [.int q1.1] q1.2
  refine CW.run (blk := [(.istore_n 2, 0), (.aload_n 0, 0), (.aload_n 1, 0), (.iload_n 2, 0)]) (pc' := 15) (ls' := [some (.ref p0), some (.ref p1), some (.int q1.1), none]) (st' := [.int q1.1, .ref p1, .ref p0]) (by decide +kernel) rfl ?_
  obtain ⟨q2, hq2, hf⟩ := bd_some hf
  refine CW.callS (As := [.ref p0, .ref p1, .int q1.1]) (st := []) lt_RX3_71 (by decide +kernel) (xc_X3_takeOther h0 h1 hq2) (by decide) (by decide) rfl (Nat.le_of_ble_eq_true rfl) rfl ?_
  show CW l yy_X3_readBoat 3 _ _ 18 [some (.ref p0), some (.ref p1), some (.int q1.1), none] [.int q2.1] q2.2
  refine CW.run (blk := [(.istore_n 3, 0), (.aload_n 0, 0)]) (pc' := 20) (ls' := [some (.ref p0), some (.ref p1), some (.int q1.1), some (.int q2.1)]) (st' := [.ref p0]) (by decide +kernel) rfl ?_
  refine CW.getf (v := .int (q2.2.1 p0 7)) h0 (by decide) fl_RX3_61 (by decide +kernel) rfl ?_
  refine CW.if_ne (off := 36) (tgt := 59) (by decide +kernel) (by decide) (fun c23_3 => ?_) (fun c23_3 => ?_)
  · rw [if_neg c23_3] at hf
    have e9 := Option.some.inj hf
    subst e9
    exact CW.vret rfl (by decide +kernel)
  · rw [if_pos c23_3] at hf
    refine CW.run (blk := [(.aload_n 1, 0), (.iload_n 2, 0), (.iload_n 3, 0)]) (pc' := 29) (ls' := [some (.ref p0), some (.ref p1), some (.int q1.1), some (.int q2.1)]) (st' := [.int q2.1, .int q1.1, .ref p1]) (by decide +kernel) rfl ?_
    obtain ⟨q4, hq4, hf⟩ := bd_some hf
    refine CW.callV (As := [.int q1.1, .int q2.1]) (st := []) lv_RX3_75 h1 (by decide) rfl rfl (by decide +kernel) (xc_X2_hasTwo h1 hq4) (by decide) (by decide) rfl (Nat.le_of_ble_eq_true rfl) rfl ?_
    show CW l yy_X3_readBoat 3 _ _ 32 [some (.ref p0), some (.ref p1), some (.int q1.1), some (.int q2.1)] [.int (b2i q4)] q2.2
    refine CW.if_eq (off := 27) (tgt := 59) (by decide +kernel) (by decide) (fun c32_5 => ?_) (fun c32_5 => ?_)
    · rw [if_pos c32_5] at hf
      have e9 := Option.some.inj hf
      subst e9
      exact CW.vret rfl (by decide +kernel)
    · rw [if_neg c32_5] at hf
      refine CW.run (blk := [(.aload_n 1, 0)]) (pc' := 36) (ls' := [some (.ref p0), some (.ref p1), some (.int q1.1), some (.int q2.1)]) (st' := [.ref p1]) (by decide +kernel) rfl ?_
      refine CW.getf (v := .ref (p1 + 4)) h1 (by decide) fl_RX3_82 (by decide +kernel) rfl ?_
      refine CW.run (blk := [(.iload_n 2, 0), (.dup2, 0)]) (pc' := 41) (ls' := [some (.ref p0), some (.ref p1), some (.int q1.1), some (.int q2.1)]) (st' := [.int q1.1, .ref (p1 + 4), .int q1.1, .ref (p1 + 4)]) (by decide +kernel) rfl ?_
      obtain ⟨hi_v6, hf⟩ := bi_some hf
      obtain ⟨v6, hv6, hf⟩ := letv_some hf
      refine CW.iald (kk_2_3 h1) (kn_2_3 h1) (by decide +kernel) (inb_in hi_v6) ?_
      rw [← hv6]
      refine CW.run (blk := [(.iconst 1, 1), (.iload_n 3, 0), (.ishl, 0), (.ior, 0)]) (pc' := 46) (ls' := [some (.ref p0), some (.ref p1), some (.int q1.1), some (.int q2.1)]) (st' := [.int (v6 ||| ((1 : Int32) <<< (q2.1 &&& 31))), .int q1.1, .ref (p1 + 4)]) (by decide +kernel) rfl ?_
      obtain ⟨hi7, hf⟩ := bi_some hf
      refine CW.iast (kk_2_3 h1) (kn_2_3 h1) (by decide +kernel) (inb_in hi7) ?_
      obtain ⟨S8, hS8, hf⟩ := letv_some hf
      rw [← hS8]
      refine CW.run (blk := [(.aload_n 1, 0)]) (pc' := 48) (ls' := [some (.ref p0), some (.ref p1), some (.int q1.1), some (.int q2.1)]) (st' := [.ref p1]) (by decide +kernel) rfl ?_
      refine CW.getf (v := .ref (p1 + 4)) h1 (by decide) fl_RX3_82 (by decide +kernel) rfl ?_
      refine CW.run (blk := [(.iload_n 3, 0), (.dup2, 0)]) (pc' := 53) (ls' := [some (.ref p0), some (.ref p1), some (.int q1.1), some (.int q2.1)]) (st' := [.int q2.1, .ref (p1 + 4), .int q2.1, .ref (p1 + 4)]) (by decide +kernel) rfl ?_
      obtain ⟨hi_v9, hf⟩ := bi_some hf
      obtain ⟨v9, hv9, hf⟩ := letv_some hf
      refine CW.iald (kk_2_3 h1) (kn_2_3 h1) (by decide +kernel) (inb_in hi_v9) ?_
      rw [← hv9]
      refine CW.run (blk := [(.iconst 1, 1), (.iload_n 2, 0), (.ishl, 0), (.ior, 0)]) (pc' := 58) (ls' := [some (.ref p0), some (.ref p1), some (.int q1.1), some (.int q2.1)]) (st' := [.int (v9 ||| ((1 : Int32) <<< (q1.1 &&& 31))), .int q2.1, .ref (p1 + 4)]) (by decide +kernel) rfl ?_
      obtain ⟨hi10, hf⟩ := bi_some hf
      refine CW.iast (kk_2_3 h1) (kn_2_3 h1) (by decide +kernel) (inb_in hi10) ?_
      obtain ⟨S11, hS11, hf⟩ := letv_some hf
      rw [← hS11]
      have e9 := Option.some.inj hf
      subst e9
      exact CW.vret rfl (by decide +kernel)
