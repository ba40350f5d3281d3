/-! ===== the class, method by method (by program) 14 ===== -/
def fc_X11_retell (b : Nat) (p0 : Int32) (p1 : Int32) (p2 : Int32) (S : cT) : Option (Int32 × cT) := bif Nat.beq (cK S.2.2.1) 2 then ((fc_X6_has (S.2.2.1 + 6) p0 S).bind fun q2 => if (b2i q2) = 0 then (some ((-1), S)) else ((fc_X2_isFace S.2.2.1 p2 S).bind fun q4 => if (b2i q4) = 0 then (some ((-1), S)) else ((fc_X11_canTell b S).bind fun q6 => if (b2i q6) = 0 then (some ((-1), S)) else ((fc_X6_at (S.2.2.1 + 6) p0 1 S).bind fun q8 => (fc_X2_hasTwo S.2.2.1 q8 p1 S).bind fun q9 => if (b2i q9) = 0 then (some ((-1), S)) else ((fc_X6_at (S.2.2.1 + 6) p0 2 S).bind fun q11 => (fc_X6_at (S.2.2.1 + 6) p0 3 S).bind fun q12 => (fc_X1_remember (b + 99) S.2.2.1 S).bind fun q13 => bif Nat.beq (cK q13.2.2.1) 2 then ((fc_X2_addTelling q13.2.2.1 q8 p1 q11 (q12 ^^^ p2) p0 q13).bind fun q15 => bif Nat.beq (cK q15.2.2.1) 2 then (letv (ca q15 q15.2.2.1 12 ((q15.1 q15.2.2.1 12) + 1)) fun S17 => bif Nat.beq (cK S17.2.2.1) 2 then (some ((S17.1 (S17.2.2.1 + 6) 3) - 1, S17)) else none) else none) else none))))) else none
theorem xc_X11_retell {l : Launch} {b : Nat} {p0 : Int32} {p1 : Int32} {p2 : Int32} {S : cT} {q : Int32 × cT} (hb : cK b = 9) (hf : fc_X11_retell b p0 p1 p2 S = some q) : COk l yy_X11_retell 3 [.ref b, .int p0, .int p1, .int p2] S (some (.int q.1)) q.2 := by
  refine COk.of (ls := [some (.ref b), some (.int p0), some (.int p1), some (.int p2), none, none, none]) (by decide +kernel) (Nat.le_of_ble_eq_true rfl) rfl ?_
  unfold fc_X11_retell at hf
  refine CW.run (blk := [(.aload_n 0, 0)]) (pc' := 1) (ls' := [some (.ref b), some (.int p0), some (.int p1), some (.int p2), none, none, none]) (st' := [.ref b]) (by decide +kernel) rfl ?_
  refine CW.getf (v := .ref S.2.2.1) hb (by decide) fl_RX11_66 (by decide +kernel) rfl ?_
  obtain ⟨hk1, hf⟩ := bi_some hf
  refine CW.getf (v := .ref (S.2.2.1 + 6)) (Nat.eq_of_beq_eq_true hk1) (by decide) fl_RX11_169 (by decide +kernel) rfl ?_
  refine CW.run (blk := [(.iload_n 1, 0)]) (pc' := 8) (ls' := [some (.ref b), some (.int p0), some (.int p1), some (.int p2), none, none, none]) (st' := [.int p0, .ref (S.2.2.1 + 6)]) (by decide +kernel) rfl ?_
  obtain ⟨q2, hq2, hf⟩ := bd_some hf
  refine CW.callV (As := [.int p0]) (st := []) lv_RX11_173 (kk_2_5 (Nat.eq_of_beq_eq_true hk1)) (by decide) rfl rfl (by decide +kernel) (xc_X6_has (kk_2_5 (Nat.eq_of_beq_eq_true hk1)) hq2) (by decide) (by decide) rfl (Nat.le_of_ble_eq_true rfl) rfl ?_
  show CW l yy_X11_retell 3 _ _ 11 [some (.ref b), some (.int p0), some (.int p1), some (.int p2), none, none, none] [.int (b2i q2)] S
  refine CW.if_eq (off := 21) (tgt := 32) (by decide +kernel) (by decide) (fun c11_3 => ?_) (fun c11_3 => ?_)
  · rw [if_pos c11_3] at hf
    refine CW.run (blk := [(.iconst (-1), (-1))]) (pc' := 33) (ls' := [some (.ref b), some (.int p0), some (.int p1), some (.int p2), none, none, none]) (st' := [.int (-1)]) (by decide +kernel) rfl ?_
    have e9 := Option.some.inj hf
    subst e9
    exact CW.iret rfl (by decide +kernel)
  · rw [if_neg c11_3] at hf
    refine CW.run (blk := [(.aload_n 0, 0)]) (pc' := 15) (ls' := [some (.ref b), some (.int p0), some (.int p1), some (.int p2), none, none, none]) (st' := [.ref b]) (by decide +kernel) rfl ?_
    refine CW.getf (v := .ref S.2.2.1) hb (by decide) fl_RX11_66 (by decide +kernel) rfl ?_
    refine CW.run (blk := [(.iload_n 3, 0)]) (pc' := 19) (ls' := [some (.ref b), some (.int p0), some (.int p1), some (.int p2), none, none, none]) (st' := [.int p2, .ref S.2.2.1]) (by decide +kernel) rfl ?_
    obtain ⟨q4, hq4, hf⟩ := bd_some hf
    refine CW.callV (As := [.int p2]) (st := []) lv_RX11_211 (Nat.eq_of_beq_eq_true hk1) (by decide) rfl rfl (by decide +kernel) (xc_X2_isFace (Nat.eq_of_beq_eq_true hk1) hq4) (by decide) (by decide) rfl (Nat.le_of_ble_eq_true rfl) rfl ?_
    show CW l yy_X11_retell 3 _ _ 22 [some (.ref b), some (.int p0), some (.int p1), some (.int p2), none, none, none] [.int (b2i q4)] S
    refine CW.if_eq (off := 10) (tgt := 32) (by decide +kernel) (by decide) (fun c22_5 => ?_) (fun c22_5 => ?_)
    · rw [if_pos c22_5] at hf
      refine CW.run (blk := [(.iconst (-1), (-1))]) (pc' := 33) (ls' := [some (.ref b), some (.int p0), some (.int p1), some (.int p2), none, none, none]) (st' := [.int (-1)]) (by decide +kernel) rfl ?_
      have e9 := Option.some.inj hf
      subst e9
      exact CW.iret rfl (by decide +kernel)
    · rw [if_neg c22_5] at hf
      refine CW.run (blk := [(.aload_n 0, 0)]) (pc' := 26) (ls' := [some (.ref b), some (.int p0), some (.int p1), some (.int p2), none, none, none]) (st' := [.ref b]) (by decide +kernel) rfl ?_
      obtain ⟨q6, hq6, hf⟩ := bd_some hf
      refine CW.callV (As := []) (st := []) lv_RX11_182 hb (by decide) rfl rfl (by decide +kernel) (xc_X11_canTell hb hq6) (by decide) (by decide) rfl (Nat.le_of_ble_eq_true rfl) rfl ?_
      show CW l yy_X11_retell 3 _ _ 29 [some (.ref b), some (.int p0), some (.int p1), some (.int p2), none, none, none] [.int (b2i q6)] S
      refine CW.if_ne (off := 5) (tgt := 34) (by decide +kernel) (by decide) (fun c29_7 => ?_) (fun c29_7 => ?_)
      · rw [if_neg c29_7] at hf
        refine CW.run (blk := [(.aload_n 0, 0)]) (pc' := 35) (ls' := [some (.ref b), some (.int p0), some (.int p1), some (.int p2), none, none, none]) (st' := [.ref b]) (by decide +kernel) rfl ?_
        refine CW.getf (v := .ref S.2.2.1) hb (by decide) fl_RX11_66 (by decide +kernel) rfl ?_
        refine CW.getf (v := .ref (S.2.2.1 + 6)) (Nat.eq_of_beq_eq_true hk1) (by decide) fl_RX11_169 (by decide +kernel) rfl ?_
        refine CW.run (blk := [(.iload_n 1, 0), (.iconst 1, 1)]) (pc' := 43) (ls' := [some (.ref b), some (.int p0), some (.int p1), some (.int p2), none, none, none]) (st' := [.int 1, .int p0, .ref (S.2.2.1 + 6)]) (by decide +kernel) rfl ?_
        obtain ⟨q8, hq8, hf⟩ := bd_some hf
        refine CW.callV (As := [.int p0, .int 1]) (st := []) lv_RX11_176 (kk_2_5 (Nat.eq_of_beq_eq_true hk1)) (by decide) rfl rfl (by decide +kernel) (xc_X6_at (kk_2_5 (Nat.eq_of_beq_eq_true hk1)) hq8) (by decide) (by decide) rfl (Nat.le_of_ble_eq_true rfl) rfl ?_
        show CW l yy_X11_retell 3 _ _ 46 [some (.ref b), some (.int p0), some (.int p1), some (.int p2), none, none, none] [.int q8] S
        refine CW.run (blk := [(.istore 4, 0), (.aload_n 0, 0)]) (pc' := 49) (ls' := [some (.ref b), some (.int p0), some (.int p1), some (.int p2), some (.int q8), none, none]) (st' := [.ref b]) (by decide +kernel) rfl ?_
        refine CW.getf (v := .ref S.2.2.1) hb (by decide) fl_RX11_66 (by decide +kernel) rfl ?_
        refine CW.run (blk := [(.iload 4, 0), (.iload_n 2, 0)]) (pc' := 55) (ls' := [some (.ref b), some (.int p0), some (.int p1), some (.int p2), some (.int q8), none, none]) (st' := [.int p1, .int q8, .ref S.2.2.1]) (by decide +kernel) rfl ?_
        obtain ⟨q9, hq9, hf⟩ := bd_some hf
        refine CW.callV (As := [.int q8, .int p1]) (st := []) lv_RX11_161 (Nat.eq_of_beq_eq_true hk1) (by decide) rfl rfl (by decide +kernel) (xc_X2_hasTwo (Nat.eq_of_beq_eq_true hk1) hq9) (by decide) (by decide) rfl (Nat.le_of_ble_eq_true rfl) rfl ?_
        show CW l yy_X11_retell 3 _ _ 58 [some (.ref b), some (.int p0), some (.int p1), some (.int p2), some (.int q8), none, none] [.int (b2i q9)] S
        refine CW.if_ne (off := 5) (tgt := 63) (by decide +kernel) (by decide) (fun c58_10 => ?_) (fun c58_10 => ?_)
        · rw [if_neg c58_10] at hf
          refine CW.run (blk := [(.aload_n 0, 0)]) (pc' := 64) (ls' := [some (.ref b), some (.int p0), some (.int p1), some (.int p2), some (.int q8), none, none]) (st' := [.ref b]) (by decide +kernel) rfl ?_
          refine CW.getf (v := .ref S.2.2.1) hb (by decide) fl_RX11_66 (by decide +kernel) rfl ?_
          refine CW.getf (v := .ref (S.2.2.1 + 6)) (Nat.eq_of_beq_eq_true hk1) (by decide) fl_RX11_169 (by decide +kernel) rfl ?_
          refine CW.run (blk := [(.iload_n 1, 0), (.iconst 2, 2)]) (pc' := 72) (ls' := [some (.ref b), some (.int p0), some (.int p1), some (.int p2), some (.int q8), none, none]) (st' := [.int 2, .int p0, .ref (S.2.2.1 + 6)]) (by decide +kernel) rfl ?_
          obtain ⟨q11, hq11, hf⟩ := bd_some hf
          refine CW.callV (As := [.int p0, .int 2]) (st := []) lv_RX11_176 (kk_2_5 (Nat.eq_of_beq_eq_true hk1)) (by decide) rfl rfl (by decide +kernel) (xc_X6_at (kk_2_5 (Nat.eq_of_beq_eq_true hk1)) hq11) (by decide) (by decide) rfl (Nat.le_of_ble_eq_true rfl) rfl ?_
          show CW l yy_X11_retell 3 _ _ 75 [some (.ref b), some (.int p0), some (.int p1), some (.int p2), some (.int q8), none, none] [.int q11] S
          refine CW.run (blk := [(.istore 5, 0), (.aload_n 0, 0)]) (pc' := 78) (ls' := [some (.ref b), some (.int p0), some (.int p1), some (.int p2), some (.int q8), some (.int q11), none]) (st' := [.ref b]) (by decide +kernel) rfl ?_
          refine CW.getf (v := .ref S.2.2.1) hb (by decide) fl_RX11_66 (by decide +kernel) rfl ?_
          refine CW.getf (v := .ref (S.2.2.1 + 6)) (Nat.eq_of_beq_eq_true hk1) (by decide) fl_RX11_169 (by decide +kernel) rfl ?_
          refine CW.run (blk := [(.iload_n 1, 0), (.iconst 3, 3)]) (pc' := 86) (ls' := [some (.ref b), some (.int p0), some (.int p1), some (.int p2), some (.int q8), some (.int q11), none]) (st' := [.int 3, .int p0, .ref (S.2.2.1 + 6)]) (by decide +kernel) rfl ?_
          obtain ⟨q12, hq12, hf⟩ := bd_some hf
          refine CW.callV (As := [.int p0, .int 3]) (st := []) lv_RX11_176 (kk_2_5 (Nat.eq_of_beq_eq_true hk1)) (by decide) rfl rfl (by decide +kernel) (xc_X6_at (kk_2_5 (Nat.eq_of_beq_eq_true hk1)) hq12) (by decide) (by decide) rfl (Nat.le_of_ble_eq_true rfl) rfl ?_
          show CW l yy_X11_retell 3 _ _ 89 [some (.ref b), some (.int p0), some (.int p1), some (.int p2), some (.int q8), some (.int q11), none] [.int q12] S
          refine CW.run (blk := [(.iload_n 3, 0), (.ixor, 0), (.istore 6, 0), (.aload_n 0, 0)]) (pc' := 94) (ls' := [some (.ref b), some (.int p0), some (.int p1), some (.int p2), some (.int q8), some (.int q11), some (.int (q12 ^^^ p2))]) (st' := [.ref b]) (by decide +kernel) rfl ?_
          refine CW.getf (v := .ref (b + 99)) hb (by decide) fl_RX11_41 (by decide +kernel) rfl ?_
          refine CW.run (blk := [(.aload_n 0, 0)]) (pc' := 98) (ls' := [some (.ref b), some (.int p0), some (.int p1), some (.int p2), some (.int q8), some (.int q11), some (.int (q12 ^^^ p2))]) (st' := [.ref b, .ref (b + 99)]) (by decide +kernel) rfl ?_
          refine CW.getf (v := .ref S.2.2.1) hb (by decide) fl_RX11_66 (by decide +kernel) rfl ?_
          obtain ⟨q13, hq13, hf⟩ := bd_some hf
          refine CW.callV (As := [.ref S.2.2.1]) (st := []) lv_RX11_197 (kk_9_5 hb) (by decide) rfl rfl (by decide +kernel) (xc_X1_remember (kk_9_5 hb) (Nat.eq_of_beq_eq_true hk1) hq13) (by decide) (by decide) rfl (Nat.le_of_ble_eq_true rfl) rfl ?_
          show CW l yy_X11_retell 3 _ _ 104 [some (.ref b), some (.int p0), some (.int p1), some (.int p2), some (.int q8), some (.int q11), some (.int (q12 ^^^ p2))] [] q13
          refine CW.run (blk := [(.aload_n 0, 0)]) (pc' := 105) (ls' := [some (.ref b), some (.int p0), some (.int p1), some (.int p2), some (.int q8), some (.int q11), some (.int (q12 ^^^ p2))]) (st' := [.ref b]) (by decide +kernel) rfl ?_
          refine CW.getf (v := .ref q13.2.2.1) hb (by decide) fl_RX11_66 (by decide +kernel) rfl ?_
          obtain ⟨hk14, hf⟩ := bi_some hf
          refine CW.run (blk := [(.iload 4, 0), (.iload_n 2, 0), (.iload 5, 0), (.iload 6, 0), (.iload_n 1, 0)]) (pc' := 116) (ls' := [some (.ref b), some (.int p0), some (.int p1), some (.int p2), some (.int q8), some (.int q11), some (.int (q12 ^^^ p2))]) (st' := [.int p0, .int (q12 ^^^ p2), .int q11, .int p1, .int q8, .ref q13.2.2.1]) (by decide +kernel) rfl ?_
          obtain ⟨q15, hq15, hf⟩ := bd_some hf
          refine CW.callV (As := [.int q8, .int p1, .int q11, .int (q12 ^^^ p2), .int p0]) (st := []) lv_RX11_201 (Nat.eq_of_beq_eq_true hk14) (by decide) rfl rfl (by decide +kernel) (xc_X2_addTelling (Nat.eq_of_beq_eq_true hk14) hq15) (by decide) (by decide) rfl (Nat.le_of_ble_eq_true rfl) rfl ?_
          show CW l yy_X11_retell 3 _ _ 119 [some (.ref b), some (.int p0), some (.int p1), some (.int p2), some (.int q8), some (.int q11), some (.int (q12 ^^^ p2))] [] q15
          refine CW.run (blk := [(.aload_n 0, 0)]) (pc' := 120) (ls' := [some (.ref b), some (.int p0), some (.int p1), some (.int p2), some (.int q8), some (.int q11), some (.int (q12 ^^^ p2))]) (st' := [.ref b]) (by decide +kernel) rfl ?_
          refine CW.getf (v := .ref q15.2.2.1) hb (by decide) fl_RX11_66 (by decide +kernel) rfl ?_
          obtain ⟨hk16, hf⟩ := bi_some hf
          refine CW.run (blk := [(.dup, 0)]) (pc' := 124) (ls' := [some (.ref b), some (.int p0), some (.int p1), some (.int p2), some (.int q8), some (.int q11), some (.int (q12 ^^^ p2))]) (st' := [.ref q15.2.2.1, .ref q15.2.2.1]) (by decide +kernel) rfl ?_
          refine CW.getf (v := .int (q15.1 q15.2.2.1 12)) (Nat.eq_of_beq_eq_true hk16) (by decide) fl_RX11_205 (by decide +kernel) rfl ?_
          refine CW.run (blk := [(.iconst 1, 1), (.iadd, 0)]) (pc' := 129) (ls' := [some (.ref b), some (.int p0), some (.int p1), some (.int p2), some (.int q8), some (.int q11), some (.int (q12 ^^^ p2))]) (st' := [.int ((q15.1 q15.2.2.1 12) + 1), .ref q15.2.2.1]) (by decide +kernel) rfl ?_
          refine CW.putI (Nat.eq_of_beq_eq_true hk16) (by decide) fp_RX11_205 (by decide +kernel) (fun _ _ _ => Nat.le_of_ble_eq_true rfl) rfl rfl (fun _ _ _ => rfl) ?_
          obtain ⟨S17, hS17, hf⟩ := letv_some hf
          rw [← hS17]
          refine CW.run (blk := [(.aload_n 0, 0)]) (pc' := 133) (ls' := [some (.ref b), some (.int p0), some (.int p1), some (.int p2), some (.int q8), some (.int q11), some (.int (q12 ^^^ p2))]) (st' := [.ref b]) (by decide +kernel) rfl ?_
          refine CW.getf (v := .ref S17.2.2.1) hb (by decide) fl_RX11_66 (by decide +kernel) rfl ?_
          obtain ⟨hk18, hf⟩ := bi_some hf
          refine CW.getf (v := .ref (S17.2.2.1 + 6)) (Nat.eq_of_beq_eq_true hk18) (by decide) fl_RX11_169 (by decide +kernel) rfl ?_
          refine CW.getf (v := .int (S17.1 (S17.2.2.1 + 6) 3)) (kk_2_5 (Nat.eq_of_beq_eq_true hk18)) (by decide) fl_RX11_208 (by decide +kernel) rfl ?_
          refine CW.run (blk := [(.iconst 1, 1), (.isub, 0)]) (pc' := 144) (ls' := [some (.ref b), some (.int p0), some (.int p1), some (.int p2), some (.int q8), some (.int q11), some (.int (q12 ^^^ p2))]) (st' := [.int ((S17.1 (S17.2.2.1 + 6) 3) - 1)]) (by decide +kernel) rfl ?_
          have e9 := Option.some.inj hf
          subst e9
          exact CW.iret rfl (by decide +kernel)
        · rw [if_pos c58_10] at hf
          refine CW.run (blk := [(.iconst (-1), (-1))]) (pc' := 62) (ls' := [some (.ref b), some (.int p0), some (.int p1), some (.int p2), some (.int q8), none, none]) (st' := [.int (-1)]) (by decide +kernel) rfl ?_
          have e9 := Option.some.inj hf
          subst e9
          exact CW.iret rfl (by decide +kernel)
      · rw [if_pos c29_7] at hf
        refine CW.run (blk := [(.iconst (-1), (-1))]) (pc' := 33) (ls' := [some (.ref b), some (.int p0), some (.int p1), some (.int p2), none, none, none]) (st' := [.int (-1)]) (by decide +kernel) rfl ?_
        have e9 := Option.some.inj hf
        subst e9
        exact CW.iret rfl (by decide +kernel)
def fc_X11_look (b : Nat) (S : cT) : Option (Int32 × cT) := (fc_X11_canTell b S).bind fun q1 => if (b2i q1) = 0 then (some ((-1), S)) else (bif Nat.beq (cK S.2.2.1) 2 then ((fc_X1_remember (b + 99) S.2.2.1 S).bind fun q4 => bif Nat.beq (cK q4.2.2.1) 2 then ((fc_X2_addLook q4.2.2.1 q4).bind fun q6 => bif Nat.beq (cK q6.2.2.1) 2 then (letv (ca q6 q6.2.2.1 12 ((q6.1 q6.2.2.1 12) + 1)) fun S8 => bif Nat.beq (cK S8.2.2.1) 2 then (some ((S8.1 (S8.2.2.1 + 6) 3) - 1, S8)) else none) else none) else none) else none)
theorem xc_X11_look {l : Launch} {b : Nat} {S : cT} {q : Int32 × cT} (hb : cK b = 9) (hf : fc_X11_look b S = some q) : COk l yy_X11_look 4 [.ref b] S (some (.int q.1)) q.2 := by
  refine COk.of (ls := [some (.ref b)]) (by decide +kernel) (Nat.le_of_ble_eq_true rfl) rfl ?_
  unfold fc_X11_look at hf
  refine CW.run (blk := [(.aload_n 0, 0)]) (pc' := 1) (ls' := [some (.ref b)]) (st' := [.ref b]) (by decide +kernel) rfl ?_
  obtain ⟨q1, hq1, hf⟩ := bd_some hf
  refine CW.callV (As := []) (st := []) lv_RX11_182 hb (by decide) rfl rfl (by decide +kernel) (xc_X11_canTell hb hq1) (by decide) (by decide) rfl (Nat.le_of_ble_eq_true rfl) rfl ?_
  show CW l yy_X11_look 4 _ _ 4 [some (.ref b)] [.int (b2i q1)] S
  refine CW.if_ne (off := 5) (tgt := 9) (by decide +kernel) (by decide) (fun c4_2 => ?_) (fun c4_2 => ?_)
  · rw [if_neg c4_2] at hf
    refine CW.run (blk := [(.aload_n 0, 0)]) (pc' := 10) (ls' := [some (.ref b)]) (st' := [.ref b]) (by decide +kernel) rfl ?_
    refine CW.getf (v := .ref (b + 99)) hb (by decide) fl_RX11_41 (by decide +kernel) rfl ?_
    refine CW.run (blk := [(.aload_n 0, 0)]) (pc' := 14) (ls' := [some (.ref b)]) (st' := [.ref b, .ref (b + 99)]) (by decide +kernel) rfl ?_
    refine CW.getf (v := .ref S.2.2.1) hb (by decide) fl_RX11_66 (by decide +kernel) rfl ?_
    obtain ⟨hk3, hf⟩ := bi_some hf
    obtain ⟨q4, hq4, hf⟩ := bd_some hf
    refine CW.callV (As := [.ref S.2.2.1]) (st := []) lv_RX11_197 (kk_9_5 hb) (by decide) rfl rfl (by decide +kernel) (xc_X1_remember (kk_9_5 hb) (Nat.eq_of_beq_eq_true hk3) hq4) (by decide) (by decide) rfl (Nat.le_of_ble_eq_true rfl) rfl ?_
    show CW l yy_X11_look 4 _ _ 20 [some (.ref b)] [] q4
    refine CW.run (blk := [(.aload_n 0, 0)]) (pc' := 21) (ls' := [some (.ref b)]) (st' := [.ref b]) (by decide +kernel) rfl ?_
    refine CW.getf (v := .ref q4.2.2.1) hb (by decide) fl_RX11_66 (by decide +kernel) rfl ?_
    obtain ⟨hk5, hf⟩ := bi_some hf
    obtain ⟨q6, hq6, hf⟩ := bd_some hf
    refine CW.callV (As := []) (st := []) lv_RX11_214 (Nat.eq_of_beq_eq_true hk5) (by decide) rfl rfl (by decide +kernel) (xc_X2_addLook (Nat.eq_of_beq_eq_true hk5) hq6) (by decide) (by decide) rfl (Nat.le_of_ble_eq_true rfl) rfl ?_
    show CW l yy_X11_look 4 _ _ 27 [some (.ref b)] [] q6
    refine CW.run (blk := [(.aload_n 0, 0)]) (pc' := 28) (ls' := [some (.ref b)]) (st' := [.ref b]) (by decide +kernel) rfl ?_
    refine CW.getf (v := .ref q6.2.2.1) hb (by decide) fl_RX11_66 (by decide +kernel) rfl ?_
    obtain ⟨hk7, hf⟩ := bi_some hf
    refine CW.run (blk := [(.dup, 0)]) (pc' := 32) (ls' := [some (.ref b)]) (st' := [.ref q6.2.2.1, .ref q6.2.2.1]) (by decide +kernel) rfl ?_
    refine CW.getf (v := .int (q6.1 q6.2.2.1 12)) (Nat.eq_of_beq_eq_true hk7) (by decide) fl_RX11_205 (by decide +kernel) rfl ?_
    refine CW.run (blk := [(.iconst 1, 1), (.iadd, 0)]) (pc' := 37) (ls' := [some (.ref b)]) (st' := [.int ((q6.1 q6.2.2.1 12) + 1), .ref q6.2.2.1]) (by decide +kernel) rfl ?_
    refine CW.putI (Nat.eq_of_beq_eq_true hk7) (by decide) fp_RX11_205 (by decide +kernel) (fun _ _ _ => Nat.le_of_ble_eq_true rfl) rfl rfl (fun _ _ _ => rfl) ?_
    obtain ⟨S8, hS8, hf⟩ := letv_some hf
    rw [← hS8]
    refine CW.run (blk := [(.aload_n 0, 0)]) (pc' := 41) (ls' := [some (.ref b)]) (st' := [.ref b]) (by decide +kernel) rfl ?_
    refine CW.getf (v := .ref S8.2.2.1) hb (by decide) fl_RX11_66 (by decide +kernel) rfl ?_
    obtain ⟨hk9, hf⟩ := bi_some hf
    refine CW.getf (v := .ref (S8.2.2.1 + 6)) (Nat.eq_of_beq_eq_true hk9) (by decide) fl_RX11_169 (by decide +kernel) rfl ?_
    refine CW.getf (v := .int (S8.1 (S8.2.2.1 + 6) 3)) (kk_2_5 (Nat.eq_of_beq_eq_true hk9)) (by decide) fl_RX11_208 (by decide +kernel) rfl ?_
    refine CW.run (blk := [(.iconst 1, 1), (.isub, 0)]) (pc' := 52) (ls' := [some (.ref b)]) (st' := [.int ((S8.1 (S8.2.2.1 + 6) 3) - 1)]) (by decide +kernel) rfl ?_
    have e9 := Option.some.inj hf
    subst e9
    exact CW.iret rfl (by decide +kernel)
  · rw [if_pos c4_2] at hf
    refine CW.run (blk := [(.iconst (-1), (-1))]) (pc' := 8) (ls' := [some (.ref b)]) (st' := [.int (-1)]) (by decide +kernel) rfl ?_
    have e9 := Option.some.inj hf
    subst e9
    exact CW.iret rfl (by decide +kernel)
def fc_X11_give (b : Nat) (p0 : Int32) (S : cT) : Option (Int32 × cT) := (fc_X11_canAct b S).bind fun q1 => if (b2i q1) = 0 then (some ((-1), S)) else (bif Nat.beq (cK S.2.2.1) 2 then (if (S.1 S.2.2.1 11) = 0 then ((fc_X2_hasBoat S.2.2.1 (S.1 S.2.2.1 10) p0 S).bind fun q5 => if (b2i q5) = 0 then (some ((-1), S)) else ((fc_X1_remember (b + 99) S.2.2.1 S).bind fun q7 => bif Nat.beq (cK q7.2.2.1) 2 then (letv (ca q7 q7.2.2.1 10 p0) fun S9 => bif Nat.beq (cK S9.2.2.1) 2 then (letv (ca S9 S9.2.2.1 12 ((S9.1 S9.2.2.1 12) + 1)) fun S11 => bif Nat.beq (cK S11.2.2.1) 2 then (some (S11.1 S11.2.2.1 12, S11)) else none) else none) else none)) else (some ((-1), S))) else none)
theorem xc_X11_give {l : Launch} {b : Nat} {p0 : Int32} {S : cT} {q : Int32 × cT} (hb : cK b = 9) (hf : fc_X11_give b p0 S = some q) : COk l yy_X11_give 3 [.ref b, .int p0] S (some (.int q.1)) q.2 := by
  refine COk.of (ls := [some (.ref b), some (.int p0)]) (by decide +kernel) (Nat.le_of_ble_eq_true rfl) rfl ?_
  unfold fc_X11_give at hf
  refine CW.run (blk := [(.aload_n 0, 0)]) (pc' := 1) (ls' := [some (.ref b), some (.int p0)]) (st' := [.ref b]) (by decide +kernel) rfl ?_
  obtain ⟨q1, hq1, hf⟩ := bd_some hf
  refine CW.callV (As := []) (st := []) lv_RX11_217 hb (by decide) rfl rfl (by decide +kernel) (xc_X11_canAct hb hq1) (by decide) (by decide) rfl (Nat.le_of_ble_eq_true rfl) rfl ?_
  show CW l yy_X11_give 3 _ _ 4 [some (.ref b), some (.int p0)] [.int (b2i q1)] S
  refine CW.if_eq (off := 31) (tgt := 35) (by decide +kernel) (by decide) (fun c4_2 => ?_) (fun c4_2 => ?_)
  · rw [if_pos c4_2] at hf
    refine CW.run (blk := [(.iconst (-1), (-1))]) (pc' := 36) (ls' := [some (.ref b), some (.int p0)]) (st' := [.int (-1)]) (by decide +kernel) rfl ?_
    have e9 := Option.some.inj hf
    subst e9
    exact CW.iret rfl (by decide +kernel)
  · rw [if_neg c4_2] at hf
    refine CW.run (blk := [(.aload_n 0, 0)]) (pc' := 8) (ls' := [some (.ref b), some (.int p0)]) (st' := [.ref b]) (by decide +kernel) rfl ?_
    refine CW.getf (v := .ref S.2.2.1) hb (by decide) fl_RX11_66 (by decide +kernel) rfl ?_
    obtain ⟨hk3, hf⟩ := bi_some hf
    refine CW.getf (v := .int (S.1 S.2.2.1 11)) (Nat.eq_of_beq_eq_true hk3) (by decide) fl_RX11_140 (by decide +kernel) rfl ?_
    refine CW.if_ne (off := 21) (tgt := 35) (by decide +kernel) (by decide) (fun c14_4 => ?_) (fun c14_4 => ?_)
    · rw [if_neg c14_4] at hf
      refine CW.run (blk := [(.iconst (-1), (-1))]) (pc' := 36) (ls' := [some (.ref b), some (.int p0)]) (st' := [.int (-1)]) (by decide +kernel) rfl ?_
      have e9 := Option.some.inj hf
      subst e9
      exact CW.iret rfl (by decide +kernel)
    · rw [if_pos c14_4] at hf
      refine CW.run (blk := [(.aload_n 0, 0)]) (pc' := 18) (ls' := [some (.ref b), some (.int p0)]) (st' := [.ref b]) (by decide +kernel) rfl ?_
      refine CW.getf (v := .ref S.2.2.1) hb (by decide) fl_RX11_66 (by decide +kernel) rfl ?_
      refine CW.run (blk := [(.aload_n 0, 0)]) (pc' := 22) (ls' := [some (.ref b), some (.int p0)]) (st' := [.ref b, .ref S.2.2.1]) (by decide +kernel) rfl ?_
      refine CW.getf (v := .ref S.2.2.1) hb (by decide) fl_RX11_66 (by decide +kernel) rfl ?_
      refine CW.getf (v := .int (S.1 S.2.2.1 10)) (Nat.eq_of_beq_eq_true hk3) (by decide) fl_RX11_144 (by decide +kernel) rfl ?_
      refine CW.run (blk := [(.iload_n 1, 0)]) (pc' := 29) (ls' := [some (.ref b), some (.int p0)]) (st' := [.int p0, .int (S.1 S.2.2.1 10), .ref S.2.2.1]) (by decide +kernel) rfl ?_
      obtain ⟨q5, hq5, hf⟩ := bd_some hf
      refine CW.callV (As := [.int (S.1 S.2.2.1 10), .int p0]) (st := []) lv_RX11_220 (Nat.eq_of_beq_eq_true hk3) (by decide) rfl rfl (by decide +kernel) (xc_X2_hasBoat (Nat.eq_of_beq_eq_true hk3) hq5) (by decide) (by decide) rfl (Nat.le_of_ble_eq_true rfl) rfl ?_
      show CW l yy_X11_give 3 _ _ 32 [some (.ref b), some (.int p0)] [.int (b2i q5)] S
      refine CW.if_ne (off := 5) (tgt := 37) (by decide +kernel) (by decide) (fun c32_6 => ?_) (fun c32_6 => ?_)
      · rw [if_neg c32_6] at hf
        refine CW.run (blk := [(.aload_n 0, 0)]) (pc' := 38) (ls' := [some (.ref b), some (.int p0)]) (st' := [.ref b]) (by decide +kernel) rfl ?_
        refine CW.getf (v := .ref (b + 99)) hb (by decide) fl_RX11_41 (by decide +kernel) rfl ?_
        refine CW.run (blk := [(.aload_n 0, 0)]) (pc' := 42) (ls' := [some (.ref b), some (.int p0)]) (st' := [.ref b, .ref (b + 99)]) (by decide +kernel) rfl ?_
        refine CW.getf (v := .ref S.2.2.1) hb (by decide) fl_RX11_66 (by decide +kernel) rfl ?_
        obtain ⟨q7, hq7, hf⟩ := bd_some hf
        refine CW.callV (As := [.ref S.2.2.1]) (st := []) lv_RX11_197 (kk_9_5 hb) (by decide) rfl rfl (by decide +kernel) (xc_X1_remember (kk_9_5 hb) (Nat.eq_of_beq_eq_true hk3) hq7) (by decide) (by decide) rfl (Nat.le_of_ble_eq_true rfl) rfl ?_
        show CW l yy_X11_give 3 _ _ 48 [some (.ref b), some (.int p0)] [] q7
        refine CW.run (blk := [(.aload_n 0, 0)]) (pc' := 49) (ls' := [some (.ref b), some (.int p0)]) (st' := [.ref b]) (by decide +kernel) rfl ?_
        refine CW.getf (v := .ref q7.2.2.1) hb (by decide) fl_RX11_66 (by decide +kernel) rfl ?_
        obtain ⟨hk8, hf⟩ := bi_some hf
        refine CW.run (blk := [(.iload_n 1, 0)]) (pc' := 53) (ls' := [some (.ref b), some (.int p0)]) (st' := [.int p0, .ref q7.2.2.1]) (by decide +kernel) rfl ?_
        refine CW.putI (Nat.eq_of_beq_eq_true hk8) (by decide) fp_RX11_144 (by decide +kernel) (fun _ _ _ => Nat.le_of_ble_eq_true rfl) rfl rfl (fun _ _ _ => rfl) ?_
        obtain ⟨S9, hS9, hf⟩ := letv_some hf
        rw [← hS9]
        refine CW.run (blk := [(.aload_n 0, 0)]) (pc' := 57) (ls' := [some (.ref b), some (.int p0)]) (st' := [.ref b]) (by decide +kernel) rfl ?_
        refine CW.getf (v := .ref S9.2.2.1) hb (by decide) fl_RX11_66 (by decide +kernel) rfl ?_
        obtain ⟨hk10, hf⟩ := bi_some hf
        refine CW.run (blk := [(.dup, 0)]) (pc' := 61) (ls' := [some (.ref b), some (.int p0)]) (st' := [.ref S9.2.2.1, .ref S9.2.2.1]) (by decide +kernel) rfl ?_
        refine CW.getf (v := .int (S9.1 S9.2.2.1 12)) (Nat.eq_of_beq_eq_true hk10) (by decide) fl_RX11_205 (by decide +kernel) rfl ?_
        refine CW.run (blk := [(.iconst 1, 1), (.iadd, 0)]) (pc' := 66) (ls' := [some (.ref b), some (.int p0)]) (st' := [.int ((S9.1 S9.2.2.1 12) + 1), .ref S9.2.2.1]) (by decide +kernel) rfl ?_
        refine CW.putI (Nat.eq_of_beq_eq_true hk10) (by decide) fp_RX11_205 (by decide +kernel) (fun _ _ _ => Nat.le_of_ble_eq_true rfl) rfl rfl (fun _ _ _ => rfl) ?_
        obtain ⟨S11, hS11, hf⟩ := letv_some hf
        rw [← hS11]
        refine CW.run (blk := [(.aload_n 0, 0)]) (pc' := 70) (ls' := [some (.ref b), some (.int p0)]) (st' := [.ref b]) (by decide +kernel) rfl ?_
        refine CW.getf (v := .ref S11.2.2.1) hb (by decide) fl_RX11_66 (by decide +kernel) rfl ?_
        obtain ⟨hk12, hf⟩ := bi_some hf
        refine CW.getf (v := .int (S11.1 S11.2.2.1 12)) (Nat.eq_of_beq_eq_true hk12) (by decide) fl_RX11_205 (by decide +kernel) rfl ?_
        have e9 := Option.some.inj hf
        subst e9
        exact CW.iret rfl (by decide +kernel)
      · rw [if_pos c32_6] at hf
        refine CW.run (blk := [(.iconst (-1), (-1))]) (pc' := 36) (ls' := [some (.ref b), some (.int p0)]) (st' := [.int (-1)]) (by decide +kernel) rfl ?_
        have e9 := Option.some.inj hf
        subst e9
        exact CW.iret rfl (by decide +kernel)
def fc_X11_save (b : Nat) (S : cT) : Option (Int32 × cT) := (fc_X11_canAct b S).bind fun q1 => if (b2i q1) = 0 then (some ((-1), S)) else (bif Nat.beq (cK S.2.2.1) 2 then ((fc_X2_has S.2.2.1 (S.1 S.2.2.1 10) S).bind fun q4 => if (b2i q4) = 0 then (some ((-1), S)) else ((fc_X1_remember (b + 99) S.2.2.1 S).bind fun q6 => bif Nat.beq (cK q6.2.2.1) 2 then (bif inb (q6.1 q6.2.2.1 10) 8 then (letv (q6.1 (q6.2.2.1 + 3) ((q6.1 q6.2.2.1 10) : Int32).toNatClampNeg) fun v8 => bif inb (q6.1 q6.2.2.1 10) 8 then (letv (ca q6 (q6.2.2.1 + 3) ((q6.1 q6.2.2.1 10) : Int32).toNatClampNeg (v8 + 1)) fun S10 => bif Nat.beq (cK S10.2.2.1) 2 then (letv (ca S10 S10.2.2.1 12 ((S10.1 S10.2.2.1 12) + 1)) fun S12 => bif Nat.beq (cK S12.2.2.1) 2 then (bif inb (S12.1 S12.2.2.1 10) 8 then (letv (S12.1 (S12.2.2.1 + 3) ((S12.1 S12.2.2.1 10) : Int32).toNatClampNeg) fun v14 => some (v14, S12)) else none) else none) else none) else none) else none) else none)) else none)
theorem xc_X11_save {l : Launch} {b : Nat} {S : cT} {q : Int32 × cT} (hb : cK b = 9) (hf : fc_X11_save b S = some q) : COk l yy_X11_save 3 [.ref b] S (some (.int q.1)) q.2 := by
  refine COk.of (ls := [some (.ref b)]) (by decide +kernel) (Nat.le_of_ble_eq_true rfl) rfl ?_
  unfold fc_X11_save at hf
  refine CW.run (blk := [(.aload_n 0, 0)]) (pc' := 1) (ls' := [some (.ref b)]) (st' := [.ref b]) (by decide +kernel) rfl ?_
  obtain ⟨q1, hq1, hf⟩ := bd_some hf
  refine CW.callV (As := []) (st := []) lv_RX11_217 hb (by decide) rfl rfl (by decide +kernel) (xc_X11_canAct hb hq1) (by decide) (by decide) rfl (Nat.le_of_ble_eq_true rfl) rfl ?_
  show CW l yy_X11_save 3 _ _ 4 [some (.ref b)] [.int (b2i q1)] S
  refine CW.if_eq (off := 20) (tgt := 24) (by decide +kernel) (by decide) (fun c4_2 => ?_) (fun c4_2 => ?_)
  · rw [if_pos c4_2] at hf
    refine CW.run (blk := [(.iconst (-1), (-1))]) (pc' := 25) (ls' := [some (.ref b)]) (st' := [.int (-1)]) (by decide +kernel) rfl ?_
    have e9 := Option.some.inj hf
    subst e9
    exact CW.iret rfl (by decide +kernel)
  · rw [if_neg c4_2] at hf
    refine CW.run (blk := [(.aload_n 0, 0)]) (pc' := 8) (ls' := [some (.ref b)]) (st' := [.ref b]) (by decide +kernel) rfl ?_
    refine CW.getf (v := .ref S.2.2.1) hb (by decide) fl_RX11_66 (by decide +kernel) rfl ?_
    obtain ⟨hk3, hf⟩ := bi_some hf
    refine CW.run (blk := [(.aload_n 0, 0)]) (pc' := 12) (ls' := [some (.ref b)]) (st' := [.ref b, .ref S.2.2.1]) (by decide +kernel) rfl ?_
    refine CW.getf (v := .ref S.2.2.1) hb (by decide) fl_RX11_66 (by decide +kernel) rfl ?_
    refine CW.getf (v := .int (S.1 S.2.2.1 10)) (Nat.eq_of_beq_eq_true hk3) (by decide) fl_RX11_144 (by decide +kernel) rfl ?_
    obtain ⟨q4, hq4, hf⟩ := bd_some hf
    refine CW.callV (As := [.int (S.1 S.2.2.1 10)]) (st := []) lv_RX11_114 (Nat.eq_of_beq_eq_true hk3) (by decide) rfl rfl (by decide +kernel) (xc_X2_has (Nat.eq_of_beq_eq_true hk3) hq4) (by decide) (by decide) rfl (Nat.le_of_ble_eq_true rfl) rfl ?_
    show CW l yy_X11_save 3 _ _ 21 [some (.ref b)] [.int (b2i q4)] S
    refine CW.if_ne (off := 5) (tgt := 26) (by decide +kernel) (by decide) (fun c21_5 => ?_) (fun c21_5 => ?_)
    · rw [if_neg c21_5] at hf
      refine CW.run (blk := [(.aload_n 0, 0)]) (pc' := 27) (ls' := [some (.ref b)]) (st' := [.ref b]) (by decide +kernel) rfl ?_
      refine CW.getf (v := .ref (b + 99)) hb (by decide) fl_RX11_41 (by decide +kernel) rfl ?_
      refine CW.run (blk := [(.aload_n 0, 0)]) (pc' := 31) (ls' := [some (.ref b)]) (st' := [.ref b, .ref (b + 99)]) (by decide +kernel) rfl ?_
      refine CW.getf (v := .ref S.2.2.1) hb (by decide) fl_RX11_66 (by decide +kernel) rfl ?_
      obtain ⟨q6, hq6, hf⟩ := bd_some hf
      refine CW.callV (As := [.ref S.2.2.1]) (st := []) lv_RX11_197 (kk_9_5 hb) (by decide) rfl rfl (by decide +kernel) (xc_X1_remember (kk_9_5 hb) (Nat.eq_of_beq_eq_true hk3) hq6) (by decide) (by decide) rfl (Nat.le_of_ble_eq_true rfl) rfl ?_
      show CW l yy_X11_save 3 _ _ 37 [some (.ref b)] [] q6
      refine CW.run (blk := [(.aload_n 0, 0)]) (pc' := 38) (ls' := [some (.ref b)]) (st' := [.ref b]) (by decide +kernel) rfl ?_
      refine CW.getf (v := .ref q6.2.2.1) hb (by decide) fl_RX11_66 (by decide +kernel) rfl ?_
      obtain ⟨hk7, hf⟩ := bi_some hf
      refine CW.getf (v := .ref (q6.2.2.1 + 3)) (Nat.eq_of_beq_eq_true hk7) (by decide) fl_RX11_123 (by decide +kernel) rfl ?_
      refine CW.run (blk := [(.aload_n 0, 0)]) (pc' := 45) (ls' := [some (.ref b)]) (st' := [.ref b, .ref (q6.2.2.1 + 3)]) (by decide +kernel) rfl ?_
      refine CW.getf (v := .ref q6.2.2.1) hb (by decide) fl_RX11_66 (by decide +kernel) rfl ?_
      refine CW.getf (v := .int (q6.1 q6.2.2.1 10)) (Nat.eq_of_beq_eq_true hk7) (by decide) fl_RX11_144 (by decide +kernel) rfl ?_
      refine CW.run (blk := [(.dup2, 0)]) (pc' := 52) (ls' := [some (.ref b)]) (st' := [.int (q6.1 q6.2.2.1 10), .ref (q6.2.2.1 + 3), .int (q6.1 q6.2.2.1 10), .ref (q6.2.2.1 + 3)]) (by decide +kernel) rfl ?_
      obtain ⟨hi_v8, hf⟩ := bi_some hf
      obtain ⟨v8, hv8, hf⟩ := letv_some hf
      refine CW.iald (kk_2_2 (Nat.eq_of_beq_eq_true hk7)) (kn_2_2 (Nat.eq_of_beq_eq_true hk7)) (by decide +kernel) (inb_in hi_v8) ?_
      rw [← hv8]
      refine CW.run (blk := [(.iconst 1, 1), (.iadd, 0)]) (pc' := 55) (ls' := [some (.ref b)]) (st' := [.int (v8 + 1), .int (q6.1 q6.2.2.1 10), .ref (q6.2.2.1 + 3)]) (by decide +kernel) rfl ?_
      obtain ⟨hi9, hf⟩ := bi_some hf
      refine CW.iast (kk_2_2 (Nat.eq_of_beq_eq_true hk7)) (kn_2_2 (Nat.eq_of_beq_eq_true hk7)) (by decide +kernel) (inb_in hi9) ?_
      obtain ⟨S10, hS10, hf⟩ := letv_some hf
      rw [← hS10]
      refine CW.run (blk := [(.aload_n 0, 0)]) (pc' := 57) (ls' := [some (.ref b)]) (st' := [.ref b]) (by decide +kernel) rfl ?_
      refine CW.getf (v := .ref S10.2.2.1) hb (by decide) fl_RX11_66 (by decide +kernel) rfl ?_
      obtain ⟨hk11, hf⟩ := bi_some hf
      refine CW.run (blk := [(.dup, 0)]) (pc' := 61) (ls' := [some (.ref b)]) (st' := [.ref S10.2.2.1, .ref S10.2.2.1]) (by decide +kernel) rfl ?_
      refine CW.getf (v := .int (S10.1 S10.2.2.1 12)) (Nat.eq_of_beq_eq_true hk11) (by decide) fl_RX11_205 (by decide +kernel) rfl ?_
      refine CW.run (blk := [(.iconst 1, 1), (.iadd, 0)]) (pc' := 66) (ls' := [some (.ref b)]) (st' := [.int ((S10.1 S10.2.2.1 12) + 1), .ref S10.2.2.1]) (by decide +kernel) rfl ?_
      refine CW.putI (Nat.eq_of_beq_eq_true hk11) (by decide) fp_RX11_205 (by decide +kernel) (fun _ _ _ => Nat.le_of_ble_eq_true rfl) rfl rfl (fun _ _ _ => rfl) ?_
      obtain ⟨S12, hS12, hf⟩ := letv_some hf
      rw [← hS12]
      refine CW.run (blk := [(.aload_n 0, 0)]) (pc' := 70) (ls' := [some (.ref b)]) (st' := [.ref b]) (by decide +kernel) rfl ?_
      refine CW.getf (v := .ref S12.2.2.1) hb (by decide) fl_RX11_66 (by decide +kernel) rfl ?_
      obtain ⟨hk13, hf⟩ := bi_some hf
      refine CW.getf (v := .ref (S12.2.2.1 + 3)) (Nat.eq_of_beq_eq_true hk13) (by decide) fl_RX11_123 (by decide +kernel) rfl ?_
      refine CW.run (blk := [(.aload_n 0, 0)]) (pc' := 77) (ls' := [some (.ref b)]) (st' := [.ref b, .ref (S12.2.2.1 + 3)]) (by decide +kernel) rfl ?_
      refine CW.getf (v := .ref S12.2.2.1) hb (by decide) fl_RX11_66 (by decide +kernel) rfl ?_
      refine CW.getf (v := .int (S12.1 S12.2.2.1 10)) (Nat.eq_of_beq_eq_true hk13) (by decide) fl_RX11_144 (by decide +kernel) rfl ?_
      obtain ⟨hi_v14, hf⟩ := bi_some hf
      obtain ⟨v14, hv14, hf⟩ := letv_some hf
      refine CW.iald (kk_2_2 (Nat.eq_of_beq_eq_true hk13)) (kn_2_2 (Nat.eq_of_beq_eq_true hk13)) (by decide +kernel) (inb_in hi_v14) ?_
      rw [← hv14]
      have e9 := Option.some.inj hf
      subst e9
      exact CW.iret rfl (by decide +kernel)
    · rw [if_pos c21_5] at hf
      refine CW.run (blk := [(.iconst (-1), (-1))]) (pc' := 25) (ls' := [some (.ref b)]) (st' := [.int (-1)]) (by decide +kernel) rfl ?_
      have e9 := Option.some.inj hf
      subst e9
      exact CW.iret rfl (by decide +kernel)
def fc_X11_sell (b : Nat) (p0 : Int32) (p1 : Int32) (p2 : Int32) (S : cT) : Option (Int32 × cT) := bif Nat.beq (cK S.2.2.1) 2 then ((fc_X2_hasTwo S.2.2.1 p0 p1 S).bind fun q2 => if (b2i q2) = 0 then (some ((-1), S)) else (bif inb p0 8 then (letv (S.1 (S.2.2.1 + 3) (p0 : Int32).toNatClampNeg) fun v4 => if v4 < 1 then (some ((-1), S)) else (if p2 < 0 then (some ((-1), S)) else (bif inb p1 8 then (letv (S.1 (S.2.2.1 + 2) (p1 : Int32).toNatClampNeg) fun v7 => if p2 ≤ v7 then ((fc_X1_remember (b + 99) S.2.2.1 S).bind fun q9 => bif Nat.beq (cK q9.2.2.1) 2 then (bif inb p0 8 then (letv (q9.1 (q9.2.2.1 + 3) (p0 : Int32).toNatClampNeg) fun v11 => bif inb p0 8 then (letv (ca q9 (q9.2.2.1 + 3) (p0 : Int32).toNatClampNeg (v11 - 1)) fun S13 => bif Nat.beq (cK S13.2.2.1) 2 then (bif inb p1 8 then (letv (S13.1 (S13.2.2.1 + 3) (p1 : Int32).toNatClampNeg) fun v15 => bif inb p1 8 then (letv (ca S13 (S13.2.2.1 + 3) (p1 : Int32).toNatClampNeg (v15 + 1)) fun S17 => bif Nat.beq (cK S17.2.2.1) 2 then (bif inb p0 8 then (letv (S17.1 (S17.2.2.1 + 2) (p0 : Int32).toNatClampNeg) fun v19 => bif inb p0 8 then (letv (ca S17 (S17.2.2.1 + 2) (p0 : Int32).toNatClampNeg (v19 + p2)) fun S21 => bif Nat.beq (cK S21.2.2.1) 2 then (bif inb p1 8 then (letv (S21.1 (S21.2.2.1 + 2) (p1 : Int32).toNatClampNeg) fun v23 => bif inb p1 8 then (letv (ca S21 (S21.2.2.1 + 2) (p1 : Int32).toNatClampNeg (v23 - p2)) fun S25 => bif Nat.beq (cK S25.2.2.1) 2 then (bif inb p1 8 then (letv (S25.1 (S25.2.2.1 + 2) (p1 : Int32).toNatClampNeg) fun v27 => some (v27, S25)) else none) else none) else none) else none) else none) else none) else none) else none) else none) else none) else none) else none) else none) else none) else (some ((-1), S))) else none))) else none)) else none
theorem xc_X11_sell {l : Launch} {b : Nat} {p0 : Int32} {p1 : Int32} {p2 : Int32} {S : cT} {q : Int32 × cT} (hb : cK b = 9) (hf : fc_X11_sell b p0 p1 p2 S = some q) : COk l yy_X11_sell 3 [.ref b, .int p0, .int p1, .int p2] S (some (.int q.1)) q.2 := by
  refine COk.of (ls := [some (.ref b), some (.int p0), some (.int p1), some (.int p2)]) (by decide +kernel) (Nat.le_of_ble_eq_true rfl) rfl ?_
  unfold fc_X11_sell at hf
  refine CW.run (blk := [(.aload_n 0, 0)]) (pc' := 1) (ls' := [some (.ref b), some (.int p0), some (.int p1), some (.int p2)]) (st' := [.ref b]) (by decide +kernel) rfl ?_
  refine CW.getf (v := .ref S.2.2.1) hb (by decide) fl_RX11_66 (by decide +kernel) rfl ?_
  obtain ⟨hk1, hf⟩ := bi_some hf
  refine CW.run (blk := [(.iload_n 1, 0), (.iload_n 2, 0)]) (pc' := 6) (ls' := [some (.ref b), some (.int p0), some (.int p1), some (.int p2)]) (st' := [.int p1, .int p0, .ref S.2.2.1]) (by decide +kernel) rfl ?_
  obtain ⟨q2, hq2, hf⟩ := bd_some hf
  refine CW.callV (As := [.int p0, .int p1]) (st := []) lv_RX11_161 (Nat.eq_of_beq_eq_true hk1) (by decide) rfl rfl (by decide +kernel) (xc_X2_hasTwo (Nat.eq_of_beq_eq_true hk1) hq2) (by decide) (by decide) rfl (Nat.le_of_ble_eq_true rfl) rfl ?_
  show CW l yy_X11_sell 3 _ _ 9 [some (.ref b), some (.int p0), some (.int p1), some (.int p2)] [.int (b2i q2)] S
  refine CW.if_eq (off := 33) (tgt := 42) (by decide +kernel) (by decide) (fun c9_3 => ?_) (fun c9_3 => ?_)
  · rw [if_pos c9_3] at hf
    refine CW.run (blk := [(.iconst (-1), (-1))]) (pc' := 43) (ls' := [some (.ref b), some (.int p0), some (.int p1), some (.int p2)]) (st' := [.int (-1)]) (by decide +kernel) rfl ?_
    have e9 := Option.some.inj hf
    subst e9
    exact CW.iret rfl (by decide +kernel)
  · rw [if_neg c9_3] at hf
    refine CW.run (blk := [(.aload_n 0, 0)]) (pc' := 13) (ls' := [some (.ref b), some (.int p0), some (.int p1), some (.int p2)]) (st' := [.ref b]) (by decide +kernel) rfl ?_
    refine CW.getf (v := .ref S.2.2.1) hb (by decide) fl_RX11_66 (by decide +kernel) rfl ?_
    refine CW.getf (v := .ref (S.2.2.1 + 3)) (Nat.eq_of_beq_eq_true hk1) (by decide) fl_RX11_123 (by decide +kernel) rfl ?_
    refine CW.run (blk := [(.iload_n 1, 0)]) (pc' := 20) (ls' := [some (.ref b), some (.int p0), some (.int p1), some (.int p2)]) (st' := [.int p0, .ref (S.2.2.1 + 3)]) (by decide +kernel) rfl ?_
    obtain ⟨hi_v4, hf⟩ := bi_some hf
    obtain ⟨v4, hv4, hf⟩ := letv_some hf
    refine CW.iald (kk_2_2 (Nat.eq_of_beq_eq_true hk1)) (kn_2_2 (Nat.eq_of_beq_eq_true hk1)) (by decide +kernel) (inb_in hi_v4) ?_
    rw [← hv4]
    refine CW.run (blk := [(.iconst 1, 1)]) (pc' := 22) (ls' := [some (.ref b), some (.int p0), some (.int p1), some (.int p2)]) (st' := [.int 1, .int v4]) (by decide +kernel) rfl ?_
    refine CW.icmp_lt (off := 20) (tgt := 42) (by decide +kernel) (by decide) (fun c22_5 => ?_) (fun c22_5 => ?_)
    · rw [if_pos c22_5] at hf
      refine CW.run (blk := [(.iconst (-1), (-1))]) (pc' := 43) (ls' := [some (.ref b), some (.int p0), some (.int p1), some (.int p2)]) (st' := [.int (-1)]) (by decide +kernel) rfl ?_
      have e9 := Option.some.inj hf
      subst e9
      exact CW.iret rfl (by decide +kernel)
    · rw [if_neg c22_5] at hf
      refine CW.run (blk := [(.iload_n 3, 0)]) (pc' := 26) (ls' := [some (.ref b), some (.int p0), some (.int p1), some (.int p2)]) (st' := [.int p2]) (by decide +kernel) rfl ?_
      refine CW.if_lt (off := 16) (tgt := 42) (by decide +kernel) (by decide) (fun c26_6 => ?_) (fun c26_6 => ?_)
      · rw [if_pos c26_6] at hf
        refine CW.run (blk := [(.iconst (-1), (-1))]) (pc' := 43) (ls' := [some (.ref b), some (.int p0), some (.int p1), some (.int p2)]) (st' := [.int (-1)]) (by decide +kernel) rfl ?_
        have e9 := Option.some.inj hf
        subst e9
        exact CW.iret rfl (by decide +kernel)
      · rw [if_neg c26_6] at hf
        refine CW.run (blk := [(.iload_n 3, 0), (.aload_n 0, 0)]) (pc' := 31) (ls' := [some (.ref b), some (.int p0), some (.int p1), some (.int p2)]) (st' := [.ref b, .int p2]) (by decide +kernel) rfl ?_
        refine CW.getf (v := .ref S.2.2.1) hb (by decide) fl_RX11_66 (by decide +kernel) rfl ?_
        refine CW.getf (v := .ref (S.2.2.1 + 2)) (Nat.eq_of_beq_eq_true hk1) (by decide) fl_RX11_120 (by decide +kernel) rfl ?_
        refine CW.run (blk := [(.iload_n 2, 0)]) (pc' := 38) (ls' := [some (.ref b), some (.int p0), some (.int p1), some (.int p2)]) (st' := [.int p1, .ref (S.2.2.1 + 2), .int p2]) (by decide +kernel) rfl ?_
        obtain ⟨hi_v7, hf⟩ := bi_some hf
        obtain ⟨v7, hv7, hf⟩ := letv_some hf
        refine CW.iald (kk_2_1 (Nat.eq_of_beq_eq_true hk1)) (kn_2_1 (Nat.eq_of_beq_eq_true hk1)) (by decide +kernel) (inb_in hi_v7) ?_
        rw [← hv7]
        refine CW.icmp_le (off := 5) (tgt := 44) (by decide +kernel) (by decide) (fun c39_8 => ?_) (fun c39_8 => ?_)
        · rw [if_pos c39_8] at hf
          refine CW.run (blk := [(.aload_n 0, 0)]) (pc' := 45) (ls' := [some (.ref b), some (.int p0), some (.int p1), some (.int p2)]) (st' := [.ref b]) (by decide +kernel) rfl ?_
          refine CW.getf (v := .ref (b + 99)) hb (by decide) fl_RX11_41 (by decide +kernel) rfl ?_
          refine CW.run (blk := [(.aload_n 0, 0)]) (pc' := 49) (ls' := [some (.ref b), some (.int p0), some (.int p1), some (.int p2)]) (st' := [.ref b, .ref (b + 99)]) (by decide +kernel) rfl ?_
          refine CW.getf (v := .ref S.2.2.1) hb (by decide) fl_RX11_66 (by decide +kernel) rfl ?_
          obtain ⟨q9, hq9, hf⟩ := bd_some hf
          refine CW.callV (As := [.ref S.2.2.1]) (st := []) lv_RX11_197 (kk_9_5 hb) (by decide) rfl rfl (by decide +kernel) (xc_X1_remember (kk_9_5 hb) (Nat.eq_of_beq_eq_true hk1) hq9) (by decide) (by decide) rfl (Nat.le_of_ble_eq_true rfl) rfl ?_
          show CW l yy_X11_sell 3 _ _ 55 [some (.ref b), some (.int p0), some (.int p1), some (.int p2)] [] q9
          refine CW.run (blk := [(.aload_n 0, 0)]) (pc' := 56) (ls' := [some (.ref b), some (.int p0), some (.int p1), some (.int p2)]) (st' := [.ref b]) (by decide +kernel) rfl ?_
          refine CW.getf (v := .ref q9.2.2.1) hb (by decide) fl_RX11_66 (by decide +kernel) rfl ?_
          obtain ⟨hk10, hf⟩ := bi_some hf
          refine CW.getf (v := .ref (q9.2.2.1 + 3)) (Nat.eq_of_beq_eq_true hk10) (by decide) fl_RX11_123 (by decide +kernel) rfl ?_
          refine CW.run (blk := [(.iload_n 1, 0), (.dup2, 0)]) (pc' := 64) (ls' := [some (.ref b), some (.int p0), some (.int p1), some (.int p2)]) (st' := [.int p0, .ref (q9.2.2.1 + 3), .int p0, .ref (q9.2.2.1 + 3)]) (by decide +kernel) rfl ?_
          obtain ⟨hi_v11, hf⟩ := bi_some hf
          obtain ⟨v11, hv11, hf⟩ := letv_some hf
          refine CW.iald (kk_2_2 (Nat.eq_of_beq_eq_true hk10)) (kn_2_2 (Nat.eq_of_beq_eq_true hk10)) (by decide +kernel) (inb_in hi_v11) ?_
          rw [← hv11]
          refine CW.run (blk := [(.iconst 1, 1), (.isub, 0)]) (pc' := 67) (ls' := [some (.ref b), some (.int p0), some (.int p1), some (.int p2)]) (st' := [.int (v11 - 1), .int p0, .ref (q9.2.2.1 + 3)]) (by decide +kernel) rfl ?_
          obtain ⟨hi12, hf⟩ := bi_some hf
          refine CW.iast (kk_2_2 (Nat.eq_of_beq_eq_true hk10)) (kn_2_2 (Nat.eq_of_beq_eq_true hk10)) (by decide +kernel) (inb_in hi12) ?_
          obtain ⟨S13, hS13, hf⟩ := letv_some hf
          rw [← hS13]
          refine CW.run (blk := [(.aload_n 0, 0)]) (pc' := 69) (ls' := [some (.ref b), some (.int p0), some (.int p1), some (.int p2)]) (st' := [.ref b]) (by decide +kernel) rfl ?_
          refine CW.getf (v := .ref S13.2.2.1) hb (by decide) fl_RX11_66 (by decide +kernel) rfl ?_
          obtain ⟨hk14, hf⟩ := bi_some hf
          refine CW.getf (v := .ref (S13.2.2.1 + 3)) (Nat.eq_of_beq_eq_true hk14) (by decide) fl_RX11_123 (by decide +kernel) rfl ?_
          refine CW.run (blk := [(.iload_n 2, 0), (.dup2, 0)]) (pc' := 77) (ls' := [some (.ref b), some (.int p0), some (.int p1), some (.int p2)]) (st' := [.int p1, .ref (S13.2.2.1 + 3), .int p1, .ref (S13.2.2.1 + 3)]) (by decide +kernel) rfl ?_
          obtain ⟨hi_v15, hf⟩ := bi_some hf
          obtain ⟨v15, hv15, hf⟩ := letv_some hf
          refine CW.iald (kk_2_2 (Nat.eq_of_beq_eq_true hk14)) (kn_2_2 (Nat.eq_of_beq_eq_true hk14)) (by decide +kernel) (inb_in hi_v15) ?_
          rw [← hv15]
          refine CW.run (blk := [(.iconst 1, 1), (.iadd, 0)]) (pc' := 80) (ls' := [some (.ref b), some (.int p0), some (.int p1), some (.int p2)]) (st' := [.int (v15 + 1), .int p1, .ref (S13.2.2.1 + 3)]) (by decide +kernel) rfl ?_
          obtain ⟨hi16, hf⟩ := bi_some hf
          refine CW.iast (kk_2_2 (Nat.eq_of_beq_eq_true hk14)) (kn_2_2 (Nat.eq_of_beq_eq_true hk14)) (by decide +kernel) (inb_in hi16) ?_
          obtain ⟨S17, hS17, hf⟩ := letv_some hf
          rw [← hS17]
          refine CW.run (blk := [(.aload_n 0, 0)]) (pc' := 82) (ls' := [some (.ref b), some (.int p0), some (.int p1), some (.int p2)]) (st' := [.ref b]) (by decide +kernel) rfl ?_
          refine CW.getf (v := .ref S17.2.2.1) hb (by decide) fl_RX11_66 (by decide +kernel) rfl ?_
          obtain ⟨hk18, hf⟩ := bi_some hf
          refine CW.getf (v := .ref (S17.2.2.1 + 2)) (Nat.eq_of_beq_eq_true hk18) (by decide) fl_RX11_120 (by decide +kernel) rfl ?_
          refine CW.run (blk := [(.iload_n 1, 0), (.dup2, 0)]) (pc' := 90) (ls' := [some (.ref b), some (.int p0), some (.int p1), some (.int p2)]) (st' := [.int p0, .ref (S17.2.2.1 + 2), .int p0, .ref (S17.2.2.1 + 2)]) (by decide +kernel) rfl ?_
          obtain ⟨hi_v19, hf⟩ := bi_some hf
          obtain ⟨v19, hv19, hf⟩ := letv_some hf
          refine CW.iald (kk_2_1 (Nat.eq_of_beq_eq_true hk18)) (kn_2_1 (Nat.eq_of_beq_eq_true hk18)) (by decide +kernel) (inb_in hi_v19) ?_
          rw [← hv19]
          refine CW.run (blk := [(.iload_n 3, 0), (.iadd, 0)]) (pc' := 93) (ls' := [some (.ref b), some (.int p0), some (.int p1), some (.int p2)]) (st' := [.int (v19 + p2), .int p0, .ref (S17.2.2.1 + 2)]) (by decide +kernel) rfl ?_
          obtain ⟨hi20, hf⟩ := bi_some hf
          refine CW.iast (kk_2_1 (Nat.eq_of_beq_eq_true hk18)) (kn_2_1 (Nat.eq_of_beq_eq_true hk18)) (by decide +kernel) (inb_in hi20) ?_
          obtain ⟨S21, hS21, hf⟩ := letv_some hf
          rw [← hS21]
          refine CW.run (blk := [(.aload_n 0, 0)]) (pc' := 95) (ls' := [some (.ref b), some (.int p0), some (.int p1), some (.int p2)]) (st' := [.ref b]) (by decide +kernel) rfl ?_
          refine CW.getf (v := .ref S21.2.2.1) hb (by decide) fl_RX11_66 (by decide +kernel) rfl ?_
          obtain ⟨hk22, hf⟩ := bi_some hf
          refine CW.getf (v := .ref (S21.2.2.1 + 2)) (Nat.eq_of_beq_eq_true hk22) (by decide) fl_RX11_120 (by decide +kernel) rfl ?_
          refine CW.run (blk := [(.iload_n 2, 0), (.dup2, 0)]) (pc' := 103) (ls' := [some (.ref b), some (.int p0), some (.int p1), some (.int p2)]) (st' := [.int p1, .ref (S21.2.2.1 + 2), .int p1, .ref (S21.2.2.1 + 2)]) (by decide +kernel) rfl ?_
          obtain ⟨hi_v23, hf⟩ := bi_some hf
          obtain ⟨v23, hv23, hf⟩ := letv_some hf
          refine CW.iald (kk_2_1 (Nat.eq_of_beq_eq_true hk22)) (kn_2_1 (Nat.eq_of_beq_eq_true hk22)) (by decide +kernel) (inb_in hi_v23) ?_
          rw [← hv23]
          refine CW.run (blk := [(.iload_n 3, 0), (.isub, 0)]) (pc' := 106) (ls' := [some (.ref b), some (.int p0), some (.int p1), some (.int p2)]) (st' := [.int (v23 - p2), .int p1, .ref (S21.2.2.1 + 2)]) (by decide +kernel) rfl ?_
          obtain ⟨hi24, hf⟩ := bi_some hf
          refine CW.iast (kk_2_1 (Nat.eq_of_beq_eq_true hk22)) (kn_2_1 (Nat.eq_of_beq_eq_true hk22)) (by decide +kernel) (inb_in hi24) ?_
          obtain ⟨S25, hS25, hf⟩ := letv_some hf
          rw [← hS25]
          refine CW.run (blk := [(.aload_n 0, 0)]) (pc' := 108) (ls' := [some (.ref b), some (.int p0), some (.int p1), some (.int p2)]) (st' := [.ref b]) (by decide +kernel) rfl ?_
          refine CW.getf (v := .ref S25.2.2.1) hb (by decide) fl_RX11_66 (by decide +kernel) rfl ?_
          obtain ⟨hk26, hf⟩ := bi_some hf
          refine CW.getf (v := .ref (S25.2.2.1 + 2)) (Nat.eq_of_beq_eq_true hk26) (by decide) fl_RX11_120 (by decide +kernel) rfl ?_
          refine CW.run (blk := [(.iload_n 2, 0)]) (pc' := 115) (ls' := [some (.ref b), some (.int p0), some (.int p1), some (.int p2)]) (st' := [.int p1, .ref (S25.2.2.1 + 2)]) (by decide +kernel) rfl ?_
          obtain ⟨hi_v27, hf⟩ := bi_some hf
          obtain ⟨v27, hv27, hf⟩ := letv_some hf
          refine CW.iald (kk_2_1 (Nat.eq_of_beq_eq_true hk26)) (kn_2_1 (Nat.eq_of_beq_eq_true hk26)) (by decide +kernel) (inb_in hi_v27) ?_
          rw [← hv27]
          have e9 := Option.some.inj hf
          subst e9
          exact CW.iret rfl (by decide +kernel)
        · rw [if_neg c39_8] at hf
          refine CW.run (blk := [(.iconst (-1), (-1))]) (pc' := 43) (ls' := [some (.ref b), some (.int p0), some (.int p1), some (.int p2)]) (st' := [.int (-1)]) (by decide +kernel) rfl ?_
          have e9 := Option.some.inj hf
          subst e9
          exact CW.iret rfl (by decide +kernel)
def fc_X11_spend (b : Nat) (p0 : Int32) (S : cT) : Option (Int32 × cT) := (fc_X11_canAct b S).bind fun q1 => if (b2i q1) = 0 then (some ((-1), S)) else (bif Nat.beq (cK S.2.2.1) 2 then ((fc_X2_has S.2.2.1 p0 S).bind fun q4 => if (b2i q4) = 0 then (some ((-1), S)) else (bif inb p0 8 then (letv (S.1 (S.2.2.1 + 3) (p0 : Int32).toNatClampNeg) fun v6 => if v6 < 1 then (some ((-1), S)) else (if (S.1 S.2.2.1 10) = p0 then (some ((-1), S)) else ((fc_X1_remember (b + 99) S.2.2.1 S).bind fun q9 => bif Nat.beq (cK q9.2.2.1) 2 then (bif inb p0 8 then (letv (q9.1 (q9.2.2.1 + 3) (p0 : Int32).toNatClampNeg) fun v11 => bif inb p0 8 then (letv (ca q9 (q9.2.2.1 + 3) (p0 : Int32).toNatClampNeg (v11 - 1)) fun S13 => bif Nat.beq (cK S13.2.2.1) 2 then (letv (ca S13 S13.2.2.1 10 p0) fun S15 => bif Nat.beq (cK S15.2.2.1) 2 then (letv (ca S15 S15.2.2.1 11 0) fun S17 => bif Nat.beq (cK S17.2.2.1) 2 then (letv (ca S17 S17.2.2.1 12 ((S17.1 S17.2.2.1 12) + 1)) fun S19 => bif Nat.beq (cK S19.2.2.1) 2 then (some (S19.1 S19.2.2.1 12, S19)) else none) else none) else none) else none) else none) else none) else none))) else none)) else none)
theorem xc_X11_spend {l : Launch} {b : Nat} {p0 : Int32} {S : cT} {q : Int32 × cT} (hb : cK b = 9) (hf : fc_X11_spend b p0 S = some q) : COk l yy_X11_spend 3 [.ref b, .int p0] S (some (.int q.1)) q.2 := by
  refine COk.of (ls := [some (.ref b), some (.int p0)]) (by decide +kernel) (Nat.le_of_ble_eq_true rfl) rfl ?_
  unfold fc_X11_spend at hf
  refine CW.run (blk := [(.aload_n 0, 0)]) (pc' := 1) (ls' := [some (.ref b), some (.int p0)]) (st' := [.ref b]) (by decide +kernel) rfl ?_
  obtain ⟨q1, hq1, hf⟩ := bd_some hf
  refine CW.callV (As := []) (st := []) lv_RX11_217 hb (by decide) rfl rfl (by decide +kernel) (xc_X11_canAct hb hq1) (by decide) (by decide) rfl (Nat.le_of_ble_eq_true rfl) rfl ?_
  show CW l yy_X11_spend 3 _ _ 4 [some (.ref b), some (.int p0)] [.int (b2i q1)] S
  refine CW.if_eq (off := 38) (tgt := 42) (by decide +kernel) (by decide) (fun c4_2 => ?_) (fun c4_2 => ?_)
  · rw [if_pos c4_2] at hf
    refine CW.run (blk := [(.iconst (-1), (-1))]) (pc' := 43) (ls' := [some (.ref b), some (.int p0)]) (st' := [.int (-1)]) (by decide +kernel) rfl ?_
    have e9 := Option.some.inj hf
    subst e9
    exact CW.iret rfl (by decide +kernel)
  · rw [if_neg c4_2] at hf
    refine CW.run (blk := [(.aload_n 0, 0)]) (pc' := 8) (ls' := [some (.ref b), some (.int p0)]) (st' := [.ref b]) (by decide +kernel) rfl ?_
    refine CW.getf (v := .ref S.2.2.1) hb (by decide) fl_RX11_66 (by decide +kernel) rfl ?_
    obtain ⟨hk3, hf⟩ := bi_some hf
    refine CW.run (blk := [(.iload_n 1, 0)]) (pc' := 12) (ls' := [some (.ref b), some (.int p0)]) (st' := [.int p0, .ref S.2.2.1]) (by decide +kernel) rfl ?_
    obtain ⟨q4, hq4, hf⟩ := bd_some hf
    refine CW.callV (As := [.int p0]) (st := []) lv_RX11_114 (Nat.eq_of_beq_eq_true hk3) (by decide) rfl rfl (by decide +kernel) (xc_X2_has (Nat.eq_of_beq_eq_true hk3) hq4) (by decide) (by decide) rfl (Nat.le_of_ble_eq_true rfl) rfl ?_
    show CW l yy_X11_spend 3 _ _ 15 [some (.ref b), some (.int p0)] [.int (b2i q4)] S
    refine CW.if_eq (off := 27) (tgt := 42) (by decide +kernel) (by decide) (fun c15_5 => ?_) (fun c15_5 => ?_)
    · rw [if_pos c15_5] at hf
      refine CW.run (blk := [(.iconst (-1), (-1))]) (pc' := 43) (ls' := [some (.ref b), some (.int p0)]) (st' := [.int (-1)]) (by decide +kernel) rfl ?_
      have e9 := Option.some.inj hf
      subst e9
      exact CW.iret rfl (by decide +kernel)
    · rw [if_neg c15_5] at hf
      refine CW.run (blk := [(.aload_n 0, 0)]) (pc' := 19) (ls' := [some (.ref b), some (.int p0)]) (st' := [.ref b]) (by decide +kernel) rfl ?_
      refine CW.getf (v := .ref S.2.2.1) hb (by decide) fl_RX11_66 (by decide +kernel) rfl ?_
      refine CW.getf (v := .ref (S.2.2.1 + 3)) (Nat.eq_of_beq_eq_true hk3) (by decide) fl_RX11_123 (by decide +kernel) rfl ?_
      refine CW.run (blk := [(.iload_n 1, 0)]) (pc' := 26) (ls' := [some (.ref b), some (.int p0)]) (st' := [.int p0, .ref (S.2.2.1 + 3)]) (by decide +kernel) rfl ?_
      obtain ⟨hi_v6, hf⟩ := bi_some hf
      obtain ⟨v6, hv6, hf⟩ := letv_some hf
      refine CW.iald (kk_2_2 (Nat.eq_of_beq_eq_true hk3)) (kn_2_2 (Nat.eq_of_beq_eq_true hk3)) (by decide +kernel) (inb_in hi_v6) ?_
      rw [← hv6]
      refine CW.run (blk := [(.iconst 1, 1)]) (pc' := 28) (ls' := [some (.ref b), some (.int p0)]) (st' := [.int 1, .int v6]) (by decide +kernel) rfl ?_
      refine CW.icmp_lt (off := 14) (tgt := 42) (by decide +kernel) (by decide) (fun c28_7 => ?_) (fun c28_7 => ?_)
      · rw [if_pos c28_7] at hf
        refine CW.run (blk := [(.iconst (-1), (-1))]) (pc' := 43) (ls' := [some (.ref b), some (.int p0)]) (st' := [.int (-1)]) (by decide +kernel) rfl ?_
        have e9 := Option.some.inj hf
        subst e9
        exact CW.iret rfl (by decide +kernel)
      · rw [if_neg c28_7] at hf
        refine CW.run (blk := [(.aload_n 0, 0)]) (pc' := 32) (ls' := [some (.ref b), some (.int p0)]) (st' := [.ref b]) (by decide +kernel) rfl ?_
        refine CW.getf (v := .ref S.2.2.1) hb (by decide) fl_RX11_66 (by decide +kernel) rfl ?_
        refine CW.getf (v := .int (S.1 S.2.2.1 10)) (Nat.eq_of_beq_eq_true hk3) (by decide) fl_RX11_144 (by decide +kernel) rfl ?_
        refine CW.run (blk := [(.iload_n 1, 0)]) (pc' := 39) (ls' := [some (.ref b), some (.int p0)]) (st' := [.int p0, .int (S.1 S.2.2.1 10)]) (by decide +kernel) rfl ?_
        refine CW.icmp_ne (off := 5) (tgt := 44) (by decide +kernel) (by decide) (fun c39_8 => ?_) (fun c39_8 => ?_)
        · rw [if_neg c39_8] at hf
          refine CW.run (blk := [(.aload_n 0, 0)]) (pc' := 45) (ls' := [some (.ref b), some (.int p0)]) (st' := [.ref b]) (by decide +kernel) rfl ?_
          refine CW.getf (v := .ref (b + 99)) hb (by decide) fl_RX11_41 (by decide +kernel) rfl ?_
          refine CW.run (blk := [(.aload_n 0, 0)]) (pc' := 49) (ls' := [some (.ref b), some (.int p0)]) (st' := [.ref b, .ref (b + 99)]) (by decide +kernel) rfl ?_
          refine CW.getf (v := .ref S.2.2.1) hb (by decide) fl_RX11_66 (by decide +kernel) rfl ?_
          obtain ⟨q9, hq9, hf⟩ := bd_some hf
          refine CW.callV (As := [.ref S.2.2.1]) (st := []) lv_RX11_197 (kk_9_5 hb) (by decide) rfl rfl (by decide +kernel) (xc_X1_remember (kk_9_5 hb) (Nat.eq_of_beq_eq_true hk3) hq9) (by decide) (by decide) rfl (Nat.le_of_ble_eq_true rfl) rfl ?_
          show CW l yy_X11_spend 3 _ _ 55 [some (.ref b), some (.int p0)] [] q9
          refine CW.run (blk := [(.aload_n 0, 0)]) (pc' := 56) (ls' := [some (.ref b), some (.int p0)]) (st' := [.ref b]) (by decide +kernel) rfl ?_
          refine CW.getf (v := .ref q9.2.2.1) hb (by decide) fl_RX11_66 (by decide +kernel) rfl ?_
          obtain ⟨hk10, hf⟩ := bi_some hf
          refine CW.getf (v := .ref (q9.2.2.1 + 3)) (Nat.eq_of_beq_eq_true hk10) (by decide) fl_RX11_123 (by decide +kernel) rfl ?_
          refine CW.run (blk := [(.iload_n 1, 0), (.dup2, 0)]) (pc' := 64) (ls' := [some (.ref b), some (.int p0)]) (st' := [.int p0, .ref (q9.2.2.1 + 3), .int p0, .ref (q9.2.2.1 + 3)]) (by decide +kernel) rfl ?_
          obtain ⟨hi_v11, hf⟩ := bi_some hf
          obtain ⟨v11, hv11, hf⟩ := letv_some hf
          refine CW.iald (kk_2_2 (Nat.eq_of_beq_eq_true hk10)) (kn_2_2 (Nat.eq_of_beq_eq_true hk10)) (by decide +kernel) (inb_in hi_v11) ?_
          rw [← hv11]
          refine CW.run (blk := [(.iconst 1, 1), (.isub, 0)]) (pc' := 67) (ls' := [some (.ref b), some (.int p0)]) (st' := [.int (v11 - 1), .int p0, .ref (q9.2.2.1 + 3)]) (by decide +kernel) rfl ?_
          obtain ⟨hi12, hf⟩ := bi_some hf
          refine CW.iast (kk_2_2 (Nat.eq_of_beq_eq_true hk10)) (kn_2_2 (Nat.eq_of_beq_eq_true hk10)) (by decide +kernel) (inb_in hi12) ?_
          obtain ⟨S13, hS13, hf⟩ := letv_some hf
          rw [← hS13]
          refine CW.run (blk := [(.aload_n 0, 0)]) (pc' := 69) (ls' := [some (.ref b), some (.int p0)]) (st' := [.ref b]) (by decide +kernel) rfl ?_
          refine CW.getf (v := .ref S13.2.2.1) hb (by decide) fl_RX11_66 (by decide +kernel) rfl ?_
          obtain ⟨hk14, hf⟩ := bi_some hf
          refine CW.run (blk := [(.iload_n 1, 0)]) (pc' := 73) (ls' := [some (.ref b), some (.int p0)]) (st' := [.int p0, .ref S13.2.2.1]) (by decide +kernel) rfl ?_
          refine CW.putI (Nat.eq_of_beq_eq_true hk14) (by decide) fp_RX11_144 (by decide +kernel) (fun _ _ _ => Nat.le_of_ble_eq_true rfl) rfl rfl (fun _ _ _ => rfl) ?_
          obtain ⟨S15, hS15, hf⟩ := letv_some hf
          rw [← hS15]
          refine CW.run (blk := [(.aload_n 0, 0)]) (pc' := 77) (ls' := [some (.ref b), some (.int p0)]) (st' := [.ref b]) (by decide +kernel) rfl ?_
          refine CW.getf (v := .ref S15.2.2.1) hb (by decide) fl_RX11_66 (by decide +kernel) rfl ?_
          obtain ⟨hk16, hf⟩ := bi_some hf
          refine CW.run (blk := [(.iconst 0, 0)]) (pc' := 81) (ls' := [some (.ref b), some (.int p0)]) (st' := [.int 0, .ref S15.2.2.1]) (by decide +kernel) rfl ?_
          refine CW.putI (Nat.eq_of_beq_eq_true hk16) (by decide) fp_RX11_140 (by decide +kernel) (fun _ _ _ => Nat.le_of_ble_eq_true rfl) rfl rfl (fun _ _ _ => rfl) ?_
          obtain ⟨S17, hS17, hf⟩ := letv_some hf
          rw [← hS17]
          refine CW.run (blk := [(.aload_n 0, 0)]) (pc' := 85) (ls' := [some (.ref b), some (.int p0)]) (st' := [.ref b]) (by decide +kernel) rfl ?_
          refine CW.getf (v := .ref S17.2.2.1) hb (by decide) fl_RX11_66 (by decide +kernel) rfl ?_
          obtain ⟨hk18, hf⟩ := bi_some hf
          refine CW.run (blk := [(.dup, 0)]) (pc' := 89) (ls' := [some (.ref b), some (.int p0)]) (st' := [.ref S17.2.2.1, .ref S17.2.2.1]) (by decide +kernel) rfl ?_
          refine CW.getf (v := .int (S17.1 S17.2.2.1 12)) (Nat.eq_of_beq_eq_true hk18) (by decide) fl_RX11_205 (by decide +kernel) rfl ?_
          refine CW.run (blk := [(.iconst 1, 1), (.iadd, 0)]) (pc' := 94) (ls' := [some (.ref b), some (.int p0)]) (st' := [.int ((S17.1 S17.2.2.1 12) + 1), .ref S17.2.2.1]) (by decide +kernel) rfl ?_
          refine CW.putI (Nat.eq_of_beq_eq_true hk18) (by decide) fp_RX11_205 (by decide +kernel) (fun _ _ _ => Nat.le_of_ble_eq_true rfl) rfl rfl (fun _ _ _ => rfl) ?_
          obtain ⟨S19, hS19, hf⟩ := letv_some hf
          rw [← hS19]
          refine CW.run (blk := [(.aload_n 0, 0)]) (pc' := 98) (ls' := [some (.ref b), some (.int p0)]) (st' := [.ref b]) (by decide +kernel) rfl ?_
          refine CW.getf (v := .ref S19.2.2.1) hb (by decide) fl_RX11_66 (by decide +kernel) rfl ?_
          obtain ⟨hk20, hf⟩ := bi_some hf
          refine CW.getf (v := .int (S19.1 S19.2.2.1 12)) (Nat.eq_of_beq_eq_true hk20) (by decide) fl_RX11_205 (by decide +kernel) rfl ?_
          have e9 := Option.some.inj hf
          subst e9
          exact CW.iret rfl (by decide +kernel)
        · rw [if_pos c39_8] at hf
          refine CW.run (blk := [(.iconst (-1), (-1))]) (pc' := 43) (ls' := [some (.ref b), some (.int p0)]) (st' := [.int (-1)]) (by decide +kernel) rfl ?_
          have e9 := Option.some.inj hf
          subst e9
          exact CW.iret rfl (by decide +kernel)
