/-! ===== the class, method by method (by program) 16 ===== -/
def fc_X11_chain (b : Nat) (p0 : Int32) (p1 : Int32) (S : cT) : Option (Int32) := bif Nat.beq (cK S.2.2.1) 2 then ((fc_X6_has (S.2.2.1 + 6) p0 S).bind fun q2 => if (b2i q2) = 0 then (some (-1)) else (if p1 = 0 then ((fc_X6_at (S.2.2.1 + 6) p0 6 S).bind fun q5 => some (q5 + 1)) else (if p1 = 1 then ((fc_X2_firstOf S.2.2.1 p0 S).bind fun q7 => (fc_X6_at (S.2.2.1 + 6) q7 0 S).bind fun q8 => some q8) else (if p1 = 2 then ((fc_X2_firstOf S.2.2.1 p0 S).bind fun q10 => some q10) else (some (-1)))))) else none
theorem xc_X11_chain {l : Launch} {b : Nat} {p0 : Int32} {p1 : Int32} {S : cT} {q : Int32} (hb : cK b = 9) (hf : fc_X11_chain b p0 p1 S = some q) : COk l yy_X11_chain 3 [.ref b, .int p0, .int p1] S (some (.int q)) S := by
  refine COk.of (ls := [some (.ref b), some (.int p0), some (.int p1)]) (by decide +kernel) (Nat.le_of_ble_eq_true rfl) rfl ?_
  unfold fc_X11_chain at hf
  refine CW.run (blk := [(.aload_n 0, 0)]) (pc' := 1) (ls' := [some (.ref b), some (.int p0), some (.int p1)]) (st' := [.ref b]) (by decide +kernel) rfl ?_
  refine CW.getf (v := .ref S.2.2.1) hb (by decide) fl_RX11_66 (by decide +kernel) rfl ?_
  obtain ⟨hk1, hf⟩ := bi_some hf
  refine CW.getf (v := .ref (S.2.2.1 + 6)) (Nat.eq_of_beq_eq_true hk1) (by decide) fl_RX11_169 (by decide +kernel) rfl ?_
  refine CW.run (blk := [(.iload_n 1, 0)]) (pc' := 8) (ls' := [some (.ref b), some (.int p0), some (.int p1)]) (st' := [.int p0, .ref (S.2.2.1 + 6)]) (by decide +kernel) rfl ?_
  obtain ⟨q2, hq2, hf⟩ := bd_some hf
  refine CW.callV (As := [.int p0]) (st := []) lv_RX11_173 (kk_2_5 (Nat.eq_of_beq_eq_true hk1)) (by decide) rfl rfl (by decide +kernel) (xc_X6_has (kk_2_5 (Nat.eq_of_beq_eq_true hk1)) hq2) (by decide) (by decide) rfl (Nat.le_of_ble_eq_true rfl) rfl ?_
  show CW l yy_X11_chain 3 _ _ 11 [some (.ref b), some (.int p0), some (.int p1)] [.int (b2i q2)] S
  refine CW.if_ne (off := 5) (tgt := 16) (by decide +kernel) (by decide) (fun c11_3 => ?_) (fun c11_3 => ?_)
  · rw [if_neg c11_3] at hf
    refine CW.run (blk := [(.iload_n 2, 0)]) (pc' := 17) (ls' := [some (.ref b), some (.int p0), some (.int p1)]) (st' := [.int p1]) (by decide +kernel) rfl ?_
    by_cases c17_0_4 : p1 = 0
    · rw [if_pos c17_0_4] at hf
      refine CW.tableIn (dflt := 72) (lo := 0) (hi := 2) (offs := #[27, 43, 63]) (len := 27) (off := 27) (tgt := 44) (by decide +kernel) (by rw [c17_0_4]; decide) (by rw [c17_0_4]; decide) (by rw [c17_0_4]; decide) (by decide) ?_
      refine CW.run (blk := [(.aload_n 0, 0)]) (pc' := 45) (ls' := [some (.ref b), some (.int p0), some (.int p1)]) (st' := [.ref b]) (by decide +kernel) rfl ?_
      refine CW.getf (v := .ref S.2.2.1) hb (by decide) fl_RX11_66 (by decide +kernel) rfl ?_
      refine CW.getf (v := .ref (S.2.2.1 + 6)) (Nat.eq_of_beq_eq_true hk1) (by decide) fl_RX11_169 (by decide +kernel) rfl ?_
      refine CW.run (blk := [(.iload_n 1, 0), (.bipush 6, 6)]) (pc' := 54) (ls' := [some (.ref b), some (.int p0), some (.int p1)]) (st' := [.int 6, .int p0, .ref (S.2.2.1 + 6)]) (by decide +kernel) rfl ?_
      obtain ⟨q5, hq5, hf⟩ := bd_some hf
      refine CW.callV (As := [.int p0, .int 6]) (st := []) lv_RX11_176 (kk_2_5 (Nat.eq_of_beq_eq_true hk1)) (by decide) rfl rfl (by decide +kernel) (xc_X6_at (kk_2_5 (Nat.eq_of_beq_eq_true hk1)) hq5) (by decide) (by decide) rfl (Nat.le_of_ble_eq_true rfl) rfl ?_
      show CW l yy_X11_chain 3 _ _ 57 [some (.ref b), some (.int p0), some (.int p1)] [.int q5] S
      refine CW.run (blk := [(.iconst 1, 1), (.iadd, 0)]) (pc' := 59) (ls' := [some (.ref b), some (.int p0), some (.int p1)]) (st' := [.int (q5 + 1)]) (by decide +kernel) rfl ?_
      have e9 := Option.some.inj hf
      subst e9
      exact CW.iret rfl (by decide +kernel)
    rw [if_neg c17_0_4] at hf
    by_cases c17_1_6 : p1 = 1
    · rw [if_pos c17_1_6] at hf
      refine CW.tableIn (dflt := 72) (lo := 0) (hi := 2) (offs := #[27, 43, 63]) (len := 27) (off := 43) (tgt := 60) (by decide +kernel) (by rw [c17_1_6]; decide) (by rw [c17_1_6]; decide) (by rw [c17_1_6]; decide) (by decide) ?_
      refine CW.run (blk := [(.aload_n 0, 0)]) (pc' := 61) (ls' := [some (.ref b), some (.int p0), some (.int p1)]) (st' := [.ref b]) (by decide +kernel) rfl ?_
      refine CW.getf (v := .ref S.2.2.1) hb (by decide) fl_RX11_66 (by decide +kernel) rfl ?_
      refine CW.getf (v := .ref (S.2.2.1 + 6)) (Nat.eq_of_beq_eq_true hk1) (by decide) fl_RX11_169 (by decide +kernel) rfl ?_
      refine CW.run (blk := [(.aload_n 0, 0)]) (pc' := 68) (ls' := [some (.ref b), some (.int p0), some (.int p1)]) (st' := [.ref b, .ref (S.2.2.1 + 6)]) (by decide +kernel) rfl ?_
      refine CW.getf (v := .ref S.2.2.1) hb (by decide) fl_RX11_66 (by decide +kernel) rfl ?_
      refine CW.run (blk := [(.iload_n 1, 0)]) (pc' := 72) (ls' := [some (.ref b), some (.int p0), some (.int p1)]) (st' := [.int p0, .ref S.2.2.1, .ref (S.2.2.1 + 6)]) (by decide +kernel) rfl ?_
      obtain ⟨q7, hq7, hf⟩ := bd_some hf
      refine CW.callV (As := [.int p0]) (st := [.ref (S.2.2.1 + 6)]) lv_RX11_259 (Nat.eq_of_beq_eq_true hk1) (by decide) rfl rfl (by decide +kernel) (xc_X2_firstOf (Nat.eq_of_beq_eq_true hk1) hq7) (by decide) (by decide) rfl (Nat.le_of_ble_eq_true rfl) rfl ?_
      show CW l yy_X11_chain 3 _ _ 75 [some (.ref b), some (.int p0), some (.int p1)] [.int q7, .ref (S.2.2.1 + 6)] S
      refine CW.run (blk := [(.iconst 0, 0)]) (pc' := 76) (ls' := [some (.ref b), some (.int p0), some (.int p1)]) (st' := [.int 0, .int q7, .ref (S.2.2.1 + 6)]) (by decide +kernel) rfl ?_
      obtain ⟨q8, hq8, hf⟩ := bd_some hf
      refine CW.callV (As := [.int q7, .int 0]) (st := []) lv_RX11_176 (kk_2_5 (Nat.eq_of_beq_eq_true hk1)) (by decide) rfl rfl (by decide +kernel) (xc_X6_at (kk_2_5 (Nat.eq_of_beq_eq_true hk1)) hq8) (by decide) (by decide) rfl (Nat.le_of_ble_eq_true rfl) rfl ?_
      show CW l yy_X11_chain 3 _ _ 79 [some (.ref b), some (.int p0), some (.int p1)] [.int q8] S
      have e9 := Option.some.inj hf
      subst e9
      exact CW.iret rfl (by decide +kernel)
    rw [if_neg c17_1_6] at hf
    by_cases c17_2_9 : p1 = 2
    · rw [if_pos c17_2_9] at hf
      refine CW.tableIn (dflt := 72) (lo := 0) (hi := 2) (offs := #[27, 43, 63]) (len := 27) (off := 63) (tgt := 80) (by decide +kernel) (by rw [c17_2_9]; decide) (by rw [c17_2_9]; decide) (by rw [c17_2_9]; decide) (by decide) ?_
      refine CW.run (blk := [(.aload_n 0, 0)]) (pc' := 81) (ls' := [some (.ref b), some (.int p0), some (.int p1)]) (st' := [.ref b]) (by decide +kernel) rfl ?_
      refine CW.getf (v := .ref S.2.2.1) hb (by decide) fl_RX11_66 (by decide +kernel) rfl ?_
      refine CW.run (blk := [(.iload_n 1, 0)]) (pc' := 85) (ls' := [some (.ref b), some (.int p0), some (.int p1)]) (st' := [.int p0, .ref S.2.2.1]) (by decide +kernel) rfl ?_
      obtain ⟨q10, hq10, hf⟩ := bd_some hf
      refine CW.callV (As := [.int p0]) (st := []) lv_RX11_259 (Nat.eq_of_beq_eq_true hk1) (by decide) rfl rfl (by decide +kernel) (xc_X2_firstOf (Nat.eq_of_beq_eq_true hk1) hq10) (by decide) (by decide) rfl (Nat.le_of_ble_eq_true rfl) rfl ?_
      show CW l yy_X11_chain 3 _ _ 88 [some (.ref b), some (.int p0), some (.int p1)] [.int q10] S
      have e9 := Option.some.inj hf
      subst e9
      exact CW.iret rfl (by decide +kernel)
    rw [if_neg c17_2_9] at hf
    refine CW.tableOut (dflt := 72) (lo := 0) (hi := 2) (offs := #[27, 43, 63]) (len := 27) (tgt := 89) (by decide +kernel) (by have := ne_toInt c17_0_4 (k := 0) rfl; have := ne_toInt c17_1_6 (k := 1) rfl; have := ne_toInt c17_2_9 (k := 2) rfl; omega) (by decide) ?_
    refine CW.run (blk := [(.iconst (-1), (-1))]) (pc' := 90) (ls' := [some (.ref b), some (.int p0), some (.int p1)]) (st' := [.int (-1)]) (by decide +kernel) rfl ?_
    have e9 := Option.some.inj hf
    subst e9
    exact CW.iret rfl (by decide +kernel)
  · rw [if_pos c11_3] at hf
    refine CW.run (blk := [(.iconst (-1), (-1))]) (pc' := 15) (ls' := [some (.ref b), some (.int p0), some (.int p1)]) (st' := [.int (-1)]) (by decide +kernel) rfl ?_
    have e9 := Option.some.inj hf
    subst e9
    exact CW.iret rfl (by decide +kernel)
def fc_X11_slip (b : Nat) (p0 : Int32) (p1 : Int32) (S : cT) : Option (Int32) := bif Nat.beq (cK S.2.2.1) 2 then ((fc_X6_has (S.2.2.1 + 6) p0 S).bind fun q2 => if (b2i q2) = 0 then (some (-1)) else ((fc_X2_hasMark S.2.2.1 p1 S).bind fun q4 => if (b2i q4) = 0 then (some (-1)) else ((fc_X2_slippedAt S.2.2.1 p0 p1 S).bind fun q6 => if q6 = (-1) then (some (-2)) else (some q6)))) else none
theorem xc_X11_slip {l : Launch} {b : Nat} {p0 : Int32} {p1 : Int32} {S : cT} {q : Int32} (hb : cK b = 9) (hf : fc_X11_slip b p0 p1 S = some q) : COk l yy_X11_slip 3 [.ref b, .int p0, .int p1] S (some (.int q)) S := by
  refine COk.of (ls := [some (.ref b), some (.int p0), some (.int p1), none]) (by decide +kernel) (Nat.le_of_ble_eq_true rfl) rfl ?_
  unfold fc_X11_slip at hf
  refine CW.run (blk := [(.aload_n 0, 0)]) (pc' := 1) (ls' := [some (.ref b), some (.int p0), some (.int p1), none]) (st' := [.ref b]) (by decide +kernel) rfl ?_
  refine CW.getf (v := .ref S.2.2.1) hb (by decide) fl_RX11_66 (by decide +kernel) rfl ?_
  obtain ⟨hk1, hf⟩ := bi_some hf
  refine CW.getf (v := .ref (S.2.2.1 + 6)) (Nat.eq_of_beq_eq_true hk1) (by decide) fl_RX11_169 (by decide +kernel) rfl ?_
  refine CW.run (blk := [(.iload_n 1, 0)]) (pc' := 8) (ls' := [some (.ref b), some (.int p0), some (.int p1), none]) (st' := [.int p0, .ref (S.2.2.1 + 6)]) (by decide +kernel) rfl ?_
  obtain ⟨q2, hq2, hf⟩ := bd_some hf
  refine CW.callV (As := [.int p0]) (st := []) lv_RX11_173 (kk_2_5 (Nat.eq_of_beq_eq_true hk1)) (by decide) rfl rfl (by decide +kernel) (xc_X6_has (kk_2_5 (Nat.eq_of_beq_eq_true hk1)) hq2) (by decide) (by decide) rfl (Nat.le_of_ble_eq_true rfl) rfl ?_
  show CW l yy_X11_slip 3 _ _ 11 [some (.ref b), some (.int p0), some (.int p1), none] [.int (b2i q2)] S
  refine CW.if_eq (off := 14) (tgt := 25) (by decide +kernel) (by decide) (fun c11_3 => ?_) (fun c11_3 => ?_)
  · rw [if_pos c11_3] at hf
    refine CW.run (blk := [(.iconst (-1), (-1))]) (pc' := 26) (ls' := [some (.ref b), some (.int p0), some (.int p1), none]) (st' := [.int (-1)]) (by decide +kernel) rfl ?_
    have e9 := Option.some.inj hf
    subst e9
    exact CW.iret rfl (by decide +kernel)
  · rw [if_neg c11_3] at hf
    refine CW.run (blk := [(.aload_n 0, 0)]) (pc' := 15) (ls' := [some (.ref b), some (.int p0), some (.int p1), none]) (st' := [.ref b]) (by decide +kernel) rfl ?_
    refine CW.getf (v := .ref S.2.2.1) hb (by decide) fl_RX11_66 (by decide +kernel) rfl ?_
    refine CW.run (blk := [(.iload_n 2, 0)]) (pc' := 19) (ls' := [some (.ref b), some (.int p0), some (.int p1), none]) (st' := [.int p1, .ref S.2.2.1]) (by decide +kernel) rfl ?_
    obtain ⟨q4, hq4, hf⟩ := bd_some hf
    refine CW.callV (As := [.int p1]) (st := []) lv_RX11_150 (Nat.eq_of_beq_eq_true hk1) (by decide) rfl rfl (by decide +kernel) (xc_X2_hasMark (Nat.eq_of_beq_eq_true hk1) hq4) (by decide) (by decide) rfl (Nat.le_of_ble_eq_true rfl) rfl ?_
    show CW l yy_X11_slip 3 _ _ 22 [some (.ref b), some (.int p0), some (.int p1), none] [.int (b2i q4)] S
    refine CW.if_ne (off := 5) (tgt := 27) (by decide +kernel) (by decide) (fun c22_5 => ?_) (fun c22_5 => ?_)
    · rw [if_neg c22_5] at hf
      refine CW.run (blk := [(.aload_n 0, 0)]) (pc' := 28) (ls' := [some (.ref b), some (.int p0), some (.int p1), none]) (st' := [.ref b]) (by decide +kernel) rfl ?_
      refine CW.getf (v := .ref S.2.2.1) hb (by decide) fl_RX11_66 (by decide +kernel) rfl ?_
      refine CW.run (blk := [(.iload_n 1, 0), (.iload_n 2, 0)]) (pc' := 33) (ls' := [some (.ref b), some (.int p0), some (.int p1), none]) (st' := [.int p1, .int p0, .ref S.2.2.1]) (by decide +kernel) rfl ?_
      obtain ⟨q6, hq6, hf⟩ := bd_some hf
      refine CW.callV (As := [.int p0, .int p1]) (st := []) lv_RX11_262 (Nat.eq_of_beq_eq_true hk1) (by decide) rfl rfl (by decide +kernel) (xc_X2_slippedAt (Nat.eq_of_beq_eq_true hk1) hq6) (by decide) (by decide) rfl (Nat.le_of_ble_eq_true rfl) rfl ?_
      show CW l yy_X11_slip 3 _ _ 36 [some (.ref b), some (.int p0), some (.int p1), none] [.int q6] S
      refine CW.run (blk := [(.istore_n 3, 0), (.iload_n 3, 0), (.iconst (-1), (-1))]) (pc' := 39) (ls' := [some (.ref b), some (.int p0), some (.int p1), some (.int q6)]) (st' := [.int (-1), .int q6]) (by decide +kernel) rfl ?_
      refine CW.icmp_ne (off := 8) (tgt := 47) (by decide +kernel) (by decide) (fun c39_7 => ?_) (fun c39_7 => ?_)
      · rw [if_neg c39_7] at hf
        refine CW.run (blk := [(.iload_n 3, 0)]) (pc' := 48) (ls' := [some (.ref b), some (.int p0), some (.int p1), some (.int q6)]) (st' := [.int q6]) (by decide +kernel) rfl ?_
        have e9 := Option.some.inj hf
        subst e9
        exact CW.iret rfl (by decide +kernel)
      · rw [if_pos c39_7] at hf
        refine CW.run (blk := [(.bipush (-2), (-2)), (.goto 4, 0)]) (pc' := 48) (ls' := [some (.ref b), some (.int p0), some (.int p1), some (.int q6)]) (st' := [.int (-2)]) (by decide +kernel) rfl ?_
        have e9 := Option.some.inj hf
        subst e9
        exact CW.iret rfl (by decide +kernel)
    · rw [if_pos c22_5] at hf
      refine CW.run (blk := [(.iconst (-1), (-1))]) (pc' := 26) (ls' := [some (.ref b), some (.int p0), some (.int p1), none]) (st' := [.int (-1)]) (by decide +kernel) rfl ?_
      have e9 := Option.some.inj hf
      subst e9
      exact CW.iret rfl (by decide +kernel)
def fc_X11_wish (b : Nat) (p0 : Int32) (p1 : Int32) (p2 : Int32) (p3 : Int32) (S : cT) : Option (Int32 × cT) := if p0 = (-1) then (bif Nat.beq (cK S.2.2.1) 2 then ((fc_X6_cutTo (S.2.2.1 + 8) 0 S).bind fun q15 => some (0, q15)) else none) else (bif Nat.beq (cK S.2.2.1) 2 then ((fc_X2_has S.2.2.1 p0 S).bind fun q3 => if (b2i q3) = 0 then (some ((-2), S)) else (if p1 < 0 then (some ((-2), S)) else (if p2 < p1 then (some ((-2), S)) else (if p2 < 16 then (if p3 < 1 then (some ((-2), S)) else (if 99 < p3 then (some ((-2), S)) else ((fc_X6_isFull (S.2.2.1 + 8) S).bind fun q10 => if (b2i q10) = 0 then ((fc_X2_addWish S.2.2.1 p0 p1 p2 p3 S).bind fun q12 => bif Nat.beq (cK q12.2.2.1) 2 then (some (q12.1 (q12.2.2.1 + 8) 3, q12)) else none) else (some ((-2), S))))) else (some ((-2), S)))))) else none)
theorem xc_X11_wish {l : Launch} {b : Nat} {p0 : Int32} {p1 : Int32} {p2 : Int32} {p3 : Int32} {S : cT} {q : Int32 × cT} (hb : cK b = 9) (hf : fc_X11_wish b p0 p1 p2 p3 S = some q) : COk l yy_X11_wish 2 [.ref b, .int p0, .int p1, .int p2, .int p3] S (some (.int q.1)) q.2 := by
  refine COk.of (ls := [some (.ref b), some (.int p0), some (.int p1), some (.int p2), some (.int p3)]) (by decide +kernel) (Nat.le_of_ble_eq_true rfl) rfl ?_
  unfold fc_X11_wish at hf
  refine CW.run (blk := [(.iload_n 1, 0), (.iconst (-1), (-1))]) (pc' := 2) (ls' := [some (.ref b), some (.int p0), some (.int p1), some (.int p2), some (.int p3)]) (st' := [.int (-1), .int p0]) (by decide +kernel) rfl ?_
  refine CW.icmp_ne (off := 16) (tgt := 18) (by decide +kernel) (by decide) (fun c2_1 => ?_) (fun c2_1 => ?_)
  · rw [if_neg c2_1] at hf
    refine CW.run (blk := [(.aload_n 0, 0)]) (pc' := 19) (ls' := [some (.ref b), some (.int p0), some (.int p1), some (.int p2), some (.int p3)]) (st' := [.ref b]) (by decide +kernel) rfl ?_
    refine CW.getf (v := .ref S.2.2.1) hb (by decide) fl_RX11_66 (by decide +kernel) rfl ?_
    obtain ⟨hk2, hf⟩ := bi_some hf
    refine CW.run (blk := [(.iload_n 1, 0)]) (pc' := 23) (ls' := [some (.ref b), some (.int p0), some (.int p1), some (.int p2), some (.int p3)]) (st' := [.int p0, .ref S.2.2.1]) (by decide +kernel) rfl ?_
    obtain ⟨q3, hq3, hf⟩ := bd_some hf
    refine CW.callV (As := [.int p0]) (st := []) lv_RX11_114 (Nat.eq_of_beq_eq_true hk2) (by decide) rfl rfl (by decide +kernel) (xc_X2_has (Nat.eq_of_beq_eq_true hk2) hq3) (by decide) (by decide) rfl (Nat.le_of_ble_eq_true rfl) rfl ?_
    show CW l yy_X11_wish 2 _ _ 26 [some (.ref b), some (.int p0), some (.int p1), some (.int p2), some (.int p3)] [.int (b2i q3)] S
    refine CW.if_eq (off := 18) (tgt := 44) (by decide +kernel) (by decide) (fun c26_4 => ?_) (fun c26_4 => ?_)
    · rw [if_pos c26_4] at hf
      refine CW.run (blk := [(.bipush (-2), (-2))]) (pc' := 46) (ls' := [some (.ref b), some (.int p0), some (.int p1), some (.int p2), some (.int p3)]) (st' := [.int (-2)]) (by decide +kernel) rfl ?_
      have e9 := Option.some.inj hf
      subst e9
      exact CW.iret rfl (by decide +kernel)
    · rw [if_neg c26_4] at hf
      refine CW.run (blk := [(.iload_n 2, 0)]) (pc' := 30) (ls' := [some (.ref b), some (.int p0), some (.int p1), some (.int p2), some (.int p3)]) (st' := [.int p1]) (by decide +kernel) rfl ?_
      refine CW.if_lt (off := 14) (tgt := 44) (by decide +kernel) (by decide) (fun c30_5 => ?_) (fun c30_5 => ?_)
      · rw [if_pos c30_5] at hf
        refine CW.run (blk := [(.bipush (-2), (-2))]) (pc' := 46) (ls' := [some (.ref b), some (.int p0), some (.int p1), some (.int p2), some (.int p3)]) (st' := [.int (-2)]) (by decide +kernel) rfl ?_
        have e9 := Option.some.inj hf
        subst e9
        exact CW.iret rfl (by decide +kernel)
      · rw [if_neg c30_5] at hf
        refine CW.run (blk := [(.iload_n 3, 0), (.iload_n 2, 0)]) (pc' := 35) (ls' := [some (.ref b), some (.int p0), some (.int p1), some (.int p2), some (.int p3)]) (st' := [.int p1, .int p2]) (by decide +kernel) rfl ?_
        refine CW.icmp_lt (off := 9) (tgt := 44) (by decide +kernel) (by decide) (fun c35_6 => ?_) (fun c35_6 => ?_)
        · rw [if_pos c35_6] at hf
          refine CW.run (blk := [(.bipush (-2), (-2))]) (pc' := 46) (ls' := [some (.ref b), some (.int p0), some (.int p1), some (.int p2), some (.int p3)]) (st' := [.int (-2)]) (by decide +kernel) rfl ?_
          have e9 := Option.some.inj hf
          subst e9
          exact CW.iret rfl (by decide +kernel)
        · rw [if_neg c35_6] at hf
          refine CW.run (blk := [(.iload_n 3, 0), (.bipush 16, 16)]) (pc' := 41) (ls' := [some (.ref b), some (.int p0), some (.int p1), some (.int p2), some (.int p3)]) (st' := [.int 16, .int p2]) (by decide +kernel) rfl ?_
          refine CW.icmp_lt (off := 6) (tgt := 47) (by decide +kernel) (by decide) (fun c41_7 => ?_) (fun c41_7 => ?_)
          · rw [if_pos c41_7] at hf
            refine CW.run (blk := [(.iload 4, 0), (.iconst 1, 1)]) (pc' := 50) (ls' := [some (.ref b), some (.int p0), some (.int p1), some (.int p2), some (.int p3)]) (st' := [.int 1, .int p3]) (by decide +kernel) rfl ?_
            refine CW.icmp_lt (off := 23) (tgt := 73) (by decide +kernel) (by decide) (fun c50_8 => ?_) (fun c50_8 => ?_)
            · rw [if_pos c50_8] at hf
              refine CW.run (blk := [(.bipush (-2), (-2))]) (pc' := 75) (ls' := [some (.ref b), some (.int p0), some (.int p1), some (.int p2), some (.int p3)]) (st' := [.int (-2)]) (by decide +kernel) rfl ?_
              have e9 := Option.some.inj hf
              subst e9
              exact CW.iret rfl (by decide +kernel)
            · rw [if_neg c50_8] at hf
              refine CW.run (blk := [(.iload 4, 0), (.bipush 99, 99)]) (pc' := 57) (ls' := [some (.ref b), some (.int p0), some (.int p1), some (.int p2), some (.int p3)]) (st' := [.int 99, .int p3]) (by decide +kernel) rfl ?_
              refine CW.icmp_gt (off := 16) (tgt := 73) (by decide +kernel) (by decide) (fun c57_9 => ?_) (fun c57_9 => ?_)
              · rw [if_pos c57_9] at hf
                refine CW.run (blk := [(.bipush (-2), (-2))]) (pc' := 75) (ls' := [some (.ref b), some (.int p0), some (.int p1), some (.int p2), some (.int p3)]) (st' := [.int (-2)]) (by decide +kernel) rfl ?_
                have e9 := Option.some.inj hf
                subst e9
                exact CW.iret rfl (by decide +kernel)
              · rw [if_neg c57_9] at hf
                refine CW.run (blk := [(.aload_n 0, 0)]) (pc' := 61) (ls' := [some (.ref b), some (.int p0), some (.int p1), some (.int p2), some (.int p3)]) (st' := [.ref b]) (by decide +kernel) rfl ?_
                refine CW.getf (v := .ref S.2.2.1) hb (by decide) fl_RX11_66 (by decide +kernel) rfl ?_
                refine CW.getf (v := .ref (S.2.2.1 + 8)) (Nat.eq_of_beq_eq_true hk2) (by decide) fl_RX11_265 (by decide +kernel) rfl ?_
                obtain ⟨q10, hq10, hf⟩ := bd_some hf
                refine CW.callV (As := []) (st := []) lv_RX11_271 (kk_2_6 (Nat.eq_of_beq_eq_true hk2)) (by decide) rfl rfl (by decide +kernel) (xc_X6_isFull (kk_2_6 (Nat.eq_of_beq_eq_true hk2)) hq10) (by decide) (by decide) rfl (Nat.le_of_ble_eq_true rfl) rfl ?_
                show CW l yy_X11_wish 2 _ _ 70 [some (.ref b), some (.int p0), some (.int p1), some (.int p2), some (.int p3)] [.int (b2i q10)] S
                refine CW.if_eq (off := 6) (tgt := 76) (by decide +kernel) (by decide) (fun c70_11 => ?_) (fun c70_11 => ?_)
                · rw [if_pos c70_11] at hf
                  refine CW.run (blk := [(.aload_n 0, 0)]) (pc' := 77) (ls' := [some (.ref b), some (.int p0), some (.int p1), some (.int p2), some (.int p3)]) (st' := [.ref b]) (by decide +kernel) rfl ?_
                  refine CW.getf (v := .ref S.2.2.1) hb (by decide) fl_RX11_66 (by decide +kernel) rfl ?_
                  refine CW.run (blk := [(.iload_n 1, 0), (.iload_n 2, 0), (.iload_n 3, 0), (.iload 4, 0)]) (pc' := 85) (ls' := [some (.ref b), some (.int p0), some (.int p1), some (.int p2), some (.int p3)]) (st' := [.int p3, .int p2, .int p1, .int p0, .ref S.2.2.1]) (by decide +kernel) rfl ?_
                  obtain ⟨q12, hq12, hf⟩ := bd_some hf
                  refine CW.callV (As := [.int p0, .int p1, .int p2, .int p3]) (st := []) lv_RX11_274 (Nat.eq_of_beq_eq_true hk2) (by decide) rfl rfl (by decide +kernel) (xc_X2_addWish (Nat.eq_of_beq_eq_true hk2) hq12) (by decide) (by decide) rfl (Nat.le_of_ble_eq_true rfl) rfl ?_
                  show CW l yy_X11_wish 2 _ _ 88 [some (.ref b), some (.int p0), some (.int p1), some (.int p2), some (.int p3)] [] q12
                  refine CW.run (blk := [(.aload_n 0, 0)]) (pc' := 89) (ls' := [some (.ref b), some (.int p0), some (.int p1), some (.int p2), some (.int p3)]) (st' := [.ref b]) (by decide +kernel) rfl ?_
                  refine CW.getf (v := .ref q12.2.2.1) hb (by decide) fl_RX11_66 (by decide +kernel) rfl ?_
                  obtain ⟨hk13, hf⟩ := bi_some hf
                  refine CW.getf (v := .ref (q12.2.2.1 + 8)) (Nat.eq_of_beq_eq_true hk13) (by decide) fl_RX11_265 (by decide +kernel) rfl ?_
                  refine CW.getf (v := .int (q12.1 (q12.2.2.1 + 8) 3)) (kk_2_6 (Nat.eq_of_beq_eq_true hk13)) (by decide) fl_RX11_208 (by decide +kernel) rfl ?_
                  have e9 := Option.some.inj hf
                  subst e9
                  exact CW.iret rfl (by decide +kernel)
                · rw [if_neg c70_11] at hf
                  refine CW.run (blk := [(.bipush (-2), (-2))]) (pc' := 75) (ls' := [some (.ref b), some (.int p0), some (.int p1), some (.int p2), some (.int p3)]) (st' := [.int (-2)]) (by decide +kernel) rfl ?_
                  have e9 := Option.some.inj hf
                  subst e9
                  exact CW.iret rfl (by decide +kernel)
          · rw [if_neg c41_7] at hf
            refine CW.run (blk := [(.bipush (-2), (-2))]) (pc' := 46) (ls' := [some (.ref b), some (.int p0), some (.int p1), some (.int p2), some (.int p3)]) (st' := [.int (-2)]) (by decide +kernel) rfl ?_
            have e9 := Option.some.inj hf
            subst e9
            exact CW.iret rfl (by decide +kernel)
  · rw [if_pos c2_1] at hf
    refine CW.run (blk := [(.aload_n 0, 0)]) (pc' := 6) (ls' := [some (.ref b), some (.int p0), some (.int p1), some (.int p2), some (.int p3)]) (st' := [.ref b]) (by decide +kernel) rfl ?_
    refine CW.getf (v := .ref S.2.2.1) hb (by decide) fl_RX11_66 (by decide +kernel) rfl ?_
    obtain ⟨hk14, hf⟩ := bi_some hf
    refine CW.getf (v := .ref (S.2.2.1 + 8)) (Nat.eq_of_beq_eq_true hk14) (by decide) fl_RX11_265 (by decide +kernel) rfl ?_
    refine CW.run (blk := [(.iconst 0, 0)]) (pc' := 13) (ls' := [some (.ref b), some (.int p0), some (.int p1), some (.int p2), some (.int p3)]) (st' := [.int 0, .ref (S.2.2.1 + 8)]) (by decide +kernel) rfl ?_
    obtain ⟨q15, hq15, hf⟩ := bd_some hf
    refine CW.callV (As := [.int 0]) (st := []) lv_RX11_268 (kk_2_6 (Nat.eq_of_beq_eq_true hk14)) (by decide) rfl rfl (by decide +kernel) (xc_X6_cutTo (kk_2_6 (Nat.eq_of_beq_eq_true hk14)) hq15) (by decide) (by decide) rfl (Nat.le_of_ble_eq_true rfl) rfl ?_
    show CW l yy_X11_wish 2 _ _ 16 [some (.ref b), some (.int p0), some (.int p1), some (.int p2), some (.int p3)] [] q15
    refine CW.run (blk := [(.iconst 0, 0)]) (pc' := 17) (ls' := [some (.ref b), some (.int p0), some (.int p1), some (.int p2), some (.int p3)]) (st' := [.int 0]) (by decide +kernel) rfl ?_
    have e9 := Option.some.inj hf
    subst e9
    exact CW.iret rfl (by decide +kernel)
def fc_X11_round (b : Nat) (p0 : Int32) (p1 : Int32) (S : cT) : Option (Int32 × cT) := bif Nat.beq (cK S.2.2.1) 2 then (if (S.1 S.2.2.1 9) = 0 then (some ((-2), S)) else (if p0 < 1 then (some ((-2), S)) else (if 16 < p0 then (some ((-2), S)) else (if p1 < (-1) then (some ((-2), S)) else (if p1 < p0 then ((fc_X5_plan (b + 106) S.2.2.1 p0 S).bind fun q7 => if p1 = (-1) then (some (q7.1 (b + 106) 4, q7)) else (bif inb p1 16 then (letv (q7.1 ((b + 106) + 3) (p1 : Int32).toNatClampNeg) fun v9 => some (v9, q7)) else none)) else (some ((-2), S))))))) else none
theorem xc_X11_round {l : Launch} {b : Nat} {p0 : Int32} {p1 : Int32} {S : cT} {q : Int32 × cT} (hb : cK b = 9) (hf : fc_X11_round b p0 p1 S = some q) : COk l yy_X11_round 6 [.ref b, .int p0, .int p1] S (some (.int q.1)) q.2 := by
  refine COk.of (ls := [some (.ref b), some (.int p0), some (.int p1)]) (by decide +kernel) (Nat.le_of_ble_eq_true rfl) rfl ?_
  unfold fc_X11_round at hf
  refine CW.run (blk := [(.aload_n 0, 0)]) (pc' := 1) (ls' := [some (.ref b), some (.int p0), some (.int p1)]) (st' := [.ref b]) (by decide +kernel) rfl ?_
  refine CW.getf (v := .ref S.2.2.1) hb (by decide) fl_RX11_66 (by decide +kernel) rfl ?_
  obtain ⟨hk1, hf⟩ := bi_some hf
  refine CW.getf (v := .int (S.1 S.2.2.1 9)) (Nat.eq_of_beq_eq_true hk1) (by decide) fl_RX11_99 (by decide +kernel) rfl ?_
  refine CW.if_eq (off := 24) (tgt := 31) (by decide +kernel) (by decide) (fun c7_2 => ?_) (fun c7_2 => ?_)
  · rw [if_pos c7_2] at hf
    refine CW.run (blk := [(.bipush (-2), (-2))]) (pc' := 33) (ls' := [some (.ref b), some (.int p0), some (.int p1)]) (st' := [.int (-2)]) (by decide +kernel) rfl ?_
    have e9 := Option.some.inj hf
    subst e9
    exact CW.iret rfl (by decide +kernel)
  · rw [if_neg c7_2] at hf
    refine CW.run (blk := [(.iload_n 1, 0), (.iconst 1, 1)]) (pc' := 12) (ls' := [some (.ref b), some (.int p0), some (.int p1)]) (st' := [.int 1, .int p0]) (by decide +kernel) rfl ?_
    refine CW.icmp_lt (off := 19) (tgt := 31) (by decide +kernel) (by decide) (fun c12_3 => ?_) (fun c12_3 => ?_)
    · rw [if_pos c12_3] at hf
      refine CW.run (blk := [(.bipush (-2), (-2))]) (pc' := 33) (ls' := [some (.ref b), some (.int p0), some (.int p1)]) (st' := [.int (-2)]) (by decide +kernel) rfl ?_
      have e9 := Option.some.inj hf
      subst e9
      exact CW.iret rfl (by decide +kernel)
    · rw [if_neg c12_3] at hf
      refine CW.run (blk := [(.iload_n 1, 0), (.bipush 16, 16)]) (pc' := 18) (ls' := [some (.ref b), some (.int p0), some (.int p1)]) (st' := [.int 16, .int p0]) (by decide +kernel) rfl ?_
      refine CW.icmp_gt (off := 13) (tgt := 31) (by decide +kernel) (by decide) (fun c18_4 => ?_) (fun c18_4 => ?_)
      · rw [if_pos c18_4] at hf
        refine CW.run (blk := [(.bipush (-2), (-2))]) (pc' := 33) (ls' := [some (.ref b), some (.int p0), some (.int p1)]) (st' := [.int (-2)]) (by decide +kernel) rfl ?_
        have e9 := Option.some.inj hf
        subst e9
        exact CW.iret rfl (by decide +kernel)
      · rw [if_neg c18_4] at hf
        refine CW.run (blk := [(.iload_n 2, 0), (.iconst (-1), (-1))]) (pc' := 23) (ls' := [some (.ref b), some (.int p0), some (.int p1)]) (st' := [.int (-1), .int p1]) (by decide +kernel) rfl ?_
        refine CW.icmp_lt (off := 8) (tgt := 31) (by decide +kernel) (by decide) (fun c23_5 => ?_) (fun c23_5 => ?_)
        · rw [if_pos c23_5] at hf
          refine CW.run (blk := [(.bipush (-2), (-2))]) (pc' := 33) (ls' := [some (.ref b), some (.int p0), some (.int p1)]) (st' := [.int (-2)]) (by decide +kernel) rfl ?_
          have e9 := Option.some.inj hf
          subst e9
          exact CW.iret rfl (by decide +kernel)
        · rw [if_neg c23_5] at hf
          refine CW.run (blk := [(.iload_n 2, 0), (.iload_n 1, 0)]) (pc' := 28) (ls' := [some (.ref b), some (.int p0), some (.int p1)]) (st' := [.int p0, .int p1]) (by decide +kernel) rfl ?_
          refine CW.icmp_lt (off := 6) (tgt := 34) (by decide +kernel) (by decide) (fun c28_6 => ?_) (fun c28_6 => ?_)
          · rw [if_pos c28_6] at hf
            refine CW.run (blk := [(.aload_n 0, 0)]) (pc' := 35) (ls' := [some (.ref b), some (.int p0), some (.int p1)]) (st' := [.ref b]) (by decide +kernel) rfl ?_
            refine CW.getf (v := .ref (b + 106)) hb (by decide) fl_RX11_55 (by decide +kernel) rfl ?_
            refine CW.run (blk := [(.aload_n 0, 0)]) (pc' := 39) (ls' := [some (.ref b), some (.int p0), some (.int p1)]) (st' := [.ref b, .ref (b + 106)]) (by decide +kernel) rfl ?_
            refine CW.getf (v := .ref S.2.2.1) hb (by decide) fl_RX11_66 (by decide +kernel) rfl ?_
            refine CW.run (blk := [(.iload_n 1, 0)]) (pc' := 43) (ls' := [some (.ref b), some (.int p0), some (.int p1)]) (st' := [.int p0, .ref S.2.2.1, .ref (b + 106)]) (by decide +kernel) rfl ?_
            obtain ⟨q7, hq7, hf⟩ := bd_some hf
            refine CW.callV (As := [.ref S.2.2.1, .int p0]) (st := []) lv_RX11_278 (kk_9_7 hb) (by decide) rfl rfl (by decide +kernel) (xc_X5_plan (kk_9_7 hb) (Nat.eq_of_beq_eq_true hk1) hq7) (by decide) (by decide) rfl (Nat.le_of_ble_eq_true rfl) rfl ?_
            show CW l yy_X11_round 6 _ _ 46 [some (.ref b), some (.int p0), some (.int p1)] [] q7
            refine CW.run (blk := [(.iload_n 2, 0), (.iconst (-1), (-1))]) (pc' := 48) (ls' := [some (.ref b), some (.int p0), some (.int p1)]) (st' := [.int (-1), .int p1]) (by decide +kernel) rfl ?_
            refine CW.icmp_ne (off := 13) (tgt := 61) (by decide +kernel) (by decide) (fun c48_8 => ?_) (fun c48_8 => ?_)
            · rw [if_neg c48_8] at hf
              refine CW.run (blk := [(.aload_n 0, 0)]) (pc' := 62) (ls' := [some (.ref b), some (.int p0), some (.int p1)]) (st' := [.ref b]) (by decide +kernel) rfl ?_
              refine CW.getf (v := .ref (b + 106)) hb (by decide) fl_RX11_55 (by decide +kernel) rfl ?_
              refine CW.getf (v := .ref ((b + 106) + 3)) (kk_9_7 hb) (by decide) fl_RX11_284 (by decide +kernel) rfl ?_
              refine CW.run (blk := [(.iload_n 2, 0)]) (pc' := 69) (ls' := [some (.ref b), some (.int p0), some (.int p1)]) (st' := [.int p1, .ref ((b + 106) + 3)]) (by decide +kernel) rfl ?_
              obtain ⟨hi_v9, hf⟩ := bi_some hf
              obtain ⟨v9, hv9, hf⟩ := letv_some hf
              refine CW.iald (kk_4_2 (kk_9_7 hb)) (kn_4_2 (kk_9_7 hb)) (by decide +kernel) (inb_in hi_v9) ?_
              rw [← hv9]
              have e9 := Option.some.inj hf
              subst e9
              exact CW.iret rfl (by decide +kernel)
            · rw [if_pos c48_8] at hf
              refine CW.run (blk := [(.aload_n 0, 0)]) (pc' := 52) (ls' := [some (.ref b), some (.int p0), some (.int p1)]) (st' := [.ref b]) (by decide +kernel) rfl ?_
              refine CW.getf (v := .ref (b + 106)) hb (by decide) fl_RX11_55 (by decide +kernel) rfl ?_
              refine CW.getf (v := .int (q7.1 (b + 106) 4)) (kk_9_7 hb) (by decide) fl_RX11_281 (by decide +kernel) rfl ?_
              refine CW.run (blk := [(.goto 12, 0)]) (pc' := 70) (ls' := [some (.ref b), some (.int p0), some (.int p1)]) (st' := [.int (q7.1 (b + 106) 4)]) (by decide +kernel) rfl ?_
              have e9 := Option.some.inj hf
              subst e9
              exact CW.iret rfl (by decide +kernel)
          · rw [if_neg c28_6] at hf
            refine CW.run (blk := [(.bipush (-2), (-2))]) (pc' := 33) (ls' := [some (.ref b), some (.int p0), some (.int p1)]) (st' := [.int (-2)]) (by decide +kernel) rfl ?_
            have e9 := Option.some.inj hf
            subst e9
            exact CW.iret rfl (by decide +kernel)
def fc_X11_view (b : Nat) (p0 : Int32) (p1 : Int32) (S : cT) : Option (Int32 × cT) := if p0 = (-1) then (bif Nat.beq (cK S.2.2.1) 2 then ((fc_X6_cutTo (S.2.2.1 + 10) 0 S).bind fun q12 => some (0, q12)) else none) else (if p0 = 0 then (some ((-2), S)) else (bif Nat.beq (cK S.2.2.1) 2 then ((fc_X2_isFace S.2.2.1 p0 S).bind fun q4 => if (b2i q4) = 0 then (some ((-2), S)) else (if (p1 &&& (p0 ^^^ (-1))) = 0 then ((fc_X6_isFull (S.2.2.1 + 10) S).bind fun q7 => if (b2i q7) = 0 then ((fc_X2_addView S.2.2.1 p0 p1 S).bind fun q9 => bif Nat.beq (cK q9.2.2.1) 2 then (some (q9.1 (q9.2.2.1 + 10) 3, q9)) else none) else (some ((-2), S))) else (some ((-2), S)))) else none))
theorem xc_X11_view {l : Launch} {b : Nat} {p0 : Int32} {p1 : Int32} {S : cT} {q : Int32 × cT} (hb : cK b = 9) (hf : fc_X11_view b p0 p1 S = some q) : COk l yy_X11_view 2 [.ref b, .int p0, .int p1] S (some (.int q.1)) q.2 := by
  refine COk.of (ls := [some (.ref b), some (.int p0), some (.int p1)]) (by decide +kernel) (Nat.le_of_ble_eq_true rfl) rfl ?_
  unfold fc_X11_view at hf
  refine CW.run (blk := [(.iload_n 1, 0), (.iconst (-1), (-1))]) (pc' := 2) (ls' := [some (.ref b), some (.int p0), some (.int p1)]) (st' := [.int (-1), .int p0]) (by decide +kernel) rfl ?_
  refine CW.icmp_ne (off := 16) (tgt := 18) (by decide +kernel) (by decide) (fun c2_1 => ?_) (fun c2_1 => ?_)
  · rw [if_neg c2_1] at hf
    refine CW.run (blk := [(.iload_n 1, 0)]) (pc' := 19) (ls' := [some (.ref b), some (.int p0), some (.int p1)]) (st' := [.int p0]) (by decide +kernel) rfl ?_
    refine CW.if_eq (off := 35) (tgt := 54) (by decide +kernel) (by decide) (fun c19_2 => ?_) (fun c19_2 => ?_)
    · rw [if_pos c19_2] at hf
      refine CW.run (blk := [(.bipush (-2), (-2))]) (pc' := 56) (ls' := [some (.ref b), some (.int p0), some (.int p1)]) (st' := [.int (-2)]) (by decide +kernel) rfl ?_
      have e9 := Option.some.inj hf
      subst e9
      exact CW.iret rfl (by decide +kernel)
    · rw [if_neg c19_2] at hf
      refine CW.run (blk := [(.aload_n 0, 0)]) (pc' := 23) (ls' := [some (.ref b), some (.int p0), some (.int p1)]) (st' := [.ref b]) (by decide +kernel) rfl ?_
      refine CW.getf (v := .ref S.2.2.1) hb (by decide) fl_RX11_66 (by decide +kernel) rfl ?_
      obtain ⟨hk3, hf⟩ := bi_some hf
      refine CW.run (blk := [(.iload_n 1, 0)]) (pc' := 27) (ls' := [some (.ref b), some (.int p0), some (.int p1)]) (st' := [.int p0, .ref S.2.2.1]) (by decide +kernel) rfl ?_
      obtain ⟨q4, hq4, hf⟩ := bd_some hf
      refine CW.callV (As := [.int p0]) (st := []) lv_RX11_211 (Nat.eq_of_beq_eq_true hk3) (by decide) rfl rfl (by decide +kernel) (xc_X2_isFace (Nat.eq_of_beq_eq_true hk3) hq4) (by decide) (by decide) rfl (Nat.le_of_ble_eq_true rfl) rfl ?_
      show CW l yy_X11_view 2 _ _ 30 [some (.ref b), some (.int p0), some (.int p1)] [.int (b2i q4)] S
      refine CW.if_eq (off := 24) (tgt := 54) (by decide +kernel) (by decide) (fun c30_5 => ?_) (fun c30_5 => ?_)
      · rw [if_pos c30_5] at hf
        refine CW.run (blk := [(.bipush (-2), (-2))]) (pc' := 56) (ls' := [some (.ref b), some (.int p0), some (.int p1)]) (st' := [.int (-2)]) (by decide +kernel) rfl ?_
        have e9 := Option.some.inj hf
        subst e9
        exact CW.iret rfl (by decide +kernel)
      · rw [if_neg c30_5] at hf
        refine CW.run (blk := [(.iload_n 2, 0), (.iload_n 1, 0), (.iconst (-1), (-1)), (.ixor, 0), (.iand, 0)]) (pc' := 38) (ls' := [some (.ref b), some (.int p0), some (.int p1)]) (st' := [.int (p1 &&& (p0 ^^^ (-1)))]) (by decide +kernel) rfl ?_
        refine CW.if_ne (off := 16) (tgt := 54) (by decide +kernel) (by decide) (fun c38_6 => ?_) (fun c38_6 => ?_)
        · rw [if_neg c38_6] at hf
          refine CW.run (blk := [(.bipush (-2), (-2))]) (pc' := 56) (ls' := [some (.ref b), some (.int p0), some (.int p1)]) (st' := [.int (-2)]) (by decide +kernel) rfl ?_
          have e9 := Option.some.inj hf
          subst e9
          exact CW.iret rfl (by decide +kernel)
        · rw [if_pos c38_6] at hf
          refine CW.run (blk := [(.aload_n 0, 0)]) (pc' := 42) (ls' := [some (.ref b), some (.int p0), some (.int p1)]) (st' := [.ref b]) (by decide +kernel) rfl ?_
          refine CW.getf (v := .ref S.2.2.1) hb (by decide) fl_RX11_66 (by decide +kernel) rfl ?_
          refine CW.getf (v := .ref (S.2.2.1 + 10)) (Nat.eq_of_beq_eq_true hk3) (by decide) fl_RX11_287 (by decide +kernel) rfl ?_
          obtain ⟨q7, hq7, hf⟩ := bd_some hf
          refine CW.callV (As := []) (st := []) lv_RX11_271 (kk_2_7 (Nat.eq_of_beq_eq_true hk3)) (by decide) rfl rfl (by decide +kernel) (xc_X6_isFull (kk_2_7 (Nat.eq_of_beq_eq_true hk3)) hq7) (by decide) (by decide) rfl (Nat.le_of_ble_eq_true rfl) rfl ?_
          show CW l yy_X11_view 2 _ _ 51 [some (.ref b), some (.int p0), some (.int p1)] [.int (b2i q7)] S
          refine CW.if_eq (off := 6) (tgt := 57) (by decide +kernel) (by decide) (fun c51_8 => ?_) (fun c51_8 => ?_)
          · rw [if_pos c51_8] at hf
            refine CW.run (blk := [(.aload_n 0, 0)]) (pc' := 58) (ls' := [some (.ref b), some (.int p0), some (.int p1)]) (st' := [.ref b]) (by decide +kernel) rfl ?_
            refine CW.getf (v := .ref S.2.2.1) hb (by decide) fl_RX11_66 (by decide +kernel) rfl ?_
            refine CW.run (blk := [(.iload_n 1, 0), (.iload_n 2, 0)]) (pc' := 63) (ls' := [some (.ref b), some (.int p0), some (.int p1)]) (st' := [.int p1, .int p0, .ref S.2.2.1]) (by decide +kernel) rfl ?_
            obtain ⟨q9, hq9, hf⟩ := bd_some hf
            refine CW.callV (As := [.int p0, .int p1]) (st := []) lv_RX11_290 (Nat.eq_of_beq_eq_true hk3) (by decide) rfl rfl (by decide +kernel) (xc_X2_addView (Nat.eq_of_beq_eq_true hk3) hq9) (by decide) (by decide) rfl (Nat.le_of_ble_eq_true rfl) rfl ?_
            show CW l yy_X11_view 2 _ _ 66 [some (.ref b), some (.int p0), some (.int p1)] [] q9
            refine CW.run (blk := [(.aload_n 0, 0)]) (pc' := 67) (ls' := [some (.ref b), some (.int p0), some (.int p1)]) (st' := [.ref b]) (by decide +kernel) rfl ?_
            refine CW.getf (v := .ref q9.2.2.1) hb (by decide) fl_RX11_66 (by decide +kernel) rfl ?_
            obtain ⟨hk10, hf⟩ := bi_some hf
            refine CW.getf (v := .ref (q9.2.2.1 + 10)) (Nat.eq_of_beq_eq_true hk10) (by decide) fl_RX11_287 (by decide +kernel) rfl ?_
            refine CW.getf (v := .int (q9.1 (q9.2.2.1 + 10) 3)) (kk_2_7 (Nat.eq_of_beq_eq_true hk10)) (by decide) fl_RX11_208 (by decide +kernel) rfl ?_
            have e9 := Option.some.inj hf
            subst e9
            exact CW.iret rfl (by decide +kernel)
          · rw [if_neg c51_8] at hf
            refine CW.run (blk := [(.bipush (-2), (-2))]) (pc' := 56) (ls' := [some (.ref b), some (.int p0), some (.int p1)]) (st' := [.int (-2)]) (by decide +kernel) rfl ?_
            have e9 := Option.some.inj hf
            subst e9
            exact CW.iret rfl (by decide +kernel)
  · rw [if_pos c2_1] at hf
    refine CW.run (blk := [(.aload_n 0, 0)]) (pc' := 6) (ls' := [some (.ref b), some (.int p0), some (.int p1)]) (st' := [.ref b]) (by decide +kernel) rfl ?_
    refine CW.getf (v := .ref S.2.2.1) hb (by decide) fl_RX11_66 (by decide +kernel) rfl ?_
    obtain ⟨hk11, hf⟩ := bi_some hf
    refine CW.getf (v := .ref (S.2.2.1 + 10)) (Nat.eq_of_beq_eq_true hk11) (by decide) fl_RX11_287 (by decide +kernel) rfl ?_
    refine CW.run (blk := [(.iconst 0, 0)]) (pc' := 13) (ls' := [some (.ref b), some (.int p0), some (.int p1)]) (st' := [.int 0, .ref (S.2.2.1 + 10)]) (by decide +kernel) rfl ?_
    obtain ⟨q12, hq12, hf⟩ := bd_some hf
    refine CW.callV (As := [.int 0]) (st := []) lv_RX11_268 (kk_2_7 (Nat.eq_of_beq_eq_true hk11)) (by decide) rfl rfl (by decide +kernel) (xc_X6_cutTo (kk_2_7 (Nat.eq_of_beq_eq_true hk11)) hq12) (by decide) (by decide) rfl (Nat.le_of_ble_eq_true rfl) rfl ?_
    show CW l yy_X11_view 2 _ _ 16 [some (.ref b), some (.int p0), some (.int p1)] [] q12
    refine CW.run (blk := [(.iconst 0, 0)]) (pc' := 17) (ls' := [some (.ref b), some (.int p0), some (.int p1)]) (st' := [.int 0]) (by decide +kernel) rfl ?_
    have e9 := Option.some.inj hf
    subst e9
    exact CW.iret rfl (by decide +kernel)
def fc_X11_fits (b : Nat) (p0 : Int32) (S : cT) : Option (Int32) := bif Nat.beq (cK S.2.2.1) 2 then ((fc_X6_has (S.2.2.1 + 10) p0 S).bind fun q2 => if (b2i q2) = 0 then (some (-1)) else ((fc_X2_peopleFitting S.2.2.1 p0 S).bind fun q4 => some q4)) else none
theorem xc_X11_fits {l : Launch} {b : Nat} {p0 : Int32} {S : cT} {q : Int32} (hb : cK b = 9) (hf : fc_X11_fits b p0 S = some q) : COk l yy_X11_fits 4 [.ref b, .int p0] S (some (.int q)) S := by
  refine COk.of (ls := [some (.ref b), some (.int p0)]) (by decide +kernel) (Nat.le_of_ble_eq_true rfl) rfl ?_
  unfold fc_X11_fits at hf
  refine CW.run (blk := [(.aload_n 0, 0)]) (pc' := 1) (ls' := [some (.ref b), some (.int p0)]) (st' := [.ref b]) (by decide +kernel) rfl ?_
  refine CW.getf (v := .ref S.2.2.1) hb (by decide) fl_RX11_66 (by decide +kernel) rfl ?_
  obtain ⟨hk1, hf⟩ := bi_some hf
  refine CW.getf (v := .ref (S.2.2.1 + 10)) (Nat.eq_of_beq_eq_true hk1) (by decide) fl_RX11_287 (by decide +kernel) rfl ?_
  refine CW.run (blk := [(.iload_n 1, 0)]) (pc' := 8) (ls' := [some (.ref b), some (.int p0)]) (st' := [.int p0, .ref (S.2.2.1 + 10)]) (by decide +kernel) rfl ?_
  obtain ⟨q2, hq2, hf⟩ := bd_some hf
  refine CW.callV (As := [.int p0]) (st := []) lv_RX11_173 (kk_2_7 (Nat.eq_of_beq_eq_true hk1)) (by decide) rfl rfl (by decide +kernel) (xc_X6_has (kk_2_7 (Nat.eq_of_beq_eq_true hk1)) hq2) (by decide) (by decide) rfl (Nat.le_of_ble_eq_true rfl) rfl ?_
  show CW l yy_X11_fits 4 _ _ 11 [some (.ref b), some (.int p0)] [.int (b2i q2)] S
  refine CW.if_eq (off := 14) (tgt := 25) (by decide +kernel) (by decide) (fun c11_3 => ?_) (fun c11_3 => ?_)
  · rw [if_pos c11_3] at hf
    refine CW.run (blk := [(.iconst (-1), (-1))]) (pc' := 26) (ls' := [some (.ref b), some (.int p0)]) (st' := [.int (-1)]) (by decide +kernel) rfl ?_
    have e9 := Option.some.inj hf
    subst e9
    exact CW.iret rfl (by decide +kernel)
  · rw [if_neg c11_3] at hf
    refine CW.run (blk := [(.aload_n 0, 0)]) (pc' := 15) (ls' := [some (.ref b), some (.int p0)]) (st' := [.ref b]) (by decide +kernel) rfl ?_
    refine CW.getf (v := .ref S.2.2.1) hb (by decide) fl_RX11_66 (by decide +kernel) rfl ?_
    refine CW.run (blk := [(.iload_n 1, 0)]) (pc' := 19) (ls' := [some (.ref b), some (.int p0)]) (st' := [.int p0, .ref S.2.2.1]) (by decide +kernel) rfl ?_
    obtain ⟨q4, hq4, hf⟩ := bd_some hf
    refine CW.callV (As := [.int p0]) (st := []) lv_RX11_294 (Nat.eq_of_beq_eq_true hk1) (by decide) rfl rfl (by decide +kernel) (xc_X2_peopleFitting (Nat.eq_of_beq_eq_true hk1) hq4) (by decide) (by decide) rfl (Nat.le_of_ble_eq_true rfl) rfl ?_
    show CW l yy_X11_fits 4 _ _ 22 [some (.ref b), some (.int p0)] [.int q4] S
    refine CW.run (blk := [(.goto 4, 0)]) (pc' := 26) (ls' := [some (.ref b), some (.int p0)]) (st' := [.int q4]) (by decide +kernel) rfl ?_
    have e9 := Option.some.inj hf
    subst e9
    exact CW.iret rfl (by decide +kernel)
def fc_X11_views (b : Nat) (p0 : Int32) (S : cT) : Option (Int32 × cT) := bif Nat.beq (cK S.2.2.1) 2 then (if (S.1 S.2.2.1 9) = 0 then (some ((-1), S)) else (if p0 = 0 then ((fc_X0_fewestFor (b + 110) S.2.2.1 S).bind fun q4 => some (q4.1, q4.2)) else (if p0 = 1 then ((fc_X2_mostViewsOfOne S.2.2.1 S).bind fun q6 => (fc_X2_sworn S.2.2.1 q6 S).bind fun q7 => some (q7, S)) else (if p0 = 2 then ((fc_X2_mostViewsOfOne S.2.2.1 S).bind fun q9 => some (q9, S)) else (some ((-1), S)))))) else none
theorem xc_X11_views {l : Launch} {b : Nat} {p0 : Int32} {S : cT} {q : Int32 × cT} (hb : cK b = 9) (hf : fc_X11_views b p0 S = some q) : COk l yy_X11_views 5 [.ref b, .int p0] S (some (.int q.1)) q.2 := by
  refine COk.of (ls := [some (.ref b), some (.int p0)]) (by decide +kernel) (Nat.le_of_ble_eq_true rfl) rfl ?_
  unfold fc_X11_views at hf
  refine CW.run (blk := [(.aload_n 0, 0)]) (pc' := 1) (ls' := [some (.ref b), some (.int p0)]) (st' := [.ref b]) (by decide +kernel) rfl ?_
  refine CW.getf (v := .ref S.2.2.1) hb (by decide) fl_RX11_66 (by decide +kernel) rfl ?_
  obtain ⟨hk1, hf⟩ := bi_some hf
  refine CW.getf (v := .int (S.1 S.2.2.1 9)) (Nat.eq_of_beq_eq_true hk1) (by decide) fl_RX11_99 (by decide +kernel) rfl ?_
  refine CW.if_ne (off := 5) (tgt := 12) (by decide +kernel) (by decide) (fun c7_2 => ?_) (fun c7_2 => ?_)
  · rw [if_neg c7_2] at hf
    refine CW.run (blk := [(.iload_n 1, 0)]) (pc' := 13) (ls' := [some (.ref b), some (.int p0)]) (st' := [.int p0]) (by decide +kernel) rfl ?_
    by_cases c13_0_3 : p0 = 0
    · rw [if_pos c13_0_3] at hf
      refine CW.tableIn (dflt := 62) (lo := 0) (hi := 2) (offs := #[27, 39, 54]) (len := 27) (off := 27) (tgt := 40) (by decide +kernel) (by rw [c13_0_3]; decide) (by rw [c13_0_3]; decide) (by rw [c13_0_3]; decide) (by decide) ?_
      refine CW.run (blk := [(.aload_n 0, 0)]) (pc' := 41) (ls' := [some (.ref b), some (.int p0)]) (st' := [.ref b]) (by decide +kernel) rfl ?_
      refine CW.getf (v := .ref (b + 110)) hb (by decide) fl_RX11_62 (by decide +kernel) rfl ?_
      refine CW.run (blk := [(.aload_n 0, 0)]) (pc' := 45) (ls' := [some (.ref b), some (.int p0)]) (st' := [.ref b, .ref (b + 110)]) (by decide +kernel) rfl ?_
      refine CW.getf (v := .ref S.2.2.1) hb (by decide) fl_RX11_66 (by decide +kernel) rfl ?_
      obtain ⟨q4, hq4, hf⟩ := bd_some hf
      refine CW.callV (As := [.ref S.2.2.1]) (st := []) lv_RX11_297 (kk_9_8 hb) (by decide) rfl rfl (by decide +kernel) (xc_X0_fewestFor (kk_9_8 hb) (Nat.eq_of_beq_eq_true hk1) hq4) (by decide) (by decide) rfl (Nat.le_of_ble_eq_true rfl) rfl ?_
      show CW l yy_X11_views 5 _ _ 51 [some (.ref b), some (.int p0)] [.int q4.1] q4.2
      have e9 := Option.some.inj hf
      subst e9
      exact CW.iret rfl (by decide +kernel)
    rw [if_neg c13_0_3] at hf
    by_cases c13_1_5 : p0 = 1
    · rw [if_pos c13_1_5] at hf
      refine CW.tableIn (dflt := 62) (lo := 0) (hi := 2) (offs := #[27, 39, 54]) (len := 27) (off := 39) (tgt := 52) (by decide +kernel) (by rw [c13_1_5]; decide) (by rw [c13_1_5]; decide) (by rw [c13_1_5]; decide) (by decide) ?_
      refine CW.run (blk := [(.aload_n 0, 0)]) (pc' := 53) (ls' := [some (.ref b), some (.int p0)]) (st' := [.ref b]) (by decide +kernel) rfl ?_
      refine CW.getf (v := .ref S.2.2.1) hb (by decide) fl_RX11_66 (by decide +kernel) rfl ?_
      refine CW.run (blk := [(.aload_n 0, 0)]) (pc' := 57) (ls' := [some (.ref b), some (.int p0)]) (st' := [.ref b, .ref S.2.2.1]) (by decide +kernel) rfl ?_
      refine CW.getf (v := .ref S.2.2.1) hb (by decide) fl_RX11_66 (by decide +kernel) rfl ?_
      obtain ⟨q6, hq6, hf⟩ := bd_some hf
      refine CW.callV (As := []) (st := [.ref S.2.2.1]) lv_RX11_300 (Nat.eq_of_beq_eq_true hk1) (by decide) rfl rfl (by decide +kernel) (xc_X2_mostViewsOfOne (Nat.eq_of_beq_eq_true hk1) hq6) (by decide) (by decide) rfl (Nat.le_of_ble_eq_true rfl) rfl ?_
      show CW l yy_X11_views 5 _ _ 63 [some (.ref b), some (.int p0)] [.int q6, .ref S.2.2.1] S
      obtain ⟨q7, hq7, hf⟩ := bd_some hf
      refine CW.callV (As := [.int q6]) (st := []) lv_RX11_303 (Nat.eq_of_beq_eq_true hk1) (by decide) rfl rfl (by decide +kernel) (xc_X2_sworn (Nat.eq_of_beq_eq_true hk1) hq7) (by decide) (by decide) rfl (Nat.le_of_ble_eq_true rfl) rfl ?_
      show CW l yy_X11_views 5 _ _ 66 [some (.ref b), some (.int p0)] [.int q7] S
      have e9 := Option.some.inj hf
      subst e9
      exact CW.iret rfl (by decide +kernel)
    rw [if_neg c13_1_5] at hf
    by_cases c13_2_8 : p0 = 2
    · rw [if_pos c13_2_8] at hf
      refine CW.tableIn (dflt := 62) (lo := 0) (hi := 2) (offs := #[27, 39, 54]) (len := 27) (off := 54) (tgt := 67) (by decide +kernel) (by rw [c13_2_8]; decide) (by rw [c13_2_8]; decide) (by rw [c13_2_8]; decide) (by decide) ?_
      refine CW.run (blk := [(.aload_n 0, 0)]) (pc' := 68) (ls' := [some (.ref b), some (.int p0)]) (st' := [.ref b]) (by decide +kernel) rfl ?_
      refine CW.getf (v := .ref S.2.2.1) hb (by decide) fl_RX11_66 (by decide +kernel) rfl ?_
      obtain ⟨q9, hq9, hf⟩ := bd_some hf
      refine CW.callV (As := []) (st := []) lv_RX11_300 (Nat.eq_of_beq_eq_true hk1) (by decide) rfl rfl (by decide +kernel) (xc_X2_mostViewsOfOne (Nat.eq_of_beq_eq_true hk1) hq9) (by decide) (by decide) rfl (Nat.le_of_ble_eq_true rfl) rfl ?_
      show CW l yy_X11_views 5 _ _ 74 [some (.ref b), some (.int p0)] [.int q9] S
      have e9 := Option.some.inj hf
      subst e9
      exact CW.iret rfl (by decide +kernel)
    rw [if_neg c13_2_8] at hf
    refine CW.tableOut (dflt := 62) (lo := 0) (hi := 2) (offs := #[27, 39, 54]) (len := 27) (tgt := 75) (by decide +kernel) (by have := ne_toInt c13_0_3 (k := 0) rfl; have := ne_toInt c13_1_5 (k := 1) rfl; have := ne_toInt c13_2_8 (k := 2) rfl; omega) (by decide) ?_
    refine CW.run (blk := [(.iconst (-1), (-1))]) (pc' := 76) (ls' := [some (.ref b), some (.int p0)]) (st' := [.int (-1)]) (by decide +kernel) rfl ?_
    have e9 := Option.some.inj hf
    subst e9
    exact CW.iret rfl (by decide +kernel)
  · rw [if_pos c7_2] at hf
    refine CW.run (blk := [(.iconst (-1), (-1))]) (pc' := 11) (ls' := [some (.ref b), some (.int p0)]) (st' := [.int (-1)]) (by decide +kernel) rfl ?_
    have e9 := Option.some.inj hf
    subst e9
    exact CW.iret rfl (by decide +kernel)
def fc_X11_seed (b : Nat) (p0 : Int32) (S : cT) : Option (Int32 × cT) := if 0 ≤ p0 then (bif Nat.beq (cK S.2.2.1) 2 then (letv (ca S S.2.2.1 14 p0) fun S3 => some (S.1 S.2.2.1 14, S3)) else none) else (some ((-1), S))
theorem xc_X11_seed {l : Launch} {b : Nat} {p0 : Int32} {S : cT} {q : Int32 × cT} (hb : cK b = 9) (hf : fc_X11_seed b p0 S = some q) : COk l yy_X11_seed 0 [.ref b, .int p0] S (some (.int q.1)) q.2 := by
  refine COk.of (ls := [some (.ref b), some (.int p0), none]) (by decide +kernel) (Nat.le_of_ble_eq_true rfl) rfl ?_
  unfold fc_X11_seed at hf
  refine CW.run (blk := [(.iload_n 1, 0)]) (pc' := 1) (ls' := [some (.ref b), some (.int p0), none]) (st' := [.int p0]) (by decide +kernel) rfl ?_
  refine CW.if_ge (off := 5) (tgt := 6) (by decide +kernel) (by decide) (fun c1_1 => ?_) (fun c1_1 => ?_)
  · rw [if_pos c1_1] at hf
    refine CW.run (blk := [(.aload_n 0, 0)]) (pc' := 7) (ls' := [some (.ref b), some (.int p0), none]) (st' := [.ref b]) (by decide +kernel) rfl ?_
    refine CW.getf (v := .ref S.2.2.1) hb (by decide) fl_RX11_66 (by decide +kernel) rfl ?_
    obtain ⟨hk2, hf⟩ := bi_some hf
    refine CW.getf (v := .int (S.1 S.2.2.1 14)) (Nat.eq_of_beq_eq_true hk2) (by decide) fl_RX11_93 (by decide +kernel) rfl ?_
    refine CW.run (blk := [(.istore_n 2, 0), (.aload_n 0, 0)]) (pc' := 15) (ls' := [some (.ref b), some (.int p0), some (.int (S.1 S.2.2.1 14))]) (st' := [.ref b]) (by decide +kernel) rfl ?_
    refine CW.getf (v := .ref S.2.2.1) hb (by decide) fl_RX11_66 (by decide +kernel) rfl ?_
    refine CW.run (blk := [(.iload_n 1, 0)]) (pc' := 19) (ls' := [some (.ref b), some (.int p0), some (.int (S.1 S.2.2.1 14))]) (st' := [.int p0, .ref S.2.2.1]) (by decide +kernel) rfl ?_
    refine CW.putI (Nat.eq_of_beq_eq_true hk2) (by decide) fp_RX11_93 (by decide +kernel) (fun _ _ _ => Nat.le_of_ble_eq_true rfl) rfl rfl (fun _ _ _ => rfl) ?_
    obtain ⟨S3, hS3, hf⟩ := letv_some hf
    rw [← hS3]
    refine CW.run (blk := [(.iload_n 2, 0)]) (pc' := 23) (ls' := [some (.ref b), some (.int p0), some (.int (S.1 S.2.2.1 14))]) (st' := [.int (S.1 S.2.2.1 14)]) (by decide +kernel) rfl ?_
    have e9 := Option.some.inj hf
    subst e9
    exact CW.iret rfl (by decide +kernel)
  · rw [if_neg c1_1] at hf
    refine CW.run (blk := [(.iconst (-1), (-1))]) (pc' := 5) (ls' := [some (.ref b), some (.int p0), none]) (st' := [.int (-1)]) (by decide +kernel) rfl ?_
    have e9 := Option.some.inj hf
    subst e9
    exact CW.iret rfl (by decide +kernel)
def fc_X11_drawSlips_L5 (k1 : Nat) (k2 : Int32) : Nat → Int32 → Int32 → cT → Option (Int32 × Int32 × cT)
  | 0, _, _, _ => none
  | N + 1, a3, a4, S => if (S.1 k1 8) ≤ a4 then (some (a3, a4, S)) else ((fc_X2_nextDraw k1 S).bind fun q2 => if (100 : Int32) = 0 then none else (if k2 ≤ (q2.1 - q2.1 / 100 * 100) then (fc_X11_drawSlips_L5 k1 k2 N a3 (a4 + 1) q2.2) else (fc_X11_drawSlips_L5 k1 k2 N (a3 ||| ((1 : Int32) <<< (a4 &&& 31))) (a4 + 1) q2.2)))
def fc_X11_drawSlips (b : Nat) (p0 : Nat) (p1 : Int32) (S : cT) : Option (Int32 × cT) := (fc_X11_drawSlips_L5 p0 p1 FU 0 0 S).bind fun w5 => some (w5.1, w5.2.2)
theorem xc_X11_drawSlips_L5 {l : Launch} {r : Option Value} {S' : cT} (k0 : Nat) (k1 : Nat) (k2 : Int32) (hk0 : cK k0 = 9) (hk1 : cK k1 = 2) : ∀ (N : Nat) (a3 : Int32) (a4 : Int32) (S : cT) (W0 : Int32 × Int32 × cT) (_ : fc_X11_drawSlips_L5 k1 k2 N a3 a4 S = some W0) (_ : CW l yy_X11_drawSlips 1 r S' 38 [some (.ref k0), some (.ref k1), some (.int k2), some (.int W0.1), some (.int W0.2.1)] [] W0.2.2), CW l yy_X11_drawSlips 1 r S' 5 [some (.ref k0), some (.ref k1), some (.int k2), some (.int a3), some (.int a4)] [] S := by
  intro N
  induction N with
  | zero =>
    intro a3 a4 S W0 hf _
    cases hf
  | succ N ih =>
    intro a3 a4 S W0 hf hk_1
    unfold fc_X11_drawSlips_L5 at hf
    refine CW.run (blk := [(.iload 4, 0), (.aload_n 1, 0)]) (pc' := 8) (ls' := [some (.ref k0), some (.ref k1), some (.int k2), some (.int a3), some (.int a4)]) (st' := [.ref k1, .int a4]) (by decide +kernel) rfl ?_
    refine CW.getf (v := .int (S.1 k1 8)) hk1 (by decide) fl_RX11_318 (by decide +kernel) rfl ?_
    refine CW.icmp_ge (off := 27) (tgt := 38) (by decide +kernel) (by decide) (fun c11_1 => ?_) (fun c11_1 => ?_)
    · rw [if_pos c11_1] at hf
      have e9 := Option.some.inj hf
      subst e9
      exact hk_1
    · rw [if_neg c11_1] at hf
      refine CW.run (blk := [(.aload_n 1, 0)]) (pc' := 15) (ls' := [some (.ref k0), some (.ref k1), some (.int k2), some (.int a3), some (.int a4)]) (st' := [.ref k1]) (by decide +kernel) rfl ?_
      obtain ⟨q2, hq2, hf⟩ := bd_some hf
      refine CW.callV (As := []) (st := []) lv_RX11_333 hk1 (by decide) rfl rfl (by decide +kernel) (xc_X2_nextDraw hk1 hq2) (by decide) (by decide) rfl (Nat.le_of_ble_eq_true rfl) rfl ?_
      show CW l yy_X11_drawSlips 1 _ _ 18 [some (.ref k0), some (.ref k1), some (.int k2), some (.int a3), some (.int a4)] [.int q2.1] q2.2
      refine CW.run (blk := [(.bipush 100, 100)]) (pc' := 20) (ls' := [some (.ref k0), some (.ref k1), some (.int k2), some (.int a3), some (.int a4)]) (st' := [.int 100, .int q2.1]) (by decide +kernel) rfl ?_
      obtain ⟨hn3, hf⟩ := nz_some hf
      refine CW.irem hn3 (by decide +kernel) ?_
      refine CW.run (blk := [(.iload_n 2, 0)]) (pc' := 22) (ls' := [some (.ref k0), some (.ref k1), some (.int k2), some (.int a3), some (.int a4)]) (st' := [.int k2, .int (q2.1 - q2.1 / 100 * 100)]) (by decide +kernel) rfl ?_
      refine CW.icmp_ge (off := 10) (tgt := 32) (by decide +kernel) (by decide) (fun c22_4 => ?_) (fun c22_4 => ?_)
      · rw [if_pos c22_4] at hf
        refine CW.run (blk := [(.iinc 4 1, 1), (.goto (-30), 0)]) (pc' := 5) (ls' := [some (.ref k0), some (.ref k1), some (.int k2), some (.int a3), some (.int (a4 + 1))]) (st' := []) (by decide +kernel) rfl ?_
        exact ih _ _ _ _ hf hk_1
      · rw [if_neg c22_4] at hf
        refine CW.run (blk := [(.iload_n 3, 0), (.iconst 1, 1), (.iload 4, 0), (.ishl, 0), (.ior, 0), (.istore_n 3, 0), (.iinc 4 1, 1), (.goto (-30), 0)]) (pc' := 5) (ls' := [some (.ref k0), some (.ref k1), some (.int k2), some (.int (a3 ||| ((1 : Int32) <<< (a4 &&& 31)))), some (.int (a4 + 1))]) (st' := []) (by decide +kernel) rfl ?_
        exact ih _ _ _ _ hf hk_1
theorem xc_X11_drawSlips {l : Launch} {b : Nat} {p0 : Nat} {p1 : Int32} {S : cT} {q : Int32 × cT} (hb : cK b = 9) (h0 : cK p0 = 2) (hf : fc_X11_drawSlips b p0 p1 S = some q) : COk l yy_X11_drawSlips 1 [.ref b, .ref p0, .int p1] S (some (.int q.1)) q.2 := by
  refine COk.of (ls := [some (.ref b), some (.ref p0), some (.int p1), none, none]) (by decide +kernel) (Nat.le_of_ble_eq_true rfl) rfl ?_
  unfold fc_X11_drawSlips at hf
  refine CW.run (blk := [(.iconst 0, 0), (.istore_n 3, 0), (.iconst 0, 0), (.istore 4, 0)]) (pc' := 5) (ls' := [some (.ref b), some (.ref p0), some (.int p1), some (.int 0), some (.int 0)]) (st' := []) (by decide +kernel) rfl ?_
  obtain ⟨w5, hw5, hf⟩ := bd_some hf
  refine xc_X11_drawSlips_L5 b p0 p1 hb h0 FU _ _ _ _ hw5 ?_
  refine CW.run (blk := [(.iload_n 3, 0)]) (pc' := 39) (ls' := [some (.ref b), some (.ref p0), some (.int p1), some (.int w5.1), some (.int w5.2.1)]) (st' := [.int w5.1]) (by decide +kernel) rfl ?_
  have e9 := Option.some.inj hf
  subst e9
  exact CW.iret rfl (by decide +kernel)
def fc_X11_drawHour (b : Nat) (p0 : Nat) (p1 : Nat) (p2 : Int32) (S : cT) : Option (cT) := Option.bind (if (S.1 p0 9) ≤ 0 then (some (1)) else (some (S.1 p0 9)) : Option (Int32)) fun w1 => (fc_X2_nextDraw p0 S).bind fun q3 => if (w1 : Int32) = 0 then none else ((fc_X2_nextDraw p0 q3.2).bind fun q5 => if (w1 : Int32) = 0 then none else ((fc_X6_isFull (p0 + 6) q5.2).bind fun q7 => Option.bind (if (b2i q7) = 0 then (if (q3.1 - q3.1 / w1 * w1) = (q5.1 - q5.1 / w1 * w1) then (if (q5.2.1 p0 10) = (q3.1 - q3.1 / w1 * w1) then ((fc_X2_addLook p0 q5.2).bind fun q12 => some (q12)) else (some (q5.2))) else ((fc_X2_faceOf p0 (q5.1 - q5.1 / w1 * w1) q5.2).bind fun q13 => (fc_X4_told (b + 101) p0 p1 (q3.1 - q3.1 / w1 * w1) (q5.1 - q5.1 / w1 * w1) (q5.1 - q5.1 / w1 * w1) q13 q5.2).bind fun q14 => (fc_X11_drawSlips b p0 p2 q14.2).bind fun q15 => (fc_X2_addTelling p0 (q3.1 - q3.1 / w1 * w1) (q5.1 - q5.1 / w1 * w1) (q5.1 - q5.1 / w1 * w1) (q14.1 ^^^ q15.1) (-1) q15.2).bind fun q16 => some (q16))) else (some (q5.2)) : Option (cT)) fun w8 => letv (ca w8 p0 12 ((w8.1 p0 12) + 1)) fun S17 => some S17))
theorem xc_X11_drawHour {l : Launch} {b : Nat} {p0 : Nat} {p1 : Nat} {p2 : Int32} {S : cT} {q : cT} (hb : cK b = 9) (h0 : cK p0 = 2) (h1 : cK p1 = 6) (hf : fc_X11_drawHour b p0 p1 p2 S = some q) : COk l yy_X11_drawHour 4 [.ref b, .ref p0, .ref p1, .int p2] S none q := by
  refine COk.of (ls := [some (.ref b), some (.ref p0), some (.ref p1), some (.int p2), none, none, none, none]) (by decide +kernel) (Nat.le_of_ble_eq_true rfl) rfl ?_
  unfold fc_X11_drawHour at hf
  refine CW.run (blk := [(.aload_n 1, 0)]) (pc' := 1) (ls' := [some (.ref b), some (.ref p0), some (.ref p1), some (.int p2), none, none, none, none]) (st' := [.ref p0]) (by decide +kernel) rfl ?_
  refine CW.getf (v := .int (S.1 p0 9)) h0 (by decide) fl_RX11_99 (by decide +kernel) rfl ?_
  obtain ⟨w1, hw1, hf⟩ := bd_some hf
  have hJ : CW l yy_X11_drawHour 4 none q 15 [some (.ref b), some (.ref p0), some (.ref p1), some (.int p2), none, none, none, none] [.int w1] S := by
    refine CW.run (blk := [(.istore 4, 0), (.aload_n 1, 0)]) (pc' := 18) (ls' := [some (.ref b), some (.ref p0), some (.ref p1), some (.int p2), some (.int w1), none, none, none]) (st' := [.ref p0]) (by decide +kernel) rfl ?_
    obtain ⟨q3, hq3, hf⟩ := bd_some hf
    refine CW.callV (As := []) (st := []) lv_RX11_333 h0 (by decide) rfl rfl (by decide +kernel) (xc_X2_nextDraw h0 hq3) (by decide) (by decide) rfl (Nat.le_of_ble_eq_true rfl) rfl ?_
    show CW l yy_X11_drawHour 4 _ _ 21 [some (.ref b), some (.ref p0), some (.ref p1), some (.int p2), some (.int w1), none, none, none] [.int q3.1] q3.2
    refine CW.run (blk := [(.iload 4, 0)]) (pc' := 23) (ls' := [some (.ref b), some (.ref p0), some (.ref p1), some (.int p2), some (.int w1), none, none, none]) (st' := [.int w1, .int q3.1]) (by decide +kernel) rfl ?_
    obtain ⟨hn4, hf⟩ := nz_some hf
    refine CW.irem hn4 (by decide +kernel) ?_
    refine CW.run (blk := [(.istore 5, 0), (.aload_n 1, 0)]) (pc' := 27) (ls' := [some (.ref b), some (.ref p0), some (.ref p1), some (.int p2), some (.int w1), some (.int (q3.1 - q3.1 / w1 * w1)), none, none]) (st' := [.ref p0]) (by decide +kernel) rfl ?_
    obtain ⟨q5, hq5, hf⟩ := bd_some hf
    refine CW.callV (As := []) (st := []) lv_RX11_333 h0 (by decide) rfl rfl (by decide +kernel) (xc_X2_nextDraw h0 hq5) (by decide) (by decide) rfl (Nat.le_of_ble_eq_true rfl) rfl ?_
    show CW l yy_X11_drawHour 4 _ _ 30 [some (.ref b), some (.ref p0), some (.ref p1), some (.int p2), some (.int w1), some (.int (q3.1 - q3.1 / w1 * w1)), none, none] [.int q5.1] q5.2
    refine CW.run (blk := [(.iload 4, 0)]) (pc' := 32) (ls' := [some (.ref b), some (.ref p0), some (.ref p1), some (.int p2), some (.int w1), some (.int (q3.1 - q3.1 / w1 * w1)), none, none]) (st' := [.int w1, .int q5.1]) (by decide +kernel) rfl ?_
    obtain ⟨hn6, hf⟩ := nz_some hf
    refine CW.irem hn6 (by decide +kernel) ?_
    refine CW.run (blk := [(.istore 6, 0), (.aload_n 1, 0)]) (pc' := 36) (ls' := [some (.ref b), some (.ref p0), some (.ref p1), some (.int p2), some (.int w1), some (.int (q3.1 - q3.1 / w1 * w1)), some (.int (q5.1 - q5.1 / w1 * w1)), none]) (st' := [.ref p0]) (by decide +kernel) rfl ?_
    refine CW.getf (v := .ref (p0 + 6)) h0 (by decide) fl_RX11_169 (by decide +kernel) rfl ?_
    obtain ⟨q7, hq7, hf⟩ := bd_some hf
    refine CW.callV (As := []) (st := []) lv_RX11_271 (kk_2_5 h0) (by decide) rfl rfl (by decide +kernel) (xc_X6_isFull (kk_2_5 h0) hq7) (by decide) (by decide) rfl (Nat.le_of_ble_eq_true rfl) rfl ?_
    show CW l yy_X11_drawHour 4 _ _ 42 [some (.ref b), some (.ref p0), some (.ref p1), some (.int p2), some (.int w1), some (.int (q3.1 - q3.1 / w1 * w1)), some (.int (q5.1 - q5.1 / w1 * w1)), none] [.int (b2i q7)] q5.2
    obtain ⟨w8, hw8, hf⟩ := bd_some hf
    have hJ : CW l yy_X11_drawHour 4 none q 111 [some (.ref b), some (.ref p0), some (.ref p1), some (.int p2), some (.int w1), some (.int (q3.1 - q3.1 / w1 * w1)), some (.int (q5.1 - q5.1 / w1 * w1)), none] [] w8 := by
      refine CW.run (blk := [(.aload_n 1, 0), (.dup, 0)]) (pc' := 113) (ls' := [some (.ref b), some (.ref p0), some (.ref p1), some (.int p2), some (.int w1), some (.int (q3.1 - q3.1 / w1 * w1)), some (.int (q5.1 - q5.1 / w1 * w1)), none]) (st' := [.ref p0, .ref p0]) (by decide +kernel) rfl ?_
      refine CW.getf (v := .int (w8.1 p0 12)) h0 (by decide) fl_RX11_205 (by decide +kernel) rfl ?_
      refine CW.run (blk := [(.iconst 1, 1), (.iadd, 0)]) (pc' := 118) (ls' := [some (.ref b), some (.ref p0), some (.ref p1), some (.int p2), some (.int w1), some (.int (q3.1 - q3.1 / w1 * w1)), some (.int (q5.1 - q5.1 / w1 * w1)), none]) (st' := [.int ((w8.1 p0 12) + 1), .ref p0]) (by decide +kernel) rfl ?_
      refine CW.putI h0 (by decide) fp_RX11_205 (by decide +kernel) (fun _ _ _ => Nat.le_of_ble_eq_true rfl) rfl rfl (fun _ _ _ => rfl) ?_
      obtain ⟨S17, hS17, hf⟩ := letv_some hf
      rw [← hS17]
      have e9 := Option.some.inj hf
      subst e9
      exact CW.vret rfl (by decide +kernel)
    clear hf
    refine CW.if_ne (off := 69) (tgt := 111) (by decide +kernel) (by decide) (fun c42_9 => ?_) (fun c42_9 => ?_)
    · rw [if_neg c42_9] at hw8
      have e9 := Option.some.inj hw8
      subst e9
      exact hJ
    · rw [if_pos c42_9] at hw8
      refine CW.run (blk := [(.iload 5, 0), (.iload 6, 0)]) (pc' := 49) (ls' := [some (.ref b), some (.ref p0), some (.ref p1), some (.int p2), some (.int w1), some (.int (q3.1 - q3.1 / w1 * w1)), some (.int (q5.1 - q5.1 / w1 * w1)), none]) (st' := [.int (q5.1 - q5.1 / w1 * w1), .int (q3.1 - q3.1 / w1 * w1)]) (by decide +kernel) rfl ?_
      refine CW.icmp_eq (off := 49) (tgt := 98) (by decide +kernel) (by decide) (fun c49_10 => ?_) (fun c49_10 => ?_)
      · rw [if_pos c49_10] at hw8
        refine CW.run (blk := [(.aload_n 1, 0)]) (pc' := 99) (ls' := [some (.ref b), some (.ref p0), some (.ref p1), some (.int p2), some (.int w1), some (.int (q3.1 - q3.1 / w1 * w1)), some (.int (q5.1 - q5.1 / w1 * w1)), none]) (st' := [.ref p0]) (by decide +kernel) rfl ?_
        refine CW.getf (v := .int (q5.2.1 p0 10)) h0 (by decide) fl_RX11_144 (by decide +kernel) rfl ?_
        refine CW.run (blk := [(.iload 5, 0)]) (pc' := 104) (ls' := [some (.ref b), some (.ref p0), some (.ref p1), some (.int p2), some (.int w1), some (.int (q3.1 - q3.1 / w1 * w1)), some (.int (q5.1 - q5.1 / w1 * w1)), none]) (st' := [.int (q3.1 - q3.1 / w1 * w1), .int (q5.2.1 p0 10)]) (by decide +kernel) rfl ?_
        refine CW.icmp_ne (off := 7) (tgt := 111) (by decide +kernel) (by decide) (fun c104_11 => ?_) (fun c104_11 => ?_)
        · rw [if_neg c104_11] at hw8
          have e9 := Option.some.inj hw8
          subst e9
          exact hJ
        · rw [if_pos c104_11] at hw8
          refine CW.run (blk := [(.aload_n 1, 0)]) (pc' := 108) (ls' := [some (.ref b), some (.ref p0), some (.ref p1), some (.int p2), some (.int w1), some (.int (q3.1 - q3.1 / w1 * w1)), some (.int (q5.1 - q5.1 / w1 * w1)), none]) (st' := [.ref p0]) (by decide +kernel) rfl ?_
          obtain ⟨q12, hq12, hw8⟩ := bd_some hw8
          refine CW.callV (As := []) (st := []) lv_RX11_214 h0 (by decide) rfl rfl (by decide +kernel) (xc_X2_addLook h0 hq12) (by decide) (by decide) rfl (Nat.le_of_ble_eq_true rfl) rfl ?_
          show CW l yy_X11_drawHour 4 _ _ 111 [some (.ref b), some (.ref p0), some (.ref p1), some (.int p2), some (.int w1), some (.int (q3.1 - q3.1 / w1 * w1)), some (.int (q5.1 - q5.1 / w1 * w1)), none] [] q12
          have e9 := Option.some.inj hw8
          subst e9
          exact hJ
      · rw [if_neg c49_10] at hw8
        refine CW.run (blk := [(.aload_n 0, 0)]) (pc' := 53) (ls' := [some (.ref b), some (.ref p0), some (.ref p1), some (.int p2), some (.int w1), some (.int (q3.1 - q3.1 / w1 * w1)), some (.int (q5.1 - q5.1 / w1 * w1)), none]) (st' := [.ref b]) (by decide +kernel) rfl ?_
        refine CW.getf (v := .ref (b + 101)) hb (by decide) fl_RX11_48 (by decide +kernel) rfl ?_
        refine CW.run (blk := [(.aload_n 1, 0), (.aload_n 2, 0), (.iload 5, 0), (.iload 6, 0), (.iload 6, 0), (.aload_n 1, 0), (.iload 6, 0)]) (pc' := 67) (ls' := [some (.ref b), some (.ref p0), some (.ref p1), some (.int p2), some (.int w1), some (.int (q3.1 - q3.1 / w1 * w1)), some (.int (q5.1 - q5.1 / w1 * w1)), none]) (st' := [.int (q5.1 - q5.1 / w1 * w1), .ref p0, .int (q5.1 - q5.1 / w1 * w1), .int (q5.1 - q5.1 / w1 * w1), .int (q3.1 - q3.1 / w1 * w1), .ref p1, .ref p0, .ref (b + 101)]) (by decide +kernel) rfl ?_
        obtain ⟨q13, hq13, hw8⟩ := bd_some hw8
        refine CW.callV (As := [.int (q5.1 - q5.1 / w1 * w1)]) (st := [.int (q5.1 - q5.1 / w1 * w1), .int (q5.1 - q5.1 / w1 * w1), .int (q3.1 - q3.1 / w1 * w1), .ref p1, .ref p0, .ref (b + 101)]) lv_RX11_186 h0 (by decide) rfl rfl (by decide +kernel) (xc_X2_faceOf h0 hq13) (by decide) (by decide) rfl (Nat.le_of_ble_eq_true rfl) rfl ?_
        show CW l yy_X11_drawHour 4 _ _ 70 [some (.ref b), some (.ref p0), some (.ref p1), some (.int p2), some (.int w1), some (.int (q3.1 - q3.1 / w1 * w1)), some (.int (q5.1 - q5.1 / w1 * w1)), none] [.int q13, .int (q5.1 - q5.1 / w1 * w1), .int (q5.1 - q5.1 / w1 * w1), .int (q3.1 - q3.1 / w1 * w1), .ref p1, .ref p0, .ref (b + 101)] q5.2
        obtain ⟨q14, hq14, hw8⟩ := bd_some hw8
        refine CW.callV (As := [.ref p0, .ref p1, .int (q3.1 - q3.1 / w1 * w1), .int (q5.1 - q5.1 / w1 * w1), .int (q5.1 - q5.1 / w1 * w1), .int q13]) (st := []) lv_RX11_193 (kk_9_6 hb) (by decide) rfl rfl (by decide +kernel) (xc_X4_told (kk_9_6 hb) h0 h1 hq14) (by decide) (by decide) rfl (Nat.le_of_ble_eq_true rfl) rfl ?_
        show CW l yy_X11_drawHour 4 _ _ 73 [some (.ref b), some (.ref p0), some (.ref p1), some (.int p2), some (.int w1), some (.int (q3.1 - q3.1 / w1 * w1)), some (.int (q5.1 - q5.1 / w1 * w1)), none] [.int q14.1] q14.2
        refine CW.run (blk := [(.istore 7, 0), (.aload_n 1, 0), (.iload 5, 0), (.iload 6, 0), (.iload 6, 0), (.iload 7, 0), (.aload_n 0, 0), (.aload_n 1, 0), (.iload_n 3, 0)]) (pc' := 87) (ls' := [some (.ref b), some (.ref p0), some (.ref p1), some (.int p2), some (.int w1), some (.int (q3.1 - q3.1 / w1 * w1)), some (.int (q5.1 - q5.1 / w1 * w1)), some (.int q14.1)]) (st' := [.int p2, .ref p0, .ref b, .int q14.1, .int (q5.1 - q5.1 / w1 * w1), .int (q5.1 - q5.1 / w1 * w1), .int (q3.1 - q3.1 / w1 * w1), .ref p0]) (by decide +kernel) rfl ?_
        obtain ⟨q15, hq15, hw8⟩ := bd_some hw8
        refine CW.callV (As := [.ref p0, .int p2]) (st := [.int q14.1, .int (q5.1 - q5.1 / w1 * w1), .int (q5.1 - q5.1 / w1 * w1), .int (q3.1 - q3.1 / w1 * w1), .ref p0]) lv_RX11_336 hb (by decide) rfl rfl (by decide +kernel) (xc_X11_drawSlips hb h0 hq15) (by decide) (by decide) rfl (Nat.le_of_ble_eq_true rfl) rfl ?_
        show CW l yy_X11_drawHour 4 _ _ 90 [some (.ref b), some (.ref p0), some (.ref p1), some (.int p2), some (.int w1), some (.int (q3.1 - q3.1 / w1 * w1)), some (.int (q5.1 - q5.1 / w1 * w1)), some (.int q14.1)] [.int q15.1, .int q14.1, .int (q5.1 - q5.1 / w1 * w1), .int (q5.1 - q5.1 / w1 * w1), .int (q3.1 - q3.1 / w1 * w1), .ref p0] q15.2
        refine CW.run (blk := [(.ixor, 0), (.iconst (-1), (-1))]) (pc' := 92) (ls' := [some (.ref b), some (.ref p0), some (.ref p1), some (.int p2), some (.int w1), some (.int (q3.1 - q3.1 / w1 * w1)), some (.int (q5.1 - q5.1 / w1 * w1)), some (.int q14.1)]) (st' := [.int (-1), .int (q14.1 ^^^ q15.1), .int (q5.1 - q5.1 / w1 * w1), .int (q5.1 - q5.1 / w1 * w1), .int (q3.1 - q3.1 / w1 * w1), .ref p0]) (by decide +kernel) rfl ?_
        obtain ⟨q16, hq16, hw8⟩ := bd_some hw8
        refine CW.callV (As := [.int (q3.1 - q3.1 / w1 * w1), .int (q5.1 - q5.1 / w1 * w1), .int (q5.1 - q5.1 / w1 * w1), .int (q14.1 ^^^ q15.1), .int (-1)]) (st := []) lv_RX11_201 h0 (by decide) rfl rfl (by decide +kernel) (xc_X2_addTelling h0 hq16) (by decide) (by decide) rfl (Nat.le_of_ble_eq_true rfl) rfl ?_
        show CW l yy_X11_drawHour 4 _ _ 95 [some (.ref b), some (.ref p0), some (.ref p1), some (.int p2), some (.int w1), some (.int (q3.1 - q3.1 / w1 * w1)), some (.int (q5.1 - q5.1 / w1 * w1)), some (.int q14.1)] [] q16
        refine CW.run (blk := [(.goto 16, 0)]) (pc' := 111) (ls' := [some (.ref b), some (.ref p0), some (.ref p1), some (.int p2), some (.int w1), some (.int (q3.1 - q3.1 / w1 * w1)), some (.int (q5.1 - q5.1 / w1 * w1)), some (.int q14.1)]) (st' := []) (by decide +kernel) rfl ?_
        have e9 := Option.some.inj hw8
        subst e9
        refine CW.fgt (ls' := [some (.ref b), some (.ref p0), some (.ref p1), some (.int p2), some (.int w1), some (.int (q3.1 - q3.1 / w1 * w1)), some (.int (q5.1 - q5.1 / w1 * w1)), none]) (by repeat' (first | exact trivial | refine ⟨rfl, ?_⟩)) ?_
        exact hJ
  clear hf
  refine CW.if_le (off := 10) (tgt := 14) (by decide +kernel) (by decide) (fun c4_2 => ?_) (fun c4_2 => ?_)
  · rw [if_pos c4_2] at hw1
    refine CW.run (blk := [(.iconst 1, 1)]) (pc' := 15) (ls' := [some (.ref b), some (.ref p0), some (.ref p1), some (.int p2), none, none, none, none]) (st' := [.int 1]) (by decide +kernel) rfl ?_
    have e9 := Option.some.inj hw1
    subst e9
    exact hJ
  · rw [if_neg c4_2] at hw1
    refine CW.run (blk := [(.aload_n 1, 0)]) (pc' := 8) (ls' := [some (.ref b), some (.ref p0), some (.ref p1), some (.int p2), none, none, none, none]) (st' := [.ref p0]) (by decide +kernel) rfl ?_
    refine CW.getf (v := .int (S.1 p0 9)) h0 (by decide) fl_RX11_99 (by decide +kernel) rfl ?_
    refine CW.run (blk := [(.goto 4, 0)]) (pc' := 15) (ls' := [some (.ref b), some (.ref p0), some (.ref p1), some (.int p2), none, none, none, none]) (st' := [.int (S.1 p0 9)]) (by decide +kernel) rfl ?_
    have e9 := Option.some.inj hw1
    subst e9
    exact hJ
