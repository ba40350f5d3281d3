/-! ===== the class, method by method (by program) 15 ===== -/
def fc_X11_keep (b : Nat) (p0 : Int32) (S : cT) : Option (Bool × cT) := bif Nat.beq (cK S.2.2.1) 2 then (if (S.1 S.2.2.1 9) = 0 then (some (false, S)) else (if (S.1 S.2.2.1 11) = p0 then (some (false, S)) else ((fc_X1_remember (b + 99) S.2.2.1 S).bind fun q4 => bif Nat.beq (cK q4.2.2.1) 2 then (bif isB p0 then (letv (ca q4 q4.2.2.1 11 p0) fun S7 => some (true, S7)) else none) else none))) else none
theorem xc_X11_keep {l : Launch} {b : Nat} {p0 : Int32} {S : cT} {q : Bool × cT} (hb : cK b = 9) (hf : fc_X11_keep b p0 S = some q) : COk l yy_X11_keep 3 [.ref b, .int p0] S (some (.int (b2i q.1))) q.2 := by
  refine COk.of (ls := [some (.ref b), some (.int p0)]) (by decide +kernel) (Nat.le_of_ble_eq_true rfl) rfl ?_
  unfold fc_X11_keep at hf
  refine CW.run (blk := [(.aload_n 0, 0)]) (pc' := 1) (ls' := [some (.ref b), some (.int p0)]) (st' := [.ref b]) (by decide +kernel) rfl ?_
  refine CW.getf (v := .ref S.2.2.1) hb (by decide) fl_RX11_66 (by decide +kernel) rfl ?_
  obtain ⟨hk1, hf⟩ := bi_some hf
  refine CW.getf (v := .int (S.1 S.2.2.1 9)) (Nat.eq_of_beq_eq_true hk1) (by decide) fl_RX11_99 (by decide +kernel) rfl ?_
  refine CW.if_eq (off := 14) (tgt := 21) (by decide +kernel) (by decide) (fun c7_2 => ?_) (fun c7_2 => ?_)
  · rw [if_pos c7_2] at hf
    refine CW.run (blk := [(.iconst 0, 0)]) (pc' := 22) (ls' := [some (.ref b), some (.int p0)]) (st' := [.int 0]) (by decide +kernel) rfl ?_
    have e9 := Option.some.inj hf
    subst e9
    exact CW.zret rfl (b2i_nar _) (by decide +kernel)
  · rw [if_neg c7_2] at hf
    refine CW.run (blk := [(.aload_n 0, 0)]) (pc' := 11) (ls' := [some (.ref b), some (.int p0)]) (st' := [.ref b]) (by decide +kernel) rfl ?_
    refine CW.getf (v := .ref S.2.2.1) hb (by decide) fl_RX11_66 (by decide +kernel) rfl ?_
    refine CW.getf (v := .int (S.1 S.2.2.1 11)) (Nat.eq_of_beq_eq_true hk1) (by decide) fl_RX11_140 (by decide +kernel) rfl ?_
    refine CW.run (blk := [(.iload_n 1, 0)]) (pc' := 18) (ls' := [some (.ref b), some (.int p0)]) (st' := [.int p0, .int (S.1 S.2.2.1 11)]) (by decide +kernel) rfl ?_
    refine CW.icmp_ne (off := 5) (tgt := 23) (by decide +kernel) (by decide) (fun c18_3 => ?_) (fun c18_3 => ?_)
    · rw [if_neg c18_3] at hf
      refine CW.run (blk := [(.aload_n 0, 0)]) (pc' := 24) (ls' := [some (.ref b), some (.int p0)]) (st' := [.ref b]) (by decide +kernel) rfl ?_
      refine CW.getf (v := .ref (b + 99)) hb (by decide) fl_RX11_41 (by decide +kernel) rfl ?_
      refine CW.run (blk := [(.aload_n 0, 0)]) (pc' := 28) (ls' := [some (.ref b), some (.int p0)]) (st' := [.ref b, .ref (b + 99)]) (by decide +kernel) rfl ?_
      refine CW.getf (v := .ref S.2.2.1) hb (by decide) fl_RX11_66 (by decide +kernel) rfl ?_
      obtain ⟨q4, hq4, hf⟩ := bd_some hf
      refine CW.callV (As := [.ref S.2.2.1]) (st := []) lv_RX11_197 (kk_9_5 hb) (by decide) rfl rfl (by decide +kernel) (xc_X1_remember (kk_9_5 hb) (Nat.eq_of_beq_eq_true hk1) hq4) (by decide) (by decide) rfl (Nat.le_of_ble_eq_true rfl) rfl ?_
      show CW l yy_X11_keep 3 _ _ 34 [some (.ref b), some (.int p0)] [] q4
      refine CW.run (blk := [(.aload_n 0, 0)]) (pc' := 35) (ls' := [some (.ref b), some (.int p0)]) (st' := [.ref b]) (by decide +kernel) rfl ?_
      refine CW.getf (v := .ref q4.2.2.1) hb (by decide) fl_RX11_66 (by decide +kernel) rfl ?_
      obtain ⟨hk5, hf⟩ := bi_some hf
      refine CW.run (blk := [(.iload_n 1, 0)]) (pc' := 39) (ls' := [some (.ref b), some (.int p0)]) (st' := [.int p0, .ref q4.2.2.1]) (by decide +kernel) rfl ?_
      obtain ⟨hz6, hf⟩ := bi_some hf
      refine CW.putI (Nat.eq_of_beq_eq_true hk5) (by decide) fp_RX11_140 (by decide +kernel) (fun _ _ _ => Nat.le_of_ble_eq_true rfl) (isB_nar hz6) (isB_fit hz6) (fun _ _ _ => rfl) ?_
      obtain ⟨S7, hS7, hf⟩ := letv_some hf
      rw [← hS7]
      refine CW.run (blk := [(.iconst 1, 1)]) (pc' := 43) (ls' := [some (.ref b), some (.int p0)]) (st' := [.int 1]) (by decide +kernel) rfl ?_
      have e9 := Option.some.inj hf
      subst e9
      exact CW.zret rfl (b2i_nar _) (by decide +kernel)
    · rw [if_pos c18_3] at hf
      refine CW.run (blk := [(.iconst 0, 0)]) (pc' := 22) (ls' := [some (.ref b), some (.int p0)]) (st' := [.int 0]) (by decide +kernel) rfl ?_
      have e9 := Option.some.inj hf
      subst e9
      exact CW.zret rfl (b2i_nar _) (by decide +kernel)
def fc_X11_rest (b : Nat) (S : cT) : Option (Int32 × cT) := (fc_X11_canAct b S).bind fun q1 => if (b2i q1) = 0 then (some ((-1), S)) else (bif Nat.beq (cK S.2.2.1) 2 then ((fc_X1_remember (b + 99) S.2.2.1 S).bind fun q4 => bif Nat.beq (cK q4.2.2.1) 2 then (letv (ca q4 q4.2.2.1 12 ((q4.1 q4.2.2.1 12) + 1)) fun S6 => bif Nat.beq (cK S6.2.2.1) 2 then (some (S6.1 S6.2.2.1 12, S6)) else none) else none) else none)
theorem xc_X11_rest {l : Launch} {b : Nat} {S : cT} {q : Int32 × cT} (hb : cK b = 9) (hf : fc_X11_rest b S = some q) : COk l yy_X11_rest 3 [.ref b] S (some (.int q.1)) q.2 := by
  refine COk.of (ls := [some (.ref b)]) (by decide +kernel) (Nat.le_of_ble_eq_true rfl) rfl ?_
  unfold fc_X11_rest at hf
  refine CW.run (blk := [(.aload_n 0, 0)]) (pc' := 1) (ls' := [some (.ref b)]) (st' := [.ref b]) (by decide +kernel) rfl ?_
  obtain ⟨q1, hq1, hf⟩ := bd_some hf
  refine CW.callV (As := []) (st := []) lv_RX11_217 hb (by decide) rfl rfl (by decide +kernel) (xc_X11_canAct hb hq1) (by decide) (by decide) rfl (Nat.le_of_ble_eq_true rfl) rfl ?_
  show CW l yy_X11_rest 3 _ _ 4 [some (.ref b)] [.int (b2i q1)] S
  refine CW.if_ne (off := 5) (tgt := 9) (by decide +kernel) (by decide) (fun c4_2 => ?_) (fun c4_2 => ?_)
  · rw [if_neg c4_2] at hf
    refine CW.run (blk := [(.aload_n 0, 0)]) (pc' := 10) (ls' := [some (.ref b)]) (st' := [.ref b]) (by decide +kernel) rfl ?_
    refine CW.getf (v := .ref (b + 99)) hb (by decide) fl_RX11_41 (by decide +kernel) rfl ?_
    refine CW.run (blk := [(.aload_n 0, 0)]) (pc' := 14) (ls' := [some (.ref b)]) (st' := [.ref b, .ref (b + 99)]) (by decide +kernel) rfl ?_
    refine CW.getf (v := .ref S.2.2.1) hb (by decide) fl_RX11_66 (by decide +kernel) rfl ?_
    obtain ⟨hk3, hf⟩ := bi_some hf
    obtain ⟨q4, hq4, hf⟩ := bd_some hf
    refine CW.callV (As := [.ref S.2.2.1]) (st := []) lv_RX11_197 (kk_9_5 hb) (by decide) rfl rfl (by decide +kernel) (xc_X1_remember (kk_9_5 hb) (Nat.eq_of_beq_eq_true hk3) hq4) (by decide) (by decide) rfl (Nat.le_of_ble_eq_true rfl) rfl ?_
    show CW l yy_X11_rest 3 _ _ 20 [some (.ref b)] [] q4
    refine CW.run (blk := [(.aload_n 0, 0)]) (pc' := 21) (ls' := [some (.ref b)]) (st' := [.ref b]) (by decide +kernel) rfl ?_
    refine CW.getf (v := .ref q4.2.2.1) hb (by decide) fl_RX11_66 (by decide +kernel) rfl ?_
    obtain ⟨hk5, hf⟩ := bi_some hf
    refine CW.run (blk := [(.dup, 0)]) (pc' := 25) (ls' := [some (.ref b)]) (st' := [.ref q4.2.2.1, .ref q4.2.2.1]) (by decide +kernel) rfl ?_
    refine CW.getf (v := .int (q4.1 q4.2.2.1 12)) (Nat.eq_of_beq_eq_true hk5) (by decide) fl_RX11_205 (by decide +kernel) rfl ?_
    refine CW.run (blk := [(.iconst 1, 1), (.iadd, 0)]) (pc' := 30) (ls' := [some (.ref b)]) (st' := [.int ((q4.1 q4.2.2.1 12) + 1), .ref q4.2.2.1]) (by decide +kernel) rfl ?_
    refine CW.putI (Nat.eq_of_beq_eq_true hk5) (by decide) fp_RX11_205 (by decide +kernel) (fun _ _ _ => Nat.le_of_ble_eq_true rfl) rfl rfl (fun _ _ _ => rfl) ?_
    obtain ⟨S6, hS6, hf⟩ := letv_some hf
    rw [← hS6]
    refine CW.run (blk := [(.aload_n 0, 0)]) (pc' := 34) (ls' := [some (.ref b)]) (st' := [.ref b]) (by decide +kernel) rfl ?_
    refine CW.getf (v := .ref S6.2.2.1) hb (by decide) fl_RX11_66 (by decide +kernel) rfl ?_
    obtain ⟨hk7, hf⟩ := bi_some hf
    refine CW.getf (v := .int (S6.1 S6.2.2.1 12)) (Nat.eq_of_beq_eq_true hk7) (by decide) fl_RX11_205 (by decide +kernel) rfl ?_
    have e9 := Option.some.inj hf
    subst e9
    exact CW.iret rfl (by decide +kernel)
  · rw [if_pos c4_2] at hf
    refine CW.run (blk := [(.iconst (-1), (-1))]) (pc' := 8) (ls' := [some (.ref b)]) (st' := [.int (-1)]) (by decide +kernel) rfl ?_
    have e9 := Option.some.inj hf
    subst e9
    exact CW.iret rfl (by decide +kernel)
def fc_X11_undo (b : Nat) (S : cT) : Option (Int32 × cT) := if 1 ≤ (S.1 (b + 99) 2) then (bif Nat.beq (cK S.2.2.1) 2 then ((fc_X1_restore (b + 99) S.2.2.1 S).bind fun q3 => some (q3.1 (b + 99) 2, q3)) else none) else (some ((-1), S))
theorem xc_X11_undo {l : Launch} {b : Nat} {S : cT} {q : Int32 × cT} (hb : cK b = 9) (hf : fc_X11_undo b S = some q) : COk l yy_X11_undo 3 [.ref b] S (some (.int q.1)) q.2 := by
  refine COk.of (ls := [some (.ref b)]) (by decide +kernel) (Nat.le_of_ble_eq_true rfl) rfl ?_
  unfold fc_X11_undo at hf
  refine CW.run (blk := [(.aload_n 0, 0)]) (pc' := 1) (ls' := [some (.ref b)]) (st' := [.ref b]) (by decide +kernel) rfl ?_
  refine CW.getf (v := .ref (b + 99)) hb (by decide) fl_RX11_41 (by decide +kernel) rfl ?_
  refine CW.getf (v := .int (S.1 (b + 99) 2)) (kk_9_5 hb) (by decide) fl_RX11_223 (by decide +kernel) rfl ?_
  refine CW.run (blk := [(.iconst 1, 1)]) (pc' := 8) (ls' := [some (.ref b)]) (st' := [.int 1, .int (S.1 (b + 99) 2)]) (by decide +kernel) rfl ?_
  refine CW.icmp_ge (off := 5) (tgt := 13) (by decide +kernel) (by decide) (fun c8_1 => ?_) (fun c8_1 => ?_)
  · rw [if_pos c8_1] at hf
    refine CW.run (blk := [(.aload_n 0, 0)]) (pc' := 14) (ls' := [some (.ref b)]) (st' := [.ref b]) (by decide +kernel) rfl ?_
    refine CW.getf (v := .ref (b + 99)) hb (by decide) fl_RX11_41 (by decide +kernel) rfl ?_
    refine CW.run (blk := [(.aload_n 0, 0)]) (pc' := 18) (ls' := [some (.ref b)]) (st' := [.ref b, .ref (b + 99)]) (by decide +kernel) rfl ?_
    refine CW.getf (v := .ref S.2.2.1) hb (by decide) fl_RX11_66 (by decide +kernel) rfl ?_
    obtain ⟨hk2, hf⟩ := bi_some hf
    obtain ⟨q3, hq3, hf⟩ := bd_some hf
    refine CW.callV (As := [.ref S.2.2.1]) (st := []) lv_RX11_224 (kk_9_5 hb) (by decide) rfl rfl (by decide +kernel) (xc_X1_restore (kk_9_5 hb) (Nat.eq_of_beq_eq_true hk2) hq3) (by decide) (by decide) rfl (Nat.le_of_ble_eq_true rfl) rfl ?_
    show CW l yy_X11_undo 3 _ _ 24 [some (.ref b)] [] q3
    refine CW.run (blk := [(.aload_n 0, 0)]) (pc' := 25) (ls' := [some (.ref b)]) (st' := [.ref b]) (by decide +kernel) rfl ?_
    refine CW.getf (v := .ref (b + 99)) hb (by decide) fl_RX11_41 (by decide +kernel) rfl ?_
    refine CW.getf (v := .int (q3.1 (b + 99) 2)) (kk_9_5 hb) (by decide) fl_RX11_223 (by decide +kernel) rfl ?_
    have e9 := Option.some.inj hf
    subst e9
    exact CW.iret rfl (by decide +kernel)
  · rw [if_neg c8_1] at hf
    refine CW.run (blk := [(.iconst (-1), (-1))]) (pc' := 12) (ls' := [some (.ref b)]) (st' := [.int (-1)]) (by decide +kernel) rfl ?_
    have e9 := Option.some.inj hf
    subst e9
    exact CW.iret rfl (by decide +kernel)
def fc_X11_tellWhoHeedsMost (b : Nat) (p0 : Nat) (S : cT) : Option (cT) := bif Nat.beq (cK S.2.2.1) 2 then (Option.bind (if (S.1 S.2.2.1 9) ≤ 0 then (some (0)) else (if ((S.1 S.2.2.1 9) : Int32) = 0 then none else (some ((S.1 S.2.2.1 12) - (S.1 S.2.2.1 12) / (S.1 S.2.2.1 9) * (S.1 S.2.2.1 9)))) : Option (Int32)) fun w2 => (fc_X2_whoHeedsMost S.2.2.1 w2 S).bind fun q5 => if q5 = (-1) then (some S) else ((fc_X2_faceOf S.2.2.1 q5 S).bind fun q7 => (fc_X4_told (b + 101) S.2.2.1 p0 w2 q5 q5 q7 S).bind fun q8 => bif Nat.beq (cK q8.2.2.2.1) 2 then ((fc_X2_addTelling q8.2.2.2.1 w2 q5 q5 q8.1 (-1) q8.2).bind fun q10 => some q10) else none)) else none
theorem xc_X11_tellWhoHeedsMost {l : Launch} {b : Nat} {p0 : Nat} {S : cT} {q : cT} (hb : cK b = 9) (h0 : cK p0 = 6) (hf : fc_X11_tellWhoHeedsMost b p0 S = some q) : COk l yy_X11_tellWhoHeedsMost 4 [.ref b, .ref p0] S none q := by
  refine COk.of (ls := [some (.ref b), some (.ref p0), none, none, none]) (by decide +kernel) (Nat.le_of_ble_eq_true rfl) rfl ?_
  unfold fc_X11_tellWhoHeedsMost at hf
  refine CW.run (blk := [(.aload_n 0, 0)]) (pc' := 1) (ls' := [some (.ref b), some (.ref p0), none, none, none]) (st' := [.ref b]) (by decide +kernel) rfl ?_
  refine CW.getf (v := .ref S.2.2.1) hb (by decide) fl_RX11_66 (by decide +kernel) rfl ?_
  obtain ⟨hk1, hf⟩ := bi_some hf
  refine CW.getf (v := .int (S.1 S.2.2.1 9)) (Nat.eq_of_beq_eq_true hk1) (by decide) fl_RX11_99 (by decide +kernel) rfl ?_
  obtain ⟨w2, hw2, hf⟩ := bd_some hf
  have hJ : CW l yy_X11_tellWhoHeedsMost 4 none q 29 [some (.ref b), some (.ref p0), none, none, none] [.int w2] S := by
    refine CW.run (blk := [(.istore_n 2, 0), (.aload_n 0, 0)]) (pc' := 31) (ls' := [some (.ref b), some (.ref p0), some (.int w2), none, none]) (st' := [.ref b]) (by decide +kernel) rfl ?_
    refine CW.getf (v := .ref S.2.2.1) hb (by decide) fl_RX11_66 (by decide +kernel) rfl ?_
    refine CW.run (blk := [(.iload_n 2, 0)]) (pc' := 35) (ls' := [some (.ref b), some (.ref p0), some (.int w2), none, none]) (st' := [.int w2, .ref S.2.2.1]) (by decide +kernel) rfl ?_
    obtain ⟨q5, hq5, hf⟩ := bd_some hf
    refine CW.callV (As := [.int w2]) (st := []) lv_RX11_330 (Nat.eq_of_beq_eq_true hk1) (by decide) rfl rfl (by decide +kernel) (xc_X2_whoHeedsMost (Nat.eq_of_beq_eq_true hk1) hq5) (by decide) (by decide) rfl (Nat.le_of_ble_eq_true rfl) rfl ?_
    show CW l yy_X11_tellWhoHeedsMost 4 _ _ 38 [some (.ref b), some (.ref p0), some (.int w2), none, none] [.int q5] S
    refine CW.run (blk := [(.istore_n 3, 0), (.iload_n 3, 0), (.iconst (-1), (-1))]) (pc' := 41) (ls' := [some (.ref b), some (.ref p0), some (.int w2), some (.int q5), none]) (st' := [.int (-1), .int q5]) (by decide +kernel) rfl ?_
    refine CW.icmp_eq (off := 41) (tgt := 82) (by decide +kernel) (by decide) (fun c41_6 => ?_) (fun c41_6 => ?_)
    · rw [if_pos c41_6] at hf
      have e9 := Option.some.inj hf
      subst e9
      exact CW.vret rfl (by decide +kernel)
    · rw [if_neg c41_6] at hf
      refine CW.run (blk := [(.aload_n 0, 0)]) (pc' := 45) (ls' := [some (.ref b), some (.ref p0), some (.int w2), some (.int q5), none]) (st' := [.ref b]) (by decide +kernel) rfl ?_
      refine CW.getf (v := .ref (b + 101)) hb (by decide) fl_RX11_48 (by decide +kernel) rfl ?_
      refine CW.run (blk := [(.aload_n 0, 0)]) (pc' := 49) (ls' := [some (.ref b), some (.ref p0), some (.int w2), some (.int q5), none]) (st' := [.ref b, .ref (b + 101)]) (by decide +kernel) rfl ?_
      refine CW.getf (v := .ref S.2.2.1) hb (by decide) fl_RX11_66 (by decide +kernel) rfl ?_
      refine CW.run (blk := [(.aload_n 1, 0), (.iload_n 2, 0), (.iload_n 3, 0), (.iload_n 3, 0), (.aload_n 0, 0)]) (pc' := 57) (ls' := [some (.ref b), some (.ref p0), some (.int w2), some (.int q5), none]) (st' := [.ref b, .int q5, .int q5, .int w2, .ref p0, .ref S.2.2.1, .ref (b + 101)]) (by decide +kernel) rfl ?_
      refine CW.getf (v := .ref S.2.2.1) hb (by decide) fl_RX11_66 (by decide +kernel) rfl ?_
      refine CW.run (blk := [(.iload_n 3, 0)]) (pc' := 61) (ls' := [some (.ref b), some (.ref p0), some (.int w2), some (.int q5), none]) (st' := [.int q5, .ref S.2.2.1, .int q5, .int q5, .int w2, .ref p0, .ref S.2.2.1, .ref (b + 101)]) (by decide +kernel) rfl ?_
      obtain ⟨q7, hq7, hf⟩ := bd_some hf
      refine CW.callV (As := [.int q5]) (st := [.int q5, .int q5, .int w2, .ref p0, .ref S.2.2.1, .ref (b + 101)]) lv_RX11_186 (Nat.eq_of_beq_eq_true hk1) (by decide) rfl rfl (by decide +kernel) (xc_X2_faceOf (Nat.eq_of_beq_eq_true hk1) hq7) (by decide) (by decide) rfl (Nat.le_of_ble_eq_true rfl) rfl ?_
      show CW l yy_X11_tellWhoHeedsMost 4 _ _ 64 [some (.ref b), some (.ref p0), some (.int w2), some (.int q5), none] [.int q7, .int q5, .int q5, .int w2, .ref p0, .ref S.2.2.1, .ref (b + 101)] S
      obtain ⟨q8, hq8, hf⟩ := bd_some hf
      refine CW.callV (As := [.ref S.2.2.1, .ref p0, .int w2, .int q5, .int q5, .int q7]) (st := []) lv_RX11_193 (kk_9_6 hb) (by decide) rfl rfl (by decide +kernel) (xc_X4_told (kk_9_6 hb) (Nat.eq_of_beq_eq_true hk1) h0 hq8) (by decide) (by decide) rfl (Nat.le_of_ble_eq_true rfl) rfl ?_
      show CW l yy_X11_tellWhoHeedsMost 4 _ _ 67 [some (.ref b), some (.ref p0), some (.int w2), some (.int q5), none] [.int q8.1] q8.2
      refine CW.run (blk := [(.istore 4, 0), (.aload_n 0, 0)]) (pc' := 70) (ls' := [some (.ref b), some (.ref p0), some (.int w2), some (.int q5), some (.int q8.1)]) (st' := [.ref b]) (by decide +kernel) rfl ?_
      refine CW.getf (v := .ref q8.2.2.2.1) hb (by decide) fl_RX11_66 (by decide +kernel) rfl ?_
      obtain ⟨hk9, hf⟩ := bi_some hf
      refine CW.run (blk := [(.iload_n 2, 0), (.iload_n 3, 0), (.iload_n 3, 0), (.iload 4, 0), (.iconst (-1), (-1))]) (pc' := 79) (ls' := [some (.ref b), some (.ref p0), some (.int w2), some (.int q5), some (.int q8.1)]) (st' := [.int (-1), .int q8.1, .int q5, .int q5, .int w2, .ref q8.2.2.2.1]) (by decide +kernel) rfl ?_
      obtain ⟨q10, hq10, hf⟩ := bd_some hf
      refine CW.callV (As := [.int w2, .int q5, .int q5, .int q8.1, .int (-1)]) (st := []) lv_RX11_201 (Nat.eq_of_beq_eq_true hk9) (by decide) rfl rfl (by decide +kernel) (xc_X2_addTelling (Nat.eq_of_beq_eq_true hk9) hq10) (by decide) (by decide) rfl (Nat.le_of_ble_eq_true rfl) rfl ?_
      show CW l yy_X11_tellWhoHeedsMost 4 _ _ 82 [some (.ref b), some (.ref p0), some (.int w2), some (.int q5), some (.int q8.1)] [] q10
      have e9 := Option.some.inj hf
      subst e9
      exact CW.vret rfl (by decide +kernel)
  clear hf
  refine CW.if_le (off := 21) (tgt := 28) (by decide +kernel) (by decide) (fun c7_3 => ?_) (fun c7_3 => ?_)
  · rw [if_pos c7_3] at hw2
    refine CW.run (blk := [(.iconst 0, 0)]) (pc' := 29) (ls' := [some (.ref b), some (.ref p0), none, none, none]) (st' := [.int 0]) (by decide +kernel) rfl ?_
    have e9 := Option.some.inj hw2
    subst e9
    exact hJ
  · rw [if_neg c7_3] at hw2
    refine CW.run (blk := [(.aload_n 0, 0)]) (pc' := 11) (ls' := [some (.ref b), some (.ref p0), none, none, none]) (st' := [.ref b]) (by decide +kernel) rfl ?_
    refine CW.getf (v := .ref S.2.2.1) hb (by decide) fl_RX11_66 (by decide +kernel) rfl ?_
    refine CW.getf (v := .int (S.1 S.2.2.1 12)) (Nat.eq_of_beq_eq_true hk1) (by decide) fl_RX11_205 (by decide +kernel) rfl ?_
    refine CW.run (blk := [(.aload_n 0, 0)]) (pc' := 18) (ls' := [some (.ref b), some (.ref p0), none, none, none]) (st' := [.ref b, .int (S.1 S.2.2.1 12)]) (by decide +kernel) rfl ?_
    refine CW.getf (v := .ref S.2.2.1) hb (by decide) fl_RX11_66 (by decide +kernel) rfl ?_
    refine CW.getf (v := .int (S.1 S.2.2.1 9)) (Nat.eq_of_beq_eq_true hk1) (by decide) fl_RX11_99 (by decide +kernel) rfl ?_
    obtain ⟨hn4, hw2⟩ := nz_some hw2
    refine CW.irem hn4 (by decide +kernel) ?_
    refine CW.run (blk := [(.goto 4, 0)]) (pc' := 29) (ls' := [some (.ref b), some (.ref p0), none, none, none]) (st' := [.int ((S.1 S.2.2.1 12) - (S.1 S.2.2.1 12) / (S.1 S.2.2.1 9) * (S.1 S.2.2.1 9))]) (by decide +kernel) rfl ?_
    have e9 := Option.some.inj hw2
    subst e9
    exact hJ
def fc_X11_runHour (b : Nat) (p0 : Nat) (S : cT) : Option (cT) := bif Nat.beq (cK S.2.2.1) 2 then ((fc_X2_lookers S.2.2.1 S).bind fun q2 => (fc_X6_isFull (S.2.2.1 + 6) S).bind fun q3 => Option.bind (if (b2i q3) = 0 then (if (((q2 : Int32) >>> ((S.1 S.2.2.1 10) &&& 31)) &&& 1) = 0 then ((fc_X2_addLook S.2.2.1 S).bind fun q8 => some (q8)) else ((fc_X11_tellWhoHeedsMost b p0 S).bind fun q7 => some (q7))) else (some (S)) : Option (cT)) fun w4 => bif Nat.beq (cK w4.2.2.1) 2 then ((fc_X2_nextToLook w4.2.2.1 q2 w4).bind fun q10 => Option.bind (if (w4.1 w4.2.2.1 11) = 0 then (if q10 = (-1) then (some (w4)) else (letv (ca w4 w4.2.2.1 10 q10) fun S14 => some (S14))) else (some (w4)) : Option (cT)) fun w11 => bif Nat.beq (cK w11.2.2.1) 2 then (letv (ca w11 w11.2.2.1 12 ((w11.1 w11.2.2.1 12) + 1)) fun S16 => some S16) else none) else none) else none
theorem xc_X11_runHour {l : Launch} {b : Nat} {p0 : Nat} {S : cT} {q : cT} (hb : cK b = 9) (h0 : cK p0 = 6) (hf : fc_X11_runHour b p0 S = some q) : COk l yy_X11_runHour 5 [.ref b, .ref p0] S none q := by
  refine COk.of (ls := [some (.ref b), some (.ref p0), none, none]) (by decide +kernel) (Nat.le_of_ble_eq_true rfl) rfl ?_
  unfold fc_X11_runHour at hf
  refine CW.run (blk := [(.aload_n 0, 0)]) (pc' := 1) (ls' := [some (.ref b), some (.ref p0), none, none]) (st' := [.ref b]) (by decide +kernel) rfl ?_
  refine CW.getf (v := .ref S.2.2.1) hb (by decide) fl_RX11_66 (by decide +kernel) rfl ?_
  obtain ⟨hk1, hf⟩ := bi_some hf
  obtain ⟨q2, hq2, hf⟩ := bd_some hf
  refine CW.callV (As := []) (st := []) lv_RX11_321 (Nat.eq_of_beq_eq_true hk1) (by decide) rfl rfl (by decide +kernel) (xc_X2_lookers (Nat.eq_of_beq_eq_true hk1) hq2) (by decide) (by decide) rfl (Nat.le_of_ble_eq_true rfl) rfl ?_
  show CW l yy_X11_runHour 5 _ _ 7 [some (.ref b), some (.ref p0), none, none] [.int q2] S
  refine CW.run (blk := [(.istore_n 2, 0), (.aload_n 0, 0)]) (pc' := 9) (ls' := [some (.ref b), some (.ref p0), some (.int q2), none]) (st' := [.ref b]) (by decide +kernel) rfl ?_
  refine CW.getf (v := .ref S.2.2.1) hb (by decide) fl_RX11_66 (by decide +kernel) rfl ?_
  refine CW.getf (v := .ref (S.2.2.1 + 6)) (Nat.eq_of_beq_eq_true hk1) (by decide) fl_RX11_169 (by decide +kernel) rfl ?_
  obtain ⟨q3, hq3, hf⟩ := bd_some hf
  refine CW.callV (As := []) (st := []) lv_RX11_271 (kk_2_5 (Nat.eq_of_beq_eq_true hk1)) (by decide) rfl rfl (by decide +kernel) (xc_X6_isFull (kk_2_5 (Nat.eq_of_beq_eq_true hk1)) hq3) (by decide) (by decide) rfl (Nat.le_of_ble_eq_true rfl) rfl ?_
  show CW l yy_X11_runHour 5 _ _ 18 [some (.ref b), some (.ref p0), some (.int q2), none] [.int (b2i q3)] S
  obtain ⟨w4, hw4, hf⟩ := bd_some hf
  have hJ : CW l yy_X11_runHour 5 none q 50 [some (.ref b), some (.ref p0), some (.int q2), none] [] w4 := by
    refine CW.run (blk := [(.aload_n 0, 0)]) (pc' := 51) (ls' := [some (.ref b), some (.ref p0), some (.int q2), none]) (st' := [.ref b]) (by decide +kernel) rfl ?_
    refine CW.getf (v := .ref w4.2.2.1) hb (by decide) fl_RX11_66 (by decide +kernel) rfl ?_
    obtain ⟨hk9, hf⟩ := bi_some hf
    refine CW.run (blk := [(.iload_n 2, 0)]) (pc' := 55) (ls' := [some (.ref b), some (.ref p0), some (.int q2), none]) (st' := [.int q2, .ref w4.2.2.1]) (by decide +kernel) rfl ?_
    obtain ⟨q10, hq10, hf⟩ := bd_some hf
    refine CW.callV (As := [.int q2]) (st := []) lv_RX11_327 (Nat.eq_of_beq_eq_true hk9) (by decide) rfl rfl (by decide +kernel) (xc_X2_nextToLook (Nat.eq_of_beq_eq_true hk9) hq10) (by decide) (by decide) rfl (Nat.le_of_ble_eq_true rfl) rfl ?_
    show CW l yy_X11_runHour 5 _ _ 58 [some (.ref b), some (.ref p0), some (.int q2), none] [.int q10] w4
    refine CW.run (blk := [(.istore_n 3, 0), (.aload_n 0, 0)]) (pc' := 60) (ls' := [some (.ref b), some (.ref p0), some (.int q2), some (.int q10)]) (st' := [.ref b]) (by decide +kernel) rfl ?_
    refine CW.getf (v := .ref w4.2.2.1) hb (by decide) fl_RX11_66 (by decide +kernel) rfl ?_
    refine CW.getf (v := .int (w4.1 w4.2.2.1 11)) (Nat.eq_of_beq_eq_true hk9) (by decide) fl_RX11_140 (by decide +kernel) rfl ?_
    obtain ⟨w11, hw11, hf⟩ := bd_some hf
    have hJ : CW l yy_X11_runHour 5 none q 82 [some (.ref b), some (.ref p0), some (.int q2), some (.int q10)] [] w11 := by
      refine CW.run (blk := [(.aload_n 0, 0)]) (pc' := 83) (ls' := [some (.ref b), some (.ref p0), some (.int q2), some (.int q10)]) (st' := [.ref b]) (by decide +kernel) rfl ?_
      refine CW.getf (v := .ref w11.2.2.1) hb (by decide) fl_RX11_66 (by decide +kernel) rfl ?_
      obtain ⟨hk15, hf⟩ := bi_some hf
      refine CW.run (blk := [(.dup, 0)]) (pc' := 87) (ls' := [some (.ref b), some (.ref p0), some (.int q2), some (.int q10)]) (st' := [.ref w11.2.2.1, .ref w11.2.2.1]) (by decide +kernel) rfl ?_
      refine CW.getf (v := .int (w11.1 w11.2.2.1 12)) (Nat.eq_of_beq_eq_true hk15) (by decide) fl_RX11_205 (by decide +kernel) rfl ?_
      refine CW.run (blk := [(.iconst 1, 1), (.iadd, 0)]) (pc' := 92) (ls' := [some (.ref b), some (.ref p0), some (.int q2), some (.int q10)]) (st' := [.int ((w11.1 w11.2.2.1 12) + 1), .ref w11.2.2.1]) (by decide +kernel) rfl ?_
      refine CW.putI (Nat.eq_of_beq_eq_true hk15) (by decide) fp_RX11_205 (by decide +kernel) (fun _ _ _ => Nat.le_of_ble_eq_true rfl) rfl rfl (fun _ _ _ => rfl) ?_
      obtain ⟨S16, hS16, hf⟩ := letv_some hf
      rw [← hS16]
      have e9 := Option.some.inj hf
      subst e9
      exact CW.vret rfl (by decide +kernel)
    clear hf
    refine CW.if_ne (off := 16) (tgt := 82) (by decide +kernel) (by decide) (fun c66_12 => ?_) (fun c66_12 => ?_)
    · rw [if_neg c66_12] at hw11
      have e9 := Option.some.inj hw11
      subst e9
      exact hJ
    · rw [if_pos c66_12] at hw11
      refine CW.run (blk := [(.iload_n 3, 0), (.iconst (-1), (-1))]) (pc' := 71) (ls' := [some (.ref b), some (.ref p0), some (.int q2), some (.int q10)]) (st' := [.int (-1), .int q10]) (by decide +kernel) rfl ?_
      refine CW.icmp_eq (off := 11) (tgt := 82) (by decide +kernel) (by decide) (fun c71_13 => ?_) (fun c71_13 => ?_)
      · rw [if_pos c71_13] at hw11
        have e9 := Option.some.inj hw11
        subst e9
        exact hJ
      · rw [if_neg c71_13] at hw11
        refine CW.run (blk := [(.aload_n 0, 0)]) (pc' := 75) (ls' := [some (.ref b), some (.ref p0), some (.int q2), some (.int q10)]) (st' := [.ref b]) (by decide +kernel) rfl ?_
        refine CW.getf (v := .ref w4.2.2.1) hb (by decide) fl_RX11_66 (by decide +kernel) rfl ?_
        refine CW.run (blk := [(.iload_n 3, 0)]) (pc' := 79) (ls' := [some (.ref b), some (.ref p0), some (.int q2), some (.int q10)]) (st' := [.int q10, .ref w4.2.2.1]) (by decide +kernel) rfl ?_
        refine CW.putI (Nat.eq_of_beq_eq_true hk9) (by decide) fp_RX11_144 (by decide +kernel) (fun _ _ _ => Nat.le_of_ble_eq_true rfl) rfl rfl (fun _ _ _ => rfl) ?_
        obtain ⟨S14, hS14, hw11⟩ := letv_some hw11
        rw [← hS14]
        have e9 := Option.some.inj hw11
        subst e9
        exact hJ
  clear hf
  refine CW.if_ne (off := 32) (tgt := 50) (by decide +kernel) (by decide) (fun c18_5 => ?_) (fun c18_5 => ?_)
  · rw [if_neg c18_5] at hw4
    have e9 := Option.some.inj hw4
    subst e9
    exact hJ
  · rw [if_pos c18_5] at hw4
    refine CW.run (blk := [(.iload_n 2, 0), (.aload_n 0, 0)]) (pc' := 23) (ls' := [some (.ref b), some (.ref p0), some (.int q2), none]) (st' := [.ref b, .int q2]) (by decide +kernel) rfl ?_
    refine CW.getf (v := .ref S.2.2.1) hb (by decide) fl_RX11_66 (by decide +kernel) rfl ?_
    refine CW.getf (v := .int (S.1 S.2.2.1 10)) (Nat.eq_of_beq_eq_true hk1) (by decide) fl_RX11_144 (by decide +kernel) rfl ?_
    refine CW.run (blk := [(.ishr, 0), (.iconst 1, 1), (.iand, 0)]) (pc' := 32) (ls' := [some (.ref b), some (.ref p0), some (.int q2), none]) (st' := [.int (((q2 : Int32) >>> ((S.1 S.2.2.1 10) &&& 31)) &&& 1)]) (by decide +kernel) rfl ?_
    refine CW.if_ne (off := 13) (tgt := 45) (by decide +kernel) (by decide) (fun c32_6 => ?_) (fun c32_6 => ?_)
    · rw [if_neg c32_6] at hw4
      refine CW.run (blk := [(.aload_n 0, 0), (.aload_n 1, 0)]) (pc' := 47) (ls' := [some (.ref b), some (.ref p0), some (.int q2), none]) (st' := [.ref p0, .ref b]) (by decide +kernel) rfl ?_
      obtain ⟨q7, hq7, hw4⟩ := bd_some hw4
      refine CW.callV (As := [.ref p0]) (st := []) lv_RX11_324 hb (by decide) rfl rfl (by decide +kernel) (xc_X11_tellWhoHeedsMost hb h0 hq7) (by decide) (by decide) rfl (Nat.le_of_ble_eq_true rfl) rfl ?_
      show CW l yy_X11_runHour 5 _ _ 50 [some (.ref b), some (.ref p0), some (.int q2), none] [] q7
      have e9 := Option.some.inj hw4
      subst e9
      exact hJ
    · rw [if_pos c32_6] at hw4
      refine CW.run (blk := [(.aload_n 0, 0)]) (pc' := 36) (ls' := [some (.ref b), some (.ref p0), some (.int q2), none]) (st' := [.ref b]) (by decide +kernel) rfl ?_
      refine CW.getf (v := .ref S.2.2.1) hb (by decide) fl_RX11_66 (by decide +kernel) rfl ?_
      obtain ⟨q8, hq8, hw4⟩ := bd_some hw4
      refine CW.callV (As := []) (st := []) lv_RX11_214 (Nat.eq_of_beq_eq_true hk1) (by decide) rfl rfl (by decide +kernel) (xc_X2_addLook (Nat.eq_of_beq_eq_true hk1) hq8) (by decide) (by decide) rfl (Nat.le_of_ble_eq_true rfl) rfl ?_
      show CW l yy_X11_runHour 5 _ _ 42 [some (.ref b), some (.ref p0), some (.int q2), none] [] q8
      refine CW.run (blk := [(.goto 8, 0)]) (pc' := 50) (ls' := [some (.ref b), some (.ref p0), some (.int q2), none]) (st' := []) (by decide +kernel) rfl ?_
      have e9 := Option.some.inj hw4
      subst e9
      exact hJ
def fc_X11_run_L55 (k0 : Nat) (k1 : Int32) (k2 : Int32) : Nat → Int32 → cT → Option (Int32 × cT)
  | 0, _, _ => none
  | N + 1, a3, S => if k2 ≤ a3 then (some (a3, S)) else (bif inb k1 6 then ((fc_X11_runHour k0 (7 + 6 * (k1 : Int32).toNatClampNeg) S).bind fun q11 => fc_X11_run_L55 k0 k1 k2 N (a3 + 1) q11) else none)
def fc_X11_run (b : Nat) (p0 : Int32) (p1 : Int32) (S : cT) : Option (Int32 × cT) := (fc_X11_isRule b p0 S).bind fun q1 => if (b2i q1) = 0 then (some ((-1), S)) else (bif Nat.beq (cK S.2.2.1) 2 then (if (S.1 S.2.2.1 9) = 0 then (some ((-1), S)) else (if p1 < 1 then (some ((-1), S)) else (if 60 < p1 then (some ((-1), S)) else (if ((S.1 S.2.2.1 12) + p1) ≤ 9999 then ((fc_X1_forget (b + 99) S).bind fun q8 => (fc_X11_run_L55 b p0 p1 FU 0 q8).bind fun w12 => bif Nat.beq (cK w12.2.2.2.1) 2 then (some (w12.2.1 (w12.2.2.2.1 + 6) 3, w12.2)) else none) else (some ((-1), S)))))) else none)
theorem xc_X11_run_L55 {l : Launch} {r : Option Value} {S' : cT} (k0 : Nat) (k1 : Int32) (k2 : Int32) (hk0 : cK k0 = 9) : ∀ (N : Nat) (a3 : Int32) (S : cT) (W0 : Int32 × cT) (_ : fc_X11_run_L55 k0 k1 k2 N a3 S = some W0) (_ : CW l yy_X11_run 6 r S' 76 [some (.ref k0), some (.int k1), some (.int k2), some (.int W0.1)] [] W0.2), CW l yy_X11_run 6 r S' 55 [some (.ref k0), some (.int k1), some (.int k2), some (.int a3)] [] S := by
  intro N
  induction N with
  | zero =>
    intro a3 S W0 hf _
    cases hf
  | succ N ih =>
    intro a3 S W0 hf hk_1
    unfold fc_X11_run_L55 at hf
    refine CW.run (blk := [(.iload_n 3, 0), (.iload_n 2, 0)]) (pc' := 57) (ls' := [some (.ref k0), some (.int k1), some (.int k2), some (.int a3)]) (st' := [.int k2, .int a3]) (by decide +kernel) rfl ?_
    refine CW.icmp_ge (off := 19) (tgt := 76) (by decide +kernel) (by decide) (fun c57_9 => ?_) (fun c57_9 => ?_)
    · rw [if_pos c57_9] at hf
      have e9 := Option.some.inj hf
      subst e9
      exact hk_1
    · rw [if_neg c57_9] at hf
      refine CW.run (blk := [(.aload_n 0, 0), (.aload_n 0, 0)]) (pc' := 62) (ls' := [some (.ref k0), some (.int k1), some (.int k2), some (.int a3)]) (st' := [.ref k0, .ref k0]) (by decide +kernel) rfl ?_
      refine CW.getf (v := .ref (k0 + 6)) hk0 (by decide) fl_RX11_18 (by decide +kernel) rfl ?_
      refine CW.run (blk := [(.iload_n 1, 0)]) (pc' := 66) (ls' := [some (.ref k0), some (.int k1), some (.int k2), some (.int a3)]) (st' := [.int k1, .ref (k0 + 6), .ref k0]) (by decide +kernel) rfl ?_
      obtain ⟨hi10, hf⟩ := bi_some hf
      refine CW.aald24 (kk_9_1 hk0) (kn_9_1 hk0) (by decide +kernel) (inb_in hi10) ?_
      obtain ⟨q11, hq11, hf⟩ := bd_some hf
      refine CW.callV (As := [.ref (7 + 6 * (k1 : Int32).toNatClampNeg)]) (st := []) lv_RX11_230 hk0 (by decide) rfl rfl (by decide +kernel) (xc_X11_runHour hk0 (ke_24 _ (inb_lt hi10)) hq11) (by decide) (by decide) rfl (Nat.le_of_ble_eq_true rfl) rfl ?_
      show CW l yy_X11_run 6 _ _ 70 [some (.ref k0), some (.int k1), some (.int k2), some (.int a3)] [] q11
      refine CW.run (blk := [(.iinc 3 1, 1), (.goto (-18), 0)]) (pc' := 55) (ls' := [some (.ref k0), some (.int k1), some (.int k2), some (.int (a3 + 1))]) (st' := []) (by decide +kernel) rfl ?_
      exact ih _ _ _ hf hk_1
theorem xc_X11_run {l : Launch} {b : Nat} {p0 : Int32} {p1 : Int32} {S : cT} {q : Int32 × cT} (hb : cK b = 9) (hf : fc_X11_run b p0 p1 S = some q) : COk l yy_X11_run 6 [.ref b, .int p0, .int p1] S (some (.int q.1)) q.2 := by
  refine COk.of (ls := [some (.ref b), some (.int p0), some (.int p1), none]) (by decide +kernel) (Nat.le_of_ble_eq_true rfl) rfl ?_
  unfold fc_X11_run at hf
  refine CW.run (blk := [(.aload_n 0, 0), (.iload_n 1, 0)]) (pc' := 2) (ls' := [some (.ref b), some (.int p0), some (.int p1), none]) (st' := [.int p0, .ref b]) (by decide +kernel) rfl ?_
  obtain ⟨q1, hq1, hf⟩ := bd_some hf
  refine CW.callV (As := [.int p0]) (st := []) lv_RX11_227 hb (by decide) rfl rfl (by decide +kernel) (xc_X11_isRule hb hq1) (by decide) (by decide) rfl (Nat.le_of_ble_eq_true rfl) rfl ?_
  show CW l yy_X11_run 6 _ _ 5 [some (.ref b), some (.int p0), some (.int p1), none] [.int (b2i q1)] S
  refine CW.if_eq (off := 39) (tgt := 44) (by decide +kernel) (by decide) (fun c5_2 => ?_) (fun c5_2 => ?_)
  · rw [if_pos c5_2] at hf
    refine CW.run (blk := [(.iconst (-1), (-1))]) (pc' := 45) (ls' := [some (.ref b), some (.int p0), some (.int p1), none]) (st' := [.int (-1)]) (by decide +kernel) rfl ?_
    have e9 := Option.some.inj hf
    subst e9
    exact CW.iret rfl (by decide +kernel)
  · rw [if_neg c5_2] at hf
    refine CW.run (blk := [(.aload_n 0, 0)]) (pc' := 9) (ls' := [some (.ref b), some (.int p0), some (.int p1), none]) (st' := [.ref b]) (by decide +kernel) rfl ?_
    refine CW.getf (v := .ref S.2.2.1) hb (by decide) fl_RX11_66 (by decide +kernel) rfl ?_
    obtain ⟨hk3, hf⟩ := bi_some hf
    refine CW.getf (v := .int (S.1 S.2.2.1 9)) (Nat.eq_of_beq_eq_true hk3) (by decide) fl_RX11_99 (by decide +kernel) rfl ?_
    refine CW.if_eq (off := 29) (tgt := 44) (by decide +kernel) (by decide) (fun c15_4 => ?_) (fun c15_4 => ?_)
    · rw [if_pos c15_4] at hf
      refine CW.run (blk := [(.iconst (-1), (-1))]) (pc' := 45) (ls' := [some (.ref b), some (.int p0), some (.int p1), none]) (st' := [.int (-1)]) (by decide +kernel) rfl ?_
      have e9 := Option.some.inj hf
      subst e9
      exact CW.iret rfl (by decide +kernel)
    · rw [if_neg c15_4] at hf
      refine CW.run (blk := [(.iload_n 2, 0), (.iconst 1, 1)]) (pc' := 20) (ls' := [some (.ref b), some (.int p0), some (.int p1), none]) (st' := [.int 1, .int p1]) (by decide +kernel) rfl ?_
      refine CW.icmp_lt (off := 24) (tgt := 44) (by decide +kernel) (by decide) (fun c20_5 => ?_) (fun c20_5 => ?_)
      · rw [if_pos c20_5] at hf
        refine CW.run (blk := [(.iconst (-1), (-1))]) (pc' := 45) (ls' := [some (.ref b), some (.int p0), some (.int p1), none]) (st' := [.int (-1)]) (by decide +kernel) rfl ?_
        have e9 := Option.some.inj hf
        subst e9
        exact CW.iret rfl (by decide +kernel)
      · rw [if_neg c20_5] at hf
        refine CW.run (blk := [(.iload_n 2, 0), (.bipush 60, 60)]) (pc' := 26) (ls' := [some (.ref b), some (.int p0), some (.int p1), none]) (st' := [.int 60, .int p1]) (by decide +kernel) rfl ?_
        refine CW.icmp_gt (off := 18) (tgt := 44) (by decide +kernel) (by decide) (fun c26_6 => ?_) (fun c26_6 => ?_)
        · rw [if_pos c26_6] at hf
          refine CW.run (blk := [(.iconst (-1), (-1))]) (pc' := 45) (ls' := [some (.ref b), some (.int p0), some (.int p1), none]) (st' := [.int (-1)]) (by decide +kernel) rfl ?_
          have e9 := Option.some.inj hf
          subst e9
          exact CW.iret rfl (by decide +kernel)
        · rw [if_neg c26_6] at hf
          refine CW.run (blk := [(.aload_n 0, 0)]) (pc' := 30) (ls' := [some (.ref b), some (.int p0), some (.int p1), none]) (st' := [.ref b]) (by decide +kernel) rfl ?_
          refine CW.getf (v := .ref S.2.2.1) hb (by decide) fl_RX11_66 (by decide +kernel) rfl ?_
          refine CW.getf (v := .int (S.1 S.2.2.1 12)) (Nat.eq_of_beq_eq_true hk3) (by decide) fl_RX11_205 (by decide +kernel) rfl ?_
          refine CW.run (blk := [(.iload_n 2, 0), (.iadd, 0), (.sipush 9999, 9999)]) (pc' := 41) (ls' := [some (.ref b), some (.int p0), some (.int p1), none]) (st' := [.int 9999, .int ((S.1 S.2.2.1 12) + p1)]) (by decide +kernel) rfl ?_
          refine CW.icmp_le (off := 5) (tgt := 46) (by decide +kernel) (by decide) (fun c41_7 => ?_) (fun c41_7 => ?_)
          · rw [if_pos c41_7] at hf
            refine CW.run (blk := [(.aload_n 0, 0)]) (pc' := 47) (ls' := [some (.ref b), some (.int p0), some (.int p1), none]) (st' := [.ref b]) (by decide +kernel) rfl ?_
            refine CW.getf (v := .ref (b + 99)) hb (by decide) fl_RX11_41 (by decide +kernel) rfl ?_
            obtain ⟨q8, hq8, hf⟩ := bd_some hf
            refine CW.callV (As := []) (st := []) lv_RX11_96 (kk_9_5 hb) (by decide) rfl rfl (by decide +kernel) (xc_X1_forget (kk_9_5 hb) hq8) (by decide) (by decide) rfl (Nat.le_of_ble_eq_true rfl) rfl ?_
            show CW l yy_X11_run 6 _ _ 53 [some (.ref b), some (.int p0), some (.int p1), none] [] q8
            refine CW.run (blk := [(.iconst 0, 0), (.istore_n 3, 0)]) (pc' := 55) (ls' := [some (.ref b), some (.int p0), some (.int p1), some (.int 0)]) (st' := []) (by decide +kernel) rfl ?_
            obtain ⟨w12, hw12, hf⟩ := bd_some hf
            refine xc_X11_run_L55 b p0 p1 hb FU _ _ _ hw12 ?_
            refine CW.run (blk := [(.aload_n 0, 0)]) (pc' := 77) (ls' := [some (.ref b), some (.int p0), some (.int p1), some (.int w12.1)]) (st' := [.ref b]) (by decide +kernel) rfl ?_
            refine CW.getf (v := .ref w12.2.2.2.1) hb (by decide) fl_RX11_66 (by decide +kernel) rfl ?_
            obtain ⟨hk13, hf⟩ := bi_some hf
            refine CW.getf (v := .ref (w12.2.2.2.1 + 6)) (Nat.eq_of_beq_eq_true hk13) (by decide) fl_RX11_169 (by decide +kernel) rfl ?_
            refine CW.getf (v := .int (w12.2.1 (w12.2.2.2.1 + 6) 3)) (kk_2_5 (Nat.eq_of_beq_eq_true hk13)) (by decide) fl_RX11_208 (by decide +kernel) rfl ?_
            have e9 := Option.some.inj hf
            subst e9
            exact CW.iret rfl (by decide +kernel)
          · rw [if_neg c41_7] at hf
            refine CW.run (blk := [(.iconst (-1), (-1))]) (pc' := 45) (ls' := [some (.ref b), some (.int p0), some (.int p1), none]) (st' := [.int (-1)]) (by decide +kernel) rfl ?_
            have e9 := Option.some.inj hf
            subst e9
            exact CW.iret rfl (by decide +kernel)
def fc_X11_lean (b : Nat) (p0 : Int32) (S : cT) : Option (Int32) := bif Nat.beq (cK S.2.2.1) 2 then ((fc_X2_has S.2.2.1 p0 S).bind fun q2 => if (b2i q2) = 0 then (some (-1000000)) else ((fc_X2_leanOf S.2.2.1 p0 S).bind fun q4 => some q4)) else none
theorem xc_X11_lean {l : Launch} {b : Nat} {p0 : Int32} {S : cT} {q : Int32} (hb : cK b = 9) (hf : fc_X11_lean b p0 S = some q) : COk l yy_X11_lean 3 [.ref b, .int p0] S (some (.int q)) S := by
  refine COk.of (ls := [some (.ref b), some (.int p0)]) (by decide +kernel) (Nat.le_of_ble_eq_true rfl) rfl ?_
  unfold fc_X11_lean at hf
  refine CW.run (blk := [(.aload_n 0, 0)]) (pc' := 1) (ls' := [some (.ref b), some (.int p0)]) (st' := [.ref b]) (by decide +kernel) rfl ?_
  refine CW.getf (v := .ref S.2.2.1) hb (by decide) fl_RX11_66 (by decide +kernel) rfl ?_
  obtain ⟨hk1, hf⟩ := bi_some hf
  refine CW.run (blk := [(.iload_n 1, 0)]) (pc' := 5) (ls' := [some (.ref b), some (.int p0)]) (st' := [.int p0, .ref S.2.2.1]) (by decide +kernel) rfl ?_
  obtain ⟨q2, hq2, hf⟩ := bd_some hf
  refine CW.callV (As := [.int p0]) (st := []) lv_RX11_114 (Nat.eq_of_beq_eq_true hk1) (by decide) rfl rfl (by decide +kernel) (xc_X2_has (Nat.eq_of_beq_eq_true hk1) hq2) (by decide) (by decide) rfl (Nat.le_of_ble_eq_true rfl) rfl ?_
  show CW l yy_X11_lean 3 _ _ 8 [some (.ref b), some (.int p0)] [.int (b2i q2)] S
  refine CW.if_eq (off := 14) (tgt := 22) (by decide +kernel) (by decide) (fun c8_3 => ?_) (fun c8_3 => ?_)
  · rw [if_pos c8_3] at hf
    refine CW.ldc (idx := 153) (v := (-1000000)) (tb_in 662 (by decide +kernel) (by decide +kernel)) (by decide +kernel) ?_
    have e9 := Option.some.inj hf
    subst e9
    exact CW.iret rfl (by decide +kernel)
  · rw [if_neg c8_3] at hf
    refine CW.run (blk := [(.aload_n 0, 0)]) (pc' := 12) (ls' := [some (.ref b), some (.int p0)]) (st' := [.ref b]) (by decide +kernel) rfl ?_
    refine CW.getf (v := .ref S.2.2.1) hb (by decide) fl_RX11_66 (by decide +kernel) rfl ?_
    refine CW.run (blk := [(.iload_n 1, 0)]) (pc' := 16) (ls' := [some (.ref b), some (.int p0)]) (st' := [.int p0, .ref S.2.2.1]) (by decide +kernel) rfl ?_
    obtain ⟨q4, hq4, hf⟩ := bd_some hf
    refine CW.callV (As := [.int p0]) (st := []) lv_RX11_234 (Nat.eq_of_beq_eq_true hk1) (by decide) rfl rfl (by decide +kernel) (xc_X2_leanOf (Nat.eq_of_beq_eq_true hk1) hq4) (by decide) (by decide) rfl (Nat.le_of_ble_eq_true rfl) rfl ?_
    show CW l yy_X11_lean 3 _ _ 19 [some (.ref b), some (.int p0)] [.int q4] S
    refine CW.run (blk := [(.goto 5, 0)]) (pc' := 24) (ls' := [some (.ref b), some (.int p0)]) (st' := [.int q4]) (by decide +kernel) rfl ?_
    have e9 := Option.some.inj hf
    subst e9
    exact CW.iret rfl (by decide +kernel)
def fc_X11_likeliest (b : Nat) (p0 : Int32) (p1 : Int32) (S : cT) : Option (Int32 × cT) := bif Nat.beq (cK S.2.2.1) 2 then ((fc_X2_has S.2.2.1 p0 S).bind fun q2 => if (b2i q2) = 0 then (some ((-1), S)) else ((fc_X4_addLeans (b + 101) S.2.2.1 p0 S).bind fun q4 => if p1 = 0 then (bif Nat.beq (cK q4.2.2.1) 2 then ((fc_X4_marksAbove (b + 101) q4.2.2.1 q4).bind fun q7 => some (q7, q4)) else none) else (if p1 = 1 then (bif Nat.beq (cK q4.2.2.1) 2 then ((fc_X4_marksEven (b + 101) q4.2.2.1 q4).bind fun q10 => some (q10, q4)) else none) else (some ((-1), q4))))) else none
theorem xc_X11_likeliest {l : Launch} {b : Nat} {p0 : Int32} {p1 : Int32} {S : cT} {q : Int32 × cT} (hb : cK b = 9) (hf : fc_X11_likeliest b p0 p1 S = some q) : COk l yy_X11_likeliest 4 [.ref b, .int p0, .int p1] S (some (.int q.1)) q.2 := by
  refine COk.of (ls := [some (.ref b), some (.int p0), some (.int p1)]) (by decide +kernel) (Nat.le_of_ble_eq_true rfl) rfl ?_
  unfold fc_X11_likeliest at hf
  refine CW.run (blk := [(.aload_n 0, 0)]) (pc' := 1) (ls' := [some (.ref b), some (.int p0), some (.int p1)]) (st' := [.ref b]) (by decide +kernel) rfl ?_
  refine CW.getf (v := .ref S.2.2.1) hb (by decide) fl_RX11_66 (by decide +kernel) rfl ?_
  obtain ⟨hk1, hf⟩ := bi_some hf
  refine CW.run (blk := [(.iload_n 1, 0)]) (pc' := 5) (ls' := [some (.ref b), some (.int p0), some (.int p1)]) (st' := [.int p0, .ref S.2.2.1]) (by decide +kernel) rfl ?_
  obtain ⟨q2, hq2, hf⟩ := bd_some hf
  refine CW.callV (As := [.int p0]) (st := []) lv_RX11_114 (Nat.eq_of_beq_eq_true hk1) (by decide) rfl rfl (by decide +kernel) (xc_X2_has (Nat.eq_of_beq_eq_true hk1) hq2) (by decide) (by decide) rfl (Nat.le_of_ble_eq_true rfl) rfl ?_
  show CW l yy_X11_likeliest 4 _ _ 8 [some (.ref b), some (.int p0), some (.int p1)] [.int (b2i q2)] S
  refine CW.if_ne (off := 5) (tgt := 13) (by decide +kernel) (by decide) (fun c8_3 => ?_) (fun c8_3 => ?_)
  · rw [if_neg c8_3] at hf
    refine CW.run (blk := [(.aload_n 0, 0)]) (pc' := 14) (ls' := [some (.ref b), some (.int p0), some (.int p1)]) (st' := [.ref b]) (by decide +kernel) rfl ?_
    refine CW.getf (v := .ref (b + 101)) hb (by decide) fl_RX11_48 (by decide +kernel) rfl ?_
    refine CW.run (blk := [(.aload_n 0, 0)]) (pc' := 18) (ls' := [some (.ref b), some (.int p0), some (.int p1)]) (st' := [.ref b, .ref (b + 101)]) (by decide +kernel) rfl ?_
    refine CW.getf (v := .ref S.2.2.1) hb (by decide) fl_RX11_66 (by decide +kernel) rfl ?_
    refine CW.run (blk := [(.iload_n 1, 0)]) (pc' := 22) (ls' := [some (.ref b), some (.int p0), some (.int p1)]) (st' := [.int p0, .ref S.2.2.1, .ref (b + 101)]) (by decide +kernel) rfl ?_
    obtain ⟨q4, hq4, hf⟩ := bd_some hf
    refine CW.callV (As := [.ref S.2.2.1, .int p0]) (st := []) lv_RX11_237 (kk_9_6 hb) (by decide) rfl rfl (by decide +kernel) (xc_X4_addLeans (kk_9_6 hb) (Nat.eq_of_beq_eq_true hk1) hq4) (by decide) (by decide) rfl (Nat.le_of_ble_eq_true rfl) rfl ?_
    show CW l yy_X11_likeliest 4 _ _ 25 [some (.ref b), some (.int p0), some (.int p1)] [] q4
    refine CW.run (blk := [(.iload_n 2, 0)]) (pc' := 26) (ls' := [some (.ref b), some (.int p0), some (.int p1)]) (st' := [.int p1]) (by decide +kernel) rfl ?_
    by_cases c26_0_5 : p1 = 0
    · rw [if_pos c26_0_5] at hf
      refine CW.lookup (dflt := 50) (ps := #[(0, 26), (1, 38)]) (len := 26) (off := 26) (tgt := 52) (by decide +kernel) (by decide) (by rw [c26_0_5]; decide) (by decide) ?_
      refine CW.run (blk := [(.aload_n 0, 0)]) (pc' := 53) (ls' := [some (.ref b), some (.int p0), some (.int p1)]) (st' := [.ref b]) (by decide +kernel) rfl ?_
      refine CW.getf (v := .ref (b + 101)) hb (by decide) fl_RX11_48 (by decide +kernel) rfl ?_
      refine CW.run (blk := [(.aload_n 0, 0)]) (pc' := 57) (ls' := [some (.ref b), some (.int p0), some (.int p1)]) (st' := [.ref b, .ref (b + 101)]) (by decide +kernel) rfl ?_
      refine CW.getf (v := .ref q4.2.2.1) hb (by decide) fl_RX11_66 (by decide +kernel) rfl ?_
      obtain ⟨hk6, hf⟩ := bi_some hf
      obtain ⟨q7, hq7, hf⟩ := bd_some hf
      refine CW.callV (As := [.ref q4.2.2.1]) (st := []) lv_RX11_241 (kk_9_6 hb) (by decide) rfl rfl (by decide +kernel) (xc_X4_marksAbove (kk_9_6 hb) (Nat.eq_of_beq_eq_true hk6) hq7) (by decide) (by decide) rfl (Nat.le_of_ble_eq_true rfl) rfl ?_
      show CW l yy_X11_likeliest 4 _ _ 63 [some (.ref b), some (.int p0), some (.int p1)] [.int q7] q4
      have e9 := Option.some.inj hf
      subst e9
      exact CW.iret rfl (by decide +kernel)
    rw [if_neg c26_0_5] at hf
    by_cases c26_1_8 : p1 = 1
    · rw [if_pos c26_1_8] at hf
      refine CW.lookup (dflt := 50) (ps := #[(0, 26), (1, 38)]) (len := 26) (off := 38) (tgt := 64) (by decide +kernel) (by decide) (by rw [c26_1_8]; decide) (by decide) ?_
      refine CW.run (blk := [(.aload_n 0, 0)]) (pc' := 65) (ls' := [some (.ref b), some (.int p0), some (.int p1)]) (st' := [.ref b]) (by decide +kernel) rfl ?_
      refine CW.getf (v := .ref (b + 101)) hb (by decide) fl_RX11_48 (by decide +kernel) rfl ?_
      refine CW.run (blk := [(.aload_n 0, 0)]) (pc' := 69) (ls' := [some (.ref b), some (.int p0), some (.int p1)]) (st' := [.ref b, .ref (b + 101)]) (by decide +kernel) rfl ?_
      refine CW.getf (v := .ref q4.2.2.1) hb (by decide) fl_RX11_66 (by decide +kernel) rfl ?_
      obtain ⟨hk9, hf⟩ := bi_some hf
      obtain ⟨q10, hq10, hf⟩ := bd_some hf
      refine CW.callV (As := [.ref q4.2.2.1]) (st := []) lv_RX11_245 (kk_9_6 hb) (by decide) rfl rfl (by decide +kernel) (xc_X4_marksEven (kk_9_6 hb) (Nat.eq_of_beq_eq_true hk9) hq10) (by decide) (by decide) rfl (Nat.le_of_ble_eq_true rfl) rfl ?_
      show CW l yy_X11_likeliest 4 _ _ 75 [some (.ref b), some (.int p0), some (.int p1)] [.int q10] q4
      have e9 := Option.some.inj hf
      subst e9
      exact CW.iret rfl (by decide +kernel)
    rw [if_neg c26_1_8] at hf
    refine CW.lookup (dflt := 50) (ps := #[(0, 26), (1, 38)]) (len := 26) (off := 50) (tgt := 76) (by decide +kernel) (by decide) (by simp only [Op.lookupswitch.offset, if_neg, not_false_eq_true, Ne.symm (ne_toInt c26_0_5 (k := 0) rfl), Ne.symm (ne_toInt c26_1_8 (k := 1) rfl)]) (by decide) ?_
    refine CW.run (blk := [(.iconst (-1), (-1))]) (pc' := 77) (ls' := [some (.ref b), some (.int p0), some (.int p1)]) (st' := [.int (-1)]) (by decide +kernel) rfl ?_
    have e9 := Option.some.inj hf
    subst e9
    exact CW.iret rfl (by decide +kernel)
  · rw [if_pos c8_3] at hf
    refine CW.run (blk := [(.iconst (-1), (-1))]) (pc' := 12) (ls' := [some (.ref b), some (.int p0), some (.int p1)]) (st' := [.int (-1)]) (by decide +kernel) rfl ?_
    have e9 := Option.some.inj hf
    subst e9
    exact CW.iret rfl (by decide +kernel)
def fc_X11_flatters (b : Nat) (p0 : Int32) (p1 : Int32) (S : cT) : Option (Int32) := if p1 = 0 then (bif Nat.beq (cK S.2.2.1) 2 then ((fc_X2_has S.2.2.1 p0 S).bind fun q7 => if (b2i q7) = 0 then (if p1 = 1 then (if (S.1 S.2.2.1 9) ≤ 0 then (some (-1000000)) else ((fc_X2_flatterer S.2.2.1 S).bind fun q11 => some q11)) else (some (-1000000))) else ((fc_X2_flatteryOf S.2.2.1 p0 S).bind fun q12 => some q12)) else none) else (if p1 = 1 then (bif Nat.beq (cK S.2.2.1) 2 then (if (S.1 S.2.2.1 9) ≤ 0 then (some (-1000000)) else ((fc_X2_flatterer S.2.2.1 S).bind fun q5 => some q5)) else none) else (some (-1000000)))
theorem xc_X11_flatters {l : Launch} {b : Nat} {p0 : Int32} {p1 : Int32} {S : cT} {q : Int32} (hb : cK b = 9) (hf : fc_X11_flatters b p0 p1 S = some q) : COk l yy_X11_flatters 4 [.ref b, .int p0, .int p1] S (some (.int q)) S := by
  refine COk.of (ls := [some (.ref b), some (.int p0), some (.int p1)]) (by decide +kernel) (Nat.le_of_ble_eq_true rfl) rfl ?_
  unfold fc_X11_flatters at hf
  refine CW.run (blk := [(.iload_n 2, 0)]) (pc' := 1) (ls' := [some (.ref b), some (.int p0), some (.int p1)]) (st' := [.int p1]) (by decide +kernel) rfl ?_
  refine CW.if_ne (off := 23) (tgt := 24) (by decide +kernel) (by decide) (fun c1_1 => ?_) (fun c1_1 => ?_)
  · rw [if_neg c1_1] at hf
    refine CW.run (blk := [(.iload_n 2, 0), (.iconst 1, 1)]) (pc' := 26) (ls' := [some (.ref b), some (.int p0), some (.int p1)]) (st' := [.int 1, .int p1]) (by decide +kernel) rfl ?_
    refine CW.icmp_ne (off := 21) (tgt := 47) (by decide +kernel) (by decide) (fun c26_2 => ?_) (fun c26_2 => ?_)
    · rw [if_neg c26_2] at hf
      refine CW.ldc (idx := 153) (v := (-1000000)) (tb_in 662 (by decide +kernel) (by decide +kernel)) (by decide +kernel) ?_
      have e9 := Option.some.inj hf
      subst e9
      exact CW.iret rfl (by decide +kernel)
    · rw [if_pos c26_2] at hf
      refine CW.run (blk := [(.aload_n 0, 0)]) (pc' := 30) (ls' := [some (.ref b), some (.int p0), some (.int p1)]) (st' := [.ref b]) (by decide +kernel) rfl ?_
      refine CW.getf (v := .ref S.2.2.1) hb (by decide) fl_RX11_66 (by decide +kernel) rfl ?_
      obtain ⟨hk3, hf⟩ := bi_some hf
      refine CW.getf (v := .int (S.1 S.2.2.1 9)) (Nat.eq_of_beq_eq_true hk3) (by decide) fl_RX11_99 (by decide +kernel) rfl ?_
      refine CW.if_le (off := 11) (tgt := 47) (by decide +kernel) (by decide) (fun c36_4 => ?_) (fun c36_4 => ?_)
      · rw [if_pos c36_4] at hf
        refine CW.ldc (idx := 153) (v := (-1000000)) (tb_in 662 (by decide +kernel) (by decide +kernel)) (by decide +kernel) ?_
        have e9 := Option.some.inj hf
        subst e9
        exact CW.iret rfl (by decide +kernel)
      · rw [if_neg c36_4] at hf
        refine CW.run (blk := [(.aload_n 0, 0)]) (pc' := 40) (ls' := [some (.ref b), some (.int p0), some (.int p1)]) (st' := [.ref b]) (by decide +kernel) rfl ?_
        refine CW.getf (v := .ref S.2.2.1) hb (by decide) fl_RX11_66 (by decide +kernel) rfl ?_
        obtain ⟨q5, hq5, hf⟩ := bd_some hf
        refine CW.callV (As := []) (st := []) lv_RX11_251 (Nat.eq_of_beq_eq_true hk3) (by decide) rfl rfl (by decide +kernel) (xc_X2_flatterer (Nat.eq_of_beq_eq_true hk3) hq5) (by decide) (by decide) rfl (Nat.le_of_ble_eq_true rfl) rfl ?_
        show CW l yy_X11_flatters 4 _ _ 46 [some (.ref b), some (.int p0), some (.int p1)] [.int q5] S
        have e9 := Option.some.inj hf
        subst e9
        exact CW.iret rfl (by decide +kernel)
  · rw [if_pos c1_1] at hf
    refine CW.run (blk := [(.aload_n 0, 0)]) (pc' := 5) (ls' := [some (.ref b), some (.int p0), some (.int p1)]) (st' := [.ref b]) (by decide +kernel) rfl ?_
    refine CW.getf (v := .ref S.2.2.1) hb (by decide) fl_RX11_66 (by decide +kernel) rfl ?_
    obtain ⟨hk6, hf⟩ := bi_some hf
    refine CW.run (blk := [(.iload_n 1, 0)]) (pc' := 9) (ls' := [some (.ref b), some (.int p0), some (.int p1)]) (st' := [.int p0, .ref S.2.2.1]) (by decide +kernel) rfl ?_
    obtain ⟨q7, hq7, hf⟩ := bd_some hf
    refine CW.callV (As := [.int p0]) (st := []) lv_RX11_114 (Nat.eq_of_beq_eq_true hk6) (by decide) rfl rfl (by decide +kernel) (xc_X2_has (Nat.eq_of_beq_eq_true hk6) hq7) (by decide) (by decide) rfl (Nat.le_of_ble_eq_true rfl) rfl ?_
    show CW l yy_X11_flatters 4 _ _ 12 [some (.ref b), some (.int p0), some (.int p1)] [.int (b2i q7)] S
    refine CW.if_eq (off := 12) (tgt := 24) (by decide +kernel) (by decide) (fun c12_8 => ?_) (fun c12_8 => ?_)
    · rw [if_pos c12_8] at hf
      refine CW.run (blk := [(.iload_n 2, 0), (.iconst 1, 1)]) (pc' := 26) (ls' := [some (.ref b), some (.int p0), some (.int p1)]) (st' := [.int 1, .int p1]) (by decide +kernel) rfl ?_
      refine CW.icmp_ne (off := 21) (tgt := 47) (by decide +kernel) (by decide) (fun c26_9 => ?_) (fun c26_9 => ?_)
      · rw [if_neg c26_9] at hf
        refine CW.ldc (idx := 153) (v := (-1000000)) (tb_in 662 (by decide +kernel) (by decide +kernel)) (by decide +kernel) ?_
        have e9 := Option.some.inj hf
        subst e9
        exact CW.iret rfl (by decide +kernel)
      · rw [if_pos c26_9] at hf
        refine CW.run (blk := [(.aload_n 0, 0)]) (pc' := 30) (ls' := [some (.ref b), some (.int p0), some (.int p1)]) (st' := [.ref b]) (by decide +kernel) rfl ?_
        refine CW.getf (v := .ref S.2.2.1) hb (by decide) fl_RX11_66 (by decide +kernel) rfl ?_
        refine CW.getf (v := .int (S.1 S.2.2.1 9)) (Nat.eq_of_beq_eq_true hk6) (by decide) fl_RX11_99 (by decide +kernel) rfl ?_
        refine CW.if_le (off := 11) (tgt := 47) (by decide +kernel) (by decide) (fun c36_10 => ?_) (fun c36_10 => ?_)
        · rw [if_pos c36_10] at hf
          refine CW.ldc (idx := 153) (v := (-1000000)) (tb_in 662 (by decide +kernel) (by decide +kernel)) (by decide +kernel) ?_
          have e9 := Option.some.inj hf
          subst e9
          exact CW.iret rfl (by decide +kernel)
        · rw [if_neg c36_10] at hf
          refine CW.run (blk := [(.aload_n 0, 0)]) (pc' := 40) (ls' := [some (.ref b), some (.int p0), some (.int p1)]) (st' := [.ref b]) (by decide +kernel) rfl ?_
          refine CW.getf (v := .ref S.2.2.1) hb (by decide) fl_RX11_66 (by decide +kernel) rfl ?_
          obtain ⟨q11, hq11, hf⟩ := bd_some hf
          refine CW.callV (As := []) (st := []) lv_RX11_251 (Nat.eq_of_beq_eq_true hk6) (by decide) rfl rfl (by decide +kernel) (xc_X2_flatterer (Nat.eq_of_beq_eq_true hk6) hq11) (by decide) (by decide) rfl (Nat.le_of_ble_eq_true rfl) rfl ?_
          show CW l yy_X11_flatters 4 _ _ 46 [some (.ref b), some (.int p0), some (.int p1)] [.int q11] S
          have e9 := Option.some.inj hf
          subst e9
          exact CW.iret rfl (by decide +kernel)
    · rw [if_neg c12_8] at hf
      refine CW.run (blk := [(.aload_n 0, 0)]) (pc' := 16) (ls' := [some (.ref b), some (.int p0), some (.int p1)]) (st' := [.ref b]) (by decide +kernel) rfl ?_
      refine CW.getf (v := .ref S.2.2.1) hb (by decide) fl_RX11_66 (by decide +kernel) rfl ?_
      refine CW.run (blk := [(.iload_n 1, 0)]) (pc' := 20) (ls' := [some (.ref b), some (.int p0), some (.int p1)]) (st' := [.int p0, .ref S.2.2.1]) (by decide +kernel) rfl ?_
      obtain ⟨q12, hq12, hf⟩ := bd_some hf
      refine CW.callV (As := [.int p0]) (st := []) lv_RX11_248 (Nat.eq_of_beq_eq_true hk6) (by decide) rfl rfl (by decide +kernel) (xc_X2_flatteryOf (Nat.eq_of_beq_eq_true hk6) hq12) (by decide) (by decide) rfl (Nat.le_of_ble_eq_true rfl) rfl ?_
      show CW l yy_X11_flatters 4 _ _ 23 [some (.ref b), some (.int p0), some (.int p1)] [.int q12] S
      have e9 := Option.some.inj hf
      subst e9
      exact CW.iret rfl (by decide +kernel)
def fc_X11_ask_L46 (k0 : Nat) (k1 : Int32) : Nat → Int32 → Int32 → Int32 → cT → Option (Int32 × Int32 × Int32 × cT)
  | 0, _, _, _, _ => none
  | N + 1, a3, a4, a5, S => bif Nat.beq (cK S.2.2.1) 2 then (if (S.1 S.2.2.1 9) ≤ a5 then (some (a3, a4, a5, S)) else (if a5 = k1 then (fc_X11_ask_L46 k0 k1 N a3 a4 (a5 + 1) S) else ((fc_X11_inForce k0 S).bind fun q12 => bif Nat.beq (cK q12) 6 then ((fc_X4_marksTurnedBy (k0 + 101) S.2.2.1 q12 a5 k1 S).bind fun q14 => if a3 = (-1) then (fc_X11_ask_L46 k0 k1 N a5 q14.1 (a5 + 1) q14.2) else (if q14.1 ≤ a4 then (fc_X11_ask_L46 k0 k1 N a3 a4 (a5 + 1) q14.2) else (fc_X11_ask_L46 k0 k1 N a5 q14.1 (a5 + 1) q14.2))) else none))) else none
def fc_X11_ask (b : Nat) (p0 : Int32) (p1 : Int32) (S : cT) : Option (Int32 × cT) := bif Nat.beq (cK S.2.2.1) 2 then ((fc_X2_has S.2.2.1 p0 S).bind fun q2 => if (b2i q2) = 0 then (some ((-1), S)) else (if p1 < 0 then (some ((-1), S)) else (if p1 ≤ 1 then ((fc_X11_inForce b S).bind fun q6 => bif Nat.beq (cK q6) 6 then ((fc_X4_addUp (b + 101) S.2.2.1 q6 p0 S).bind fun q8 => (fc_X11_ask_L46 b p0 FU (-1) 0 0 q8).bind fun w17 => if p1 = 1 then (some (w17.2.1, w17.2.2.2)) else (if w17.1 = (-1) then (some ((-2), w17.2.2.2)) else (some (w17.1, w17.2.2.2)))) else none) else (some ((-1), S))))) else none
theorem xc_X11_ask_L46 {l : Launch} {r : Option Value} {S' : cT} (k0 : Nat) (k1 : Int32) (k2 : Int32) (hk0 : cK k0 = 9) : ∀ (N : Nat) (a3 : Int32) (a4 : Int32) (a5 : Int32) (S : cT) (W0 : Int32 × Int32 × Int32 × cT) (_ : fc_X11_ask_L46 k0 k1 N a3 a4 a5 S = some W0) (_ : CW l yy_X11_ask 5 r S' 109 [some (.ref k0), some (.int k1), some (.int k2), some (.int W0.1), some (.int W0.2.1), some (.int W0.2.2.1), none] [] W0.2.2.2), CW l yy_X11_ask 5 r S' 46 [some (.ref k0), some (.int k1), some (.int k2), some (.int a3), some (.int a4), some (.int a5), none] [] S := by
  intro N
  induction N with
  | zero =>
    intro a3 a4 a5 S W0 hf _
    cases hf
  | succ N ih =>
    intro a3 a4 a5 S W0 hf hk_1
    unfold fc_X11_ask_L46 at hf
    refine CW.run (blk := [(.iload 5, 0), (.aload_n 0, 0)]) (pc' := 49) (ls' := [some (.ref k0), some (.int k1), some (.int k2), some (.int a3), some (.int a4), some (.int a5), none]) (st' := [.ref k0, .int a5]) (by decide +kernel) rfl ?_
    refine CW.getf (v := .ref S.2.2.1) hk0 (by decide) fl_RX11_66 (by decide +kernel) rfl ?_
    obtain ⟨hk9, hf⟩ := bi_some hf
    refine CW.getf (v := .int (S.1 S.2.2.1 9)) (Nat.eq_of_beq_eq_true hk9) (by decide) fl_RX11_99 (by decide +kernel) rfl ?_
    refine CW.icmp_ge (off := 54) (tgt := 109) (by decide +kernel) (by decide) (fun c55_10 => ?_) (fun c55_10 => ?_)
    · rw [if_pos c55_10] at hf
      have e9 := Option.some.inj hf
      subst e9
      exact hk_1
    · rw [if_neg c55_10] at hf
      refine CW.run (blk := [(.iload 5, 0), (.iload_n 1, 0)]) (pc' := 61) (ls' := [some (.ref k0), some (.int k1), some (.int k2), some (.int a3), some (.int a4), some (.int a5), none]) (st' := [.int k1, .int a5]) (by decide +kernel) rfl ?_
      refine CW.icmp_eq (off := 42) (tgt := 103) (by decide +kernel) (by decide) (fun c61_11 => ?_) (fun c61_11 => ?_)
      · rw [if_pos c61_11] at hf
        refine CW.run (blk := [(.iinc 5 1, 1), (.goto (-60), 0)]) (pc' := 46) (ls' := [some (.ref k0), some (.int k1), some (.int k2), some (.int a3), some (.int a4), some (.int (a5 + 1)), none]) (st' := []) (by decide +kernel) rfl ?_
        exact ih _ _ _ _ _ hf hk_1
      · rw [if_neg c61_11] at hf
        refine CW.run (blk := [(.aload_n 0, 0)]) (pc' := 65) (ls' := [some (.ref k0), some (.int k1), some (.int k2), some (.int a3), some (.int a4), some (.int a5), none]) (st' := [.ref k0]) (by decide +kernel) rfl ?_
        refine CW.getf (v := .ref (k0 + 101)) hk0 (by decide) fl_RX11_48 (by decide +kernel) rfl ?_
        refine CW.run (blk := [(.aload_n 0, 0)]) (pc' := 69) (ls' := [some (.ref k0), some (.int k1), some (.int k2), some (.int a3), some (.int a4), some (.int a5), none]) (st' := [.ref k0, .ref (k0 + 101)]) (by decide +kernel) rfl ?_
        refine CW.getf (v := .ref S.2.2.1) hk0 (by decide) fl_RX11_66 (by decide +kernel) rfl ?_
        refine CW.run (blk := [(.aload_n 0, 0)]) (pc' := 73) (ls' := [some (.ref k0), some (.int k1), some (.int k2), some (.int a3), some (.int a4), some (.int a5), none]) (st' := [.ref k0, .ref S.2.2.1, .ref (k0 + 101)]) (by decide +kernel) rfl ?_
        obtain ⟨q12, hq12, hf⟩ := bd_some hf
        refine CW.callV (As := []) (st := [.ref S.2.2.1, .ref (k0 + 101)]) lv_RX11_130 hk0 (by decide) rfl rfl (by decide +kernel) (xc_X11_inForce hk0 hq12) (by decide) (by decide) rfl (Nat.le_of_ble_eq_true rfl) rfl ?_
        show CW l yy_X11_ask 5 _ _ 76 [some (.ref k0), some (.int k1), some (.int k2), some (.int a3), some (.int a4), some (.int a5), none] [.ref q12, .ref S.2.2.1, .ref (k0 + 101)] S
        obtain ⟨hk13, hf⟩ := bi_some hf
        refine CW.run (blk := [(.iload 5, 0), (.iload_n 1, 0)]) (pc' := 79) (ls' := [some (.ref k0), some (.int k1), some (.int k2), some (.int a3), some (.int a4), some (.int a5), none]) (st' := [.int k1, .int a5, .ref q12, .ref S.2.2.1, .ref (k0 + 101)]) (by decide +kernel) rfl ?_
        obtain ⟨q14, hq14, hf⟩ := bd_some hf
        refine CW.callV (As := [.ref S.2.2.1, .ref q12, .int a5, .int k1]) (st := []) lv_RX11_255 (kk_9_6 hk0) (by decide) rfl rfl (by decide +kernel) (xc_X4_marksTurnedBy (kk_9_6 hk0) (Nat.eq_of_beq_eq_true hk9) (Nat.eq_of_beq_eq_true hk13) hq14) (by decide) (by decide) rfl (Nat.le_of_ble_eq_true rfl) rfl ?_
        show CW l yy_X11_ask 5 _ _ 82 [some (.ref k0), some (.int k1), some (.int k2), some (.int a3), some (.int a4), some (.int a5), none] [.int q14.1] q14.2
        refine CW.run (blk := [(.istore 6, 0), (.iload_n 3, 0), (.iconst (-1), (-1))]) (pc' := 86) (ls' := [some (.ref k0), some (.int k1), some (.int k2), some (.int a3), some (.int a4), some (.int a5), some (.int q14.1)]) (st' := [.int (-1), .int a3]) (by decide +kernel) rfl ?_
        refine CW.icmp_eq (off := 10) (tgt := 96) (by decide +kernel) (by decide) (fun c86_15 => ?_) (fun c86_15 => ?_)
        · rw [if_pos c86_15] at hf
          refine CW.run (blk := [(.iload 5, 0), (.istore_n 3, 0), (.iload 6, 0), (.istore 4, 0), (.iinc 5 1, 1), (.goto (-60), 0)]) (pc' := 46) (ls' := [some (.ref k0), some (.int k1), some (.int k2), some (.int a5), some (.int q14.1), some (.int (a5 + 1)), some (.int q14.1)]) (st' := []) (by decide +kernel) rfl ?_
          refine CW.fgt (ls' := [some (.ref k0), some (.int k1), some (.int k2), some (.int a5), some (.int q14.1), some (.int (a5 + 1)), none]) (by repeat' (first | exact trivial | refine ⟨rfl, ?_⟩)) ?_
          exact ih _ _ _ _ _ hf hk_1
        · rw [if_neg c86_15] at hf
          refine CW.run (blk := [(.iload 6, 0), (.iload 4, 0)]) (pc' := 93) (ls' := [some (.ref k0), some (.int k1), some (.int k2), some (.int a3), some (.int a4), some (.int a5), some (.int q14.1)]) (st' := [.int a4, .int q14.1]) (by decide +kernel) rfl ?_
          refine CW.icmp_le (off := 10) (tgt := 103) (by decide +kernel) (by decide) (fun c93_16 => ?_) (fun c93_16 => ?_)
          · rw [if_pos c93_16] at hf
            refine CW.run (blk := [(.iinc 5 1, 1), (.goto (-60), 0)]) (pc' := 46) (ls' := [some (.ref k0), some (.int k1), some (.int k2), some (.int a3), some (.int a4), some (.int (a5 + 1)), some (.int q14.1)]) (st' := []) (by decide +kernel) rfl ?_
            refine CW.fgt (ls' := [some (.ref k0), some (.int k1), some (.int k2), some (.int a3), some (.int a4), some (.int (a5 + 1)), none]) (by repeat' (first | exact trivial | refine ⟨rfl, ?_⟩)) ?_
            exact ih _ _ _ _ _ hf hk_1
          · rw [if_neg c93_16] at hf
            refine CW.run (blk := [(.iload 5, 0), (.istore_n 3, 0), (.iload 6, 0), (.istore 4, 0), (.iinc 5 1, 1), (.goto (-60), 0)]) (pc' := 46) (ls' := [some (.ref k0), some (.int k1), some (.int k2), some (.int a5), some (.int q14.1), some (.int (a5 + 1)), some (.int q14.1)]) (st' := []) (by decide +kernel) rfl ?_
            refine CW.fgt (ls' := [some (.ref k0), some (.int k1), some (.int k2), some (.int a5), some (.int q14.1), some (.int (a5 + 1)), none]) (by repeat' (first | exact trivial | refine ⟨rfl, ?_⟩)) ?_
            exact ih _ _ _ _ _ hf hk_1
theorem xc_X11_ask {l : Launch} {b : Nat} {p0 : Int32} {p1 : Int32} {S : cT} {q : Int32 × cT} (hb : cK b = 9) (hf : fc_X11_ask b p0 p1 S = some q) : COk l yy_X11_ask 5 [.ref b, .int p0, .int p1] S (some (.int q.1)) q.2 := by
  refine COk.of (ls := [some (.ref b), some (.int p0), some (.int p1), none, none, none, none]) (by decide +kernel) (Nat.le_of_ble_eq_true rfl) rfl ?_
  unfold fc_X11_ask at hf
  refine CW.run (blk := [(.aload_n 0, 0)]) (pc' := 1) (ls' := [some (.ref b), some (.int p0), some (.int p1), none, none, none, none]) (st' := [.ref b]) (by decide +kernel) rfl ?_
  refine CW.getf (v := .ref S.2.2.1) hb (by decide) fl_RX11_66 (by decide +kernel) rfl ?_
  obtain ⟨hk1, hf⟩ := bi_some hf
  refine CW.run (blk := [(.iload_n 1, 0)]) (pc' := 5) (ls' := [some (.ref b), some (.int p0), some (.int p1), none, none, none, none]) (st' := [.int p0, .ref S.2.2.1]) (by decide +kernel) rfl ?_
  obtain ⟨q2, hq2, hf⟩ := bd_some hf
  refine CW.callV (As := [.int p0]) (st := []) lv_RX11_114 (Nat.eq_of_beq_eq_true hk1) (by decide) rfl rfl (by decide +kernel) (xc_X2_has (Nat.eq_of_beq_eq_true hk1) hq2) (by decide) (by decide) rfl (Nat.le_of_ble_eq_true rfl) rfl ?_
  show CW l yy_X11_ask 5 _ _ 8 [some (.ref b), some (.int p0), some (.int p1), none, none, none, none] [.int (b2i q2)] S
  refine CW.if_eq (off := 12) (tgt := 20) (by decide +kernel) (by decide) (fun c8_3 => ?_) (fun c8_3 => ?_)
  · rw [if_pos c8_3] at hf
    refine CW.run (blk := [(.iconst (-1), (-1))]) (pc' := 21) (ls' := [some (.ref b), some (.int p0), some (.int p1), none, none, none, none]) (st' := [.int (-1)]) (by decide +kernel) rfl ?_
    have e9 := Option.some.inj hf
    subst e9
    exact CW.iret rfl (by decide +kernel)
  · rw [if_neg c8_3] at hf
    refine CW.run (blk := [(.iload_n 2, 0)]) (pc' := 12) (ls' := [some (.ref b), some (.int p0), some (.int p1), none, none, none, none]) (st' := [.int p1]) (by decide +kernel) rfl ?_
    refine CW.if_lt (off := 8) (tgt := 20) (by decide +kernel) (by decide) (fun c12_4 => ?_) (fun c12_4 => ?_)
    · rw [if_pos c12_4] at hf
      refine CW.run (blk := [(.iconst (-1), (-1))]) (pc' := 21) (ls' := [some (.ref b), some (.int p0), some (.int p1), none, none, none, none]) (st' := [.int (-1)]) (by decide +kernel) rfl ?_
      have e9 := Option.some.inj hf
      subst e9
      exact CW.iret rfl (by decide +kernel)
    · rw [if_neg c12_4] at hf
      refine CW.run (blk := [(.iload_n 2, 0), (.iconst 1, 1)]) (pc' := 17) (ls' := [some (.ref b), some (.int p0), some (.int p1), none, none, none, none]) (st' := [.int 1, .int p1]) (by decide +kernel) rfl ?_
      refine CW.icmp_le (off := 5) (tgt := 22) (by decide +kernel) (by decide) (fun c17_5 => ?_) (fun c17_5 => ?_)
      · rw [if_pos c17_5] at hf
        refine CW.run (blk := [(.iconst (-1), (-1)), (.istore_n 3, 0), (.iconst 0, 0), (.istore 4, 0), (.aload_n 0, 0)]) (pc' := 28) (ls' := [some (.ref b), some (.int p0), some (.int p1), some (.int (-1)), some (.int 0), none, none]) (st' := [.ref b]) (by decide +kernel) rfl ?_
        refine CW.getf (v := .ref (b + 101)) hb (by decide) fl_RX11_48 (by decide +kernel) rfl ?_
        refine CW.run (blk := [(.aload_n 0, 0)]) (pc' := 32) (ls' := [some (.ref b), some (.int p0), some (.int p1), some (.int (-1)), some (.int 0), none, none]) (st' := [.ref b, .ref (b + 101)]) (by decide +kernel) rfl ?_
        refine CW.getf (v := .ref S.2.2.1) hb (by decide) fl_RX11_66 (by decide +kernel) rfl ?_
        refine CW.run (blk := [(.aload_n 0, 0)]) (pc' := 36) (ls' := [some (.ref b), some (.int p0), some (.int p1), some (.int (-1)), some (.int 0), none, none]) (st' := [.ref b, .ref S.2.2.1, .ref (b + 101)]) (by decide +kernel) rfl ?_
        obtain ⟨q6, hq6, hf⟩ := bd_some hf
        refine CW.callV (As := []) (st := [.ref S.2.2.1, .ref (b + 101)]) lv_RX11_130 hb (by decide) rfl rfl (by decide +kernel) (xc_X11_inForce hb hq6) (by decide) (by decide) rfl (Nat.le_of_ble_eq_true rfl) rfl ?_
        show CW l yy_X11_ask 5 _ _ 39 [some (.ref b), some (.int p0), some (.int p1), some (.int (-1)), some (.int 0), none, none] [.ref q6, .ref S.2.2.1, .ref (b + 101)] S
        obtain ⟨hk7, hf⟩ := bi_some hf
        refine CW.run (blk := [(.iload_n 1, 0)]) (pc' := 40) (ls' := [some (.ref b), some (.int p0), some (.int p1), some (.int (-1)), some (.int 0), none, none]) (st' := [.int p0, .ref q6, .ref S.2.2.1, .ref (b + 101)]) (by decide +kernel) rfl ?_
        obtain ⟨q8, hq8, hf⟩ := bd_some hf
        refine CW.callV (As := [.ref S.2.2.1, .ref q6, .int p0]) (st := []) lv_RX11_154 (kk_9_6 hb) (by decide) rfl rfl (by decide +kernel) (xc_X4_addUp (kk_9_6 hb) (Nat.eq_of_beq_eq_true hk1) (Nat.eq_of_beq_eq_true hk7) hq8) (by decide) (by decide) rfl (Nat.le_of_ble_eq_true rfl) rfl ?_
        show CW l yy_X11_ask 5 _ _ 43 [some (.ref b), some (.int p0), some (.int p1), some (.int (-1)), some (.int 0), none, none] [] q8
        refine CW.run (blk := [(.iconst 0, 0), (.istore 5, 0)]) (pc' := 46) (ls' := [some (.ref b), some (.int p0), some (.int p1), some (.int (-1)), some (.int 0), some (.int 0), none]) (st' := []) (by decide +kernel) rfl ?_
        obtain ⟨w17, hw17, hf⟩ := bd_some hf
        refine xc_X11_ask_L46 b p0 p1 hb FU _ _ _ _ _ hw17 ?_
        refine CW.run (blk := [(.iload_n 2, 0), (.iconst 1, 1)]) (pc' := 111) (ls' := [some (.ref b), some (.int p0), some (.int p1), some (.int w17.1), some (.int w17.2.1), some (.int w17.2.2.1), none]) (st' := [.int 1, .int p1]) (by decide +kernel) rfl ?_
        refine CW.icmp_ne (off := 6) (tgt := 117) (by decide +kernel) (by decide) (fun c111_18 => ?_) (fun c111_18 => ?_)
        · rw [if_neg c111_18] at hf
          refine CW.run (blk := [(.iload_n 3, 0), (.iconst (-1), (-1))]) (pc' := 119) (ls' := [some (.ref b), some (.int p0), some (.int p1), some (.int w17.1), some (.int w17.2.1), some (.int w17.2.2.1), none]) (st' := [.int (-1), .int w17.1]) (by decide +kernel) rfl ?_
          refine CW.icmp_ne (off := 8) (tgt := 127) (by decide +kernel) (by decide) (fun c119_19 => ?_) (fun c119_19 => ?_)
          · rw [if_neg c119_19] at hf
            refine CW.run (blk := [(.iload_n 3, 0)]) (pc' := 128) (ls' := [some (.ref b), some (.int p0), some (.int p1), some (.int w17.1), some (.int w17.2.1), some (.int w17.2.2.1), none]) (st' := [.int w17.1]) (by decide +kernel) rfl ?_
            have e9 := Option.some.inj hf
            subst e9
            exact CW.iret rfl (by decide +kernel)
          · rw [if_pos c119_19] at hf
            refine CW.run (blk := [(.bipush (-2), (-2)), (.goto 4, 0)]) (pc' := 128) (ls' := [some (.ref b), some (.int p0), some (.int p1), some (.int w17.1), some (.int w17.2.1), some (.int w17.2.2.1), none]) (st' := [.int (-2)]) (by decide +kernel) rfl ?_
            have e9 := Option.some.inj hf
            subst e9
            exact CW.iret rfl (by decide +kernel)
        · rw [if_pos c111_18] at hf
          refine CW.run (blk := [(.iload 4, 0)]) (pc' := 116) (ls' := [some (.ref b), some (.int p0), some (.int p1), some (.int w17.1), some (.int w17.2.1), some (.int w17.2.2.1), none]) (st' := [.int w17.2.1]) (by decide +kernel) rfl ?_
          have e9 := Option.some.inj hf
          subst e9
          exact CW.iret rfl (by decide +kernel)
      · rw [if_neg c17_5] at hf
        refine CW.run (blk := [(.iconst (-1), (-1))]) (pc' := 21) (ls' := [some (.ref b), some (.int p0), some (.int p1), none, none, none, none]) (st' := [.int (-1)]) (by decide +kernel) rfl ?_
        have e9 := Option.some.inj hf
        subst e9
        exact CW.iret rfl (by decide +kernel)
