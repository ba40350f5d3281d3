/-! ===== the class, method by method (by program) 12 ===== -/
def fb_X8_readOpened (rd : RD) (p0 : Nat) (p1 : Nat) (p2 : Int32) (S : cT) : Option (cT) := if p2 < 10 then (Option.bind (if (S.1 p0 8) = 317 then (some (1)) else (some (0)) : Option (Int32)) fun w2 => (fc_X10_step p0 S).bind fun q4 => if w2 = 0 then ((rd 0 p0 p1 (p2 + 1) q4).bind fun q6 => if (q6.1 p0 8) = 93 then ((fc_X10_step p0 q6).bind fun q8 => some q8) else ((fc_X10_refuse p0 0 q6).bind fun q9 => (fc_X10_step p0 q9).bind fun q10 => some q10)) else ((rd 1 p0 p1 (p2 + 1) q4).bind fun q11 => (fc_X7_addCode p1 (-317) q11).bind fun q12 => some q12)) else ((fc_X10_refuse p0 2 S).bind fun q13 => some q13)
theorem xc_X8_readOpened {l : Launch} {D : Nat} (hD : 2 ≤ D) (rd : RD) (hrd : RDH l D rd) {p0 : Nat} {p1 : Nat} {p2 : Int32} {S : cT} {q : cT} (h0 : cK p0 = 8) (h1 : cK p1 = 6) (hf : fb_X8_readOpened rd p0 p1 p2 S = some q) : COk l yy_X8_readOpened (D + 1) [.ref p0, .ref p1, .int p2] S none q := by
  refine COk.of (ls := [some (.ref p0), some (.ref p1), some (.int p2), none]) (by decide +kernel) (Nat.le_of_ble_eq_true rfl) rfl ?_
  unfold fb_X8_readOpened at hf
  refine CW.run (blk := [(.iload_n 2, 0), (.bipush 10, 10)]) (pc' := 3) (ls' := [some (.ref p0), some (.ref p1), some (.int p2), none]) (st' := [.int 10, .int p2]) (by decide +kernel) rfl ?_
  refine CW.icmp_lt (off := 9) (tgt := 12) (by decide +kernel) (by decide) (fun c3_1 => ?_) (fun c3_1 => ?_)
  · rw [if_pos c3_1] at hf
    refine CW.run (blk := [(.aload_n 0, 0)]) (pc' := 13) (ls' := [some (.ref p0), some (.ref p1), some (.int p2), none]) (st' := [.ref p0]) (by decide +kernel) rfl ?_
    refine CW.getf (v := .int (S.1 p0 8)) h0 (by decide) fl_RX8_23 (by decide +kernel) rfl ?_
    refine CW.run (blk := [(.sipush 317, 317)]) (pc' := 19) (ls' := [some (.ref p0), some (.ref p1), some (.int p2), none]) (st' := [.int 317, .int (S.1 p0 8)]) (by decide +kernel) rfl ?_
    obtain ⟨w2, hw2, hf⟩ := bd_some hf
    have hJ : CW l yy_X8_readOpened (D + 1) none q 27 [some (.ref p0), some (.ref p1), some (.int p2), none] [.int w2] S := by
      refine CW.run (blk := [(.istore_n 3, 0), (.aload_n 0, 0)]) (pc' := 29) (ls' := [some (.ref p0), some (.ref p1), some (.int p2), some (.int w2)]) (st' := [.ref p0]) (by decide +kernel) rfl ?_
      obtain ⟨q4, hq4, hf⟩ := bd_some hf
      refine CW.callV (As := []) (st := []) lv_RX8_27 h0 (by decide) rfl rfl (by decide +kernel) (xc_X10_step h0 hq4) (by omega) (by decide) rfl (Nat.le_of_ble_eq_true rfl) rfl ?_
      show CW l yy_X8_readOpened (D + 1) _ _ 32 [some (.ref p0), some (.ref p1), some (.int p2), some (.int w2)] [] q4
      refine CW.run (blk := [(.iload_n 3, 0)]) (pc' := 33) (ls' := [some (.ref p0), some (.ref p1), some (.int p2), some (.int w2)]) (st' := [.int w2]) (by decide +kernel) rfl ?_
      refine CW.if_eq (off := 19) (tgt := 52) (by decide +kernel) (by decide) (fun c33_5 => ?_) (fun c33_5 => ?_)
      · rw [if_pos c33_5] at hf
        refine CW.run (blk := [(.aload_n 0, 0), (.aload_n 1, 0), (.iload_n 2, 0), (.iconst 1, 1), (.iadd, 0)]) (pc' := 57) (ls' := [some (.ref p0), some (.ref p1), some (.int p2), some (.int w2)]) (st' := [.int (p2 + 1), .ref p1, .ref p0]) (by decide +kernel) rfl ?_
        obtain ⟨q6, hq6, hf⟩ := bd_some hf
        refine CW.callS (As := [.ref p0, .ref p1, .int (p2 + 1)]) (st := []) (Y' := yyw 0) lt_RX8_41 (by decide +kernel) (hrd 0 _ _ _ _ _ h0 h1 hq6) (by omega) (by decide) rfl (Nat.le_of_ble_eq_true rfl) rfl ?_
        show CW l yy_X8_readOpened (D + 1) _ _ 60 [some (.ref p0), some (.ref p1), some (.int p2), some (.int w2)] [] q6
        refine CW.run (blk := [(.aload_n 0, 0)]) (pc' := 61) (ls' := [some (.ref p0), some (.ref p1), some (.int p2), some (.int w2)]) (st' := [.ref p0]) (by decide +kernel) rfl ?_
        refine CW.getf (v := .int (q6.1 p0 8)) h0 (by decide) fl_RX8_23 (by decide +kernel) rfl ?_
        refine CW.run (blk := [(.bipush 93, 93)]) (pc' := 66) (ls' := [some (.ref p0), some (.ref p1), some (.int p2), some (.int w2)]) (st' := [.int 93, .int (q6.1 p0 8)]) (by decide +kernel) rfl ?_
        refine CW.icmp_eq (off := 8) (tgt := 74) (by decide +kernel) (by decide) (fun c66_7 => ?_) (fun c66_7 => ?_)
        · rw [if_pos c66_7] at hf
          refine CW.run (blk := [(.aload_n 0, 0)]) (pc' := 75) (ls' := [some (.ref p0), some (.ref p1), some (.int p2), some (.int w2)]) (st' := [.ref p0]) (by decide +kernel) rfl ?_
          obtain ⟨q8, hq8, hf⟩ := bd_some hf
          refine CW.callV (As := []) (st := []) lv_RX8_27 h0 (by decide) rfl rfl (by decide +kernel) (xc_X10_step h0 hq8) (by omega) (by decide) rfl (Nat.le_of_ble_eq_true rfl) rfl ?_
          show CW l yy_X8_readOpened (D + 1) _ _ 78 [some (.ref p0), some (.ref p1), some (.int p2), some (.int w2)] [] q8
          have e9 := Option.some.inj hf
          subst e9
          exact CW.vret rfl (by decide +kernel)
        · rw [if_neg c66_7] at hf
          refine CW.run (blk := [(.aload_n 0, 0), (.iconst 0, 0)]) (pc' := 71) (ls' := [some (.ref p0), some (.ref p1), some (.int p2), some (.int w2)]) (st' := [.int 0, .ref p0]) (by decide +kernel) rfl ?_
          obtain ⟨q9, hq9, hf⟩ := bd_some hf
          refine CW.callV (As := [.int 0]) (st := []) lv_RX8_30 h0 (by decide) rfl rfl (by decide +kernel) (xc_X10_refuse h0 hq9) (by omega) (by decide) rfl (Nat.le_of_ble_eq_true rfl) rfl ?_
          show CW l yy_X8_readOpened (D + 1) _ _ 74 [some (.ref p0), some (.ref p1), some (.int p2), some (.int w2)] [] q9
          refine CW.run (blk := [(.aload_n 0, 0)]) (pc' := 75) (ls' := [some (.ref p0), some (.ref p1), some (.int p2), some (.int w2)]) (st' := [.ref p0]) (by decide +kernel) rfl ?_
          obtain ⟨q10, hq10, hf⟩ := bd_some hf
          refine CW.callV (As := []) (st := []) lv_RX8_27 h0 (by decide) rfl rfl (by decide +kernel) (xc_X10_step h0 hq10) (by omega) (by decide) rfl (Nat.le_of_ble_eq_true rfl) rfl ?_
          show CW l yy_X8_readOpened (D + 1) _ _ 78 [some (.ref p0), some (.ref p1), some (.int p2), some (.int w2)] [] q10
          have e9 := Option.some.inj hf
          subst e9
          exact CW.vret rfl (by decide +kernel)
      · rw [if_neg c33_5] at hf
        refine CW.run (blk := [(.aload_n 0, 0), (.aload_n 1, 0), (.iload_n 2, 0), (.iconst 1, 1), (.iadd, 0)]) (pc' := 41) (ls' := [some (.ref p0), some (.ref p1), some (.int p2), some (.int w2)]) (st' := [.int (p2 + 1), .ref p1, .ref p0]) (by decide +kernel) rfl ?_
        obtain ⟨q11, hq11, hf⟩ := bd_some hf
        refine CW.callS (As := [.ref p0, .ref p1, .int (p2 + 1)]) (st := []) (Y' := yyw 1) lt_RX8_48 (by decide +kernel) (hrd 1 _ _ _ _ _ h0 h1 hq11) (by omega) (by decide) rfl (Nat.le_of_ble_eq_true rfl) rfl ?_
        show CW l yy_X8_readOpened (D + 1) _ _ 44 [some (.ref p0), some (.ref p1), some (.int p2), some (.int w2)] [] q11
        refine CW.run (blk := [(.aload_n 1, 0), (.sipush (-317), (-317))]) (pc' := 48) (ls' := [some (.ref p0), some (.ref p1), some (.int p2), some (.int w2)]) (st' := [.int (-317), .ref p1]) (by decide +kernel) rfl ?_
        obtain ⟨q12, hq12, hf⟩ := bd_some hf
        refine CW.callV (As := [.int (-317)]) (st := []) lv_RX8_51 h1 (by decide) rfl rfl (by decide +kernel) (xc_X7_addCode h1 hq12) (by omega) (by decide) rfl (Nat.le_of_ble_eq_true rfl) rfl ?_
        show CW l yy_X8_readOpened (D + 1) _ _ 51 [some (.ref p0), some (.ref p1), some (.int p2), some (.int w2)] [] q12
        have e9 := Option.some.inj hf
        subst e9
        exact CW.vret rfl (by decide +kernel)
    clear hf
    refine CW.icmp_ne (off := 7) (tgt := 26) (by decide +kernel) (by decide) (fun c19_3 => ?_) (fun c19_3 => ?_)
    · rw [if_neg c19_3] at hw2
      refine CW.run (blk := [(.iconst 0, 0)]) (pc' := 27) (ls' := [some (.ref p0), some (.ref p1), some (.int p2), none]) (st' := [.int 0]) (by decide +kernel) rfl ?_
      have e9 := Option.some.inj hw2
      subst e9
      exact hJ
    · rw [if_pos c19_3] at hw2
      refine CW.run (blk := [(.iconst 1, 1), (.goto 4, 0)]) (pc' := 27) (ls' := [some (.ref p0), some (.ref p1), some (.int p2), none]) (st' := [.int 1]) (by decide +kernel) rfl ?_
      have e9 := Option.some.inj hw2
      subst e9
      exact hJ
  · rw [if_neg c3_1] at hf
    refine CW.run (blk := [(.aload_n 0, 0), (.iconst 2, 2)]) (pc' := 8) (ls' := [some (.ref p0), some (.ref p1), some (.int p2), none]) (st' := [.int 2, .ref p0]) (by decide +kernel) rfl ?_
    obtain ⟨q13, hq13, hf⟩ := bd_some hf
    refine CW.callV (As := [.int 2]) (st := []) lv_RX8_30 h0 (by decide) rfl rfl (by decide +kernel) (xc_X10_refuse h0 hq13) (by omega) (by decide) rfl (Nat.le_of_ble_eq_true rfl) rfl ?_
    show CW l yy_X8_readOpened (D + 1) _ _ 11 [some (.ref p0), some (.ref p1), some (.int p2), none] [] q13
    have e9 := Option.some.inj hf
    subst e9
    exact CW.vret rfl (by decide +kernel)
def fc_rd : Nat → RD
  | 0, _, _, _, _, _ => none
  | N + 1, w, p0, p1, p2, S => match w with
    | 0 => fb_X8_readTest (fc_rd N) p0 p1 p2 S
    | 1 => fb_X8_readFact (fc_rd N) p0 p1 p2 S
    | _ => fb_X8_readOpened (fc_rd N) p0 p1 p2 S
theorem xc_rd {l : Launch} : ∀ (N : Nat), RDH l (2 + N) (fc_rd N) := by
  intro N
  induction N with
  | zero =>
    intro w p0 p1 p2 S q _ _ hf
    cases hf
  | succ N ih =>
    intro w p0 p1 p2 S q h0 h1 hf
    unfold fc_rd at hf
    split at hf
    · exact xc_X8_readTest (D := 2 + N) (Nat.le_add_right _ _) (fc_rd N) ih h0 h1 hf
    · exact xc_X8_readFact (D := 2 + N) (Nat.le_add_right _ _) (fc_rd N) ih h0 h1 hf
    · rename_i hw0 hw1
      have hy : yyw w = yy_X8_readOpened := by
        unfold yyw
        split
        · exact absurd rfl hw0
        · exact absurd rfl hw1
        · rfl
      rw [hy]
      exact xc_X8_readOpened (D := 2 + N) (Nat.le_add_right _ _) (fc_rd N) ih h0 h1 hf
def fc_X8_readClause (p0 : Nat) (p1 : Nat) (p2 : Int32) (S : cT) : Option (cT) := if (S.1 p0 8) = 312 then (if p2 < 12 then ((fc_X10_step p0 S).bind fun q3 => (fc_X8_readSum p0 p1 q3).bind fun q4 => Option.bind (if (q4.1 p0 8) = 314 then ((fc_X10_step p0 q4).bind fun q7 => (fc_rd 40 0 p0 p1 0 q7).bind fun q8 => some (q8)) else (some (q4)) : Option (cT)) fun w5 => (fc_X7_addClause p1 (S.1 p0 8) (q3.1 p1 5) (q4.1 p1 5) w5).bind fun q9 => some q9) else ((fc_X10_refuse p0 4 S).bind fun q10 => some q10)) else (if (S.1 p0 8) = 313 then (if p2 < 12 then ((fc_X10_step p0 S).bind fun q13 => (fc_X8_readSum p0 p1 q13).bind fun q14 => Option.bind (if (q14.1 p0 8) = 314 then ((fc_X10_step p0 q14).bind fun q17 => (fc_rd 40 0 p0 p1 0 q17).bind fun q18 => some (q18)) else (some (q14)) : Option (cT)) fun w15 => (fc_X7_addClause p1 (S.1 p0 8) (q13.1 p1 5) (q14.1 p1 5) w15).bind fun q19 => some q19) else ((fc_X10_refuse p0 4 S).bind fun q20 => some q20)) else ((fc_X10_refuse p0 0 S).bind fun q21 => some q21))
theorem xc_X8_readClause {l : Launch} {p0 : Nat} {p1 : Nat} {p2 : Int32} {S : cT} {q : cT} (h0 : cK p0 = 8) (h1 : cK p1 = 6) (hf : fc_X8_readClause p0 p1 p2 S = some q) : COk l yy_X8_readClause 43 [.ref p0, .ref p1, .int p2] S none q := by
  refine COk.of (ls := [some (.ref p0), some (.ref p1), some (.int p2), none, none, none]) (by decide +kernel) (Nat.le_of_ble_eq_true rfl) rfl ?_
  unfold fc_X8_readClause at hf
  refine CW.run (blk := [(.aload_n 0, 0)]) (pc' := 1) (ls' := [some (.ref p0), some (.ref p1), some (.int p2), none, none, none]) (st' := [.ref p0]) (by decide +kernel) rfl ?_
  refine CW.getf (v := .int (S.1 p0 8)) h0 (by decide) fl_RX8_23 (by decide +kernel) rfl ?_
  refine CW.run (blk := [(.istore_n 3, 0), (.iload_n 3, 0), (.sipush 312, 312)]) (pc' := 9) (ls' := [some (.ref p0), some (.ref p1), some (.int p2), some (.int (S.1 p0 8)), none, none]) (st' := [.int 312, .int (S.1 p0 8)]) (by decide +kernel) rfl ?_
  refine CW.icmp_eq (off := 16) (tgt := 25) (by decide +kernel) (by decide) (fun c9_1 => ?_) (fun c9_1 => ?_)
  · rw [if_pos c9_1] at hf
    refine CW.run (blk := [(.iload_n 2, 0), (.bipush 12, 12)]) (pc' := 28) (ls' := [some (.ref p0), some (.ref p1), some (.int p2), some (.int (S.1 p0 8)), none, none]) (st' := [.int 12, .int p2]) (by decide +kernel) rfl ?_
    refine CW.icmp_lt (off := 9) (tgt := 37) (by decide +kernel) (by decide) (fun c28_2 => ?_) (fun c28_2 => ?_)
    · rw [if_pos c28_2] at hf
      refine CW.run (blk := [(.aload_n 0, 0)]) (pc' := 38) (ls' := [some (.ref p0), some (.ref p1), some (.int p2), some (.int (S.1 p0 8)), none, none]) (st' := [.ref p0]) (by decide +kernel) rfl ?_
      obtain ⟨q3, hq3, hf⟩ := bd_some hf
      refine CW.callV (As := []) (st := []) lv_RX8_27 h0 (by decide) rfl rfl (by decide +kernel) (xc_X10_step h0 hq3) (by decide) (by decide) rfl (Nat.le_of_ble_eq_true rfl) rfl ?_
      show CW l yy_X8_readClause 43 _ _ 41 [some (.ref p0), some (.ref p1), some (.int p2), some (.int (S.1 p0 8)), none, none] [] q3
      refine CW.run (blk := [(.aload_n 1, 0)]) (pc' := 42) (ls' := [some (.ref p0), some (.ref p1), some (.int p2), some (.int (S.1 p0 8)), none, none]) (st' := [.ref p1]) (by decide +kernel) rfl ?_
      refine CW.getf (v := .int (q3.1 p1 5)) h1 (by decide) fl_RX8_34 (by decide +kernel) rfl ?_
      refine CW.run (blk := [(.istore 4, 0), (.aload_n 0, 0), (.aload_n 1, 0)]) (pc' := 49) (ls' := [some (.ref p0), some (.ref p1), some (.int p2), some (.int (S.1 p0 8)), some (.int (q3.1 p1 5)), none]) (st' := [.ref p1, .ref p0]) (by decide +kernel) rfl ?_
      obtain ⟨q4, hq4, hf⟩ := bd_some hf
      refine CW.callS (As := [.ref p0, .ref p1]) (st := []) lt_RX8_37 (by decide +kernel) (xc_X8_readSum h0 h1 hq4) (by decide) (by decide) rfl (Nat.le_of_ble_eq_true rfl) rfl ?_
      show CW l yy_X8_readClause 43 _ _ 52 [some (.ref p0), some (.ref p1), some (.int p2), some (.int (S.1 p0 8)), some (.int (q3.1 p1 5)), none] [] q4
      refine CW.run (blk := [(.aload_n 1, 0)]) (pc' := 53) (ls' := [some (.ref p0), some (.ref p1), some (.int p2), some (.int (S.1 p0 8)), some (.int (q3.1 p1 5)), none]) (st' := [.ref p1]) (by decide +kernel) rfl ?_
      refine CW.getf (v := .int (q4.1 p1 5)) h1 (by decide) fl_RX8_34 (by decide +kernel) rfl ?_
      refine CW.run (blk := [(.istore 5, 0), (.aload_n 0, 0)]) (pc' := 59) (ls' := [some (.ref p0), some (.ref p1), some (.int p2), some (.int (S.1 p0 8)), some (.int (q3.1 p1 5)), some (.int (q4.1 p1 5))]) (st' := [.ref p0]) (by decide +kernel) rfl ?_
      refine CW.getf (v := .int (q4.1 p0 8)) h0 (by decide) fl_RX8_23 (by decide +kernel) rfl ?_
      refine CW.run (blk := [(.sipush 314, 314)]) (pc' := 65) (ls' := [some (.ref p0), some (.ref p1), some (.int p2), some (.int (S.1 p0 8)), some (.int (q3.1 p1 5)), some (.int (q4.1 p1 5))]) (st' := [.int 314, .int (q4.1 p0 8)]) (by decide +kernel) rfl ?_
      obtain ⟨w5, hw5, hf⟩ := bd_some hf
      have hJ : CW l yy_X8_readClause 43 none q 78 [some (.ref p0), some (.ref p1), some (.int p2), some (.int (S.1 p0 8)), some (.int (q3.1 p1 5)), some (.int (q4.1 p1 5))] [] w5 := by
        refine CW.run (blk := [(.aload_n 1, 0), (.iload_n 3, 0), (.iload 4, 0), (.iload 5, 0)]) (pc' := 84) (ls' := [some (.ref p0), some (.ref p1), some (.int p2), some (.int (S.1 p0 8)), some (.int (q3.1 p1 5)), some (.int (q4.1 p1 5))]) (st' := [.int (q4.1 p1 5), .int (q3.1 p1 5), .int (S.1 p0 8), .ref p1]) (by decide +kernel) rfl ?_
        obtain ⟨q9, hq9, hf⟩ := bd_some hf
        refine CW.callV (As := [.int (S.1 p0 8), .int (q3.1 p1 5), .int (q4.1 p1 5)]) (st := []) lv_RX8_44 h1 (by decide) rfl rfl (by decide +kernel) (xc_X7_addClause h1 hq9) (by decide) (by decide) rfl (Nat.le_of_ble_eq_true rfl) rfl ?_
        show CW l yy_X8_readClause 43 _ _ 87 [some (.ref p0), some (.ref p1), some (.int p2), some (.int (S.1 p0 8)), some (.int (q3.1 p1 5)), some (.int (q4.1 p1 5))] [] q9
        have e9 := Option.some.inj hf
        subst e9
        exact CW.vret rfl (by decide +kernel)
      clear hf
      refine CW.icmp_ne (off := 13) (tgt := 78) (by decide +kernel) (by decide) (fun c65_6 => ?_) (fun c65_6 => ?_)
      · rw [if_neg c65_6] at hw5
        have e9 := Option.some.inj hw5
        subst e9
        exact hJ
      · rw [if_pos c65_6] at hw5
        refine CW.run (blk := [(.aload_n 0, 0)]) (pc' := 69) (ls' := [some (.ref p0), some (.ref p1), some (.int p2), some (.int (S.1 p0 8)), some (.int (q3.1 p1 5)), some (.int (q4.1 p1 5))]) (st' := [.ref p0]) (by decide +kernel) rfl ?_
        obtain ⟨q7, hq7, hw5⟩ := bd_some hw5
        refine CW.callV (As := []) (st := []) lv_RX8_27 h0 (by decide) rfl rfl (by decide +kernel) (xc_X10_step h0 hq7) (by decide) (by decide) rfl (Nat.le_of_ble_eq_true rfl) rfl ?_
        show CW l yy_X8_readClause 43 _ _ 72 [some (.ref p0), some (.ref p1), some (.int p2), some (.int (S.1 p0 8)), some (.int (q3.1 p1 5)), some (.int (q4.1 p1 5))] [] q7
        refine CW.run (blk := [(.aload_n 0, 0), (.aload_n 1, 0), (.iconst 0, 0)]) (pc' := 75) (ls' := [some (.ref p0), some (.ref p1), some (.int p2), some (.int (S.1 p0 8)), some (.int (q3.1 p1 5)), some (.int (q4.1 p1 5))]) (st' := [.int 0, .ref p1, .ref p0]) (by decide +kernel) rfl ?_
        obtain ⟨q8, hq8, hw5⟩ := bd_some hw5
        refine CW.callS (As := [.ref p0, .ref p1, .int 0]) (st := []) (Y' := yyw 0) lt_RX8_41 (by decide +kernel) (xc_rd 40 0 _ _ _ _ _ h0 h1 hq8) (by decide) (by decide) rfl (Nat.le_of_ble_eq_true rfl) rfl ?_
        show CW l yy_X8_readClause 43 _ _ 78 [some (.ref p0), some (.ref p1), some (.int p2), some (.int (S.1 p0 8)), some (.int (q3.1 p1 5)), some (.int (q4.1 p1 5))] [] q8
        have e9 := Option.some.inj hw5
        subst e9
        exact hJ
    · rw [if_neg c28_2] at hf
      refine CW.run (blk := [(.aload_n 0, 0), (.iconst 4, 4)]) (pc' := 33) (ls' := [some (.ref p0), some (.ref p1), some (.int p2), some (.int (S.1 p0 8)), none, none]) (st' := [.int 4, .ref p0]) (by decide +kernel) rfl ?_
      obtain ⟨q10, hq10, hf⟩ := bd_some hf
      refine CW.callV (As := [.int 4]) (st := []) lv_RX8_30 h0 (by decide) rfl rfl (by decide +kernel) (xc_X10_refuse h0 hq10) (by decide) (by decide) rfl (Nat.le_of_ble_eq_true rfl) rfl ?_
      show CW l yy_X8_readClause 43 _ _ 36 [some (.ref p0), some (.ref p1), some (.int p2), some (.int (S.1 p0 8)), none, none] [] q10
      have e9 := Option.some.inj hf
      subst e9
      exact CW.vret rfl (by decide +kernel)
  · rw [if_neg c9_1] at hf
    refine CW.run (blk := [(.iload_n 3, 0), (.sipush 313, 313)]) (pc' := 16) (ls' := [some (.ref p0), some (.ref p1), some (.int p2), some (.int (S.1 p0 8)), none, none]) (st' := [.int 313, .int (S.1 p0 8)]) (by decide +kernel) rfl ?_
    refine CW.icmp_eq (off := 9) (tgt := 25) (by decide +kernel) (by decide) (fun c16_11 => ?_) (fun c16_11 => ?_)
    · rw [if_pos c16_11] at hf
      refine CW.run (blk := [(.iload_n 2, 0), (.bipush 12, 12)]) (pc' := 28) (ls' := [some (.ref p0), some (.ref p1), some (.int p2), some (.int (S.1 p0 8)), none, none]) (st' := [.int 12, .int p2]) (by decide +kernel) rfl ?_
      refine CW.icmp_lt (off := 9) (tgt := 37) (by decide +kernel) (by decide) (fun c28_12 => ?_) (fun c28_12 => ?_)
      · rw [if_pos c28_12] at hf
        refine CW.run (blk := [(.aload_n 0, 0)]) (pc' := 38) (ls' := [some (.ref p0), some (.ref p1), some (.int p2), some (.int (S.1 p0 8)), none, none]) (st' := [.ref p0]) (by decide +kernel) rfl ?_
        obtain ⟨q13, hq13, hf⟩ := bd_some hf
        refine CW.callV (As := []) (st := []) lv_RX8_27 h0 (by decide) rfl rfl (by decide +kernel) (xc_X10_step h0 hq13) (by decide) (by decide) rfl (Nat.le_of_ble_eq_true rfl) rfl ?_
        show CW l yy_X8_readClause 43 _ _ 41 [some (.ref p0), some (.ref p1), some (.int p2), some (.int (S.1 p0 8)), none, none] [] q13
        refine CW.run (blk := [(.aload_n 1, 0)]) (pc' := 42) (ls' := [some (.ref p0), some (.ref p1), some (.int p2), some (.int (S.1 p0 8)), none, none]) (st' := [.ref p1]) (by decide +kernel) rfl ?_
        refine CW.getf (v := .int (q13.1 p1 5)) h1 (by decide) fl_RX8_34 (by decide +kernel) rfl ?_
        refine CW.run (blk := [(.istore 4, 0), (.aload_n 0, 0), (.aload_n 1, 0)]) (pc' := 49) (ls' := [some (.ref p0), some (.ref p1), some (.int p2), some (.int (S.1 p0 8)), some (.int (q13.1 p1 5)), none]) (st' := [.ref p1, .ref p0]) (by decide +kernel) rfl ?_
        obtain ⟨q14, hq14, hf⟩ := bd_some hf
        refine CW.callS (As := [.ref p0, .ref p1]) (st := []) lt_RX8_37 (by decide +kernel) (xc_X8_readSum h0 h1 hq14) (by decide) (by decide) rfl (Nat.le_of_ble_eq_true rfl) rfl ?_
        show CW l yy_X8_readClause 43 _ _ 52 [some (.ref p0), some (.ref p1), some (.int p2), some (.int (S.1 p0 8)), some (.int (q13.1 p1 5)), none] [] q14
        refine CW.run (blk := [(.aload_n 1, 0)]) (pc' := 53) (ls' := [some (.ref p0), some (.ref p1), some (.int p2), some (.int (S.1 p0 8)), some (.int (q13.1 p1 5)), none]) (st' := [.ref p1]) (by decide +kernel) rfl ?_
        refine CW.getf (v := .int (q14.1 p1 5)) h1 (by decide) fl_RX8_34 (by decide +kernel) rfl ?_
        refine CW.run (blk := [(.istore 5, 0), (.aload_n 0, 0)]) (pc' := 59) (ls' := [some (.ref p0), some (.ref p1), some (.int p2), some (.int (S.1 p0 8)), some (.int (q13.1 p1 5)), some (.int (q14.1 p1 5))]) (st' := [.ref p0]) (by decide +kernel) rfl ?_
        refine CW.getf (v := .int (q14.1 p0 8)) h0 (by decide) fl_RX8_23 (by decide +kernel) rfl ?_
        refine CW.run (blk := [(.sipush 314, 314)]) (pc' := 65) (ls' := [some (.ref p0), some (.ref p1), some (.int p2), some (.int (S.1 p0 8)), some (.int (q13.1 p1 5)), some (.int (q14.1 p1 5))]) (st' := [.int 314, .int (q14.1 p0 8)]) (by decide +kernel) rfl ?_
        obtain ⟨w15, hw15, hf⟩ := bd_some hf
        have hJ : CW l yy_X8_readClause 43 none q 78 [some (.ref p0), some (.ref p1), some (.int p2), some (.int (S.1 p0 8)), some (.int (q13.1 p1 5)), some (.int (q14.1 p1 5))] [] w15 := by
          refine CW.run (blk := [(.aload_n 1, 0), (.iload_n 3, 0), (.iload 4, 0), (.iload 5, 0)]) (pc' := 84) (ls' := [some (.ref p0), some (.ref p1), some (.int p2), some (.int (S.1 p0 8)), some (.int (q13.1 p1 5)), some (.int (q14.1 p1 5))]) (st' := [.int (q14.1 p1 5), .int (q13.1 p1 5), .int (S.1 p0 8), .ref p1]) (by decide +kernel) rfl ?_
          obtain ⟨q19, hq19, hf⟩ := bd_some hf
          refine CW.callV (As := [.int (S.1 p0 8), .int (q13.1 p1 5), .int (q14.1 p1 5)]) (st := []) lv_RX8_44 h1 (by decide) rfl rfl (by decide +kernel) (xc_X7_addClause h1 hq19) (by decide) (by decide) rfl (Nat.le_of_ble_eq_true rfl) rfl ?_
          show CW l yy_X8_readClause 43 _ _ 87 [some (.ref p0), some (.ref p1), some (.int p2), some (.int (S.1 p0 8)), some (.int (q13.1 p1 5)), some (.int (q14.1 p1 5))] [] q19
          have e9 := Option.some.inj hf
          subst e9
          exact CW.vret rfl (by decide +kernel)
        clear hf
        refine CW.icmp_ne (off := 13) (tgt := 78) (by decide +kernel) (by decide) (fun c65_16 => ?_) (fun c65_16 => ?_)
        · rw [if_neg c65_16] at hw15
          have e9 := Option.some.inj hw15
          subst e9
          exact hJ
        · rw [if_pos c65_16] at hw15
          refine CW.run (blk := [(.aload_n 0, 0)]) (pc' := 69) (ls' := [some (.ref p0), some (.ref p1), some (.int p2), some (.int (S.1 p0 8)), some (.int (q13.1 p1 5)), some (.int (q14.1 p1 5))]) (st' := [.ref p0]) (by decide +kernel) rfl ?_
          obtain ⟨q17, hq17, hw15⟩ := bd_some hw15
          refine CW.callV (As := []) (st := []) lv_RX8_27 h0 (by decide) rfl rfl (by decide +kernel) (xc_X10_step h0 hq17) (by decide) (by decide) rfl (Nat.le_of_ble_eq_true rfl) rfl ?_
          show CW l yy_X8_readClause 43 _ _ 72 [some (.ref p0), some (.ref p1), some (.int p2), some (.int (S.1 p0 8)), some (.int (q13.1 p1 5)), some (.int (q14.1 p1 5))] [] q17
          refine CW.run (blk := [(.aload_n 0, 0), (.aload_n 1, 0), (.iconst 0, 0)]) (pc' := 75) (ls' := [some (.ref p0), some (.ref p1), some (.int p2), some (.int (S.1 p0 8)), some (.int (q13.1 p1 5)), some (.int (q14.1 p1 5))]) (st' := [.int 0, .ref p1, .ref p0]) (by decide +kernel) rfl ?_
          obtain ⟨q18, hq18, hw15⟩ := bd_some hw15
          refine CW.callS (As := [.ref p0, .ref p1, .int 0]) (st := []) (Y' := yyw 0) lt_RX8_41 (by decide +kernel) (xc_rd 40 0 _ _ _ _ _ h0 h1 hq18) (by decide) (by decide) rfl (Nat.le_of_ble_eq_true rfl) rfl ?_
          show CW l yy_X8_readClause 43 _ _ 78 [some (.ref p0), some (.ref p1), some (.int p2), some (.int (S.1 p0 8)), some (.int (q13.1 p1 5)), some (.int (q14.1 p1 5))] [] q18
          have e9 := Option.some.inj hw15
          subst e9
          exact hJ
      · rw [if_neg c28_12] at hf
        refine CW.run (blk := [(.aload_n 0, 0), (.iconst 4, 4)]) (pc' := 33) (ls' := [some (.ref p0), some (.ref p1), some (.int p2), some (.int (S.1 p0 8)), none, none]) (st' := [.int 4, .ref p0]) (by decide +kernel) rfl ?_
        obtain ⟨q20, hq20, hf⟩ := bd_some hf
        refine CW.callV (As := [.int 4]) (st := []) lv_RX8_30 h0 (by decide) rfl rfl (by decide +kernel) (xc_X10_refuse h0 hq20) (by decide) (by decide) rfl (Nat.le_of_ble_eq_true rfl) rfl ?_
        show CW l yy_X8_readClause 43 _ _ 36 [some (.ref p0), some (.ref p1), some (.int p2), some (.int (S.1 p0 8)), none, none] [] q20
        have e9 := Option.some.inj hf
        subst e9
        exact CW.vret rfl (by decide +kernel)
    · rw [if_neg c16_11] at hf
      refine CW.run (blk := [(.aload_n 0, 0), (.iconst 0, 0)]) (pc' := 21) (ls' := [some (.ref p0), some (.ref p1), some (.int p2), some (.int (S.1 p0 8)), none, none]) (st' := [.int 0, .ref p0]) (by decide +kernel) rfl ?_
      obtain ⟨q21, hq21, hf⟩ := bd_some hf
      refine CW.callV (As := [.int 0]) (st := []) lv_RX8_30 h0 (by decide) rfl rfl (by decide +kernel) (xc_X10_refuse h0 hq21) (by decide) (by decide) rfl (Nat.le_of_ble_eq_true rfl) rfl ?_
      show CW l yy_X8_readClause 43 _ _ 24 [some (.ref p0), some (.ref p1), some (.int p2), some (.int (S.1 p0 8)), none, none] [] q21
      have e9 := Option.some.inj hf
      subst e9
      exact CW.vret rfl (by decide +kernel)
def fc_X8_readAll_L10 (k0 : Nat) (k1 : Nat) : Nat → Int32 → cT → Option (Int32 × cT)
  | 0, _, _ => none
  | N + 1, a2, S => if 12 < a2 then (some (a2, S)) else ((fc_X8_readClause k0 k1 a2 S).bind fun q4 => if (q4.1 k0 8) = 59 then ((fc_X10_step k0 q4).bind fun q6 => fc_X8_readAll_L10 k0 k1 N (a2 + 1) q6) else (some (a2, q4)))
def fc_X8_readAll (p0 : Nat) (p1 : Nat) (S : cT) : Option (cT) := (fc_X7_clear p1 S).bind fun q1 => (fc_X10_scan p0 q1).bind fun q2 => (fc_X8_readAll_L10 p0 p1 FU 0 q2).bind fun w7 => if (w7.2.1 p0 8) = 260 then (some w7.2) else ((fc_X10_refuse p0 0 w7.2).bind fun q9 => some q9)
theorem xc_X8_readAll_L10 {l : Launch} {r : Option Value} {S' : cT} (k0 : Nat) (k1 : Nat) (hk0 : cK k0 = 8) (hk1 : cK k1 = 6) : ∀ (N : Nat) (a2 : Int32) (S : cT) (W0 : Int32 × cT) (_ : fc_X8_readAll_L10 k0 k1 N a2 S = some W0) (_ : CW l yy_X8_readAll 44 r S' 44 [some (.ref k0), some (.ref k1), some (.int W0.1)] [] W0.2), CW l yy_X8_readAll 44 r S' 10 [some (.ref k0), some (.ref k1), some (.int a2)] [] S := by
  intro N
  induction N with
  | zero =>
    intro a2 S W0 hf _
    cases hf
  | succ N ih =>
    intro a2 S W0 hf hk_1
    unfold fc_X8_readAll_L10 at hf
    refine CW.run (blk := [(.iload_n 2, 0), (.bipush 12, 12)]) (pc' := 13) (ls' := [some (.ref k0), some (.ref k1), some (.int a2)]) (st' := [.int 12, .int a2]) (by decide +kernel) rfl ?_
    refine CW.icmp_gt (off := 31) (tgt := 44) (by decide +kernel) (by decide) (fun c13_3 => ?_) (fun c13_3 => ?_)
    · rw [if_pos c13_3] at hf
      have e9 := Option.some.inj hf
      subst e9
      exact hk_1
    · rw [if_neg c13_3] at hf
      refine CW.run (blk := [(.aload_n 0, 0), (.aload_n 1, 0), (.iload_n 2, 0)]) (pc' := 19) (ls' := [some (.ref k0), some (.ref k1), some (.int a2)]) (st' := [.int a2, .ref k1, .ref k0]) (by decide +kernel) rfl ?_
      obtain ⟨q4, hq4, hf⟩ := bd_some hf
      refine CW.callS (As := [.ref k0, .ref k1, .int a2]) (st := []) lt_RX8_17 (by decide +kernel) (xc_X8_readClause hk0 hk1 hq4) (by decide) (by decide) rfl (Nat.le_of_ble_eq_true rfl) rfl ?_
      show CW l yy_X8_readAll 44 _ _ 22 [some (.ref k0), some (.ref k1), some (.int a2)] [] q4
      refine CW.run (blk := [(.aload_n 0, 0)]) (pc' := 23) (ls' := [some (.ref k0), some (.ref k1), some (.int a2)]) (st' := [.ref k0]) (by decide +kernel) rfl ?_
      refine CW.getf (v := .int (q4.1 k0 8)) hk0 (by decide) fl_RX8_23 (by decide +kernel) rfl ?_
      refine CW.run (blk := [(.bipush 59, 59)]) (pc' := 28) (ls' := [some (.ref k0), some (.ref k1), some (.int a2)]) (st' := [.int 59, .int (q4.1 k0 8)]) (by decide +kernel) rfl ?_
      refine CW.icmp_eq (off := 6) (tgt := 34) (by decide +kernel) (by decide) (fun c28_5 => ?_) (fun c28_5 => ?_)
      · rw [if_pos c28_5] at hf
        refine CW.run (blk := [(.aload_n 0, 0)]) (pc' := 35) (ls' := [some (.ref k0), some (.ref k1), some (.int a2)]) (st' := [.ref k0]) (by decide +kernel) rfl ?_
        obtain ⟨q6, hq6, hf⟩ := bd_some hf
        refine CW.callV (As := []) (st := []) lv_RX8_27 hk0 (by decide) rfl rfl (by decide +kernel) (xc_X10_step hk0 hq6) (by decide) (by decide) rfl (Nat.le_of_ble_eq_true rfl) rfl ?_
        show CW l yy_X8_readAll 44 _ _ 38 [some (.ref k0), some (.ref k1), some (.int a2)] [] q6
        refine CW.run (blk := [(.iinc 2 1, 1), (.goto (-31), 0)]) (pc' := 10) (ls' := [some (.ref k0), some (.ref k1), some (.int (a2 + 1))]) (st' := []) (by decide +kernel) rfl ?_
        exact ih _ _ _ hf hk_1
      · rw [if_neg c28_5] at hf
        refine CW.run (blk := [(.goto 13, 0)]) (pc' := 44) (ls' := [some (.ref k0), some (.ref k1), some (.int a2)]) (st' := []) (by decide +kernel) rfl ?_
        have e9 := Option.some.inj hf
        subst e9
        exact hk_1
theorem xc_X8_readAll {l : Launch} {p0 : Nat} {p1 : Nat} {S : cT} {q : cT} (h0 : cK p0 = 8) (h1 : cK p1 = 6) (hf : fc_X8_readAll p0 p1 S = some q) : COk l yy_X8_readAll 44 [.ref p0, .ref p1] S none q := by
  refine COk.of (ls := [some (.ref p0), some (.ref p1), none]) (by decide +kernel) (Nat.le_of_ble_eq_true rfl) rfl ?_
  unfold fc_X8_readAll at hf
  refine CW.run (blk := [(.aload_n 1, 0)]) (pc' := 1) (ls' := [some (.ref p0), some (.ref p1), none]) (st' := [.ref p1]) (by decide +kernel) rfl ?_
  obtain ⟨q1, hq1, hf⟩ := bd_some hf
  refine CW.callV (As := []) (st := []) lv_RX8_7 h1 (by decide) rfl rfl (by decide +kernel) (xc_X7_clear h1 hq1) (by decide) (by decide) rfl (Nat.le_of_ble_eq_true rfl) rfl ?_
  show CW l yy_X8_readAll 44 _ _ 4 [some (.ref p0), some (.ref p1), none] [] q1
  refine CW.run (blk := [(.aload_n 0, 0)]) (pc' := 5) (ls' := [some (.ref p0), some (.ref p1), none]) (st' := [.ref p0]) (by decide +kernel) rfl ?_
  obtain ⟨q2, hq2, hf⟩ := bd_some hf
  refine CW.callV (As := []) (st := []) lv_RX8_12 h0 (by decide) rfl rfl (by decide +kernel) (xc_X10_scan h0 hq2) (by decide) (by decide) rfl (Nat.le_of_ble_eq_true rfl) rfl ?_
  show CW l yy_X8_readAll 44 _ _ 8 [some (.ref p0), some (.ref p1), none] [] q2
  refine CW.run (blk := [(.iconst 0, 0), (.istore_n 2, 0)]) (pc' := 10) (ls' := [some (.ref p0), some (.ref p1), some (.int 0)]) (st' := []) (by decide +kernel) rfl ?_
  obtain ⟨w7, hw7, hf⟩ := bd_some hf
  refine xc_X8_readAll_L10 p0 p1 h0 h1 FU _ _ _ hw7 ?_
  refine CW.run (blk := [(.aload_n 0, 0)]) (pc' := 45) (ls' := [some (.ref p0), some (.ref p1), some (.int w7.1)]) (st' := [.ref p0]) (by decide +kernel) rfl ?_
  refine CW.getf (v := .int (w7.2.1 p0 8)) h0 (by decide) fl_RX8_23 (by decide +kernel) rfl ?_
  refine CW.run (blk := [(.sipush 260, 260)]) (pc' := 51) (ls' := [some (.ref p0), some (.ref p1), some (.int w7.1)]) (st' := [.int 260, .int (w7.2.1 p0 8)]) (by decide +kernel) rfl ?_
  refine CW.icmp_eq (off := 8) (tgt := 59) (by decide +kernel) (by decide) (fun c51_8 => ?_) (fun c51_8 => ?_)
  · rw [if_pos c51_8] at hf
    have e9 := Option.some.inj hf
    subst e9
    exact CW.vret rfl (by decide +kernel)
  · rw [if_neg c51_8] at hf
    refine CW.run (blk := [(.aload_n 0, 0), (.iconst 0, 0)]) (pc' := 56) (ls' := [some (.ref p0), some (.ref p1), some (.int w7.1)]) (st' := [.int 0, .ref p0]) (by decide +kernel) rfl ?_
    obtain ⟨q9, hq9, hf⟩ := bd_some hf
    refine CW.callV (As := [.int 0]) (st := []) lv_RX8_30 h0 (by decide) rfl rfl (by decide +kernel) (xc_X10_refuse h0 hq9) (by decide) (by decide) rfl (Nat.le_of_ble_eq_true rfl) rfl ?_
    show CW l yy_X8_readAll 44 _ _ 59 [some (.ref p0), some (.ref p1), some (.int w7.1)] [] q9
    have e9 := Option.some.inj hf
    subst e9
    exact CW.vret rfl (by decide +kernel)
def fc_X10_append_L3 (k0 : Nat) (k1 : Int32) : Nat → Int32 → cT → Option (Int32 × cT)
  | 0, _, _ => none
  | N + 1, a2, S => if a2 < 0 then (some (a2, S)) else (if (S.1 k0 4) < 0 then (fc_X10_append_L3 k0 k1 N (a2 + (-8)) S) else (if 400 ≤ (S.1 k0 4) then (fc_X10_append_L3 k0 k1 N (a2 + (-8)) S) else (bif inb (S.1 k0 4) 400 then (letv (ca S (k0 + 1) ((S.1 k0 4) : Int32).toNatClampNeg ((((k1 : Int32).toUInt32 >>> ((a2 : Int32).toUInt32 &&& Int32.toUInt32 31)).toInt32) &&& 255)) fun S5 => letv (ca S5 k0 4 ((S5.1 k0 4) + 1)) fun S6 => fc_X10_append_L3 k0 k1 N (a2 + (-8)) S6) else none)))
def fc_X10_append (b : Nat) (p0 : Int32) (S : cT) : Option (cT) := (fc_X10_append_L3 b p0 FU 24 S).bind fun w7 => some w7.2
theorem xc_X10_append_L3 {l : Launch} {r : Option Value} {S' : cT} (k0 : Nat) (k1 : Int32) (hk0 : cK k0 = 8) : ∀ (N : Nat) (a2 : Int32) (S : cT) (W0 : Int32 × cT) (_ : fc_X10_append_L3 k0 k1 N a2 S = some W0) (_ : CW l yy_X10_append 0 r S' 56 [some (.ref k0), some (.int k1), some (.int W0.1)] [] W0.2), CW l yy_X10_append 0 r S' 3 [some (.ref k0), some (.int k1), some (.int a2)] [] S := by
  intro N
  induction N with
  | zero =>
    intro a2 S W0 hf _
    cases hf
  | succ N ih =>
    intro a2 S W0 hf hk_1
    unfold fc_X10_append_L3 at hf
    refine CW.run (blk := [(.iload_n 2, 0)]) (pc' := 4) (ls' := [some (.ref k0), some (.int k1), some (.int a2)]) (st' := [.int a2]) (by decide +kernel) rfl ?_
    refine CW.if_lt (off := 52) (tgt := 56) (by decide +kernel) (by decide) (fun c4_1 => ?_) (fun c4_1 => ?_)
    · rw [if_pos c4_1] at hf
      have e9 := Option.some.inj hf
      subst e9
      exact hk_1
    · rw [if_neg c4_1] at hf
      refine CW.run (blk := [(.aload_n 0, 0)]) (pc' := 8) (ls' := [some (.ref k0), some (.int k1), some (.int a2)]) (st' := [.ref k0]) (by decide +kernel) rfl ?_
      refine CW.getf (v := .int (S.1 k0 4)) hk0 (by decide) fl_RX10_22 (by decide +kernel) rfl ?_
      refine CW.if_lt (off := 39) (tgt := 50) (by decide +kernel) (by decide) (fun c11_2 => ?_) (fun c11_2 => ?_)
      · rw [if_pos c11_2] at hf
        refine CW.run (blk := [(.iinc 2 (-8), (-8)), (.goto (-50), 0)]) (pc' := 3) (ls' := [some (.ref k0), some (.int k1), some (.int (a2 + (-8)))]) (st' := []) (by decide +kernel) rfl ?_
        exact ih _ _ _ hf hk_1
      · rw [if_neg c11_2] at hf
        refine CW.run (blk := [(.aload_n 0, 0)]) (pc' := 15) (ls' := [some (.ref k0), some (.int k1), some (.int a2)]) (st' := [.ref k0]) (by decide +kernel) rfl ?_
        refine CW.getf (v := .int (S.1 k0 4)) hk0 (by decide) fl_RX10_22 (by decide +kernel) rfl ?_
        refine CW.run (blk := [(.sipush 400, 400)]) (pc' := 21) (ls' := [some (.ref k0), some (.int k1), some (.int a2)]) (st' := [.int 400, .int (S.1 k0 4)]) (by decide +kernel) rfl ?_
        refine CW.icmp_ge (off := 29) (tgt := 50) (by decide +kernel) (by decide) (fun c21_3 => ?_) (fun c21_3 => ?_)
        · rw [if_pos c21_3] at hf
          refine CW.run (blk := [(.iinc 2 (-8), (-8)), (.goto (-50), 0)]) (pc' := 3) (ls' := [some (.ref k0), some (.int k1), some (.int (a2 + (-8)))]) (st' := []) (by decide +kernel) rfl ?_
          exact ih _ _ _ hf hk_1
        · rw [if_neg c21_3] at hf
          refine CW.run (blk := [(.aload_n 0, 0)]) (pc' := 25) (ls' := [some (.ref k0), some (.int k1), some (.int a2)]) (st' := [.ref k0]) (by decide +kernel) rfl ?_
          refine CW.getf (v := .ref (k0 + 1)) hk0 (by decide) fl_RX10_9 (by decide +kernel) rfl ?_
          refine CW.run (blk := [(.aload_n 0, 0)]) (pc' := 29) (ls' := [some (.ref k0), some (.int k1), some (.int a2)]) (st' := [.ref k0, .ref (k0 + 1)]) (by decide +kernel) rfl ?_
          refine CW.getf (v := .int (S.1 k0 4)) hk0 (by decide) fl_RX10_22 (by decide +kernel) rfl ?_
          refine CW.run (blk := [(.iload_n 1, 0), (.iload_n 2, 0), (.iushr, 0), (.sipush 255, 255), (.iand, 0)]) (pc' := 39) (ls' := [some (.ref k0), some (.int k1), some (.int a2)]) (st' := [.int ((((k1 : Int32).toUInt32 >>> ((a2 : Int32).toUInt32 &&& Int32.toUInt32 31)).toInt32) &&& 255), .int (S.1 k0 4), .ref (k0 + 1)]) (by decide +kernel) rfl ?_
          obtain ⟨hi4, hf⟩ := bi_some hf
          refine CW.iast (kk_8_0 hk0) (kn_8_0 hk0) (by decide +kernel) (inb_in hi4) ?_
          obtain ⟨S5, hS5, hf⟩ := letv_some hf
          rw [← hS5]
          refine CW.run (blk := [(.aload_n 0, 0), (.dup, 0)]) (pc' := 42) (ls' := [some (.ref k0), some (.int k1), some (.int a2)]) (st' := [.ref k0, .ref k0]) (by decide +kernel) rfl ?_
          refine CW.getf (v := .int (S5.1 k0 4)) hk0 (by decide) fl_RX10_22 (by decide +kernel) rfl ?_
          refine CW.run (blk := [(.iconst 1, 1), (.iadd, 0)]) (pc' := 47) (ls' := [some (.ref k0), some (.int k1), some (.int a2)]) (st' := [.int ((S5.1 k0 4) + 1), .ref k0]) (by decide +kernel) rfl ?_
          refine CW.putI hk0 (by decide) fp_RX10_22 (by decide +kernel) (fun _ _ _ => Nat.le_of_ble_eq_true rfl) rfl rfl (fun _ _ _ => rfl) ?_
          obtain ⟨S6, hS6, hf⟩ := letv_some hf
          rw [← hS6]
          refine CW.run (blk := [(.iinc 2 (-8), (-8)), (.goto (-50), 0)]) (pc' := 3) (ls' := [some (.ref k0), some (.int k1), some (.int (a2 + (-8)))]) (st' := []) (by decide +kernel) rfl ?_
          exact ih _ _ _ hf hk_1
theorem xc_X10_append {l : Launch} {b : Nat} {p0 : Int32} {S : cT} {q : cT} (hb : cK b = 8) (hf : fc_X10_append b p0 S = some q) : COk l yy_X10_append 0 [.ref b, .int p0] S none q := by
  refine COk.of (ls := [some (.ref b), some (.int p0), none]) (by decide +kernel) (Nat.le_of_ble_eq_true rfl) rfl ?_
  unfold fc_X10_append at hf
  refine CW.run (blk := [(.bipush 24, 24), (.istore_n 2, 0)]) (pc' := 3) (ls' := [some (.ref b), some (.int p0), some (.int 24)]) (st' := []) (by decide +kernel) rfl ?_
  obtain ⟨w7, hw7, hf⟩ := bd_some hf
  refine xc_X10_append_L3 b p0 hb FU _ _ _ hw7 ?_
  have e9 := Option.some.inj hf
  subst e9
  exact CW.vret rfl (by decide +kernel)
def fc_X11_feed (b : Nat) (p0 : Int32) (p1 : Int32) (p2 : Int32) (p3 : Int32) (p4 : Int32) (S : cT) : Option (Int32 × cT) := if ((S.1 (b + 1) 4) + 20) ≤ 400 then ((fc_X10_append (b + 1) p0 S).bind fun q2 => (fc_X10_append (b + 1) p1 q2).bind fun q3 => (fc_X10_append (b + 1) p2 q3).bind fun q4 => (fc_X10_append (b + 1) p3 q4).bind fun q5 => (fc_X10_append (b + 1) p4 q5).bind fun q6 => some (q6.1 (b + 1) 4, q6)) else (some ((-1), S))
theorem xc_X11_feed {l : Launch} {b : Nat} {p0 : Int32} {p1 : Int32} {p2 : Int32} {p3 : Int32} {p4 : Int32} {S : cT} {q : Int32 × cT} (hb : cK b = 9) (hf : fc_X11_feed b p0 p1 p2 p3 p4 S = some q) : COk l yy_X11_feed 1 [.ref b, .int p0, .int p1, .int p2, .int p3, .int p4] S (some (.int q.1)) q.2 := by
  refine COk.of (ls := [some (.ref b), some (.int p0), some (.int p1), some (.int p2), some (.int p3), some (.int p4)]) (by decide +kernel) (Nat.le_of_ble_eq_true rfl) rfl ?_
  unfold fc_X11_feed at hf
  refine CW.run (blk := [(.aload_n 0, 0)]) (pc' := 1) (ls' := [some (.ref b), some (.int p0), some (.int p1), some (.int p2), some (.int p3), some (.int p4)]) (st' := [.ref b]) (by decide +kernel) rfl ?_
  refine CW.getf (v := .ref (b + 1)) hb (by decide) fl_RX11_10 (by decide +kernel) rfl ?_
  refine CW.getf (v := .int (S.1 (b + 1) 4)) (kk_9_0 hb) (by decide) fl_RX11_73 (by decide +kernel) rfl ?_
  refine CW.run (blk := [(.bipush 20, 20), (.iadd, 0), (.sipush 400, 400)]) (pc' := 13) (ls' := [some (.ref b), some (.int p0), some (.int p1), some (.int p2), some (.int p3), some (.int p4)]) (st' := [.int 400, .int ((S.1 (b + 1) 4) + 20)]) (by decide +kernel) rfl ?_
  refine CW.icmp_le (off := 5) (tgt := 18) (by decide +kernel) (by decide) (fun c13_1 => ?_) (fun c13_1 => ?_)
  · rw [if_pos c13_1] at hf
    refine CW.run (blk := [(.aload_n 0, 0)]) (pc' := 19) (ls' := [some (.ref b), some (.int p0), some (.int p1), some (.int p2), some (.int p3), some (.int p4)]) (st' := [.ref b]) (by decide +kernel) rfl ?_
    refine CW.getf (v := .ref (b + 1)) hb (by decide) fl_RX11_10 (by decide +kernel) rfl ?_
    refine CW.run (blk := [(.iload_n 1, 0)]) (pc' := 23) (ls' := [some (.ref b), some (.int p0), some (.int p1), some (.int p2), some (.int p3), some (.int p4)]) (st' := [.int p0, .ref (b + 1)]) (by decide +kernel) rfl ?_
    obtain ⟨q2, hq2, hf⟩ := bd_some hf
    refine CW.callV (As := [.int p0]) (st := []) lv_RX11_77 (kk_9_0 hb) (by decide) rfl rfl (by decide +kernel) (xc_X10_append (kk_9_0 hb) hq2) (by decide) (by decide) rfl (Nat.le_of_ble_eq_true rfl) rfl ?_
    show CW l yy_X11_feed 1 _ _ 26 [some (.ref b), some (.int p0), some (.int p1), some (.int p2), some (.int p3), some (.int p4)] [] q2
    refine CW.run (blk := [(.aload_n 0, 0)]) (pc' := 27) (ls' := [some (.ref b), some (.int p0), some (.int p1), some (.int p2), some (.int p3), some (.int p4)]) (st' := [.ref b]) (by decide +kernel) rfl ?_
    refine CW.getf (v := .ref (b + 1)) hb (by decide) fl_RX11_10 (by decide +kernel) rfl ?_
    refine CW.run (blk := [(.iload_n 2, 0)]) (pc' := 31) (ls' := [some (.ref b), some (.int p0), some (.int p1), some (.int p2), some (.int p3), some (.int p4)]) (st' := [.int p1, .ref (b + 1)]) (by decide +kernel) rfl ?_
    obtain ⟨q3, hq3, hf⟩ := bd_some hf
    refine CW.callV (As := [.int p1]) (st := []) lv_RX11_77 (kk_9_0 hb) (by decide) rfl rfl (by decide +kernel) (xc_X10_append (kk_9_0 hb) hq3) (by decide) (by decide) rfl (Nat.le_of_ble_eq_true rfl) rfl ?_
    show CW l yy_X11_feed 1 _ _ 34 [some (.ref b), some (.int p0), some (.int p1), some (.int p2), some (.int p3), some (.int p4)] [] q3
    refine CW.run (blk := [(.aload_n 0, 0)]) (pc' := 35) (ls' := [some (.ref b), some (.int p0), some (.int p1), some (.int p2), some (.int p3), some (.int p4)]) (st' := [.ref b]) (by decide +kernel) rfl ?_
    refine CW.getf (v := .ref (b + 1)) hb (by decide) fl_RX11_10 (by decide +kernel) rfl ?_
    refine CW.run (blk := [(.iload_n 3, 0)]) (pc' := 39) (ls' := [some (.ref b), some (.int p0), some (.int p1), some (.int p2), some (.int p3), some (.int p4)]) (st' := [.int p2, .ref (b + 1)]) (by decide +kernel) rfl ?_
    obtain ⟨q4, hq4, hf⟩ := bd_some hf
    refine CW.callV (As := [.int p2]) (st := []) lv_RX11_77 (kk_9_0 hb) (by decide) rfl rfl (by decide +kernel) (xc_X10_append (kk_9_0 hb) hq4) (by decide) (by decide) rfl (Nat.le_of_ble_eq_true rfl) rfl ?_
    show CW l yy_X11_feed 1 _ _ 42 [some (.ref b), some (.int p0), some (.int p1), some (.int p2), some (.int p3), some (.int p4)] [] q4
    refine CW.run (blk := [(.aload_n 0, 0)]) (pc' := 43) (ls' := [some (.ref b), some (.int p0), some (.int p1), some (.int p2), some (.int p3), some (.int p4)]) (st' := [.ref b]) (by decide +kernel) rfl ?_
    refine CW.getf (v := .ref (b + 1)) hb (by decide) fl_RX11_10 (by decide +kernel) rfl ?_
    refine CW.run (blk := [(.iload 4, 0)]) (pc' := 48) (ls' := [some (.ref b), some (.int p0), some (.int p1), some (.int p2), some (.int p3), some (.int p4)]) (st' := [.int p3, .ref (b + 1)]) (by decide +kernel) rfl ?_
    obtain ⟨q5, hq5, hf⟩ := bd_some hf
    refine CW.callV (As := [.int p3]) (st := []) lv_RX11_77 (kk_9_0 hb) (by decide) rfl rfl (by decide +kernel) (xc_X10_append (kk_9_0 hb) hq5) (by decide) (by decide) rfl (Nat.le_of_ble_eq_true rfl) rfl ?_
    show CW l yy_X11_feed 1 _ _ 51 [some (.ref b), some (.int p0), some (.int p1), some (.int p2), some (.int p3), some (.int p4)] [] q5
    refine CW.run (blk := [(.aload_n 0, 0)]) (pc' := 52) (ls' := [some (.ref b), some (.int p0), some (.int p1), some (.int p2), some (.int p3), some (.int p4)]) (st' := [.ref b]) (by decide +kernel) rfl ?_
    refine CW.getf (v := .ref (b + 1)) hb (by decide) fl_RX11_10 (by decide +kernel) rfl ?_
    refine CW.run (blk := [(.iload 5, 0)]) (pc' := 57) (ls' := [some (.ref b), some (.int p0), some (.int p1), some (.int p2), some (.int p3), some (.int p4)]) (st' := [.int p4, .ref (b + 1)]) (by decide +kernel) rfl ?_
    obtain ⟨q6, hq6, hf⟩ := bd_some hf
    refine CW.callV (As := [.int p4]) (st := []) lv_RX11_77 (kk_9_0 hb) (by decide) rfl rfl (by decide +kernel) (xc_X10_append (kk_9_0 hb) hq6) (by decide) (by decide) rfl (Nat.le_of_ble_eq_true rfl) rfl ?_
    show CW l yy_X11_feed 1 _ _ 60 [some (.ref b), some (.int p0), some (.int p1), some (.int p2), some (.int p3), some (.int p4)] [] q6
    refine CW.run (blk := [(.aload_n 0, 0)]) (pc' := 61) (ls' := [some (.ref b), some (.int p0), some (.int p1), some (.int p2), some (.int p3), some (.int p4)]) (st' := [.ref b]) (by decide +kernel) rfl ?_
    refine CW.getf (v := .ref (b + 1)) hb (by decide) fl_RX11_10 (by decide +kernel) rfl ?_
    refine CW.getf (v := .int (q6.1 (b + 1) 4)) (kk_9_0 hb) (by decide) fl_RX11_73 (by decide +kernel) rfl ?_
    have e9 := Option.some.inj hf
    subst e9
    exact CW.iret rfl (by decide +kernel)
  · rw [if_neg c13_1] at hf
    refine CW.run (blk := [(.iconst (-1), (-1))]) (pc' := 17) (ls' := [some (.ref b), some (.int p0), some (.int p1), some (.int p2), some (.int p3), some (.int p4)]) (st' := [.int (-1)]) (by decide +kernel) rfl ?_
    have e9 := Option.some.inj hf
    subst e9
    exact CW.iret rfl (by decide +kernel)
def fc_X11_end (b : Nat) (p0 : Int32) (S : cT) : Option (Int32 × cT) := if p0 < 0 then (some ((-1), S)) else (if p0 ≤ (S.1 (b + 1) 4) then (letv (ca S (b + 1) 4 p0) fun S3 => some (p0, S3)) else (some ((-1), S)))
theorem xc_X11_end {l : Launch} {b : Nat} {p0 : Int32} {S : cT} {q : Int32 × cT} (hb : cK b = 9) (hf : fc_X11_end b p0 S = some q) : COk l yy_X11_end 0 [.ref b, .int p0] S (some (.int q.1)) q.2 := by
  refine COk.of (ls := [some (.ref b), some (.int p0)]) (by decide +kernel) (Nat.le_of_ble_eq_true rfl) rfl ?_
  unfold fc_X11_end at hf
  refine CW.run (blk := [(.iload_n 1, 0)]) (pc' := 1) (ls' := [some (.ref b), some (.int p0)]) (st' := [.int p0]) (by decide +kernel) rfl ?_
  refine CW.if_lt (off := 14) (tgt := 15) (by decide +kernel) (by decide) (fun c1_1 => ?_) (fun c1_1 => ?_)
  · rw [if_pos c1_1] at hf
    refine CW.run (blk := [(.iconst (-1), (-1))]) (pc' := 16) (ls' := [some (.ref b), some (.int p0)]) (st' := [.int (-1)]) (by decide +kernel) rfl ?_
    have e9 := Option.some.inj hf
    subst e9
    exact CW.iret rfl (by decide +kernel)
  · rw [if_neg c1_1] at hf
    refine CW.run (blk := [(.iload_n 1, 0), (.aload_n 0, 0)]) (pc' := 6) (ls' := [some (.ref b), some (.int p0)]) (st' := [.ref b, .int p0]) (by decide +kernel) rfl ?_
    refine CW.getf (v := .ref (b + 1)) hb (by decide) fl_RX11_10 (by decide +kernel) rfl ?_
    refine CW.getf (v := .int (S.1 (b + 1) 4)) (kk_9_0 hb) (by decide) fl_RX11_73 (by decide +kernel) rfl ?_
    refine CW.icmp_le (off := 5) (tgt := 17) (by decide +kernel) (by decide) (fun c12_2 => ?_) (fun c12_2 => ?_)
    · rw [if_pos c12_2] at hf
      refine CW.run (blk := [(.aload_n 0, 0)]) (pc' := 18) (ls' := [some (.ref b), some (.int p0)]) (st' := [.ref b]) (by decide +kernel) rfl ?_
      refine CW.getf (v := .ref (b + 1)) hb (by decide) fl_RX11_10 (by decide +kernel) rfl ?_
      refine CW.run (blk := [(.iload_n 1, 0)]) (pc' := 22) (ls' := [some (.ref b), some (.int p0)]) (st' := [.int p0, .ref (b + 1)]) (by decide +kernel) rfl ?_
      refine CW.putI (kk_9_0 hb) (by decide) fp_RX11_73 (by decide +kernel) (fun _ _ _ => Nat.le_of_ble_eq_true rfl) rfl rfl (fun _ _ _ => rfl) ?_
      obtain ⟨S3, hS3, hf⟩ := letv_some hf
      rw [← hS3]
      refine CW.run (blk := [(.iload_n 1, 0)]) (pc' := 26) (ls' := [some (.ref b), some (.int p0)]) (st' := [.int p0]) (by decide +kernel) rfl ?_
      have e9 := Option.some.inj hf
      subst e9
      exact CW.iret rfl (by decide +kernel)
    · rw [if_neg c12_2] at hf
      refine CW.run (blk := [(.iconst (-1), (-1))]) (pc' := 16) (ls' := [some (.ref b), some (.int p0)]) (st' := [.int (-1)]) (by decide +kernel) rfl ?_
      have e9 := Option.some.inj hf
      subst e9
      exact CW.iret rfl (by decide +kernel)
def fc_X11_island (b : Nat) (S : cT) : Option (Int32 × cT) := bif Nat.beq (cK S.2.2.2) 2 then ((fc_X3_readAll (b + 1) S.2.2.2 S).bind fun q2 => letv (ca q2 (b + 1) 4 0) fun S3 => if (S3.1 (b + 1) 7) = 0 then (bif Nat.beq (cK S3.2.2.2) 2 then (bif Nat.beq (cK S3.2.2.1) 2 then (letv (ca S3 S3.2.2.2 13 (S3.1 S3.2.2.1 13)) fun S7 => bif Nat.beq (cK S7.2.2.2) 2 then (bif Nat.beq (cK S7.2.2.1) 2 then (letv (ca S7 S7.2.2.2 14 (S7.1 S7.2.2.1 14)) fun S10 => bif Nat.beq (cK S10.2.2.1) 2 then (bif Nat.beq (cK S10.2.2.2) 2 then (letv (cs S10 S10.2.2.2 S10.2.2.2) fun S13 => letv (cs S13 S13.2.2.1 S10.2.2.1) fun S14 => (fc_X1_forget (b + 99) S14).bind fun q15 => bif Nat.beq (cK q15.2.2.1) 2 then (some (q15.1 q15.2.2.1 9, q15)) else none) else none) else none) else none) else none) else none) else none) else (some ((-2) - (S3.1 (b + 1) 7), S3))) else none
theorem xc_X11_island {l : Launch} {b : Nat} {S : cT} {q : Int32 × cT} (hb : cK b = 9) (hf : fc_X11_island b S = some q) : COk l yy_X11_island 12 [.ref b] S (some (.int q.1)) q.2 := by
  refine COk.of (ls := [some (.ref b), none]) (by decide +kernel) (Nat.le_of_ble_eq_true rfl) rfl ?_
  unfold fc_X11_island at hf
  refine CW.run (blk := [(.aload_n 0, 0)]) (pc' := 1) (ls' := [some (.ref b), none]) (st' := [.ref b]) (by decide +kernel) rfl ?_
  refine CW.getf (v := .ref (b + 1)) hb (by decide) fl_RX11_10 (by decide +kernel) rfl ?_
  refine CW.run (blk := [(.aload_n 0, 0)]) (pc' := 5) (ls' := [some (.ref b), none]) (st' := [.ref b, .ref (b + 1)]) (by decide +kernel) rfl ?_
  refine CW.getf (v := .ref S.2.2.2) hb (by decide) fl_RX11_70 (by decide +kernel) rfl ?_
  obtain ⟨hk1, hf⟩ := bi_some hf
  obtain ⟨q2, hq2, hf⟩ := bd_some hf
  refine CW.callS (As := [.ref (b + 1), .ref S.2.2.2]) (st := []) lt_RX11_81 (by decide +kernel) (xc_X3_readAll (kk_9_0 hb) (Nat.eq_of_beq_eq_true hk1) hq2) (by decide) (by decide) rfl (Nat.le_of_ble_eq_true rfl) rfl ?_
  show CW l yy_X11_island 12 _ _ 11 [some (.ref b), none] [] q2
  refine CW.run (blk := [(.aload_n 0, 0)]) (pc' := 12) (ls' := [some (.ref b), none]) (st' := [.ref b]) (by decide +kernel) rfl ?_
  refine CW.getf (v := .ref (b + 1)) hb (by decide) fl_RX11_10 (by decide +kernel) rfl ?_
  refine CW.run (blk := [(.iconst 0, 0)]) (pc' := 16) (ls' := [some (.ref b), none]) (st' := [.int 0, .ref (b + 1)]) (by decide +kernel) rfl ?_
  refine CW.putI (kk_9_0 hb) (by decide) fp_RX11_73 (by decide +kernel) (fun _ _ _ => Nat.le_of_ble_eq_true rfl) rfl rfl (fun _ _ _ => rfl) ?_
  obtain ⟨S3, hS3, hf⟩ := letv_some hf
  rw [← hS3]
  refine CW.run (blk := [(.aload_n 0, 0)]) (pc' := 20) (ls' := [some (.ref b), none]) (st' := [.ref b]) (by decide +kernel) rfl ?_
  refine CW.getf (v := .ref (b + 1)) hb (by decide) fl_RX11_10 (by decide +kernel) rfl ?_
  refine CW.getf (v := .int (S3.1 (b + 1) 7)) (kk_9_0 hb) (by decide) fl_RX11_87 (by decide +kernel) rfl ?_
  refine CW.if_eq (off := 14) (tgt := 40) (by decide +kernel) (by decide) (fun c26_4 => ?_) (fun c26_4 => ?_)
  · rw [if_pos c26_4] at hf
    refine CW.run (blk := [(.aload_n 0, 0)]) (pc' := 41) (ls' := [some (.ref b), none]) (st' := [.ref b]) (by decide +kernel) rfl ?_
    refine CW.getf (v := .ref S3.2.2.2) hb (by decide) fl_RX11_70 (by decide +kernel) rfl ?_
    obtain ⟨hk5, hf⟩ := bi_some hf
    refine CW.run (blk := [(.aload_n 0, 0)]) (pc' := 45) (ls' := [some (.ref b), none]) (st' := [.ref b, .ref S3.2.2.2]) (by decide +kernel) rfl ?_
    refine CW.getf (v := .ref S3.2.2.1) hb (by decide) fl_RX11_66 (by decide +kernel) rfl ?_
    obtain ⟨hk6, hf⟩ := bi_some hf
    refine CW.getf (v := .int (S3.1 S3.2.2.1 13)) (Nat.eq_of_beq_eq_true hk6) (by decide) fl_RX11_90 (by decide +kernel) rfl ?_
    refine CW.putI (Nat.eq_of_beq_eq_true hk5) (by decide) fp_RX11_90 (by decide +kernel) (fun _ _ _ => Nat.le_of_ble_eq_true rfl) rfl rfl (fun _ _ _ => rfl) ?_
    obtain ⟨S7, hS7, hf⟩ := letv_some hf
    rw [← hS7]
    refine CW.run (blk := [(.aload_n 0, 0)]) (pc' := 55) (ls' := [some (.ref b), none]) (st' := [.ref b]) (by decide +kernel) rfl ?_
    refine CW.getf (v := .ref S7.2.2.2) hb (by decide) fl_RX11_70 (by decide +kernel) rfl ?_
    obtain ⟨hk8, hf⟩ := bi_some hf
    refine CW.run (blk := [(.aload_n 0, 0)]) (pc' := 59) (ls' := [some (.ref b), none]) (st' := [.ref b, .ref S7.2.2.2]) (by decide +kernel) rfl ?_
    refine CW.getf (v := .ref S7.2.2.1) hb (by decide) fl_RX11_66 (by decide +kernel) rfl ?_
    obtain ⟨hk9, hf⟩ := bi_some hf
    refine CW.getf (v := .int (S7.1 S7.2.2.1 14)) (Nat.eq_of_beq_eq_true hk9) (by decide) fl_RX11_93 (by decide +kernel) rfl ?_
    refine CW.putI (Nat.eq_of_beq_eq_true hk8) (by decide) fp_RX11_93 (by decide +kernel) (fun _ _ _ => Nat.le_of_ble_eq_true rfl) rfl rfl (fun _ _ _ => rfl) ?_
    obtain ⟨S10, hS10, hf⟩ := letv_some hf
    rw [← hS10]
    refine CW.run (blk := [(.aload_n 0, 0)]) (pc' := 69) (ls' := [some (.ref b), none]) (st' := [.ref b]) (by decide +kernel) rfl ?_
    refine CW.getf (v := .ref S10.2.2.1) hb (by decide) fl_RX11_66 (by decide +kernel) rfl ?_
    obtain ⟨hk11, hf⟩ := bi_some hf
    refine CW.run (blk := [(.astore_n 1, 0), (.aload_n 0, 0), (.aload_n 0, 0)]) (pc' := 75) (ls' := [some (.ref b), some (.ref S10.2.2.1)]) (st' := [.ref b, .ref b]) (by decide +kernel) rfl ?_
    refine CW.getf (v := .ref S10.2.2.2) hb (by decide) fl_RX11_70 (by decide +kernel) rfl ?_
    obtain ⟨hk12, hf⟩ := bi_some hf
    refine CW.putIsle hb fp_RX11_66 (by decide +kernel) (fun _ => rfl) (fun _ => rfl) ?_
    obtain ⟨S13, hS13, hf⟩ := letv_some hf
    rw [← hS13]
    refine CW.run (blk := [(.aload_n 0, 0), (.aload_n 1, 0)]) (pc' := 83) (ls' := [some (.ref b), some (.ref S10.2.2.1)]) (st' := [.ref S10.2.2.1, .ref b]) (by decide +kernel) rfl ?_
    refine CW.putSpare hb fp_RX11_70 (by decide +kernel) (fun _ => rfl) (fun _ => rfl) ?_
    obtain ⟨S14, hS14, hf⟩ := letv_some hf
    rw [← hS14]
    refine CW.run (blk := [(.aload_n 0, 0)]) (pc' := 87) (ls' := [some (.ref b), some (.ref S10.2.2.1)]) (st' := [.ref b]) (by decide +kernel) rfl ?_
    refine CW.getf (v := .ref (b + 99)) hb (by decide) fl_RX11_41 (by decide +kernel) rfl ?_
    obtain ⟨q15, hq15, hf⟩ := bd_some hf
    refine CW.callV (As := []) (st := []) lv_RX11_96 (kk_9_5 hb) (by decide) rfl rfl (by decide +kernel) (xc_X1_forget (kk_9_5 hb) hq15) (by decide) (by decide) rfl (Nat.le_of_ble_eq_true rfl) rfl ?_
    show CW l yy_X11_island 12 _ _ 93 [some (.ref b), some (.ref S10.2.2.1)] [] q15
    refine CW.run (blk := [(.aload_n 0, 0)]) (pc' := 94) (ls' := [some (.ref b), some (.ref S10.2.2.1)]) (st' := [.ref b]) (by decide +kernel) rfl ?_
    refine CW.getf (v := .ref q15.2.2.1) hb (by decide) fl_RX11_66 (by decide +kernel) rfl ?_
    obtain ⟨hk16, hf⟩ := bi_some hf
    refine CW.getf (v := .int (q15.1 q15.2.2.1 9)) (Nat.eq_of_beq_eq_true hk16) (by decide) fl_RX11_99 (by decide +kernel) rfl ?_
    have e9 := Option.some.inj hf
    subst e9
    exact CW.iret rfl (by decide +kernel)
  · rw [if_neg c26_4] at hf
    refine CW.run (blk := [(.bipush (-2), (-2)), (.aload_n 0, 0)]) (pc' := 32) (ls' := [some (.ref b), none]) (st' := [.ref b, .int (-2)]) (by decide +kernel) rfl ?_
    refine CW.getf (v := .ref (b + 1)) hb (by decide) fl_RX11_10 (by decide +kernel) rfl ?_
    refine CW.getf (v := .int (S3.1 (b + 1) 7)) (kk_9_0 hb) (by decide) fl_RX11_87 (by decide +kernel) rfl ?_
    refine CW.run (blk := [(.isub, 0)]) (pc' := 39) (ls' := [some (.ref b), none]) (st' := [.int ((-2) - (S3.1 (b + 1) 7))]) (by decide +kernel) rfl ?_
    have e9 := Option.some.inj hf
    subst e9
    exact CW.iret rfl (by decide +kernel)
def fc_X11_rule (b : Nat) (S : cT) : Option (Int32 × cT) := if (S.1 b 11) < 0 then (some ((-1), S)) else (if (S.1 b 11) < 6 then (bif inb (S.1 b 11) 6 then ((fc_X8_readAll (b + 1) (7 + 6 * ((S.1 b 11) : Int32).toNatClampNeg) S).bind fun q4 => letv (ca q4 (b + 1) 4 0) fun S5 => if (S5.1 (b + 1) 7) = 0 then (letv (ca S5 b 11 ((S5.1 b 11) + 1)) fun S7 => some ((S7.1 b 11) - 1, S7)) else (some ((-2) - (S5.1 (b + 1) 7), S5))) else none) else (some ((-1), S)))
theorem xc_X11_rule {l : Launch} {b : Nat} {S : cT} {q : Int32 × cT} (hb : cK b = 9) (hf : fc_X11_rule b S = some q) : COk l yy_X11_rule 45 [.ref b] S (some (.int q.1)) q.2 := by
  refine COk.of (ls := [some (.ref b)]) (by decide +kernel) (Nat.le_of_ble_eq_true rfl) rfl ?_
  unfold fc_X11_rule at hf
  refine CW.run (blk := [(.aload_n 0, 0)]) (pc' := 1) (ls' := [some (.ref b)]) (st' := [.ref b]) (by decide +kernel) rfl ?_
  refine CW.getf (v := .int (S.1 b 11)) hb (by decide) fl_RX11_102 (by decide +kernel) rfl ?_
  refine CW.if_lt (off := 12) (tgt := 16) (by decide +kernel) (by decide) (fun c4_1 => ?_) (fun c4_1 => ?_)
  · rw [if_pos c4_1] at hf
    refine CW.run (blk := [(.iconst (-1), (-1))]) (pc' := 17) (ls' := [some (.ref b)]) (st' := [.int (-1)]) (by decide +kernel) rfl ?_
    have e9 := Option.some.inj hf
    subst e9
    exact CW.iret rfl (by decide +kernel)
  · rw [if_neg c4_1] at hf
    refine CW.run (blk := [(.aload_n 0, 0)]) (pc' := 8) (ls' := [some (.ref b)]) (st' := [.ref b]) (by decide +kernel) rfl ?_
    refine CW.getf (v := .int (S.1 b 11)) hb (by decide) fl_RX11_102 (by decide +kernel) rfl ?_
    refine CW.run (blk := [(.bipush 6, 6)]) (pc' := 13) (ls' := [some (.ref b)]) (st' := [.int 6, .int (S.1 b 11)]) (by decide +kernel) rfl ?_
    refine CW.icmp_lt (off := 5) (tgt := 18) (by decide +kernel) (by decide) (fun c13_2 => ?_) (fun c13_2 => ?_)
    · rw [if_pos c13_2] at hf
      refine CW.run (blk := [(.aload_n 0, 0)]) (pc' := 19) (ls' := [some (.ref b)]) (st' := [.ref b]) (by decide +kernel) rfl ?_
      refine CW.getf (v := .ref (b + 1)) hb (by decide) fl_RX11_10 (by decide +kernel) rfl ?_
      refine CW.run (blk := [(.aload_n 0, 0)]) (pc' := 23) (ls' := [some (.ref b)]) (st' := [.ref b, .ref (b + 1)]) (by decide +kernel) rfl ?_
      refine CW.getf (v := .ref (b + 6)) hb (by decide) fl_RX11_18 (by decide +kernel) rfl ?_
      refine CW.run (blk := [(.aload_n 0, 0)]) (pc' := 27) (ls' := [some (.ref b)]) (st' := [.ref b, .ref (b + 6), .ref (b + 1)]) (by decide +kernel) rfl ?_
      refine CW.getf (v := .int (S.1 b 11)) hb (by decide) fl_RX11_102 (by decide +kernel) rfl ?_
      obtain ⟨hi3, hf⟩ := bi_some hf
      refine CW.aald24 (kk_9_1 hb) (kn_9_1 hb) (by decide +kernel) (inb_in hi3) ?_
      obtain ⟨q4, hq4, hf⟩ := bd_some hf
      refine CW.callS (As := [.ref (b + 1), .ref (7 + 6 * ((S.1 b 11) : Int32).toNatClampNeg)]) (st := []) lt_RX11_105 (by decide +kernel) (xc_X8_readAll (kk_9_0 hb) (ke_24 _ (inb_lt hi3)) hq4) (by decide) (by decide) rfl (Nat.le_of_ble_eq_true rfl) rfl ?_
      show CW l yy_X11_rule 45 _ _ 34 [some (.ref b)] [] q4
      refine CW.run (blk := [(.aload_n 0, 0)]) (pc' := 35) (ls' := [some (.ref b)]) (st' := [.ref b]) (by decide +kernel) rfl ?_
      refine CW.getf (v := .ref (b + 1)) hb (by decide) fl_RX11_10 (by decide +kernel) rfl ?_
      refine CW.run (blk := [(.iconst 0, 0)]) (pc' := 39) (ls' := [some (.ref b)]) (st' := [.int 0, .ref (b + 1)]) (by decide +kernel) rfl ?_
      refine CW.putI (kk_9_0 hb) (by decide) fp_RX11_73 (by decide +kernel) (fun _ _ _ => Nat.le_of_ble_eq_true rfl) rfl rfl (fun _ _ _ => rfl) ?_
      obtain ⟨S5, hS5, hf⟩ := letv_some hf
      rw [← hS5]
      refine CW.run (blk := [(.aload_n 0, 0)]) (pc' := 43) (ls' := [some (.ref b)]) (st' := [.ref b]) (by decide +kernel) rfl ?_
      refine CW.getf (v := .ref (b + 1)) hb (by decide) fl_RX11_10 (by decide +kernel) rfl ?_
      refine CW.getf (v := .int (S5.1 (b + 1) 7)) (kk_9_0 hb) (by decide) fl_RX11_87 (by decide +kernel) rfl ?_
      refine CW.if_eq (off := 14) (tgt := 63) (by decide +kernel) (by decide) (fun c49_6 => ?_) (fun c49_6 => ?_)
      · rw [if_pos c49_6] at hf
        refine CW.run (blk := [(.aload_n 0, 0), (.dup, 0)]) (pc' := 65) (ls' := [some (.ref b)]) (st' := [.ref b, .ref b]) (by decide +kernel) rfl ?_
        refine CW.getf (v := .int (S5.1 b 11)) hb (by decide) fl_RX11_102 (by decide +kernel) rfl ?_
        refine CW.run (blk := [(.iconst 1, 1), (.iadd, 0)]) (pc' := 70) (ls' := [some (.ref b)]) (st' := [.int ((S5.1 b 11) + 1), .ref b]) (by decide +kernel) rfl ?_
        refine CW.putI hb (by decide) fp_RX11_102 (by decide +kernel) (fun _ _ _ => Nat.le_of_ble_eq_true rfl) rfl rfl (fun _ _ _ => rfl) ?_
        obtain ⟨S7, hS7, hf⟩ := letv_some hf
        rw [← hS7]
        refine CW.run (blk := [(.aload_n 0, 0)]) (pc' := 74) (ls' := [some (.ref b)]) (st' := [.ref b]) (by decide +kernel) rfl ?_
        refine CW.getf (v := .int (S7.1 b 11)) hb (by decide) fl_RX11_102 (by decide +kernel) rfl ?_
        refine CW.run (blk := [(.iconst 1, 1), (.isub, 0)]) (pc' := 79) (ls' := [some (.ref b)]) (st' := [.int ((S7.1 b 11) - 1)]) (by decide +kernel) rfl ?_
        have e9 := Option.some.inj hf
        subst e9
        exact CW.iret rfl (by decide +kernel)
      · rw [if_neg c49_6] at hf
        refine CW.run (blk := [(.bipush (-2), (-2)), (.aload_n 0, 0)]) (pc' := 55) (ls' := [some (.ref b)]) (st' := [.ref b, .int (-2)]) (by decide +kernel) rfl ?_
        refine CW.getf (v := .ref (b + 1)) hb (by decide) fl_RX11_10 (by decide +kernel) rfl ?_
        refine CW.getf (v := .int (S5.1 (b + 1) 7)) (kk_9_0 hb) (by decide) fl_RX11_87 (by decide +kernel) rfl ?_
        refine CW.run (blk := [(.isub, 0)]) (pc' := 62) (ls' := [some (.ref b)]) (st' := [.int ((-2) - (S5.1 (b + 1) 7))]) (by decide +kernel) rfl ?_
        have e9 := Option.some.inj hf
        subst e9
        exact CW.iret rfl (by decide +kernel)
    · rw [if_neg c13_2] at hf
      refine CW.run (blk := [(.iconst (-1), (-1))]) (pc' := 17) (ls' := [some (.ref b)]) (st' := [.int (-1)]) (by decide +kernel) rfl ?_
      have e9 := Option.some.inj hf
      subst e9
      exact CW.iret rfl (by decide +kernel)
