/-! ===== the reference, method by method (by program) 1 ===== -/
def fm_in (p0 : Int64) (p1 : Int64) (p2 : Int64) : Option (Bool) := if (lg_cmp p0 p1) < 0 then (some false) else (if 0 < (lg_cmp p0 p2) then (some false) else (some true))
theorem xm_in {l : Launch} {p0 : Int64} {p1 : Int64} {p2 : Int64} {q : Bool} (hf : fm_in p0 p1 p2 = some q) : POk l yy_X12_in 0 [.long p0, .long p1, .long p2] (some (.int (b2i q))) := by
  refine POk.of (ls := [some (.long p0), none, some (.long p1), none, some (.long p2), none]) (by decide +kernel) (Nat.le_of_ble_eq_true rfl) rfl ?_
  unfold fm_in at hf
  refine PW.run (blk := [(.lload_n 0, 0), (.lload_n 2, 0), (.lcmp, 0)]) (pc' := 3) (ls' := [some (.long p0), none, some (.long p1), none, some (.long p2), none]) (st' := [.int (lg_cmp p0 p1)]) (by decide +kernel) rfl ?_
  refine PW.if_lt (off := 14) (tgt := 17) (by decide +kernel) (by decide) (fun c3_1 => ?_) (fun c3_1 => ?_)
  · rw [if_pos c3_1] at hf
    refine PW.run (blk := [(.iconst 0, 0)]) (pc' := 18) (ls' := [some (.long p0), none, some (.long p1), none, some (.long p2), none]) (st' := [.int 0]) (by decide +kernel) rfl ?_
    have e9 := Option.some.inj hf
    subst e9
    exact PW.zret rfl (b2i_nar _) (by decide +kernel)
  · rw [if_neg c3_1] at hf
    refine PW.run (blk := [(.lload_n 0, 0), (.lload 4, 0), (.lcmp, 0)]) (pc' := 10) (ls' := [some (.long p0), none, some (.long p1), none, some (.long p2), none]) (st' := [.int (lg_cmp p0 p2)]) (by decide +kernel) rfl ?_
    refine PW.if_gt (off := 7) (tgt := 17) (by decide +kernel) (by decide) (fun c10_2 => ?_) (fun c10_2 => ?_)
    · rw [if_pos c10_2] at hf
      refine PW.run (blk := [(.iconst 0, 0)]) (pc' := 18) (ls' := [some (.long p0), none, some (.long p1), none, some (.long p2), none]) (st' := [.int 0]) (by decide +kernel) rfl ?_
      have e9 := Option.some.inj hf
      subst e9
      exact PW.zret rfl (b2i_nar _) (by decide +kernel)
    · rw [if_neg c10_2] at hf
      refine PW.run (blk := [(.iconst 1, 1), (.goto 4, 0)]) (pc' := 18) (ls' := [some (.long p0), none, some (.long p1), none, some (.long p2), none]) (st' := [.int 1]) (by decide +kernel) rfl ?_
      have e9 := Option.some.inj hf
      subst e9
      exact PW.zret rfl (b2i_nar _) (by decide +kernel)
def fm_isOf (p0 : Int32) (p1 : Int32) : Option (Bool) := if ((p0 >>> (p1 &&& 31)) &&& 1) = 1 then (some true) else (some false)
theorem xm_isOf {l : Launch} {p0 : Int32} {p1 : Int32} {q : Bool} (hf : fm_isOf p0 p1 = some q) : POk l yy_X12_isOf 0 [.int p0, .int p1] (some (.int (b2i q))) := by
  refine POk.of (ls := [some (.int p0), some (.int p1)]) (by decide +kernel) (Nat.le_of_ble_eq_true rfl) rfl ?_
  unfold fm_isOf at hf
  refine PW.run (blk := [(.iload_n 0, 0), (.iload_n 1, 0), (.ishr, 0), (.iconst 1, 1), (.iand, 0), (.iconst 1, 1)]) (pc' := 6) (ls' := [some (.int p0), some (.int p1)]) (st' := [.int 1, .int ((p0 >>> (p1 &&& 31)) &&& 1)]) (by decide +kernel) rfl ?_
  refine PW.icmp_ne (off := 7) (tgt := 13) (by decide +kernel) (by decide) (fun c6_1 => ?_) (fun c6_1 => ?_)
  · rw [if_neg c6_1] at hf
    refine PW.run (blk := [(.iconst 0, 0)]) (pc' := 14) (ls' := [some (.int p0), some (.int p1)]) (st' := [.int 0]) (by decide +kernel) rfl ?_
    have e9 := Option.some.inj hf
    subst e9
    exact PW.zret rfl (b2i_nar _) (by decide +kernel)
  · rw [if_pos c6_1] at hf
    refine PW.run (blk := [(.iconst 1, 1), (.goto 4, 0)]) (pc' := 14) (ls' := [some (.int p0), some (.int p1)]) (st' := [.int 1]) (by decide +kernel) rfl ?_
    have e9 := Option.some.inj hf
    subst e9
    exact PW.zret rfl (b2i_nar _) (by decide +kernel)
def fm_bits_L4 (k0 : Int32) : Nat → Int32 → Int32 → Option (Int32 × Int32)
  | 0, _, _ => none
  | N + 1, a1, a2 => if a2 = 0 then (some (a1, a2)) else (fm_bits_L4 k0 N (a1 + 1) (a2 &&& (a2 - 1)))
def fm_bits (p0 : Int32) : Option (Int32) := (fm_bits_L4 p0 FU 0 p0).bind fun w2 => some w2.1
theorem xm_bits_L4 {l : Launch} {r : Option Value} (k0 : Int32) : ∀ (N : Nat) (a1 : Int32) (a2 : Int32) (W0 : Int32 × Int32) (_ : fm_bits_L4 k0 N a1 a2 = some W0) (_ : PW l yy_X12_bits 0 r 20 [some (.int k0), some (.int W0.1), some (.int W0.2)] []), PW l yy_X12_bits 0 r 4 [some (.int k0), some (.int a1), some (.int a2)] [] := by
  intro N
  induction N with
  | zero =>
    intro a1 a2 W0 hf _
    cases hf
  | succ N ih =>
    intro a1 a2 W0 hf hk1
    unfold fm_bits_L4 at hf
    refine PW.run (blk := [(.iload_n 2, 0)]) (pc' := 5) (ls' := [some (.int k0), some (.int a1), some (.int a2)]) (st' := [.int a2]) (by decide +kernel) rfl ?_
    refine PW.if_eq (off := 15) (tgt := 20) (by decide +kernel) (by decide) (fun c5_1 => ?_) (fun c5_1 => ?_)
    · rw [if_pos c5_1] at hf
      have e9 := Option.some.inj hf
      subst e9
      exact hk1
    · rw [if_neg c5_1] at hf
      refine PW.run (blk := [(.iinc 1 1, 1), (.iload_n 2, 0), (.iload_n 2, 0), (.iconst 1, 1), (.isub, 0), (.iand, 0), (.istore_n 2, 0), (.goto (-13), 0)]) (pc' := 4) (ls' := [some (.int k0), some (.int (a1 + 1)), some (.int (a2 &&& (a2 - 1)))]) (st' := []) (by decide +kernel) rfl ?_
      exact ih _ _ _ hf hk1
theorem xm_bits {l : Launch} {p0 : Int32} {q : Int32} (hf : fm_bits p0 = some q) : POk l yy_X12_bits 0 [.int p0] (some (.int q)) := by
  refine POk.of (ls := [some (.int p0), none, none]) (by decide +kernel) (Nat.le_of_ble_eq_true rfl) rfl ?_
  unfold fm_bits at hf
  refine PW.run (blk := [(.iconst 0, 0), (.istore_n 1, 0), (.iload_n 0, 0), (.istore_n 2, 0)]) (pc' := 4) (ls' := [some (.int p0), some (.int 0), some (.int p0)]) (st' := []) (by decide +kernel) rfl ?_
  obtain ⟨w2, hw2, hf⟩ := bd_some hf
  refine xm_bits_L4 p0 FU _ _ _ hw2 ?_
  refine PW.run (blk := [(.iload_n 1, 0)]) (pc' := 21) (ls' := [some (.int p0), some (.int w2.1), some (.int w2.2)]) (st' := [.int w2.1]) (by decide +kernel) rfl ?_
  have e9 := Option.some.inj hf
  subst e9
  exact PW.iret rfl (by decide +kernel)
def fm_four_L3 (k1 : Int32) : Nat → Int32 → mT → Option (Int32 × mT)
  | 0, _, _ => none
  | N + 1, a2, T => if a2 < 0 then (some (a2, T)) else (bif inb (T.1 0 1) 400 then (letv (ma T 1 ((T.1 0 1) : Int32).toNatClampNeg (vp_nar .byte (((k1 >>> (a2 &&& 31)) : Int32).toInt8.toInt32))) fun T2 => letv (mz T2 1 ((T2.1 0 1) + 1)) fun T3 => fm_four_L3 k1 N (a2 + (-8)) T3) else none)
def fm_four (p0 : Int32) (T : mT) : Option (mT) := (fm_four_L3 p0 FU 24 T).bind fun w4 => some w4.2
theorem xm_four_L3 {l : Launch} {r : Option Value} {T' : mT} (k1 : Int32) : ∀ (N : Nat) (a2 : Int32) (T : mT) (W0 : Int32 × mT) (_ : fm_four_L3 k1 N a2 T = some W0) (_ : MW l yy_X12_four 0 r T' 36 [some (.ref 137), some (.int k1), some (.int W0.1)] [] W0.2), MW l yy_X12_four 0 r T' 3 [some (.ref 137), some (.int k1), some (.int a2)] [] T := by
  intro N
  induction N with
  | zero =>
    intro a2 T W0 hf _
    cases hf
  | succ N ih =>
    intro a2 T W0 hf hk1
    unfold fm_four_L3 at hf
    refine MW.run rfl [(.iload_n 2, 0)] (pc' := 4) (ls' := [some (.ref 137), some (.int k1), some (.int a2)]) (st' := [.int a2]) (T1 := T) (by decide +kernel) rfl ?_
    refine MW.if_lt (off := 32) (tgt := 36) (by decide +kernel) (by decide) (fun c4_1 => ?_) (fun c4_1 => ?_)
    · rw [if_pos c4_1] at hf
      have e9 := Option.some.inj hf
      subst e9
      exact hk1
    · rw [if_neg c4_1] at hf
      refine MW.run rfl [(.aload_n 0, 0), (.getfield 7, 0), (.aload_n 0, 0), (.getfield 72, 0), (.iload_n 1, 0), (.iload_n 2, 0), (.ishr, 0), (.i2b, 0)] (pc' := 19) (ls' := [some (.ref 137), some (.int k1), some (.int a2)]) (st' := [.int (((k1 >>> (a2 &&& 31)) : Int32).toInt8.toInt32), .int (T.1 0 1), .ref 138]) (T1 := T) (by decide +kernel) rfl ?_
      obtain ⟨hi_T2, hf⟩ := bi_some hf
      obtain ⟨T2, hT2, hf⟩ := letv_some hf
      refine MW.bast 1 400 rfl (by decide) (fun _ => rfl) (by decide +kernel) (inb_in hi_T2) ?_
      rw [← hT2]
      refine MW.run rfl [(.aload_n 0, 0), (.dup, 0), (.getfield 72, 0), (.iconst 1, 1), (.iadd, 0), (.putfield 72, 0)] (pc' := 30) (ls' := [some (.ref 137), some (.int k1), some (.int a2)]) (st' := []) (T1 := mz T2 1 ((T2.1 0 1) + 1)) (by decide +kernel) rfl ?_
      obtain ⟨T3, hT3, hf⟩ := letv_some hf
      rw [← hT3]
      refine MW.run rfl [(.iinc 2 (-8), (-8)), (.goto (-30), 0)] (pc' := 3) (ls' := [some (.ref 137), some (.int k1), some (.int (a2 + (-8)))]) (st' := []) (T1 := T3) (by decide +kernel) rfl ?_
      exact ih _ _ _ hf hk1
theorem xm_four {l : Launch} {p0 : Int32} {T : mT} {q : mT} (hf : fm_four p0 T = some q) : MOk l yy_X12_four 0 [.int p0] T none q := by
  refine MOk.of (ls := [some (.ref 137), some (.int p0), none]) (by decide +kernel) (Nat.le_of_ble_eq_true rfl) rfl ?_
  unfold fm_four at hf
  refine MW.run rfl [(.bipush 24, 24), (.istore_n 2, 0)] (pc' := 3) (ls' := [some (.ref 137), some (.int p0), some (.int 24)]) (st' := []) (T1 := T) (by decide +kernel) rfl ?_
  obtain ⟨w4, hw4, hf⟩ := bd_some hf
  refine xm_four_L3 p0 FU _ _ _ hw4 ?_
  have e9 := Option.some.inj hf
  subst e9
  exact MW.vret rfl (by decide +kernel)
def fm_feed (p0 : Int32) (p1 : Int32) (p2 : Int32) (p3 : Int32) (p4 : Int32) (T : mT) : Option (Int32 × mT) := if ((T.1 0 1) + 20) ≤ 400 then ((fm_four p0 T).bind fun q2 => (fm_four p1 q2).bind fun q3 => (fm_four p2 q3).bind fun q4 => (fm_four p3 q4).bind fun q5 => (fm_four p4 q5).bind fun q6 => some (q6.1 0 1, q6)) else (some ((-1), T))
theorem xm_feed {l : Launch} {p0 : Int32} {p1 : Int32} {p2 : Int32} {p3 : Int32} {p4 : Int32} {T : mT} {q : Int32 × mT} (hf : fm_feed p0 p1 p2 p3 p4 T = some q) : MOk l yy_X12_feed 1 [.int p0, .int p1, .int p2, .int p3, .int p4] T (some (.int q.1)) q.2 := by
  refine MOk.of (ls := [some (.ref 137), some (.int p0), some (.int p1), some (.int p2), some (.int p3), some (.int p4)]) (by decide +kernel) (Nat.le_of_ble_eq_true rfl) rfl ?_
  unfold fm_feed at hf
  refine MW.run rfl [(.aload_n 0, 0), (.getfield 72, 0), (.bipush 20, 20), (.iadd, 0), (.sipush 400, 400)] (pc' := 10) (ls' := [some (.ref 137), some (.int p0), some (.int p1), some (.int p2), some (.int p3), some (.int p4)]) (st' := [.int 400, .int ((T.1 0 1) + 20)]) (T1 := T) (by decide +kernel) rfl ?_
  refine MW.icmp_le (off := 5) (tgt := 15) (by decide +kernel) (by decide) (fun c10_1 => ?_) (fun c10_1 => ?_)
  · rw [if_pos c10_1] at hf
    refine MW.run rfl [(.aload_n 0, 0), (.iload_n 1, 0)] (pc' := 17) (ls' := [some (.ref 137), some (.int p0), some (.int p1), some (.int p2), some (.int p3), some (.int p4)]) (st' := [.int p0, .ref 137]) (T1 := T) (by decide +kernel) rfl ?_
    obtain ⟨q2, hq2, hf⟩ := bd_some hf
    refine MW.callV (As := [.int p0]) (st := []) lv_RX12_75 rfl (by decide +kernel) (xm_four hq2) (by decide) (by decide) rfl (Nat.le_of_ble_eq_true rfl) rfl ?_
    show MW l yy_X12_feed 1 _ _ 20 [some (.ref 137), some (.int p0), some (.int p1), some (.int p2), some (.int p3), some (.int p4)] [] q2
    refine MW.run rfl [(.aload_n 0, 0), (.iload_n 2, 0)] (pc' := 22) (ls' := [some (.ref 137), some (.int p0), some (.int p1), some (.int p2), some (.int p3), some (.int p4)]) (st' := [.int p1, .ref 137]) (T1 := q2) (by decide +kernel) rfl ?_
    obtain ⟨q3, hq3, hf⟩ := bd_some hf
    refine MW.callV (As := [.int p1]) (st := []) lv_RX12_75 rfl (by decide +kernel) (xm_four hq3) (by decide) (by decide) rfl (Nat.le_of_ble_eq_true rfl) rfl ?_
    show MW l yy_X12_feed 1 _ _ 25 [some (.ref 137), some (.int p0), some (.int p1), some (.int p2), some (.int p3), some (.int p4)] [] q3
    refine MW.run rfl [(.aload_n 0, 0), (.iload_n 3, 0)] (pc' := 27) (ls' := [some (.ref 137), some (.int p0), some (.int p1), some (.int p2), some (.int p3), some (.int p4)]) (st' := [.int p2, .ref 137]) (T1 := q3) (by decide +kernel) rfl ?_
    obtain ⟨q4, hq4, hf⟩ := bd_some hf
    refine MW.callV (As := [.int p2]) (st := []) lv_RX12_75 rfl (by decide +kernel) (xm_four hq4) (by decide) (by decide) rfl (Nat.le_of_ble_eq_true rfl) rfl ?_
    show MW l yy_X12_feed 1 _ _ 30 [some (.ref 137), some (.int p0), some (.int p1), some (.int p2), some (.int p3), some (.int p4)] [] q4
    refine MW.run rfl [(.aload_n 0, 0), (.iload 4, 0)] (pc' := 33) (ls' := [some (.ref 137), some (.int p0), some (.int p1), some (.int p2), some (.int p3), some (.int p4)]) (st' := [.int p3, .ref 137]) (T1 := q4) (by decide +kernel) rfl ?_
    obtain ⟨q5, hq5, hf⟩ := bd_some hf
    refine MW.callV (As := [.int p3]) (st := []) lv_RX12_75 rfl (by decide +kernel) (xm_four hq5) (by decide) (by decide) rfl (Nat.le_of_ble_eq_true rfl) rfl ?_
    show MW l yy_X12_feed 1 _ _ 36 [some (.ref 137), some (.int p0), some (.int p1), some (.int p2), some (.int p3), some (.int p4)] [] q5
    refine MW.run rfl [(.aload_n 0, 0), (.iload 5, 0)] (pc' := 39) (ls' := [some (.ref 137), some (.int p0), some (.int p1), some (.int p2), some (.int p3), some (.int p4)]) (st' := [.int p4, .ref 137]) (T1 := q5) (by decide +kernel) rfl ?_
    obtain ⟨q6, hq6, hf⟩ := bd_some hf
    refine MW.callV (As := [.int p4]) (st := []) lv_RX12_75 rfl (by decide +kernel) (xm_four hq6) (by decide) (by decide) rfl (Nat.le_of_ble_eq_true rfl) rfl ?_
    show MW l yy_X12_feed 1 _ _ 42 [some (.ref 137), some (.int p0), some (.int p1), some (.int p2), some (.int p3), some (.int p4)] [] q6
    refine MW.run rfl [(.aload_n 0, 0), (.getfield 72, 0)] (pc' := 46) (ls' := [some (.ref 137), some (.int p0), some (.int p1), some (.int p2), some (.int p3), some (.int p4)]) (st' := [.int (q6.1 0 1)]) (T1 := q6) (by decide +kernel) rfl ?_
    have e9 := Option.some.inj hf
    subst e9
    exact MW.iret rfl (by decide +kernel)
  · rw [if_neg c10_1] at hf
    refine MW.run rfl [(.iconst (-1), (-1))] (pc' := 14) (ls' := [some (.ref 137), some (.int p0), some (.int p1), some (.int p2), some (.int p3), some (.int p4)]) (st' := [.int (-1)]) (T1 := T) (by decide +kernel) rfl ?_
    have e9 := Option.some.inj hf
    subst e9
    exact MW.iret rfl (by decide +kernel)
def fm_end (p0 : Int32) (T : mT) : Option (Int32 × mT) := if p0 < 0 then (some ((-1), T)) else (if p0 ≤ (T.1 0 1) then (letv (mz T 1 p0) fun T3 => some (p0, T3)) else (some ((-1), T)))
theorem xm_end {l : Launch} {p0 : Int32} {T : mT} {q : Int32 × mT} (hf : fm_end p0 T = some q) : MOk l yy_X12_end 0 [.int p0] T (some (.int q.1)) q.2 := by
  refine MOk.of (ls := [some (.ref 137), some (.int p0)]) (by decide +kernel) (Nat.le_of_ble_eq_true rfl) rfl ?_
  unfold fm_end at hf
  refine MW.run rfl [(.iload_n 1, 0)] (pc' := 1) (ls' := [some (.ref 137), some (.int p0)]) (st' := [.int p0]) (T1 := T) (by decide +kernel) rfl ?_
  refine MW.if_lt (off := 11) (tgt := 12) (by decide +kernel) (by decide) (fun c1_1 => ?_) (fun c1_1 => ?_)
  · rw [if_pos c1_1] at hf
    refine MW.run rfl [(.iconst (-1), (-1))] (pc' := 13) (ls' := [some (.ref 137), some (.int p0)]) (st' := [.int (-1)]) (T1 := T) (by decide +kernel) rfl ?_
    have e9 := Option.some.inj hf
    subst e9
    exact MW.iret rfl (by decide +kernel)
  · rw [if_neg c1_1] at hf
    refine MW.run rfl [(.iload_n 1, 0), (.aload_n 0, 0), (.getfield 72, 0)] (pc' := 9) (ls' := [some (.ref 137), some (.int p0)]) (st' := [.int (T.1 0 1), .int p0]) (T1 := T) (by decide +kernel) rfl ?_
    refine MW.icmp_le (off := 5) (tgt := 14) (by decide +kernel) (by decide) (fun c9_2 => ?_) (fun c9_2 => ?_)
    · rw [if_pos c9_2] at hf
      refine MW.run rfl [(.aload_n 0, 0), (.iload_n 1, 0), (.putfield 72, 0)] (pc' := 19) (ls' := [some (.ref 137), some (.int p0)]) (st' := []) (T1 := mz T 1 p0) (by decide +kernel) rfl ?_
      obtain ⟨T3, hT3, hf⟩ := letv_some hf
      rw [← hT3]
      refine MW.run rfl [(.iload_n 1, 0)] (pc' := 20) (ls' := [some (.ref 137), some (.int p0)]) (st' := [.int p0]) (T1 := T3) (by decide +kernel) rfl ?_
      have e9 := Option.some.inj hf
      subst e9
      exact MW.iret rfl (by decide +kernel)
    · rw [if_neg c9_2] at hf
      refine MW.run rfl [(.iconst (-1), (-1))] (pc' := 13) (ls' := [some (.ref 137), some (.int p0)]) (st' := [.int (-1)]) (T1 := T) (by decide +kernel) rfl ?_
      have e9 := Option.some.inj hf
      subst e9
      exact MW.iret rfl (by decide +kernel)
def fm_fails (p0 : Int32) (p1 : Int32) (T : mT) : Option (Bool × mT) := if (T.1 0 9) = 0 then (letv (mz T 9 ((1 + (8 * p1)) + p0)) fun T2 => some (false, T2)) else (some (false, T))
theorem xm_fails {l : Launch} {p0 : Int32} {p1 : Int32} {T : mT} {q : Bool × mT} (hf : fm_fails p0 p1 T = some q) : MOk l yy_X12_fails 0 [.int p0, .int p1] T (some (.int (b2i q.1))) q.2 := by
  refine MOk.of (ls := [some (.ref 137), some (.int p0), some (.int p1)]) (by decide +kernel) (Nat.le_of_ble_eq_true rfl) rfl ?_
  unfold fm_fails at hf
  refine MW.run rfl [(.aload_n 0, 0), (.getfield 79, 0)] (pc' := 4) (ls' := [some (.ref 137), some (.int p0), some (.int p1)]) (st' := [.int (T.1 0 9)]) (T1 := T) (by decide +kernel) rfl ?_
  refine MW.if_ne (off := 15) (tgt := 19) (by decide +kernel) (by decide) (fun c4_1 => ?_) (fun c4_1 => ?_)
  · rw [if_neg c4_1] at hf
    refine MW.run rfl [(.iconst 0, 0)] (pc' := 20) (ls' := [some (.ref 137), some (.int p0), some (.int p1)]) (st' := [.int 0]) (T1 := T) (by decide +kernel) rfl ?_
    have e9 := Option.some.inj hf
    subst e9
    exact MW.zret rfl (b2i_nar _) (by decide +kernel)
  · rw [if_pos c4_1] at hf
    refine MW.run rfl [(.aload_n 0, 0), (.iconst 1, 1), (.bipush 8, 8), (.iload_n 2, 0), (.imul, 0), (.iadd, 0), (.iload_n 1, 0), (.iadd, 0), (.putfield 79, 0)] (pc' := 19) (ls' := [some (.ref 137), some (.int p0), some (.int p1)]) (st' := []) (T1 := mz T 9 ((1 + (8 * p1)) + p0)) (by decide +kernel) rfl ?_
    obtain ⟨T2, hT2, hf⟩ := letv_some hf
    rw [← hT2]
    refine MW.run rfl [(.iconst 0, 0)] (pc' := 20) (ls' := [some (.ref 137), some (.int p0), some (.int p1)]) (st' := [.int 0]) (T1 := T2) (by decide +kernel) rfl ?_
    have e9 := Option.some.inj hf
    subst e9
    exact MW.zret rfl (b2i_nar _) (by decide +kernel)
def fm_see_L0  : Nat → mT → Option (mT)
  | 0, _ => none
  | N + 1, T => if (T.1 0 1) ≤ (T.1 0 8) then (some (T)) else (bif inb (T.1 0 8) 400 then (letv (T.1 1 ((T.1 0 8) : Int32).toNatClampNeg) fun v2 => if v2 = 32 then (letv (mz T 8 ((T.1 0 8) + 1)) fun T4 => fm_see_L0  N  T4) else (some (T))) else none)
def fm_see  (T : mT) : Option (Int32 × mT) := (fm_see_L0 FU T).bind fun w5 => if (w5.1 0 1) ≤ (w5.1 0 8) then (some ((-1), w5)) else (bif inb (w5.1 0 8) 400 then (letv (w5.1 1 ((w5.1 0 8) : Int32).toNatClampNeg) fun v7 => some (v7 &&& 255, w5)) else none)
theorem xm_see_L0 {l : Launch} {r : Option Value} {T' : mT}  : ∀ (N : Nat) (T : mT) (W0 : mT) (_ : fm_see_L0  N  T = some W0) (_ : MW l yy_X12_see 0 r T' 38 [some (.ref 137)] [] W0), MW l yy_X12_see 0 r T' 0 [some (.ref 137)] [] T := by
  intro N
  induction N with
  | zero =>
    intro  T W0 hf _
    cases hf
  | succ N ih =>
    intro  T W0 hf hk1
    unfold fm_see_L0 at hf
    refine MW.run rfl [(.aload_n 0, 0), (.getfield 82, 0), (.aload_n 0, 0), (.getfield 72, 0)] (pc' := 8) (ls' := [some (.ref 137)]) (st' := [.int (T.1 0 1), .int (T.1 0 8)]) (T1 := T) (by decide +kernel) rfl ?_
    refine MW.icmp_ge (off := 30) (tgt := 38) (by decide +kernel) (by decide) (fun c8_1 => ?_) (fun c8_1 => ?_)
    · rw [if_pos c8_1] at hf
      have e9 := Option.some.inj hf
      subst e9
      exact hk1
    · rw [if_neg c8_1] at hf
      refine MW.run rfl [(.aload_n 0, 0), (.getfield 7, 0), (.aload_n 0, 0), (.getfield 82, 0)] (pc' := 19) (ls' := [some (.ref 137)]) (st' := [.int (T.1 0 8), .ref 138]) (T1 := T) (by decide +kernel) rfl ?_
      obtain ⟨hi_v2, hf⟩ := bi_some hf
      obtain ⟨v2, hv2, hf⟩ := letv_some hf
      refine MW.bald 1 400 rfl (by decide) rfl (by decide +kernel) (inb_in hi_v2) ?_
      rw [← hv2]
      refine MW.run rfl [(.bipush 32, 32)] (pc' := 22) (ls' := [some (.ref 137)]) (st' := [.int 32, .int v2]) (T1 := T) (by decide +kernel) rfl ?_
      refine MW.icmp_ne (off := 16) (tgt := 38) (by decide +kernel) (by decide) (fun c22_3 => ?_) (fun c22_3 => ?_)
      · rw [if_neg c22_3] at hf
        have e9 := Option.some.inj hf
        subst e9
        exact hk1
      · rw [if_pos c22_3] at hf
        refine MW.run rfl [(.aload_n 0, 0), (.dup, 0), (.getfield 82, 0), (.iconst 1, 1), (.iadd, 0), (.putfield 82, 0)] (pc' := 35) (ls' := [some (.ref 137)]) (st' := []) (T1 := mz T 8 ((T.1 0 8) + 1)) (by decide +kernel) rfl ?_
        obtain ⟨T4, hT4, hf⟩ := letv_some hf
        rw [← hT4]
        refine MW.run rfl [(.goto (-35), 0)] (pc' := 0) (ls' := [some (.ref 137)]) (st' := []) (T1 := T4) (by decide +kernel) rfl ?_
        exact ih _ _ hf hk1
theorem xm_see {l : Launch}  {T : mT} {q : Int32 × mT} (hf : fm_see  T = some q) : MOk l yy_X12_see 0 [] T (some (.int q.1)) q.2 := by
  refine MOk.of (ls := [some (.ref 137)]) (by decide +kernel) (Nat.le_of_ble_eq_true rfl) rfl ?_
  unfold fm_see at hf
  obtain ⟨w5, hw5, hf⟩ := bd_some hf
  refine xm_see_L0  FU _ _ hw5 ?_
  refine MW.run rfl [(.aload_n 0, 0), (.getfield 82, 0), (.aload_n 0, 0), (.getfield 72, 0)] (pc' := 46) (ls' := [some (.ref 137)]) (st' := [.int (w5.1 0 1), .int (w5.1 0 8)]) (T1 := w5) (by decide +kernel) rfl ?_
  refine MW.icmp_ge (off := 19) (tgt := 65) (by decide +kernel) (by decide) (fun c46_6 => ?_) (fun c46_6 => ?_)
  · rw [if_pos c46_6] at hf
    refine MW.run rfl [(.iconst (-1), (-1))] (pc' := 66) (ls' := [some (.ref 137)]) (st' := [.int (-1)]) (T1 := w5) (by decide +kernel) rfl ?_
    have e9 := Option.some.inj hf
    subst e9
    exact MW.iret rfl (by decide +kernel)
  · rw [if_neg c46_6] at hf
    refine MW.run rfl [(.aload_n 0, 0), (.getfield 7, 0), (.aload_n 0, 0), (.getfield 82, 0)] (pc' := 57) (ls' := [some (.ref 137)]) (st' := [.int (w5.1 0 8), .ref 138]) (T1 := w5) (by decide +kernel) rfl ?_
    obtain ⟨hi_v7, hf⟩ := bi_some hf
    obtain ⟨v7, hv7, hf⟩ := letv_some hf
    refine MW.bald 1 400 rfl (by decide) rfl (by decide +kernel) (inb_in hi_v7) ?_
    rw [← hv7]
    refine MW.run rfl [(.sipush 255, 255), (.iand, 0), (.goto 4, 0)] (pc' := 66) (ls' := [some (.ref 137)]) (st' := [.int (v7 &&& 255)]) (T1 := w5) (by decide +kernel) rfl ?_
    have e9 := Option.some.inj hf
    subst e9
    exact MW.iret rfl (by decide +kernel)
def fm_isDigit (p0 : Int32) (T : mT) : Option (Bool) := if (T.1 0 1) ≤ p0 then (some false) else (bif inb p0 400 then (letv (T.1 1 (p0 : Int32).toNatClampNeg) fun v2 => if v2 < 48 then (some false) else (bif inb p0 400 then (letv (T.1 1 (p0 : Int32).toNatClampNeg) fun v4 => if 57 < v4 then (some false) else (some true)) else none)) else none)
theorem xm_isDigit {l : Launch} {p0 : Int32} {T : mT} {q : Bool} (hf : fm_isDigit p0 T = some q) : MOk l yy_X12_isDigit 0 [.int p0] T (some (.int (b2i q))) T := by
  refine MOk.of (ls := [some (.ref 137), some (.int p0)]) (by decide +kernel) (Nat.le_of_ble_eq_true rfl) rfl ?_
  unfold fm_isDigit at hf
  refine MW.run rfl [(.iload_n 1, 0), (.aload_n 0, 0), (.getfield 72, 0)] (pc' := 5) (ls' := [some (.ref 137), some (.int p0)]) (st' := [.int (T.1 0 1), .int p0]) (T1 := T) (by decide +kernel) rfl ?_
  refine MW.icmp_ge (off := 29) (tgt := 34) (by decide +kernel) (by decide) (fun c5_1 => ?_) (fun c5_1 => ?_)
  · rw [if_pos c5_1] at hf
    refine MW.run rfl [(.iconst 0, 0)] (pc' := 35) (ls' := [some (.ref 137), some (.int p0)]) (st' := [.int 0]) (T1 := T) (by decide +kernel) rfl ?_
    have e9 := Option.some.inj hf
    subst e9
    exact MW.zret rfl (b2i_nar _) (by decide +kernel)
  · rw [if_neg c5_1] at hf
    refine MW.run rfl [(.aload_n 0, 0), (.getfield 7, 0), (.iload_n 1, 0)] (pc' := 13) (ls' := [some (.ref 137), some (.int p0)]) (st' := [.int p0, .ref 138]) (T1 := T) (by decide +kernel) rfl ?_
    obtain ⟨hi_v2, hf⟩ := bi_some hf
    obtain ⟨v2, hv2, hf⟩ := letv_some hf
    refine MW.bald 1 400 rfl (by decide) rfl (by decide +kernel) (inb_in hi_v2) ?_
    rw [← hv2]
    refine MW.run rfl [(.bipush 48, 48)] (pc' := 16) (ls' := [some (.ref 137), some (.int p0)]) (st' := [.int 48, .int v2]) (T1 := T) (by decide +kernel) rfl ?_
    refine MW.icmp_lt (off := 18) (tgt := 34) (by decide +kernel) (by decide) (fun c16_3 => ?_) (fun c16_3 => ?_)
    · rw [if_pos c16_3] at hf
      refine MW.run rfl [(.iconst 0, 0)] (pc' := 35) (ls' := [some (.ref 137), some (.int p0)]) (st' := [.int 0]) (T1 := T) (by decide +kernel) rfl ?_
      have e9 := Option.some.inj hf
      subst e9
      exact MW.zret rfl (b2i_nar _) (by decide +kernel)
    · rw [if_neg c16_3] at hf
      refine MW.run rfl [(.aload_n 0, 0), (.getfield 7, 0), (.iload_n 1, 0)] (pc' := 24) (ls' := [some (.ref 137), some (.int p0)]) (st' := [.int p0, .ref 138]) (T1 := T) (by decide +kernel) rfl ?_
      obtain ⟨hi_v4, hf⟩ := bi_some hf
      obtain ⟨v4, hv4, hf⟩ := letv_some hf
      refine MW.bald 1 400 rfl (by decide) rfl (by decide +kernel) (inb_in hi_v4) ?_
      rw [← hv4]
      refine MW.run rfl [(.bipush 57, 57)] (pc' := 27) (ls' := [some (.ref 137), some (.int p0)]) (st' := [.int 57, .int v4]) (T1 := T) (by decide +kernel) rfl ?_
      refine MW.icmp_gt (off := 7) (tgt := 34) (by decide +kernel) (by decide) (fun c27_5 => ?_) (fun c27_5 => ?_)
      · rw [if_pos c27_5] at hf
        refine MW.run rfl [(.iconst 0, 0)] (pc' := 35) (ls' := [some (.ref 137), some (.int p0)]) (st' := [.int 0]) (T1 := T) (by decide +kernel) rfl ?_
        have e9 := Option.some.inj hf
        subst e9
        exact MW.zret rfl (b2i_nar _) (by decide +kernel)
      · rw [if_neg c27_5] at hf
        refine MW.run rfl [(.iconst 1, 1), (.goto 4, 0)] (pc' := 35) (ls' := [some (.ref 137), some (.int p0)]) (st' := [.int 1]) (T1 := T) (by decide +kernel) rfl ?_
        have e9 := Option.some.inj hf
        subst e9
        exact MW.zret rfl (b2i_nar _) (by decide +kernel)
def fm_isLetter (p0 : Int32) (T : mT) : Option (Bool) := if (T.1 0 1) ≤ p0 then (some false) else (bif inb p0 400 then (letv (T.1 1 (p0 : Int32).toNatClampNeg) fun v2 => if v2 < 97 then (some false) else (bif inb p0 400 then (letv (T.1 1 (p0 : Int32).toNatClampNeg) fun v4 => if 122 < v4 then (some false) else (some true)) else none)) else none)
theorem xm_isLetter {l : Launch} {p0 : Int32} {T : mT} {q : Bool} (hf : fm_isLetter p0 T = some q) : MOk l yy_X12_isLetter 0 [.int p0] T (some (.int (b2i q))) T := by
  refine MOk.of (ls := [some (.ref 137), some (.int p0)]) (by decide +kernel) (Nat.le_of_ble_eq_true rfl) rfl ?_
  unfold fm_isLetter at hf
  refine MW.run rfl [(.iload_n 1, 0), (.aload_n 0, 0), (.getfield 72, 0)] (pc' := 5) (ls' := [some (.ref 137), some (.int p0)]) (st' := [.int (T.1 0 1), .int p0]) (T1 := T) (by decide +kernel) rfl ?_
  refine MW.icmp_ge (off := 29) (tgt := 34) (by decide +kernel) (by decide) (fun c5_1 => ?_) (fun c5_1 => ?_)
  · rw [if_pos c5_1] at hf
    refine MW.run rfl [(.iconst 0, 0)] (pc' := 35) (ls' := [some (.ref 137), some (.int p0)]) (st' := [.int 0]) (T1 := T) (by decide +kernel) rfl ?_
    have e9 := Option.some.inj hf
    subst e9
    exact MW.zret rfl (b2i_nar _) (by decide +kernel)
  · rw [if_neg c5_1] at hf
    refine MW.run rfl [(.aload_n 0, 0), (.getfield 7, 0), (.iload_n 1, 0)] (pc' := 13) (ls' := [some (.ref 137), some (.int p0)]) (st' := [.int p0, .ref 138]) (T1 := T) (by decide +kernel) rfl ?_
    obtain ⟨hi_v2, hf⟩ := bi_some hf
    obtain ⟨v2, hv2, hf⟩ := letv_some hf
    refine MW.bald 1 400 rfl (by decide) rfl (by decide +kernel) (inb_in hi_v2) ?_
    rw [← hv2]
    refine MW.run rfl [(.bipush 97, 97)] (pc' := 16) (ls' := [some (.ref 137), some (.int p0)]) (st' := [.int 97, .int v2]) (T1 := T) (by decide +kernel) rfl ?_
    refine MW.icmp_lt (off := 18) (tgt := 34) (by decide +kernel) (by decide) (fun c16_3 => ?_) (fun c16_3 => ?_)
    · rw [if_pos c16_3] at hf
      refine MW.run rfl [(.iconst 0, 0)] (pc' := 35) (ls' := [some (.ref 137), some (.int p0)]) (st' := [.int 0]) (T1 := T) (by decide +kernel) rfl ?_
      have e9 := Option.some.inj hf
      subst e9
      exact MW.zret rfl (b2i_nar _) (by decide +kernel)
    · rw [if_neg c16_3] at hf
      refine MW.run rfl [(.aload_n 0, 0), (.getfield 7, 0), (.iload_n 1, 0)] (pc' := 24) (ls' := [some (.ref 137), some (.int p0)]) (st' := [.int p0, .ref 138]) (T1 := T) (by decide +kernel) rfl ?_
      obtain ⟨hi_v4, hf⟩ := bi_some hf
      obtain ⟨v4, hv4, hf⟩ := letv_some hf
      refine MW.bald 1 400 rfl (by decide) rfl (by decide +kernel) (inb_in hi_v4) ?_
      rw [← hv4]
      refine MW.run rfl [(.bipush 122, 122)] (pc' := 27) (ls' := [some (.ref 137), some (.int p0)]) (st' := [.int 122, .int v4]) (T1 := T) (by decide +kernel) rfl ?_
      refine MW.icmp_gt (off := 7) (tgt := 34) (by decide +kernel) (by decide) (fun c27_5 => ?_) (fun c27_5 => ?_)
      · rw [if_pos c27_5] at hf
        refine MW.run rfl [(.iconst 0, 0)] (pc' := 35) (ls' := [some (.ref 137), some (.int p0)]) (st' := [.int 0]) (T1 := T) (by decide +kernel) rfl ?_
        have e9 := Option.some.inj hf
        subst e9
        exact MW.zret rfl (b2i_nar _) (by decide +kernel)
      · rw [if_neg c27_5] at hf
        refine MW.run rfl [(.iconst 1, 1), (.goto 4, 0)] (pc' := 35) (ls' := [some (.ref 137), some (.int p0)]) (st' := [.int 1]) (T1 := T) (by decide +kernel) rfl ?_
        have e9 := Option.some.inj hf
        subst e9
        exact MW.zret rfl (b2i_nar _) (by decide +kernel)
def fm_isWord_L10 (k1 : Int64) (T : mT) : Nat → Int64 → Int32 → Option (Int64 × Int32)
  | 0, _, _ => none
  | N + 1, a3, a5 => (fm_isLetter ((T.1 0 8) + a5) T).bind fun q2 => if (b2i q2) = 0 then (some (a3, a5)) else (if 8 ≤ a5 then (fm_isWord_L10 k1 T N a3 (a5 + 1)) else (bif inb ((T.1 0 8) + a5) 400 then (letv (T.1 1 (((T.1 0 8) + a5) : Int32).toNatClampNeg) fun v5 => fm_isWord_L10 k1 T N ((a3 <<< ((8 : Int32).toInt64 &&& 63)) ||| ((v5 : Int32).toInt64)) (a5 + 1)) else none))
def fm_isWord (p0 : Int64) (T : mT) : Option (Bool × mT) := (fm_see T).bind fun q1 => (fm_isWord_L10 p0 q1.2 FU 0 0).bind fun w6 => if w6.2 ≤ 0 then (some (false, q1.2)) else (if 8 ≤ w6.2 then (some (false, q1.2)) else (if (lg_cmp w6.1 p0) = 0 then (some (true, q1.2)) else (some (false, q1.2))))
theorem xm_isWord_L10 {l : Launch} {r : Option Value} {T' : mT} (k1 : Int64) (T : mT) : ∀ (N : Nat) (a3 : Int64) (a5 : Int32) (W0 : Int64 × Int32) (_ : fm_isWord_L10 k1 T N a3 a5 = some W0) (_ : MW l yy_X12_isWord 1 r T' 56 [some (.ref 137), some (.long k1), none, some (.long W0.1), none, some (.int W0.2)] [] T), MW l yy_X12_isWord 1 r T' 10 [some (.ref 137), some (.long k1), none, some (.long a3), none, some (.int a5)] [] T := by
  intro N
  induction N with
  | zero =>
    intro a3 a5 W0 hf _
    cases hf
  | succ N ih =>
    intro a3 a5 W0 hf hk1
    unfold fm_isWord_L10 at hf
    refine MW.run rfl [(.aload_n 0, 0), (.aload_n 0, 0), (.getfield 82, 0), (.iload 5, 0), (.iadd, 0)] (pc' := 18) (ls' := [some (.ref 137), some (.long k1), none, some (.long a3), none, some (.int a5)]) (st' := [.int ((T.1 0 8) + a5), .ref 137]) (T1 := T) (by decide +kernel) rfl ?_
    obtain ⟨q2, hq2, hf⟩ := bd_some hf
    refine MW.callV (As := [.int ((T.1 0 8) + a5)]) (st := []) lv_RX12_89 rfl (by decide +kernel) (xm_isLetter hq2) (by decide) (by decide) rfl (Nat.le_of_ble_eq_true rfl) rfl ?_
    show MW l yy_X12_isWord 1 _ _ 21 [some (.ref 137), some (.long k1), none, some (.long a3), none, some (.int a5)] [.int (b2i q2)] T
    refine MW.if_eq (off := 35) (tgt := 56) (by decide +kernel) (by decide) (fun c21_3 => ?_) (fun c21_3 => ?_)
    · rw [if_pos c21_3] at hf
      have e9 := Option.some.inj hf
      subst e9
      exact hk1
    · rw [if_neg c21_3] at hf
      refine MW.run rfl [(.iload 5, 0), (.bipush 8, 8)] (pc' := 28) (ls' := [some (.ref 137), some (.long k1), none, some (.long a3), none, some (.int a5)]) (st' := [.int 8, .int a5]) (T1 := T) (by decide +kernel) rfl ?_
      refine MW.icmp_ge (off := 22) (tgt := 50) (by decide +kernel) (by decide) (fun c28_4 => ?_) (fun c28_4 => ?_)
      · rw [if_pos c28_4] at hf
        refine MW.run rfl [(.iinc 5 1, 1), (.goto (-43), 0)] (pc' := 10) (ls' := [some (.ref 137), some (.long k1), none, some (.long a3), none, some (.int (a5 + 1))]) (st' := []) (T1 := T) (by decide +kernel) rfl ?_
        exact ih _ _ _ hf hk1
      · rw [if_neg c28_4] at hf
        refine MW.run rfl [(.lload_n 3, 0), (.bipush 8, 8), (.lshl, 0), (.aload_n 0, 0), (.getfield 7, 0), (.aload_n 0, 0), (.getfield 82, 0), (.iload 5, 0), (.iadd, 0)] (pc' := 46) (ls' := [some (.ref 137), some (.long k1), none, some (.long a3), none, some (.int a5)]) (st' := [.int ((T.1 0 8) + a5), .ref 138, .long (a3 <<< ((8 : Int32).toInt64 &&& 63))]) (T1 := T) (by decide +kernel) rfl ?_
        obtain ⟨hi_v5, hf⟩ := bi_some hf
        obtain ⟨v5, hv5, hf⟩ := letv_some hf
        refine MW.bald 1 400 rfl (by decide) rfl (by decide +kernel) (inb_in hi_v5) ?_
        rw [← hv5]
        refine MW.run rfl [(.i2l, 0), (.lor, 0), (.lstore_n 3, 0), (.iinc 5 1, 1), (.goto (-43), 0)] (pc' := 10) (ls' := [some (.ref 137), some (.long k1), none, some (.long ((a3 <<< ((8 : Int32).toInt64 &&& 63)) ||| ((v5 : Int32).toInt64))), none, some (.int (a5 + 1))]) (st' := []) (T1 := T) (by decide +kernel) rfl ?_
        exact ih _ _ _ hf hk1
theorem xm_isWord {l : Launch} {p0 : Int64} {T : mT} {q : Bool × mT} (hf : fm_isWord p0 T = some q) : MOk l yy_X12_isWord 1 [.long p0] T (some (.int (b2i q.1))) q.2 := by
  refine MOk.of (ls := [some (.ref 137), some (.long p0), none, none, none, none]) (by decide +kernel) (Nat.le_of_ble_eq_true rfl) rfl ?_
  unfold fm_isWord at hf
  refine MW.run rfl [(.aload_n 0, 0)] (pc' := 1) (ls' := [some (.ref 137), some (.long p0), none, none, none, none]) (st' := [.ref 137]) (T1 := T) (by decide +kernel) rfl ?_
  obtain ⟨q1, hq1, hf⟩ := bd_some hf
  refine MW.callV (As := []) (st := []) lv_RX12_85 rfl (by decide +kernel) (xm_see hq1) (by decide) (by decide) rfl (Nat.le_of_ble_eq_true rfl) rfl ?_
  show MW l yy_X12_isWord 1 _ _ 4 [some (.ref 137), some (.long p0), none, none, none, none] [.int q1.1] q1.2
  refine MW.run rfl [(.pop, 0), (.lconst 0, 0), (.lstore_n 3, 0), (.iconst 0, 0), (.istore 5, 0)] (pc' := 10) (ls' := [some (.ref 137), some (.long p0), none, some (.long 0), none, some (.int 0)]) (st' := []) (T1 := q1.2) (by decide +kernel) rfl ?_
  obtain ⟨w6, hw6, hf⟩ := bd_some hf
  refine xm_isWord_L10 p0 q1.2 FU _ _ _ hw6 ?_
  refine MW.run rfl [(.iload 5, 0)] (pc' := 58) (ls' := [some (.ref 137), some (.long p0), none, some (.long w6.1), none, some (.int w6.2)]) (st' := [.int w6.2]) (T1 := q1.2) (by decide +kernel) rfl ?_
  refine MW.if_le (off := 20) (tgt := 78) (by decide +kernel) (by decide) (fun c58_7 => ?_) (fun c58_7 => ?_)
  · rw [if_pos c58_7] at hf
    refine MW.run rfl [(.iconst 0, 0)] (pc' := 79) (ls' := [some (.ref 137), some (.long p0), none, some (.long w6.1), none, some (.int w6.2)]) (st' := [.int 0]) (T1 := q1.2) (by decide +kernel) rfl ?_
    have e9 := Option.some.inj hf
    subst e9
    exact MW.zret rfl (b2i_nar _) (by decide +kernel)
  · rw [if_neg c58_7] at hf
    refine MW.run rfl [(.iload 5, 0), (.bipush 8, 8)] (pc' := 65) (ls' := [some (.ref 137), some (.long p0), none, some (.long w6.1), none, some (.int w6.2)]) (st' := [.int 8, .int w6.2]) (T1 := q1.2) (by decide +kernel) rfl ?_
    refine MW.icmp_ge (off := 13) (tgt := 78) (by decide +kernel) (by decide) (fun c65_8 => ?_) (fun c65_8 => ?_)
    · rw [if_pos c65_8] at hf
      refine MW.run rfl [(.iconst 0, 0)] (pc' := 79) (ls' := [some (.ref 137), some (.long p0), none, some (.long w6.1), none, some (.int w6.2)]) (st' := [.int 0]) (T1 := q1.2) (by decide +kernel) rfl ?_
      have e9 := Option.some.inj hf
      subst e9
      exact MW.zret rfl (b2i_nar _) (by decide +kernel)
    · rw [if_neg c65_8] at hf
      refine MW.run rfl [(.lload_n 3, 0), (.lload_n 1, 0), (.lcmp, 0)] (pc' := 71) (ls' := [some (.ref 137), some (.long p0), none, some (.long w6.1), none, some (.int w6.2)]) (st' := [.int (lg_cmp w6.1 p0)]) (T1 := q1.2) (by decide +kernel) rfl ?_
      refine MW.if_ne (off := 7) (tgt := 78) (by decide +kernel) (by decide) (fun c71_9 => ?_) (fun c71_9 => ?_)
      · rw [if_neg c71_9] at hf
        refine MW.run rfl [(.iconst 0, 0)] (pc' := 79) (ls' := [some (.ref 137), some (.long p0), none, some (.long w6.1), none, some (.int w6.2)]) (st' := [.int 0]) (T1 := q1.2) (by decide +kernel) rfl ?_
        have e9 := Option.some.inj hf
        subst e9
        exact MW.zret rfl (b2i_nar _) (by decide +kernel)
      · rw [if_pos c71_9] at hf
        refine MW.run rfl [(.iconst 1, 1), (.goto 4, 0)] (pc' := 79) (ls' := [some (.ref 137), some (.long p0), none, some (.long w6.1), none, some (.int w6.2)]) (st' := [.int 1]) (T1 := q1.2) (by decide +kernel) rfl ?_
        have e9 := Option.some.inj hf
        subst e9
        exact MW.zret rfl (b2i_nar _) (by decide +kernel)
def fm_passWord_L0  : Nat → mT → Option (mT)
  | 0, _ => none
  | N + 1, T => (fm_isLetter (T.1 0 8) T).bind fun q1 => if (b2i q1) = 0 then (some (T)) else (letv (mz T 8 ((T.1 0 8) + 1)) fun T3 => fm_passWord_L0  N  T3)
def fm_passWord  (T : mT) : Option (mT) := (fm_passWord_L0 FU T).bind fun w4 => some w4
theorem xm_passWord_L0 {l : Launch} {r : Option Value} {T' : mT}  : ∀ (N : Nat) (T : mT) (W0 : mT) (_ : fm_passWord_L0  N  T = some W0) (_ : MW l yy_X12_passWord 1 r T' 24 [some (.ref 137)] [] W0), MW l yy_X12_passWord 1 r T' 0 [some (.ref 137)] [] T := by
  intro N
  induction N with
  | zero =>
    intro  T W0 hf _
    cases hf
  | succ N ih =>
    intro  T W0 hf hk1
    unfold fm_passWord_L0 at hf
    refine MW.run rfl [(.aload_n 0, 0), (.aload_n 0, 0), (.getfield 82, 0)] (pc' := 5) (ls' := [some (.ref 137)]) (st' := [.int (T.1 0 8), .ref 137]) (T1 := T) (by decide +kernel) rfl ?_
    obtain ⟨q1, hq1, hf⟩ := bd_some hf
    refine MW.callV (As := [.int (T.1 0 8)]) (st := []) lv_RX12_89 rfl (by decide +kernel) (xm_isLetter hq1) (by decide) (by decide) rfl (Nat.le_of_ble_eq_true rfl) rfl ?_
    show MW l yy_X12_passWord 1 _ _ 8 [some (.ref 137)] [.int (b2i q1)] T
    refine MW.if_eq (off := 16) (tgt := 24) (by decide +kernel) (by decide) (fun c8_2 => ?_) (fun c8_2 => ?_)
    · rw [if_pos c8_2] at hf
      have e9 := Option.some.inj hf
      subst e9
      exact hk1
    · rw [if_neg c8_2] at hf
      refine MW.run rfl [(.aload_n 0, 0), (.dup, 0), (.getfield 82, 0), (.iconst 1, 1), (.iadd, 0), (.putfield 82, 0)] (pc' := 21) (ls' := [some (.ref 137)]) (st' := []) (T1 := mz T 8 ((T.1 0 8) + 1)) (by decide +kernel) rfl ?_
      obtain ⟨T3, hT3, hf⟩ := letv_some hf
      rw [← hT3]
      refine MW.run rfl [(.goto (-21), 0)] (pc' := 0) (ls' := [some (.ref 137)]) (st' := []) (T1 := T3) (by decide +kernel) rfl ?_
      exact ih _ _ hf hk1
theorem xm_passWord {l : Launch}  {T : mT} {q : mT} (hf : fm_passWord  T = some q) : MOk l yy_X12_passWord 1 [] T none q := by
  refine MOk.of (ls := [some (.ref 137)]) (by decide +kernel) (Nat.le_of_ble_eq_true rfl) rfl ?_
  unfold fm_passWord at hf
  obtain ⟨w4, hw4, hf⟩ := bd_some hf
  refine xm_passWord_L0  FU _ _ hw4 ?_
  have e9 := Option.some.inj hf
  subst e9
  exact MW.vret rfl (by decide +kernel)
def fm_takesWord (p0 : Int64) (T : mT) : Option (Bool × mT) := (fm_isWord p0 T).bind fun q1 => if (b2i q1.1) = 0 then (some (false, q1.2)) else ((fm_passWord q1.2).bind fun q3 => some (true, q3))
theorem xm_takesWord {l : Launch} {p0 : Int64} {T : mT} {q : Bool × mT} (hf : fm_takesWord p0 T = some q) : MOk l yy_X12_takesWord 2 [.long p0] T (some (.int (b2i q.1))) q.2 := by
  refine MOk.of (ls := [some (.ref 137), some (.long p0), none]) (by decide +kernel) (Nat.le_of_ble_eq_true rfl) rfl ?_
  unfold fm_takesWord at hf
  refine MW.run rfl [(.aload_n 0, 0), (.lload_n 1, 0)] (pc' := 2) (ls' := [some (.ref 137), some (.long p0), none]) (st' := [.long p0, .ref 137]) (T1 := T) (by decide +kernel) rfl ?_
  obtain ⟨q1, hq1, hf⟩ := bd_some hf
  refine MW.callV (As := [.long p0]) (st := []) lv_RX12_93 rfl (by decide +kernel) (xm_isWord hq1) (by decide) (by decide) rfl (Nat.le_of_ble_eq_true rfl) rfl ?_
  show MW l yy_X12_takesWord 2 _ _ 5 [some (.ref 137), some (.long p0), none] [.int (b2i q1.1)] q1.2
  refine MW.if_ne (off := 5) (tgt := 10) (by decide +kernel) (by decide) (fun c5_2 => ?_) (fun c5_2 => ?_)
  · rw [if_neg c5_2] at hf
    refine MW.run rfl [(.aload_n 0, 0)] (pc' := 11) (ls' := [some (.ref 137), some (.long p0), none]) (st' := [.ref 137]) (T1 := q1.2) (by decide +kernel) rfl ?_
    obtain ⟨q3, hq3, hf⟩ := bd_some hf
    refine MW.callV (As := []) (st := []) lv_RX12_97 rfl (by decide +kernel) (xm_passWord hq3) (by decide) (by decide) rfl (Nat.le_of_ble_eq_true rfl) rfl ?_
    show MW l yy_X12_takesWord 2 _ _ 14 [some (.ref 137), some (.long p0), none] [] q3
    refine MW.run rfl [(.iconst 1, 1)] (pc' := 15) (ls' := [some (.ref 137), some (.long p0), none]) (st' := [.int 1]) (T1 := q3) (by decide +kernel) rfl ?_
    have e9 := Option.some.inj hf
    subst e9
    exact MW.zret rfl (b2i_nar _) (by decide +kernel)
  · rw [if_pos c5_2] at hf
    refine MW.run rfl [(.iconst 0, 0)] (pc' := 9) (ls' := [some (.ref 137), some (.long p0), none]) (st' := [.int 0]) (T1 := q1.2) (by decide +kernel) rfl ?_
    have e9 := Option.some.inj hf
    subst e9
    exact MW.zret rfl (b2i_nar _) (by decide +kernel)
def fm_numberHere_L34 (k1 : Int32) (k2 : Int32) (k3 : Int32) : Nat → Int32 → mT → Option (Int32 × mT)
  | 0, _, _ => none
  | N + 1, a4, T => (fm_isDigit (T.1 0 8) T).bind fun q4 => if (b2i q4) = 0 then (some (a4, T)) else (Option.bind (if 5 ≤ ((T.1 0 8) - k3) then (some (a4)) else (bif inb (T.1 0 8) 400 then (letv (T.1 1 ((T.1 0 8) : Int32).toNatClampNeg) fun v8 => some (((10 * a4) + v8) - 48)) else none) : Option (Int32)) fun w6 => letv (mz T 8 ((T.1 0 8) + 1)) fun T9 => fm_numberHere_L34 k1 k2 k3 N w6 T9)
def fm_numberHere (p0 : Int32) (p1 : Int32) (T : mT) : Option (Bool × mT) := (fm_see T).bind fun q1 => (fm_isDigit (q1.2.1 0 8) q1.2).bind fun q2 => if (b2i q2) = 0 then ((fm_fails 0 (q1.2.1 0 8) q1.2).bind fun q19 => some (q19.1, q19.2)) else ((fm_numberHere_L34 p0 p1 (q1.2.1 0 8) FU 0 q1.2).bind fun w10 => letv (mz w10.2 10 w10.1) fun T11 => if 5 < ((T11.1 0 8) - (q1.2.1 0 8)) then ((fm_fails 1 (q1.2.1 0 8) T11).bind fun q13 => if (b2i q13.1) = 0 then (some (false, q13.2)) else (some (true, q13.2))) else ((fm_in ((w10.1 : Int32).toInt64) ((p0 : Int32).toInt64) ((p1 : Int32).toInt64)).bind fun q15 => if (b2i q15) = 0 then ((fm_fails 1 (q1.2.1 0 8) T11).bind fun q17 => if (b2i q17.1) = 0 then (some (false, q17.2)) else (some (true, q17.2))) else (some (true, T11))))
theorem xm_numberHere_L34 {l : Launch} {r : Option Value} {T' : mT} (k1 : Int32) (k2 : Int32) (k3 : Int32) : ∀ (N : Nat) (a4 : Int32) (T : mT) (W0 : Int32 × mT) (_ : fm_numberHere_L34 k1 k2 k3 N a4 T = some W0) (_ : MW l yy_X12_numberHere 1 r T' 88 [some (.ref 137), some (.int k1), some (.int k2), some (.int k3), some (.int W0.1)] [] W0.2), MW l yy_X12_numberHere 1 r T' 34 [some (.ref 137), some (.int k1), some (.int k2), some (.int k3), some (.int a4)] [] T := by
  intro N
  induction N with
  | zero =>
    intro a4 T W0 hf _
    cases hf
  | succ N ih =>
    intro a4 T W0 hf hk1
    unfold fm_numberHere_L34 at hf
    refine MW.run rfl [(.aload_n 0, 0), (.aload_n 0, 0), (.getfield 82, 0)] (pc' := 39) (ls' := [some (.ref 137), some (.int k1), some (.int k2), some (.int k3), some (.int a4)]) (st' := [.int (T.1 0 8), .ref 137]) (T1 := T) (by decide +kernel) rfl ?_
    obtain ⟨q4, hq4, hf⟩ := bd_some hf
    refine MW.callV (As := [.int (T.1 0 8)]) (st := []) lv_RX12_100 rfl (by decide +kernel) (xm_isDigit hq4) (by decide) (by decide) rfl (Nat.le_of_ble_eq_true rfl) rfl ?_
    show MW l yy_X12_numberHere 1 _ _ 42 [some (.ref 137), some (.int k1), some (.int k2), some (.int k3), some (.int a4)] [.int (b2i q4)] T
    refine MW.if_eq (off := 46) (tgt := 88) (by decide +kernel) (by decide) (fun c42_5 => ?_) (fun c42_5 => ?_)
    · rw [if_pos c42_5] at hf
      have e9 := Option.some.inj hf
      subst e9
      exact hk1
    · rw [if_neg c42_5] at hf
      refine MW.run rfl [(.aload_n 0, 0), (.getfield 82, 0), (.iload_n 3, 0), (.isub, 0), (.iconst 5, 5)] (pc' := 52) (ls' := [some (.ref 137), some (.int k1), some (.int k2), some (.int k3), some (.int a4)]) (st' := [.int 5, .int ((T.1 0 8) - k3)]) (T1 := T) (by decide +kernel) rfl ?_
      obtain ⟨w6, hw6, hf⟩ := bd_some hf
      have hJ : MW l yy_X12_numberHere 1 r T' 75 [some (.ref 137), some (.int k1), some (.int k2), some (.int k3), some (.int w6)] [] T := by
        refine MW.run rfl [(.aload_n 0, 0), (.dup, 0), (.getfield 82, 0), (.iconst 1, 1), (.iadd, 0), (.putfield 82, 0)] (pc' := 85) (ls' := [some (.ref 137), some (.int k1), some (.int k2), some (.int k3), some (.int w6)]) (st' := []) (T1 := mz T 8 ((T.1 0 8) + 1)) (by decide +kernel) rfl ?_
        obtain ⟨T9, hT9, hf⟩ := letv_some hf
        rw [← hT9]
        refine MW.run rfl [(.goto (-51), 0)] (pc' := 34) (ls' := [some (.ref 137), some (.int k1), some (.int k2), some (.int k3), some (.int w6)]) (st' := []) (T1 := T9) (by decide +kernel) rfl ?_
        exact ih _ _ _ hf hk1
      clear hf
      refine MW.icmp_ge (off := 23) (tgt := 75) (by decide +kernel) (by decide) (fun c52_7 => ?_) (fun c52_7 => ?_)
      · rw [if_pos c52_7] at hw6
        have e9 := Option.some.inj hw6
        subst e9
        exact hJ
      · rw [if_neg c52_7] at hw6
        refine MW.run rfl [(.bipush 10, 10), (.iload 4, 0), (.imul, 0), (.aload_n 0, 0), (.getfield 7, 0), (.aload_n 0, 0), (.getfield 82, 0)] (pc' := 68) (ls' := [some (.ref 137), some (.int k1), some (.int k2), some (.int k3), some (.int a4)]) (st' := [.int (T.1 0 8), .ref 138, .int (10 * a4)]) (T1 := T) (by decide +kernel) rfl ?_
        obtain ⟨hi_v8, hw6⟩ := bi_some hw6
        obtain ⟨v8, hv8, hw6⟩ := letv_some hw6
        refine MW.bald 1 400 rfl (by decide) rfl (by decide +kernel) (inb_in hi_v8) ?_
        rw [← hv8]
        refine MW.run rfl [(.iadd, 0), (.bipush 48, 48), (.isub, 0), (.istore 4, 0)] (pc' := 75) (ls' := [some (.ref 137), some (.int k1), some (.int k2), some (.int k3), some (.int (((10 * a4) + v8) - 48))]) (st' := []) (T1 := T) (by decide +kernel) rfl ?_
        have e9 := Option.some.inj hw6
        subst e9
        exact hJ
theorem xm_numberHere {l : Launch} {p0 : Int32} {p1 : Int32} {T : mT} {q : Bool × mT} (hf : fm_numberHere p0 p1 T = some q) : MOk l yy_X12_numberHere 1 [.int p0, .int p1] T (some (.int (b2i q.1))) q.2 := by
  refine MOk.of (ls := [some (.ref 137), some (.int p0), some (.int p1), none, none]) (by decide +kernel) (Nat.le_of_ble_eq_true rfl) rfl ?_
  unfold fm_numberHere at hf
  refine MW.run rfl [(.aload_n 0, 0)] (pc' := 1) (ls' := [some (.ref 137), some (.int p0), some (.int p1), none, none]) (st' := [.ref 137]) (T1 := T) (by decide +kernel) rfl ?_
  obtain ⟨q1, hq1, hf⟩ := bd_some hf
  refine MW.callV (As := []) (st := []) lv_RX12_85 rfl (by decide +kernel) (xm_see hq1) (by decide) (by decide) rfl (Nat.le_of_ble_eq_true rfl) rfl ?_
  show MW l yy_X12_numberHere 1 _ _ 4 [some (.ref 137), some (.int p0), some (.int p1), none, none] [.int q1.1] q1.2
  refine MW.run rfl [(.pop, 0), (.aload_n 0, 0), (.aload_n 0, 0), (.getfield 82, 0)] (pc' := 10) (ls' := [some (.ref 137), some (.int p0), some (.int p1), none, none]) (st' := [.int (q1.2.1 0 8), .ref 137]) (T1 := q1.2) (by decide +kernel) rfl ?_
  obtain ⟨q2, hq2, hf⟩ := bd_some hf
  refine MW.callV (As := [.int (q1.2.1 0 8)]) (st := []) lv_RX12_100 rfl (by decide +kernel) (xm_isDigit hq2) (by decide) (by decide) rfl (Nat.le_of_ble_eq_true rfl) rfl ?_
  show MW l yy_X12_numberHere 1 _ _ 13 [some (.ref 137), some (.int p0), some (.int p1), none, none] [.int (b2i q2)] q1.2
  refine MW.if_ne (off := 13) (tgt := 26) (by decide +kernel) (by decide) (fun c13_3 => ?_) (fun c13_3 => ?_)
  · rw [if_neg c13_3] at hf
    refine MW.run rfl [(.aload_n 0, 0), (.getfield 82, 0), (.istore_n 3, 0), (.iconst 0, 0), (.istore 4, 0)] (pc' := 34) (ls' := [some (.ref 137), some (.int p0), some (.int p1), some (.int (q1.2.1 0 8)), some (.int 0)]) (st' := []) (T1 := q1.2) (by decide +kernel) rfl ?_
    obtain ⟨w10, hw10, hf⟩ := bd_some hf
    refine xm_numberHere_L34 p0 p1 (q1.2.1 0 8) FU _ _ _ hw10 ?_
    refine MW.run rfl [(.aload_n 0, 0), (.iload 4, 0), (.putfield 107, 0)] (pc' := 94) (ls' := [some (.ref 137), some (.int p0), some (.int p1), some (.int (q1.2.1 0 8)), some (.int w10.1)]) (st' := []) (T1 := mz w10.2 10 w10.1) (by decide +kernel) rfl ?_
    obtain ⟨T11, hT11, hf⟩ := letv_some hf
    rw [← hT11]
    refine MW.run rfl [(.aload_n 0, 0), (.getfield 82, 0), (.iload_n 3, 0), (.isub, 0), (.iconst 5, 5)] (pc' := 101) (ls' := [some (.ref 137), some (.int p0), some (.int p1), some (.int (q1.2.1 0 8)), some (.int w10.1)]) (st' := [.int 5, .int ((T11.1 0 8) - (q1.2.1 0 8))]) (T1 := T11) (by decide +kernel) rfl ?_
    refine MW.icmp_gt (off := 16) (tgt := 117) (by decide +kernel) (by decide) (fun c101_12 => ?_) (fun c101_12 => ?_)
    · rw [if_pos c101_12] at hf
      refine MW.run rfl [(.aload_n 0, 0), (.iconst 1, 1), (.iload_n 3, 0)] (pc' := 120) (ls' := [some (.ref 137), some (.int p0), some (.int p1), some (.int (q1.2.1 0 8)), some (.int w10.1)]) (st' := [.int (q1.2.1 0 8), .int 1, .ref 137]) (T1 := T11) (by decide +kernel) rfl ?_
      obtain ⟨q13, hq13, hf⟩ := bd_some hf
      refine MW.callV (As := [.int 1, .int (q1.2.1 0 8)]) (st := []) lv_RX12_103 rfl (by decide +kernel) (xm_fails hq13) (by decide) (by decide) rfl (Nat.le_of_ble_eq_true rfl) rfl ?_
      show MW l yy_X12_numberHere 1 _ _ 123 [some (.ref 137), some (.int p0), some (.int p1), some (.int (q1.2.1 0 8)), some (.int w10.1)] [.int (b2i q13.1)] q13.2
      refine MW.if_eq (off := 7) (tgt := 130) (by decide +kernel) (by decide) (fun c123_14 => ?_) (fun c123_14 => ?_)
      · rw [if_pos c123_14] at hf
        refine MW.run rfl [(.iconst 0, 0)] (pc' := 131) (ls' := [some (.ref 137), some (.int p0), some (.int p1), some (.int (q1.2.1 0 8)), some (.int w10.1)]) (st' := [.int 0]) (T1 := q13.2) (by decide +kernel) rfl ?_
        have e9 := Option.some.inj hf
        subst e9
        exact MW.zret rfl (b2i_nar _) (by decide +kernel)
      · rw [if_neg c123_14] at hf
        refine MW.run rfl [(.iconst 1, 1), (.goto 4, 0)] (pc' := 131) (ls' := [some (.ref 137), some (.int p0), some (.int p1), some (.int (q1.2.1 0 8)), some (.int w10.1)]) (st' := [.int 1]) (T1 := q13.2) (by decide +kernel) rfl ?_
        have e9 := Option.some.inj hf
        subst e9
        exact MW.zret rfl (b2i_nar _) (by decide +kernel)
    · rw [if_neg c101_12] at hf
      refine MW.run rfl [(.iload 4, 0), (.i2l, 0), (.iload_n 1, 0), (.i2l, 0), (.iload_n 2, 0), (.i2l, 0)] (pc' := 111) (ls' := [some (.ref 137), some (.int p0), some (.int p1), some (.int (q1.2.1 0 8)), some (.int w10.1)]) (st' := [.long ((p1 : Int32).toInt64), .long ((p0 : Int32).toInt64), .long ((w10.1 : Int32).toInt64)]) (T1 := T11) (by decide +kernel) rfl ?_
      obtain ⟨q15, hq15, hf⟩ := bd_some hf
      refine MW.callP (As := [.long ((w10.1 : Int32).toInt64), .long ((p0 : Int32).toInt64), .long ((p1 : Int32).toInt64)]) (st := []) lt_RX12_110 (by decide +kernel) (xm_in hq15) (by decide) (by decide) rfl (Nat.le_of_ble_eq_true rfl) rfl ?_
      show MW l yy_X12_numberHere 1 _ _ 114 [some (.ref 137), some (.int p0), some (.int p1), some (.int (q1.2.1 0 8)), some (.int w10.1)] [.int (b2i q15)] T11
      refine MW.if_ne (off := 12) (tgt := 126) (by decide +kernel) (by decide) (fun c114_16 => ?_) (fun c114_16 => ?_)
      · rw [if_neg c114_16] at hf
        refine MW.run rfl [(.iconst 1, 1), (.goto 4, 0)] (pc' := 131) (ls' := [some (.ref 137), some (.int p0), some (.int p1), some (.int (q1.2.1 0 8)), some (.int w10.1)]) (st' := [.int 1]) (T1 := T11) (by decide +kernel) rfl ?_
        have e9 := Option.some.inj hf
        subst e9
        exact MW.zret rfl (b2i_nar _) (by decide +kernel)
      · rw [if_pos c114_16] at hf
        refine MW.run rfl [(.aload_n 0, 0), (.iconst 1, 1), (.iload_n 3, 0)] (pc' := 120) (ls' := [some (.ref 137), some (.int p0), some (.int p1), some (.int (q1.2.1 0 8)), some (.int w10.1)]) (st' := [.int (q1.2.1 0 8), .int 1, .ref 137]) (T1 := T11) (by decide +kernel) rfl ?_
        obtain ⟨q17, hq17, hf⟩ := bd_some hf
        refine MW.callV (As := [.int 1, .int (q1.2.1 0 8)]) (st := []) lv_RX12_103 rfl (by decide +kernel) (xm_fails hq17) (by decide) (by decide) rfl (Nat.le_of_ble_eq_true rfl) rfl ?_
        show MW l yy_X12_numberHere 1 _ _ 123 [some (.ref 137), some (.int p0), some (.int p1), some (.int (q1.2.1 0 8)), some (.int w10.1)] [.int (b2i q17.1)] q17.2
        refine MW.if_eq (off := 7) (tgt := 130) (by decide +kernel) (by decide) (fun c123_18 => ?_) (fun c123_18 => ?_)
        · rw [if_pos c123_18] at hf
          refine MW.run rfl [(.iconst 0, 0)] (pc' := 131) (ls' := [some (.ref 137), some (.int p0), some (.int p1), some (.int (q1.2.1 0 8)), some (.int w10.1)]) (st' := [.int 0]) (T1 := q17.2) (by decide +kernel) rfl ?_
          have e9 := Option.some.inj hf
          subst e9
          exact MW.zret rfl (b2i_nar _) (by decide +kernel)
        · rw [if_neg c123_18] at hf
          refine MW.run rfl [(.iconst 1, 1), (.goto 4, 0)] (pc' := 131) (ls' := [some (.ref 137), some (.int p0), some (.int p1), some (.int (q1.2.1 0 8)), some (.int w10.1)]) (st' := [.int 1]) (T1 := q17.2) (by decide +kernel) rfl ?_
          have e9 := Option.some.inj hf
          subst e9
          exact MW.zret rfl (b2i_nar _) (by decide +kernel)
  · rw [if_pos c13_3] at hf
    refine MW.run rfl [(.aload_n 0, 0), (.iconst 0, 0), (.aload_n 0, 0), (.getfield 82, 0)] (pc' := 22) (ls' := [some (.ref 137), some (.int p0), some (.int p1), none, none]) (st' := [.int (q1.2.1 0 8), .int 0, .ref 137]) (T1 := q1.2) (by decide +kernel) rfl ?_
    obtain ⟨q19, hq19, hf⟩ := bd_some hf
    refine MW.callV (As := [.int 0, .int (q1.2.1 0 8)]) (st := []) lv_RX12_103 rfl (by decide +kernel) (xm_fails hq19) (by decide) (by decide) rfl (Nat.le_of_ble_eq_true rfl) rfl ?_
    show MW l yy_X12_numberHere 1 _ _ 25 [some (.ref 137), some (.int p0), some (.int p1), none, none] [.int (b2i q19.1)] q19.2
    have e9 := Option.some.inj hf
    subst e9
    exact MW.zret rfl (b2i_nar _) (by decide +kernel)
def fm_wordHere  (T : mT) : Option (Int32 × mT) := (fm_isWord 127978959562098 T).bind fun q1 => if (b2i q1.1) = 0 then ((fm_isWord 114784635872626 q1.2).bind fun q3 => if (b2i q3.1) = 0 then ((fm_isWord 28518 q3.2).bind fun q5 => if (b2i q5.1) = 0 then ((fm_isWord 1752135026 q5.2).bind fun q7 => if (b2i q7.1) = 0 then ((fm_isWord 1717658469 q7.2).bind fun q9 => if (b2i q9.1) = 0 then ((fm_isWord 7629157 q9.2).bind fun q11 => if (b2i q11.1) = 0 then ((fm_isWord 470021465444 q11.2).bind fun q13 => if (b2i q13.1) = 0 then ((fm_isWord 495874044019 q13.2).bind fun q15 => if (b2i q15.1) = 0 then (some ((-1), q15.2)) else (some (7, q15.2))) else (some (6, q13.2))) else (some (5, q11.2))) else (some (4, q9.2))) else (some (3, q7.2))) else (some (2, q5.2))) else (some (1, q3.2))) else (some (0, q1.2))
theorem xm_wordHere {l : Launch}  {T : mT} {q : Int32 × mT} (hf : fm_wordHere  T = some q) : MOk l yy_X12_wordHere 2 [] T (some (.int q.1)) q.2 := by
  refine MOk.of (ls := [some (.ref 137)]) (by decide +kernel) (Nat.le_of_ble_eq_true rfl) rfl ?_
  unfold fm_wordHere at hf
  refine MW.run rfl [(.aload_n 0, 0)] (pc' := 1) (ls' := [some (.ref 137)]) (st' := [.ref 137]) (T1 := T) (by decide +kernel) rfl ?_
  refine MW.ldc2 (idx := 114) (v := 127978959562098) (tb_in 1283 (by decide +kernel) (by decide +kernel)) (by decide +kernel) ?_
  obtain ⟨q1, hq1, hf⟩ := bd_some hf
  refine MW.callV (As := [.long 127978959562098]) (st := []) lv_RX12_93 rfl (by decide +kernel) (xm_isWord hq1) (by decide) (by decide) rfl (Nat.le_of_ble_eq_true rfl) rfl ?_
  show MW l yy_X12_wordHere 2 _ _ 7 [some (.ref 137)] [.int (b2i q1.1)] q1.2
  refine MW.if_eq (off := 5) (tgt := 12) (by decide +kernel) (by decide) (fun c7_2 => ?_) (fun c7_2 => ?_)
  · rw [if_pos c7_2] at hf
    refine MW.run rfl [(.aload_n 0, 0)] (pc' := 13) (ls' := [some (.ref 137)]) (st' := [.ref 137]) (T1 := q1.2) (by decide +kernel) rfl ?_
    refine MW.ldc2 (idx := 116) (v := 114784635872626) (tb_in 1284 (by decide +kernel) (by decide +kernel)) (by decide +kernel) ?_
    obtain ⟨q3, hq3, hf⟩ := bd_some hf
    refine MW.callV (As := [.long 114784635872626]) (st := []) lv_RX12_93 rfl (by decide +kernel) (xm_isWord hq3) (by decide) (by decide) rfl (Nat.le_of_ble_eq_true rfl) rfl ?_
    show MW l yy_X12_wordHere 2 _ _ 19 [some (.ref 137)] [.int (b2i q3.1)] q3.2
    refine MW.if_eq (off := 5) (tgt := 24) (by decide +kernel) (by decide) (fun c19_4 => ?_) (fun c19_4 => ?_)
    · rw [if_pos c19_4] at hf
      refine MW.run rfl [(.aload_n 0, 0)] (pc' := 25) (ls' := [some (.ref 137)]) (st' := [.ref 137]) (T1 := q3.2) (by decide +kernel) rfl ?_
      refine MW.ldc2 (idx := 118) (v := 28518) (tb_in 1285 (by decide +kernel) (by decide +kernel)) (by decide +kernel) ?_
      obtain ⟨q5, hq5, hf⟩ := bd_some hf
      refine MW.callV (As := [.long 28518]) (st := []) lv_RX12_93 rfl (by decide +kernel) (xm_isWord hq5) (by decide) (by decide) rfl (Nat.le_of_ble_eq_true rfl) rfl ?_
      show MW l yy_X12_wordHere 2 _ _ 31 [some (.ref 137)] [.int (b2i q5.1)] q5.2
      refine MW.if_eq (off := 5) (tgt := 36) (by decide +kernel) (by decide) (fun c31_6 => ?_) (fun c31_6 => ?_)
      · rw [if_pos c31_6] at hf
        refine MW.run rfl [(.aload_n 0, 0)] (pc' := 37) (ls' := [some (.ref 137)]) (st' := [.ref 137]) (T1 := q5.2) (by decide +kernel) rfl ?_
        refine MW.ldc2 (idx := 120) (v := 1752135026) (tb_in 1286 (by decide +kernel) (by decide +kernel)) (by decide +kernel) ?_
        obtain ⟨q7, hq7, hf⟩ := bd_some hf
        refine MW.callV (As := [.long 1752135026]) (st := []) lv_RX12_93 rfl (by decide +kernel) (xm_isWord hq7) (by decide) (by decide) rfl (Nat.le_of_ble_eq_true rfl) rfl ?_
        show MW l yy_X12_wordHere 2 _ _ 43 [some (.ref 137)] [.int (b2i q7.1)] q7.2
        refine MW.if_eq (off := 5) (tgt := 48) (by decide +kernel) (by decide) (fun c43_8 => ?_) (fun c43_8 => ?_)
        · rw [if_pos c43_8] at hf
          refine MW.run rfl [(.aload_n 0, 0)] (pc' := 49) (ls' := [some (.ref 137)]) (st' := [.ref 137]) (T1 := q7.2) (by decide +kernel) rfl ?_
          refine MW.ldc2 (idx := 122) (v := 1717658469) (tb_in 1287 (by decide +kernel) (by decide +kernel)) (by decide +kernel) ?_
          obtain ⟨q9, hq9, hf⟩ := bd_some hf
          refine MW.callV (As := [.long 1717658469]) (st := []) lv_RX12_93 rfl (by decide +kernel) (xm_isWord hq9) (by decide) (by decide) rfl (Nat.le_of_ble_eq_true rfl) rfl ?_
          show MW l yy_X12_wordHere 2 _ _ 55 [some (.ref 137)] [.int (b2i q9.1)] q9.2
          refine MW.if_eq (off := 5) (tgt := 60) (by decide +kernel) (by decide) (fun c55_10 => ?_) (fun c55_10 => ?_)
          · rw [if_pos c55_10] at hf
            refine MW.run rfl [(.aload_n 0, 0)] (pc' := 61) (ls' := [some (.ref 137)]) (st' := [.ref 137]) (T1 := q9.2) (by decide +kernel) rfl ?_
            refine MW.ldc2 (idx := 124) (v := 7629157) (tb_in 1198 (by decide +kernel) (by decide +kernel)) (by decide +kernel) ?_
            obtain ⟨q11, hq11, hf⟩ := bd_some hf
            refine MW.callV (As := [.long 7629157]) (st := []) lv_RX12_93 rfl (by decide +kernel) (xm_isWord hq11) (by decide) (by decide) rfl (Nat.le_of_ble_eq_true rfl) rfl ?_
            show MW l yy_X12_wordHere 2 _ _ 67 [some (.ref 137)] [.int (b2i q11.1)] q11.2
            refine MW.if_eq (off := 5) (tgt := 72) (by decide +kernel) (by decide) (fun c67_12 => ?_) (fun c67_12 => ?_)
            · rw [if_pos c67_12] at hf
              refine MW.run rfl [(.aload_n 0, 0)] (pc' := 73) (ls' := [some (.ref 137)]) (st' := [.ref 137]) (T1 := q11.2) (by decide +kernel) rfl ?_
              refine MW.ldc2 (idx := 126) (v := 470021465444) (tb_in 1288 (by decide +kernel) (by decide +kernel)) (by decide +kernel) ?_
              obtain ⟨q13, hq13, hf⟩ := bd_some hf
              refine MW.callV (As := [.long 470021465444]) (st := []) lv_RX12_93 rfl (by decide +kernel) (xm_isWord hq13) (by decide) (by decide) rfl (Nat.le_of_ble_eq_true rfl) rfl ?_
              show MW l yy_X12_wordHere 2 _ _ 79 [some (.ref 137)] [.int (b2i q13.1)] q13.2
              refine MW.if_eq (off := 8) (tgt := 87) (by decide +kernel) (by decide) (fun c79_14 => ?_) (fun c79_14 => ?_)
              · rw [if_pos c79_14] at hf
                refine MW.run rfl [(.aload_n 0, 0)] (pc' := 88) (ls' := [some (.ref 137)]) (st' := [.ref 137]) (T1 := q13.2) (by decide +kernel) rfl ?_
                refine MW.ldc2 (idx := 128) (v := 495874044019) (tb_in 1289 (by decide +kernel) (by decide +kernel)) (by decide +kernel) ?_
                obtain ⟨q15, hq15, hf⟩ := bd_some hf
                refine MW.callV (As := [.long 495874044019]) (st := []) lv_RX12_93 rfl (by decide +kernel) (xm_isWord hq15) (by decide) (by decide) rfl (Nat.le_of_ble_eq_true rfl) rfl ?_
                show MW l yy_X12_wordHere 2 _ _ 94 [some (.ref 137)] [.int (b2i q15.1)] q15.2
                refine MW.if_eq (off := 8) (tgt := 102) (by decide +kernel) (by decide) (fun c94_16 => ?_) (fun c94_16 => ?_)
                · rw [if_pos c94_16] at hf
                  refine MW.run rfl [(.iconst (-1), (-1))] (pc' := 103) (ls' := [some (.ref 137)]) (st' := [.int (-1)]) (T1 := q15.2) (by decide +kernel) rfl ?_
                  have e9 := Option.some.inj hf
                  subst e9
                  exact MW.iret rfl (by decide +kernel)
                · rw [if_neg c94_16] at hf
                  refine MW.run rfl [(.bipush 7, 7), (.goto 4, 0)] (pc' := 103) (ls' := [some (.ref 137)]) (st' := [.int 7]) (T1 := q15.2) (by decide +kernel) rfl ?_
                  have e9 := Option.some.inj hf
                  subst e9
                  exact MW.iret rfl (by decide +kernel)
              · rw [if_neg c79_14] at hf
                refine MW.run rfl [(.bipush 6, 6), (.goto 19, 0)] (pc' := 103) (ls' := [some (.ref 137)]) (st' := [.int 6]) (T1 := q13.2) (by decide +kernel) rfl ?_
                have e9 := Option.some.inj hf
                subst e9
                exact MW.iret rfl (by decide +kernel)
            · rw [if_neg c67_12] at hf
              refine MW.run rfl [(.iconst 5, 5)] (pc' := 71) (ls' := [some (.ref 137)]) (st' := [.int 5]) (T1 := q11.2) (by decide +kernel) rfl ?_
              have e9 := Option.some.inj hf
              subst e9
              exact MW.iret rfl (by decide +kernel)
          · rw [if_neg c55_10] at hf
            refine MW.run rfl [(.iconst 4, 4)] (pc' := 59) (ls' := [some (.ref 137)]) (st' := [.int 4]) (T1 := q9.2) (by decide +kernel) rfl ?_
            have e9 := Option.some.inj hf
            subst e9
            exact MW.iret rfl (by decide +kernel)
        · rw [if_neg c43_8] at hf
          refine MW.run rfl [(.iconst 3, 3)] (pc' := 47) (ls' := [some (.ref 137)]) (st' := [.int 3]) (T1 := q7.2) (by decide +kernel) rfl ?_
          have e9 := Option.some.inj hf
          subst e9
          exact MW.iret rfl (by decide +kernel)
      · rw [if_neg c31_6] at hf
        refine MW.run rfl [(.iconst 2, 2)] (pc' := 35) (ls' := [some (.ref 137)]) (st' := [.int 2]) (T1 := q5.2) (by decide +kernel) rfl ?_
        have e9 := Option.some.inj hf
        subst e9
        exact MW.iret rfl (by decide +kernel)
    · rw [if_neg c19_4] at hf
      refine MW.run rfl [(.iconst 1, 1)] (pc' := 23) (ls' := [some (.ref 137)]) (st' := [.int 1]) (T1 := q3.2) (by decide +kernel) rfl ?_
      have e9 := Option.some.inj hf
      subst e9
      exact MW.iret rfl (by decide +kernel)
  · rw [if_neg c7_2] at hf
    refine MW.run rfl [(.iconst 0, 0)] (pc' := 11) (ls' := [some (.ref 137)]) (st' := [.int 0]) (T1 := q1.2) (by decide +kernel) rfl ?_
    have e9 := Option.some.inj hf
    subst e9
    exact MW.iret rfl (by decide +kernel)
