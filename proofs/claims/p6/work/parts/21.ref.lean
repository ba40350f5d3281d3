/-! ===== the reference, method by method (by program) 2 ===== -/
def fm_puts (p0 : Int32) (p1 : Int32) (T : mT) : Option (mT) := bif inb (T.1 0 11) 7 then (letv (T.1 3 ((T.1 0 11) : Int32).toNatClampNeg) fun v1 => bif inb ((400 * (T.1 0 11)) + v1) 2400 then (letv (ma T 2 (((400 * (T.1 0 11)) + v1) : Int32).toNatClampNeg (p0 + (16 * p1))) fun T2 => bif inb (T2.1 0 11) 7 then (letv (T2.1 3 ((T2.1 0 11) : Int32).toNatClampNeg) fun v3 => bif inb (T2.1 0 11) 7 then (letv (ma T2 3 ((T2.1 0 11) : Int32).toNatClampNeg (v3 + 1)) fun T4 => some T4) else none) else none) else none) else none
theorem xm_puts {l : Launch} {p0 : Int32} {p1 : Int32} {T : mT} {q : mT} (hf : fm_puts p0 p1 T = some q) : MOk l yy_X12_puts 0 [.int p0, .int p1] T none q := by
  refine MOk.of (ls := [some (.ref 137), some (.int p0), some (.int p1)]) (by decide +kernel) (Nat.le_of_ble_eq_true rfl) rfl ?_
  unfold fm_puts at hf
  refine MW.run rfl [(.aload_n 0, 0), (.getfield 13, 0), (.sipush 400, 400), (.aload_n 0, 0), (.getfield 130, 0), (.imul, 0), (.aload_n 0, 0), (.getfield 17, 0), (.aload_n 0, 0), (.getfield 130, 0)] (pc' := 20) (ls' := [some (.ref 137), some (.int p0), some (.int p1)]) (st' := [.int (T.1 0 11), .ref 140, .int (400 * (T.1 0 11)), .ref 139]) (T1 := T) (by decide +kernel) rfl ?_
  obtain ⟨hi_v1, hf⟩ := bi_some hf
  obtain ⟨v1, hv1, hf⟩ := letv_some hf
  refine MW.iald 3 7 rfl (by decide) rfl (by decide +kernel) (inb_in hi_v1) ?_
  rw [← hv1]
  refine MW.run rfl [(.iadd, 0), (.iload_n 1, 0), (.bipush 16, 16), (.iload_n 2, 0), (.imul, 0), (.iadd, 0)] (pc' := 28) (ls' := [some (.ref 137), some (.int p0), some (.int p1)]) (st' := [.int (p0 + (16 * p1)), .int ((400 * (T.1 0 11)) + v1), .ref 139]) (T1 := T) (by decide +kernel) rfl ?_
  obtain ⟨hi_T2, hf⟩ := bi_some hf
  obtain ⟨T2, hT2, hf⟩ := letv_some hf
  refine MW.iast 2 2400 rfl (by decide) (fun _ => rfl) (by decide +kernel) (inb_in hi_T2) ?_
  rw [← hT2]
  refine MW.run rfl [(.aload_n 0, 0), (.getfield 17, 0), (.aload_n 0, 0), (.getfield 130, 0), (.dup2, 0)] (pc' := 38) (ls' := [some (.ref 137), some (.int p0), some (.int p1)]) (st' := [.int (T2.1 0 11), .ref 140, .int (T2.1 0 11), .ref 140]) (T1 := T2) (by decide +kernel) rfl ?_
  obtain ⟨hi_v3, hf⟩ := bi_some hf
  obtain ⟨v3, hv3, hf⟩ := letv_some hf
  refine MW.iald 3 7 rfl (by decide) rfl (by decide +kernel) (inb_in hi_v3) ?_
  rw [← hv3]
  refine MW.run rfl [(.iconst 1, 1), (.iadd, 0)] (pc' := 41) (ls' := [some (.ref 137), some (.int p0), some (.int p1)]) (st' := [.int (v3 + 1), .int (T2.1 0 11), .ref 140]) (T1 := T2) (by decide +kernel) rfl ?_
  obtain ⟨hi_T4, hf⟩ := bi_some hf
  obtain ⟨T4, hT4, hf⟩ := letv_some hf
  refine MW.iast 3 7 rfl (by decide) (fun _ => rfl) (by decide +kernel) (inb_in hi_T4) ?_
  rw [← hT4]
  have e9 := Option.some.inj hf
  subst e9
  exact MW.vret rfl (by decide +kernel)
def fm_makes (p0 : Int32) (T : mT) : Option (Bool × mT) := if (T.1 0 12) = 60 then ((fm_fails 3 p0 T).bind fun q3 => some (q3.1, q3.2)) else (letv (mz T 12 ((T.1 0 12) + 1)) fun T2 => some (true, T2))
theorem xm_makes {l : Launch} {p0 : Int32} {T : mT} {q : Bool × mT} (hf : fm_makes p0 T = some q) : MOk l yy_X12_makes 1 [.int p0] T (some (.int (b2i q.1))) q.2 := by
  refine MOk.of (ls := [some (.ref 137), some (.int p0)]) (by decide +kernel) (Nat.le_of_ble_eq_true rfl) rfl ?_
  unfold fm_makes at hf
  refine MW.run rfl [(.aload_n 0, 0), (.getfield 133, 0), (.bipush 60, 60)] (pc' := 6) (ls' := [some (.ref 137), some (.int p0)]) (st' := [.int 60, .int (T.1 0 12)]) (T1 := T) (by decide +kernel) rfl ?_
  refine MW.icmp_ne (off := 10) (tgt := 16) (by decide +kernel) (by decide) (fun c6_1 => ?_) (fun c6_1 => ?_)
  · rw [if_neg c6_1] at hf
    refine MW.run rfl [(.aload_n 0, 0), (.dup, 0), (.getfield 133, 0), (.iconst 1, 1), (.iadd, 0), (.putfield 133, 0)] (pc' := 26) (ls' := [some (.ref 137), some (.int p0)]) (st' := []) (T1 := mz T 12 ((T.1 0 12) + 1)) (by decide +kernel) rfl ?_
    obtain ⟨T2, hT2, hf⟩ := letv_some hf
    rw [← hT2]
    refine MW.run rfl [(.iconst 1, 1)] (pc' := 27) (ls' := [some (.ref 137), some (.int p0)]) (st' := [.int 1]) (T1 := T2) (by decide +kernel) rfl ?_
    have e9 := Option.some.inj hf
    subst e9
    exact MW.zret rfl (b2i_nar _) (by decide +kernel)
  · rw [if_pos c6_1] at hf
    refine MW.run rfl [(.aload_n 0, 0), (.iconst 3, 3), (.iload_n 1, 0)] (pc' := 12) (ls' := [some (.ref 137), some (.int p0)]) (st' := [.int p0, .int 3, .ref 137]) (T1 := T) (by decide +kernel) rfl ?_
    obtain ⟨q3, hq3, hf⟩ := bd_some hf
    refine MW.callV (As := [.int 3, .int p0]) (st := []) lv_RX12_103 rfl (by decide +kernel) (xm_fails hq3) (by decide) (by decide) rfl (Nat.le_of_ble_eq_true rfl) rfl ?_
    show MW l yy_X12_makes 1 _ _ 15 [some (.ref 137), some (.int p0)] [.int (b2i q3.1)] q3.2
    have e9 := Option.some.inj hf
    subst e9
    exact MW.zret rfl (b2i_nar _) (by decide +kernel)
def fm_opens (p0 : Int32) (T : mT) : Option (Bool × mT) := if (T.1 0 13) = 10 then ((fm_fails 2 (T.1 0 8) T).bind fun q5 => some (q5.1, q5.2)) else (letv (mz T 13 ((T.1 0 13) + 1)) fun T2 => bif inb (T2.1 0 16) 400 then (letv (ma T2 7 ((T2.1 0 16) : Int32).toNatClampNeg p0) fun T3 => letv (mz T3 16 ((T3.1 0 16) + 1)) fun T4 => some (true, T4)) else none)
theorem xm_opens {l : Launch} {p0 : Int32} {T : mT} {q : Bool × mT} (hf : fm_opens p0 T = some q) : MOk l yy_X12_opens 1 [.int p0] T (some (.int (b2i q.1))) q.2 := by
  refine MOk.of (ls := [some (.ref 137), some (.int p0)]) (by decide +kernel) (Nat.le_of_ble_eq_true rfl) rfl ?_
  unfold fm_opens at hf
  refine MW.run rfl [(.aload_n 0, 0), (.getfield 136, 0), (.bipush 10, 10)] (pc' := 6) (ls' := [some (.ref 137), some (.int p0)]) (st' := [.int 10, .int (T.1 0 13)]) (T1 := T) (by decide +kernel) rfl ?_
  refine MW.icmp_ne (off := 13) (tgt := 19) (by decide +kernel) (by decide) (fun c6_1 => ?_) (fun c6_1 => ?_)
  · rw [if_neg c6_1] at hf
    refine MW.run rfl [(.aload_n 0, 0), (.dup, 0), (.getfield 136, 0), (.iconst 1, 1), (.iadd, 0), (.putfield 136, 0)] (pc' := 29) (ls' := [some (.ref 137), some (.int p0)]) (st' := []) (T1 := mz T 13 ((T.1 0 13) + 1)) (by decide +kernel) rfl ?_
    obtain ⟨T2, hT2, hf⟩ := letv_some hf
    rw [← hT2]
    refine MW.run rfl [(.aload_n 0, 0), (.getfield 29, 0), (.aload_n 0, 0), (.getfield 139, 0), (.iload_n 1, 0)] (pc' := 38) (ls' := [some (.ref 137), some (.int p0)]) (st' := [.int p0, .int (T2.1 0 16), .ref 144]) (T1 := T2) (by decide +kernel) rfl ?_
    obtain ⟨hi_T3, hf⟩ := bi_some hf
    obtain ⟨T3, hT3, hf⟩ := letv_some hf
    refine MW.iast 7 400 rfl (by decide) (fun _ => rfl) (by decide +kernel) (inb_in hi_T3) ?_
    rw [← hT3]
    refine MW.run rfl [(.aload_n 0, 0), (.dup, 0), (.getfield 139, 0), (.iconst 1, 1), (.iadd, 0), (.putfield 139, 0)] (pc' := 49) (ls' := [some (.ref 137), some (.int p0)]) (st' := []) (T1 := mz T3 16 ((T3.1 0 16) + 1)) (by decide +kernel) rfl ?_
    obtain ⟨T4, hT4, hf⟩ := letv_some hf
    rw [← hT4]
    refine MW.run rfl [(.iconst 1, 1)] (pc' := 50) (ls' := [some (.ref 137), some (.int p0)]) (st' := [.int 1]) (T1 := T4) (by decide +kernel) rfl ?_
    have e9 := Option.some.inj hf
    subst e9
    exact MW.zret rfl (b2i_nar _) (by decide +kernel)
  · rw [if_pos c6_1] at hf
    refine MW.run rfl [(.aload_n 0, 0), (.iconst 2, 2), (.aload_n 0, 0), (.getfield 82, 0)] (pc' := 15) (ls' := [some (.ref 137), some (.int p0)]) (st' := [.int (T.1 0 8), .int 2, .ref 137]) (T1 := T) (by decide +kernel) rfl ?_
    obtain ⟨q5, hq5, hf⟩ := bd_some hf
    refine MW.callV (As := [.int 2, .int (T.1 0 8)]) (st := []) lv_RX12_103 rfl (by decide +kernel) (xm_fails hq5) (by decide) (by decide) rfl (Nat.le_of_ble_eq_true rfl) rfl ?_
    show MW l yy_X12_opens 1 _ _ 18 [some (.ref 137), some (.int p0)] [.int (b2i q5.1)] q5.2
    have e9 := Option.some.inj hf
    subst e9
    exact MW.zret rfl (b2i_nar _) (by decide +kernel)
def fm_strength (p0 : Int32) : Option (Int32) := if p0 = 13 then (some 1) else (if p0 = 12 then (some 2) else (if p0 = 11 then (some 3) else (some 0)))
theorem xm_strength {l : Launch} {p0 : Int32} {q : Int32} (hf : fm_strength p0 = some q) : POk l yy_X12_strength 0 [.int p0] (some (.int q)) := by
  refine POk.of (ls := [some (.int p0)]) (by decide +kernel) (Nat.le_of_ble_eq_true rfl) rfl ?_
  unfold fm_strength at hf
  refine PW.run (blk := [(.iload_n 0, 0), (.bipush 13, 13)]) (pc' := 3) (ls' := [some (.int p0)]) (st' := [.int 13, .int p0]) (by decide +kernel) rfl ?_
  refine PW.icmp_ne (off := 7) (tgt := 10) (by decide +kernel) (by decide) (fun c3_1 => ?_) (fun c3_1 => ?_)
  · rw [if_neg c3_1] at hf
    refine PW.run (blk := [(.iload_n 0, 0), (.bipush 12, 12)]) (pc' := 13) (ls' := [some (.int p0)]) (st' := [.int 12, .int p0]) (by decide +kernel) rfl ?_
    refine PW.icmp_ne (off := 7) (tgt := 20) (by decide +kernel) (by decide) (fun c13_2 => ?_) (fun c13_2 => ?_)
    · rw [if_neg c13_2] at hf
      refine PW.run (blk := [(.iload_n 0, 0), (.bipush 11, 11)]) (pc' := 23) (ls' := [some (.int p0)]) (st' := [.int 11, .int p0]) (by decide +kernel) rfl ?_
      refine PW.icmp_ne (off := 7) (tgt := 30) (by decide +kernel) (by decide) (fun c23_3 => ?_) (fun c23_3 => ?_)
      · rw [if_neg c23_3] at hf
        refine PW.run (blk := [(.iconst 0, 0)]) (pc' := 31) (ls' := [some (.int p0)]) (st' := [.int 0]) (by decide +kernel) rfl ?_
        have e9 := Option.some.inj hf
        subst e9
        exact PW.iret rfl (by decide +kernel)
      · rw [if_pos c23_3] at hf
        refine PW.run (blk := [(.iconst 3, 3), (.goto 4, 0)]) (pc' := 31) (ls' := [some (.int p0)]) (st' := [.int 3]) (by decide +kernel) rfl ?_
        have e9 := Option.some.inj hf
        subst e9
        exact PW.iret rfl (by decide +kernel)
    · rw [if_pos c13_2] at hf
      refine PW.run (blk := [(.iconst 2, 2), (.goto 14, 0)]) (pc' := 31) (ls' := [some (.int p0)]) (st' := [.int 2]) (by decide +kernel) rfl ?_
      have e9 := Option.some.inj hf
      subst e9
      exact PW.iret rfl (by decide +kernel)
  · rw [if_pos c3_1] at hf
    refine PW.run (blk := [(.iconst 1, 1), (.goto 24, 0)]) (pc' := 31) (ls' := [some (.int p0)]) (st' := [.int 1]) (by decide +kernel) rfl ?_
    have e9 := Option.some.inj hf
    subst e9
    exact PW.iret rfl (by decide +kernel)
def fm_settles_L0 (k1 : Int32) : Nat → mT → Option (mT)
  | 0, _ => none
  | N + 1, T => if (T.1 0 16) ≤ 0 then (some (T)) else (bif inb ((T.1 0 16) - 1) 400 then (letv (T.1 7 (((T.1 0 16) - 1) : Int32).toNatClampNeg) fun v2 => (fm_strength v2).bind fun q3 => if q3 < k1 then (some (T)) else (letv (mz T 16 ((T.1 0 16) - 1)) fun T5 => bif inb (T5.1 0 16) 400 then (letv (T5.1 7 ((T5.1 0 16) : Int32).toNatClampNeg) fun v6 => (fm_puts v6 0 T5).bind fun q7 => bif inb (q7.1 0 16) 400 then (letv (q7.1 7 ((q7.1 0 16) : Int32).toNatClampNeg) fun v8 => if v8 = 11 then (letv (mz q7 13 ((q7.1 0 13) - 1)) fun T10 => fm_settles_L0 k1 N  T10) else (fm_settles_L0 k1 N  q7)) else none) else none)) else none)
def fm_settles (p0 : Int32) (T : mT) : Option (mT) := (fm_settles_L0 p0 FU T).bind fun w11 => some w11
theorem xm_settles_L0 {l : Launch} {r : Option Value} {T' : mT} (k1 : Int32) : ∀ (N : Nat) (T : mT) (W0 : mT) (_ : fm_settles_L0 k1 N  T = some W0) (_ : MW l yy_X12_settles 1 r T' 76 [some (.ref 137), some (.int k1)] [] W0), MW l yy_X12_settles 1 r T' 0 [some (.ref 137), some (.int k1)] [] T := by
  intro N
  induction N with
  | zero =>
    intro  T W0 hf _
    cases hf
  | succ N ih =>
    intro  T W0 hf hk1
    unfold fm_settles_L0 at hf
    refine MW.run rfl [(.aload_n 0, 0), (.getfield 139, 0)] (pc' := 4) (ls' := [some (.ref 137), some (.int k1)]) (st' := [.int (T.1 0 16)]) (T1 := T) (by decide +kernel) rfl ?_
    refine MW.if_le (off := 72) (tgt := 76) (by decide +kernel) (by decide) (fun c4_1 => ?_) (fun c4_1 => ?_)
    · rw [if_pos c4_1] at hf
      have e9 := Option.some.inj hf
      subst e9
      exact hk1
    · rw [if_neg c4_1] at hf
      refine MW.run rfl [(.aload_n 0, 0), (.getfield 29, 0), (.aload_n 0, 0), (.getfield 139, 0), (.iconst 1, 1), (.isub, 0)] (pc' := 17) (ls' := [some (.ref 137), some (.int k1)]) (st' := [.int ((T.1 0 16) - 1), .ref 144]) (T1 := T) (by decide +kernel) rfl ?_
      obtain ⟨hi_v2, hf⟩ := bi_some hf
      obtain ⟨v2, hv2, hf⟩ := letv_some hf
      refine MW.iald 7 400 rfl (by decide) rfl (by decide +kernel) (inb_in hi_v2) ?_
      rw [← hv2]
      obtain ⟨q3, hq3, hf⟩ := bd_some hf
      refine MW.callP (As := [.int v2]) (st := []) lt_RX12_142 (by decide +kernel) (xm_strength hq3) (by decide) (by decide) rfl (Nat.le_of_ble_eq_true rfl) rfl ?_
      show MW l yy_X12_settles 1 _ _ 21 [some (.ref 137), some (.int k1)] [.int q3] T
      refine MW.run rfl [(.iload_n 1, 0)] (pc' := 22) (ls' := [some (.ref 137), some (.int k1)]) (st' := [.int k1, .int q3]) (T1 := T) (by decide +kernel) rfl ?_
      refine MW.icmp_lt (off := 54) (tgt := 76) (by decide +kernel) (by decide) (fun c22_4 => ?_) (fun c22_4 => ?_)
      · rw [if_pos c22_4] at hf
        have e9 := Option.some.inj hf
        subst e9
        exact hk1
      · rw [if_neg c22_4] at hf
        refine MW.run rfl [(.aload_n 0, 0), (.dup, 0), (.getfield 139, 0), (.iconst 1, 1), (.isub, 0), (.putfield 139, 0)] (pc' := 35) (ls' := [some (.ref 137), some (.int k1)]) (st' := []) (T1 := mz T 16 ((T.1 0 16) - 1)) (by decide +kernel) rfl ?_
        obtain ⟨T5, hT5, hf⟩ := letv_some hf
        rw [← hT5]
        refine MW.run rfl [(.aload_n 0, 0), (.aload_n 0, 0), (.getfield 29, 0), (.aload_n 0, 0), (.getfield 139, 0)] (pc' := 44) (ls' := [some (.ref 137), some (.int k1)]) (st' := [.int (T5.1 0 16), .ref 144, .ref 137]) (T1 := T5) (by decide +kernel) rfl ?_
        obtain ⟨hi_v6, hf⟩ := bi_some hf
        obtain ⟨v6, hv6, hf⟩ := letv_some hf
        refine MW.iald 7 400 rfl (by decide) rfl (by decide +kernel) (inb_in hi_v6) ?_
        rw [← hv6]
        refine MW.run rfl [(.iconst 0, 0)] (pc' := 46) (ls' := [some (.ref 137), some (.int k1)]) (st' := [.int 0, .int v6, .ref 137]) (T1 := T5) (by decide +kernel) rfl ?_
        obtain ⟨q7, hq7, hf⟩ := bd_some hf
        refine MW.callV (As := [.int v6, .int 0]) (st := []) lv_RX12_146 rfl (by decide +kernel) (xm_puts hq7) (by decide) (by decide) rfl (Nat.le_of_ble_eq_true rfl) rfl ?_
        show MW l yy_X12_settles 1 _ _ 49 [some (.ref 137), some (.int k1)] [] q7
        refine MW.run rfl [(.aload_n 0, 0), (.getfield 29, 0), (.aload_n 0, 0), (.getfield 139, 0)] (pc' := 57) (ls' := [some (.ref 137), some (.int k1)]) (st' := [.int (q7.1 0 16), .ref 144]) (T1 := q7) (by decide +kernel) rfl ?_
        obtain ⟨hi_v8, hf⟩ := bi_some hf
        obtain ⟨v8, hv8, hf⟩ := letv_some hf
        refine MW.iald 7 400 rfl (by decide) rfl (by decide +kernel) (inb_in hi_v8) ?_
        rw [← hv8]
        refine MW.run rfl [(.bipush 11, 11)] (pc' := 60) (ls' := [some (.ref 137), some (.int k1)]) (st' := [.int 11, .int v8]) (T1 := q7) (by decide +kernel) rfl ?_
        refine MW.icmp_ne (off := (-60)) (tgt := 0) (by decide +kernel) (by decide) (fun c60_9 => ?_) (fun c60_9 => ?_)
        · rw [if_neg c60_9] at hf
          exact ih _ _ hf hk1
        · rw [if_pos c60_9] at hf
          refine MW.run rfl [(.aload_n 0, 0), (.dup, 0), (.getfield 136, 0), (.iconst 1, 1), (.isub, 0), (.putfield 136, 0)] (pc' := 73) (ls' := [some (.ref 137), some (.int k1)]) (st' := []) (T1 := mz q7 13 ((q7.1 0 13) - 1)) (by decide +kernel) rfl ?_
          obtain ⟨T10, hT10, hf⟩ := letv_some hf
          rw [← hT10]
          refine MW.run rfl [(.goto (-73), 0)] (pc' := 0) (ls' := [some (.ref 137), some (.int k1)]) (st' := []) (T1 := T10) (by decide +kernel) rfl ?_
          exact ih _ _ hf hk1
theorem xm_settles {l : Launch} {p0 : Int32} {T : mT} {q : mT} (hf : fm_settles p0 T = some q) : MOk l yy_X12_settles 1 [.int p0] T none q := by
  refine MOk.of (ls := [some (.ref 137), some (.int p0)]) (by decide +kernel) (Nat.le_of_ble_eq_true rfl) rfl ?_
  unfold fm_settles at hf
  obtain ⟨w11, hw11, hf⟩ := bd_some hf
  refine xm_settles_L0 p0 FU _ _ hw11 ?_
  have e9 := Option.some.inj hf
  subst e9
  exact MW.vret rfl (by decide +kernel)
def fm_value  (T : mT) : Option (Bool × mT) := (fm_see T).bind fun q1 => (fm_isDigit (q1.2.1 0 8) q1.2).bind fun q2 => if (b2i q2) = 0 then ((fm_wordHere q1.2).bind fun q4 => if 0 ≤ q4.1 then ((fm_makes (q1.2.1 0 8) q4.2).bind fun q6 => if (b2i q6.1) = 0 then (some (false, q6.2)) else ((fm_passWord q6.2).bind fun q8 => (fm_puts 1 q4.1 q8).bind fun q9 => some (true, q9))) else ((fm_fails 0 (q1.2.1 0 8) q4.2).bind fun q10 => some (q10.1, q10.2))) else ((fm_numberHere 0 99999 q1.2).bind fun q11 => if (b2i q11.1) = 0 then (some (false, q11.2)) else ((fm_makes (q1.2.1 0 8) q11.2).bind fun q13 => if (b2i q13.1) = 0 then (some (false, q13.2)) else ((fm_puts 0 (q13.2.1 0 10) q13.2).bind fun q15 => some (true, q15))))
theorem xm_value {l : Launch}  {T : mT} {q : Bool × mT} (hf : fm_value  T = some q) : MOk l yy_X12_value 3 [] T (some (.int (b2i q.1))) q.2 := by
  refine MOk.of (ls := [some (.ref 137), none, none]) (by decide +kernel) (Nat.le_of_ble_eq_true rfl) rfl ?_
  unfold fm_value at hf
  refine MW.run rfl [(.aload_n 0, 0)] (pc' := 1) (ls' := [some (.ref 137), none, none]) (st' := [.ref 137]) (T1 := T) (by decide +kernel) rfl ?_
  obtain ⟨q1, hq1, hf⟩ := bd_some hf
  refine MW.callV (As := []) (st := []) lv_RX12_85 rfl (by decide +kernel) (xm_see hq1) (by decide) (by decide) rfl (Nat.le_of_ble_eq_true rfl) rfl ?_
  show MW l yy_X12_value 3 _ _ 4 [some (.ref 137), none, none] [.int q1.1] q1.2
  refine MW.run rfl [(.pop, 0), (.aload_n 0, 0), (.getfield 82, 0), (.istore_n 1, 0), (.aload_n 0, 0), (.aload_n 0, 0), (.getfield 82, 0)] (pc' := 15) (ls' := [some (.ref 137), some (.int (q1.2.1 0 8)), none]) (st' := [.int (q1.2.1 0 8), .ref 137]) (T1 := q1.2) (by decide +kernel) rfl ?_
  obtain ⟨q2, hq2, hf⟩ := bd_some hf
  refine MW.callV (As := [.int (q1.2.1 0 8)]) (st := []) lv_RX12_100 rfl (by decide +kernel) (xm_isDigit hq2) (by decide) (by decide) rfl (Nat.le_of_ble_eq_true rfl) rfl ?_
  show MW l yy_X12_value 3 _ _ 18 [some (.ref 137), some (.int (q1.2.1 0 8)), none] [.int (b2i q2)] q1.2
  refine MW.if_eq (off := 34) (tgt := 52) (by decide +kernel) (by decide) (fun c18_3 => ?_) (fun c18_3 => ?_)
  · rw [if_pos c18_3] at hf
    refine MW.run rfl [(.aload_n 0, 0)] (pc' := 53) (ls' := [some (.ref 137), some (.int (q1.2.1 0 8)), none]) (st' := [.ref 137]) (T1 := q1.2) (by decide +kernel) rfl ?_
    obtain ⟨q4, hq4, hf⟩ := bd_some hf
    refine MW.callV (As := []) (st := []) lv_RX12_157 rfl (by decide +kernel) (xm_wordHere hq4) (by decide) (by decide) rfl (Nat.le_of_ble_eq_true rfl) rfl ?_
    show MW l yy_X12_value 3 _ _ 56 [some (.ref 137), some (.int (q1.2.1 0 8)), none] [.int q4.1] q4.2
    refine MW.run rfl [(.istore_n 2, 0), (.iload_n 2, 0)] (pc' := 58) (ls' := [some (.ref 137), some (.int (q1.2.1 0 8)), some (.int q4.1)]) (st' := [.int q4.1]) (T1 := q4.2) (by decide +kernel) rfl ?_
    refine MW.if_ge (off := 10) (tgt := 68) (by decide +kernel) (by decide) (fun c58_5 => ?_) (fun c58_5 => ?_)
    · rw [if_pos c58_5] at hf
      refine MW.run rfl [(.aload_n 0, 0), (.iload_n 1, 0)] (pc' := 70) (ls' := [some (.ref 137), some (.int (q1.2.1 0 8)), some (.int q4.1)]) (st' := [.int (q1.2.1 0 8), .ref 137]) (T1 := q4.2) (by decide +kernel) rfl ?_
      obtain ⟨q6, hq6, hf⟩ := bd_some hf
      refine MW.callV (As := [.int (q1.2.1 0 8)]) (st := []) lv_RX12_154 rfl (by decide +kernel) (xm_makes hq6) (by decide) (by decide) rfl (Nat.le_of_ble_eq_true rfl) rfl ?_
      show MW l yy_X12_value 3 _ _ 73 [some (.ref 137), some (.int (q1.2.1 0 8)), some (.int q4.1)] [.int (b2i q6.1)] q6.2
      refine MW.if_ne (off := 5) (tgt := 78) (by decide +kernel) (by decide) (fun c73_7 => ?_) (fun c73_7 => ?_)
      · rw [if_neg c73_7] at hf
        refine MW.run rfl [(.aload_n 0, 0)] (pc' := 79) (ls' := [some (.ref 137), some (.int (q1.2.1 0 8)), some (.int q4.1)]) (st' := [.ref 137]) (T1 := q6.2) (by decide +kernel) rfl ?_
        obtain ⟨q8, hq8, hf⟩ := bd_some hf
        refine MW.callV (As := []) (st := []) lv_RX12_97 rfl (by decide +kernel) (xm_passWord hq8) (by decide) (by decide) rfl (Nat.le_of_ble_eq_true rfl) rfl ?_
        show MW l yy_X12_value 3 _ _ 82 [some (.ref 137), some (.int (q1.2.1 0 8)), some (.int q4.1)] [] q8
        refine MW.run rfl [(.aload_n 0, 0), (.iconst 1, 1), (.iload_n 2, 0)] (pc' := 85) (ls' := [some (.ref 137), some (.int (q1.2.1 0 8)), some (.int q4.1)]) (st' := [.int q4.1, .int 1, .ref 137]) (T1 := q8) (by decide +kernel) rfl ?_
        obtain ⟨q9, hq9, hf⟩ := bd_some hf
        refine MW.callV (As := [.int 1, .int q4.1]) (st := []) lv_RX12_146 rfl (by decide +kernel) (xm_puts hq9) (by decide) (by decide) rfl (Nat.le_of_ble_eq_true rfl) rfl ?_
        show MW l yy_X12_value 3 _ _ 88 [some (.ref 137), some (.int (q1.2.1 0 8)), some (.int q4.1)] [] q9
        refine MW.run rfl [(.iconst 1, 1)] (pc' := 89) (ls' := [some (.ref 137), some (.int (q1.2.1 0 8)), some (.int q4.1)]) (st' := [.int 1]) (T1 := q9) (by decide +kernel) rfl ?_
        have e9 := Option.some.inj hf
        subst e9
        exact MW.zret rfl (b2i_nar _) (by decide +kernel)
      · rw [if_pos c73_7] at hf
        refine MW.run rfl [(.iconst 0, 0)] (pc' := 77) (ls' := [some (.ref 137), some (.int (q1.2.1 0 8)), some (.int q4.1)]) (st' := [.int 0]) (T1 := q6.2) (by decide +kernel) rfl ?_
        have e9 := Option.some.inj hf
        subst e9
        exact MW.zret rfl (b2i_nar _) (by decide +kernel)
    · rw [if_neg c58_5] at hf
      refine MW.run rfl [(.aload_n 0, 0), (.iconst 0, 0), (.iload_n 1, 0)] (pc' := 64) (ls' := [some (.ref 137), some (.int (q1.2.1 0 8)), some (.int q4.1)]) (st' := [.int (q1.2.1 0 8), .int 0, .ref 137]) (T1 := q4.2) (by decide +kernel) rfl ?_
      obtain ⟨q10, hq10, hf⟩ := bd_some hf
      refine MW.callV (As := [.int 0, .int (q1.2.1 0 8)]) (st := []) lv_RX12_103 rfl (by decide +kernel) (xm_fails hq10) (by decide) (by decide) rfl (Nat.le_of_ble_eq_true rfl) rfl ?_
      show MW l yy_X12_value 3 _ _ 67 [some (.ref 137), some (.int (q1.2.1 0 8)), some (.int q4.1)] [.int (b2i q10.1)] q10.2
      have e9 := Option.some.inj hf
      subst e9
      exact MW.zret rfl (b2i_nar _) (by decide +kernel)
  · rw [if_neg c18_3] at hf
    refine MW.run rfl [(.aload_n 0, 0), (.iconst 0, 0)] (pc' := 23) (ls' := [some (.ref 137), some (.int (q1.2.1 0 8)), none]) (st' := [.int 0, .ref 137]) (T1 := q1.2) (by decide +kernel) rfl ?_
    refine MW.ldc (idx := 150) (v := 99999) (tb_in 1270 (by decide +kernel) (by decide +kernel)) (by decide +kernel) ?_
    obtain ⟨q11, hq11, hf⟩ := bd_some hf
    refine MW.callV (As := [.int 0, .int 99999]) (st := []) lv_RX12_151 rfl (by decide +kernel) (xm_numberHere hq11) (by decide) (by decide) rfl (Nat.le_of_ble_eq_true rfl) rfl ?_
    show MW l yy_X12_value 3 _ _ 28 [some (.ref 137), some (.int (q1.2.1 0 8)), none] [.int (b2i q11.1)] q11.2
    refine MW.if_eq (off := 11) (tgt := 39) (by decide +kernel) (by decide) (fun c28_12 => ?_) (fun c28_12 => ?_)
    · rw [if_pos c28_12] at hf
      refine MW.run rfl [(.iconst 0, 0)] (pc' := 40) (ls' := [some (.ref 137), some (.int (q1.2.1 0 8)), none]) (st' := [.int 0]) (T1 := q11.2) (by decide +kernel) rfl ?_
      have e9 := Option.some.inj hf
      subst e9
      exact MW.zret rfl (b2i_nar _) (by decide +kernel)
    · rw [if_neg c28_12] at hf
      refine MW.run rfl [(.aload_n 0, 0), (.iload_n 1, 0)] (pc' := 33) (ls' := [some (.ref 137), some (.int (q1.2.1 0 8)), none]) (st' := [.int (q1.2.1 0 8), .ref 137]) (T1 := q11.2) (by decide +kernel) rfl ?_
      obtain ⟨q13, hq13, hf⟩ := bd_some hf
      refine MW.callV (As := [.int (q1.2.1 0 8)]) (st := []) lv_RX12_154 rfl (by decide +kernel) (xm_makes hq13) (by decide) (by decide) rfl (Nat.le_of_ble_eq_true rfl) rfl ?_
      show MW l yy_X12_value 3 _ _ 36 [some (.ref 137), some (.int (q1.2.1 0 8)), none] [.int (b2i q13.1)] q13.2
      refine MW.if_ne (off := 5) (tgt := 41) (by decide +kernel) (by decide) (fun c36_14 => ?_) (fun c36_14 => ?_)
      · rw [if_neg c36_14] at hf
        refine MW.run rfl [(.aload_n 0, 0), (.iconst 0, 0), (.aload_n 0, 0), (.getfield 107, 0)] (pc' := 47) (ls' := [some (.ref 137), some (.int (q1.2.1 0 8)), none]) (st' := [.int (q13.2.1 0 10), .int 0, .ref 137]) (T1 := q13.2) (by decide +kernel) rfl ?_
        obtain ⟨q15, hq15, hf⟩ := bd_some hf
        refine MW.callV (As := [.int 0, .int (q13.2.1 0 10)]) (st := []) lv_RX12_146 rfl (by decide +kernel) (xm_puts hq15) (by decide) (by decide) rfl (Nat.le_of_ble_eq_true rfl) rfl ?_
        show MW l yy_X12_value 3 _ _ 50 [some (.ref 137), some (.int (q1.2.1 0 8)), none] [] q15
        refine MW.run rfl [(.iconst 1, 1)] (pc' := 51) (ls' := [some (.ref 137), some (.int (q1.2.1 0 8)), none]) (st' := [.int 1]) (T1 := q15) (by decide +kernel) rfl ?_
        have e9 := Option.some.inj hf
        subst e9
        exact MW.zret rfl (b2i_nar _) (by decide +kernel)
      · rw [if_pos c36_14] at hf
        refine MW.run rfl [(.iconst 0, 0)] (pc' := 40) (ls' := [some (.ref 137), some (.int (q1.2.1 0 8)), none]) (st' := [.int 0]) (T1 := q13.2) (by decide +kernel) rfl ?_
        have e9 := Option.some.inj hf
        subst e9
        exact MW.zret rfl (b2i_nar _) (by decide +kernel)
def fm_term_L9  : Nat → mT → Option ((mT) ⊕ (Bool × mT))
  | 0, _ => none
  | N + 1, T => (fm_see T).bind fun q3 => if q3.1 = 42 then (bif inb (q3.2.1 0 8) 400 then (letv (q3.2.1 1 ((q3.2.1 0 8) : Int32).toNatClampNeg) fun v5 => Option.bind (if v5 = 42 then (some (4)) else (bif inb (q3.2.1 0 8) 400 then (letv (q3.2.1 1 ((q3.2.1 0 8) : Int32).toNatClampNeg) fun v8 => if v8 = 47 then (some (5)) else (some (14))) else none) : Option (Int32)) fun w6 => letv (mz q3.2 8 ((q3.2.1 0 8) + 1)) fun T10 => (fm_value T10).bind fun q11 => if (b2i q11.1) = 0 then (some (.inr (false, q11.2))) else ((fm_puts w6 0 q11.2).bind fun q13 => fm_term_L9  N  q13)) else none) else ((fm_see q3.2).bind fun q14 => if q14.1 = 47 then (bif inb (q14.2.1 0 8) 400 then (letv (q14.2.1 1 ((q14.2.1 0 8) : Int32).toNatClampNeg) fun v16 => Option.bind (if v16 = 42 then (some (4)) else (bif inb (q14.2.1 0 8) 400 then (letv (q14.2.1 1 ((q14.2.1 0 8) : Int32).toNatClampNeg) fun v19 => if v19 = 47 then (some (5)) else (some (14))) else none) : Option (Int32)) fun w17 => letv (mz q14.2 8 ((q14.2.1 0 8) + 1)) fun T21 => (fm_value T21).bind fun q22 => if (b2i q22.1) = 0 then (some (.inr (false, q22.2))) else ((fm_puts w17 0 q22.2).bind fun q24 => fm_term_L9  N  q24)) else none) else ((fm_see q14.2).bind fun q25 => if q25.1 = 37 then (bif inb (q25.2.1 0 8) 400 then (letv (q25.2.1 1 ((q25.2.1 0 8) : Int32).toNatClampNeg) fun v27 => Option.bind (if v27 = 42 then (some (4)) else (bif inb (q25.2.1 0 8) 400 then (letv (q25.2.1 1 ((q25.2.1 0 8) : Int32).toNatClampNeg) fun v30 => if v30 = 47 then (some (5)) else (some (14))) else none) : Option (Int32)) fun w28 => letv (mz q25.2 8 ((q25.2.1 0 8) + 1)) fun T32 => (fm_value T32).bind fun q33 => if (b2i q33.1) = 0 then (some (.inr (false, q33.2))) else ((fm_puts w28 0 q33.2).bind fun q35 => fm_term_L9  N  q35)) else none) else (some (.inl (q25.2)))))
def fm_term  (T : mT) : Option (Bool × mT) := (fm_value T).bind fun q1 => if (b2i q1.1) = 0 then (some (false, q1.2)) else ((fm_term_L9 FU q1.2).bind fun w36 => Sum.elim (fun w36a => some (true, w36a)) (fun w36b => some w36b) w36)
theorem xm_term_L9 {l : Launch} {r : Option Value} {T' : mT}  : ∀ (N : Nat) (T : mT) (W0 : (mT) ⊕ (Bool × mT)) (_ : fm_term_L9  N  T = some W0) (_ : ∀ W, W0 = .inl W → MW l yy_X12_term 4 r T' 103 [some (.ref 137), none] [] W) (_ : ∀ Y, W0 = .inr Y → r = some (.int (b2i (Y.1))) ∧ T' = Y.2), MW l yy_X12_term 4 r T' 9 [some (.ref 137), none] [] T := by
  intro N
  induction N with
  | zero =>
    intro  T W0 hf _ _
    cases hf
  | succ N ih =>
    intro  T W0 hf hk1 hk2
    unfold fm_term_L9 at hf
    refine MW.run rfl [(.aload_n 0, 0)] (pc' := 10) (ls' := [some (.ref 137), none]) (st' := [.ref 137]) (T1 := T) (by decide +kernel) rfl ?_
    obtain ⟨q3, hq3, hf⟩ := bd_some hf
    refine MW.callV (As := []) (st := []) lv_RX12_85 rfl (by decide +kernel) (xm_see hq3) (by decide) (by decide) rfl (Nat.le_of_ble_eq_true rfl) rfl ?_
    show MW l yy_X12_term 4 _ _ 13 [some (.ref 137), none] [.int q3.1] q3.2
    refine MW.run rfl [(.bipush 42, 42)] (pc' := 15) (ls' := [some (.ref 137), none]) (st' := [.int 42, .int q3.1]) (T1 := q3.2) (by decide +kernel) rfl ?_
    refine MW.icmp_eq (off := 21) (tgt := 36) (by decide +kernel) (by decide) (fun c15_4 => ?_) (fun c15_4 => ?_)
    · rw [if_pos c15_4] at hf
      refine MW.run rfl [(.aload_n 0, 0), (.getfield 7, 0), (.aload_n 0, 0), (.getfield 82, 0)] (pc' := 44) (ls' := [some (.ref 137), none]) (st' := [.int (q3.2.1 0 8), .ref 138]) (T1 := q3.2) (by decide +kernel) rfl ?_
      obtain ⟨hi_v5, hf⟩ := bi_some hf
      obtain ⟨v5, hv5, hf⟩ := letv_some hf
      refine MW.bald 1 400 rfl (by decide) rfl (by decide +kernel) (inb_in hi_v5) ?_
      rw [← hv5]
      refine MW.run rfl [(.bipush 42, 42)] (pc' := 47) (ls' := [some (.ref 137), none]) (st' := [.int 42, .int v5]) (T1 := q3.2) (by decide +kernel) rfl ?_
      obtain ⟨w6, hw6, hf⟩ := bd_some hf
      have hJ : MW l yy_X12_term 4 r T' 74 [some (.ref 137), none] [.int w6] q3.2 := by
        refine MW.run rfl [(.istore_n 1, 0), (.aload_n 0, 0), (.dup, 0), (.getfield 82, 0), (.iconst 1, 1), (.iadd, 0), (.putfield 82, 0)] (pc' := 85) (ls' := [some (.ref 137), some (.int w6)]) (st' := []) (T1 := mz q3.2 8 ((q3.2.1 0 8) + 1)) (by decide +kernel) rfl ?_
        obtain ⟨T10, hT10, hf⟩ := letv_some hf
        rw [← hT10]
        refine MW.run rfl [(.aload_n 0, 0)] (pc' := 86) (ls' := [some (.ref 137), some (.int w6)]) (st' := [.ref 137]) (T1 := T10) (by decide +kernel) rfl ?_
        obtain ⟨q11, hq11, hf⟩ := bd_some hf
        refine MW.callV (As := []) (st := []) lv_RX12_160 rfl (by decide +kernel) (xm_value hq11) (by decide) (by decide) rfl (Nat.le_of_ble_eq_true rfl) rfl ?_
        show MW l yy_X12_term 4 _ _ 89 [some (.ref 137), some (.int w6)] [.int (b2i q11.1)] q11.2
        refine MW.if_ne (off := 5) (tgt := 94) (by decide +kernel) (by decide) (fun c89_12 => ?_) (fun c89_12 => ?_)
        · rw [if_neg c89_12] at hf
          refine MW.run rfl [(.aload_n 0, 0), (.iload_n 1, 0), (.iconst 0, 0)] (pc' := 97) (ls' := [some (.ref 137), some (.int w6)]) (st' := [.int 0, .int w6, .ref 137]) (T1 := q11.2) (by decide +kernel) rfl ?_
          obtain ⟨q13, hq13, hf⟩ := bd_some hf
          refine MW.callV (As := [.int w6, .int 0]) (st := []) lv_RX12_146 rfl (by decide +kernel) (xm_puts hq13) (by decide) (by decide) rfl (Nat.le_of_ble_eq_true rfl) rfl ?_
          show MW l yy_X12_term 4 _ _ 100 [some (.ref 137), some (.int w6)] [] q13
          refine MW.run rfl [(.goto (-91), 0)] (pc' := 9) (ls' := [some (.ref 137), some (.int w6)]) (st' := []) (T1 := q13) (by decide +kernel) rfl ?_
          refine MW.fgt (ls' := [some (.ref 137), none]) (by repeat' (first | exact trivial | refine ⟨rfl, ?_⟩)) ?_
          exact ih _ _ hf hk1 hk2
        · rw [if_pos c89_12] at hf
          refine MW.run rfl [(.iconst 0, 0)] (pc' := 93) (ls' := [some (.ref 137), some (.int w6)]) (st' := [.int 0]) (T1 := q11.2) (by decide +kernel) rfl ?_
          have e9 := Option.some.inj hf
          subst e9
          obtain ⟨e1, e2⟩ := (hk2 _ rfl)
          subst e1
          subst e2
          exact MW.zret rfl (b2i_nar _) (by decide +kernel)
      clear hf
      refine MW.icmp_ne (off := 7) (tgt := 54) (by decide +kernel) (by decide) (fun c47_7 => ?_) (fun c47_7 => ?_)
      · rw [if_neg c47_7] at hw6
        refine MW.run rfl [(.aload_n 0, 0), (.getfield 7, 0), (.aload_n 0, 0), (.getfield 82, 0)] (pc' := 62) (ls' := [some (.ref 137), none]) (st' := [.int (q3.2.1 0 8), .ref 138]) (T1 := q3.2) (by decide +kernel) rfl ?_
        obtain ⟨hi_v8, hw6⟩ := bi_some hw6
        obtain ⟨v8, hv8, hw6⟩ := letv_some hw6
        refine MW.bald 1 400 rfl (by decide) rfl (by decide +kernel) (inb_in hi_v8) ?_
        rw [← hv8]
        refine MW.run rfl [(.bipush 47, 47)] (pc' := 65) (ls' := [some (.ref 137), none]) (st' := [.int 47, .int v8]) (T1 := q3.2) (by decide +kernel) rfl ?_
        refine MW.icmp_ne (off := 7) (tgt := 72) (by decide +kernel) (by decide) (fun c65_9 => ?_) (fun c65_9 => ?_)
        · rw [if_neg c65_9] at hw6
          refine MW.run rfl [(.bipush 14, 14)] (pc' := 74) (ls' := [some (.ref 137), none]) (st' := [.int 14]) (T1 := q3.2) (by decide +kernel) rfl ?_
          have e9 := Option.some.inj hw6
          subst e9
          exact hJ
        · rw [if_pos c65_9] at hw6
          refine MW.run rfl [(.iconst 5, 5), (.goto 5, 0)] (pc' := 74) (ls' := [some (.ref 137), none]) (st' := [.int 5]) (T1 := q3.2) (by decide +kernel) rfl ?_
          have e9 := Option.some.inj hw6
          subst e9
          exact hJ
      · rw [if_pos c47_7] at hw6
        refine MW.run rfl [(.iconst 4, 4), (.goto 23, 0)] (pc' := 74) (ls' := [some (.ref 137), none]) (st' := [.int 4]) (T1 := q3.2) (by decide +kernel) rfl ?_
        have e9 := Option.some.inj hw6
        subst e9
        exact hJ
    · rw [if_neg c15_4] at hf
      refine MW.run rfl [(.aload_n 0, 0)] (pc' := 19) (ls' := [some (.ref 137), none]) (st' := [.ref 137]) (T1 := q3.2) (by decide +kernel) rfl ?_
      obtain ⟨q14, hq14, hf⟩ := bd_some hf
      refine MW.callV (As := []) (st := []) lv_RX12_85 rfl (by decide +kernel) (xm_see hq14) (by decide) (by decide) rfl (Nat.le_of_ble_eq_true rfl) rfl ?_
      show MW l yy_X12_term 4 _ _ 22 [some (.ref 137), none] [.int q14.1] q14.2
      refine MW.run rfl [(.bipush 47, 47)] (pc' := 24) (ls' := [some (.ref 137), none]) (st' := [.int 47, .int q14.1]) (T1 := q14.2) (by decide +kernel) rfl ?_
      refine MW.icmp_eq (off := 12) (tgt := 36) (by decide +kernel) (by decide) (fun c24_15 => ?_) (fun c24_15 => ?_)
      · rw [if_pos c24_15] at hf
        refine MW.run rfl [(.aload_n 0, 0), (.getfield 7, 0), (.aload_n 0, 0), (.getfield 82, 0)] (pc' := 44) (ls' := [some (.ref 137), none]) (st' := [.int (q14.2.1 0 8), .ref 138]) (T1 := q14.2) (by decide +kernel) rfl ?_
        obtain ⟨hi_v16, hf⟩ := bi_some hf
        obtain ⟨v16, hv16, hf⟩ := letv_some hf
        refine MW.bald 1 400 rfl (by decide) rfl (by decide +kernel) (inb_in hi_v16) ?_
        rw [← hv16]
        refine MW.run rfl [(.bipush 42, 42)] (pc' := 47) (ls' := [some (.ref 137), none]) (st' := [.int 42, .int v16]) (T1 := q14.2) (by decide +kernel) rfl ?_
        obtain ⟨w17, hw17, hf⟩ := bd_some hf
        have hJ : MW l yy_X12_term 4 r T' 74 [some (.ref 137), none] [.int w17] q14.2 := by
          refine MW.run rfl [(.istore_n 1, 0), (.aload_n 0, 0), (.dup, 0), (.getfield 82, 0), (.iconst 1, 1), (.iadd, 0), (.putfield 82, 0)] (pc' := 85) (ls' := [some (.ref 137), some (.int w17)]) (st' := []) (T1 := mz q14.2 8 ((q14.2.1 0 8) + 1)) (by decide +kernel) rfl ?_
          obtain ⟨T21, hT21, hf⟩ := letv_some hf
          rw [← hT21]
          refine MW.run rfl [(.aload_n 0, 0)] (pc' := 86) (ls' := [some (.ref 137), some (.int w17)]) (st' := [.ref 137]) (T1 := T21) (by decide +kernel) rfl ?_
          obtain ⟨q22, hq22, hf⟩ := bd_some hf
          refine MW.callV (As := []) (st := []) lv_RX12_160 rfl (by decide +kernel) (xm_value hq22) (by decide) (by decide) rfl (Nat.le_of_ble_eq_true rfl) rfl ?_
          show MW l yy_X12_term 4 _ _ 89 [some (.ref 137), some (.int w17)] [.int (b2i q22.1)] q22.2
          refine MW.if_ne (off := 5) (tgt := 94) (by decide +kernel) (by decide) (fun c89_23 => ?_) (fun c89_23 => ?_)
          · rw [if_neg c89_23] at hf
            refine MW.run rfl [(.aload_n 0, 0), (.iload_n 1, 0), (.iconst 0, 0)] (pc' := 97) (ls' := [some (.ref 137), some (.int w17)]) (st' := [.int 0, .int w17, .ref 137]) (T1 := q22.2) (by decide +kernel) rfl ?_
            obtain ⟨q24, hq24, hf⟩ := bd_some hf
            refine MW.callV (As := [.int w17, .int 0]) (st := []) lv_RX12_146 rfl (by decide +kernel) (xm_puts hq24) (by decide) (by decide) rfl (Nat.le_of_ble_eq_true rfl) rfl ?_
            show MW l yy_X12_term 4 _ _ 100 [some (.ref 137), some (.int w17)] [] q24
            refine MW.run rfl [(.goto (-91), 0)] (pc' := 9) (ls' := [some (.ref 137), some (.int w17)]) (st' := []) (T1 := q24) (by decide +kernel) rfl ?_
            refine MW.fgt (ls' := [some (.ref 137), none]) (by repeat' (first | exact trivial | refine ⟨rfl, ?_⟩)) ?_
            exact ih _ _ hf hk1 hk2
          · rw [if_pos c89_23] at hf
            refine MW.run rfl [(.iconst 0, 0)] (pc' := 93) (ls' := [some (.ref 137), some (.int w17)]) (st' := [.int 0]) (T1 := q22.2) (by decide +kernel) rfl ?_
            have e9 := Option.some.inj hf
            subst e9
            obtain ⟨e1, e2⟩ := (hk2 _ rfl)
            subst e1
            subst e2
            exact MW.zret rfl (b2i_nar _) (by decide +kernel)
        clear hf
        refine MW.icmp_ne (off := 7) (tgt := 54) (by decide +kernel) (by decide) (fun c47_18 => ?_) (fun c47_18 => ?_)
        · rw [if_neg c47_18] at hw17
          refine MW.run rfl [(.aload_n 0, 0), (.getfield 7, 0), (.aload_n 0, 0), (.getfield 82, 0)] (pc' := 62) (ls' := [some (.ref 137), none]) (st' := [.int (q14.2.1 0 8), .ref 138]) (T1 := q14.2) (by decide +kernel) rfl ?_
          obtain ⟨hi_v19, hw17⟩ := bi_some hw17
          obtain ⟨v19, hv19, hw17⟩ := letv_some hw17
          refine MW.bald 1 400 rfl (by decide) rfl (by decide +kernel) (inb_in hi_v19) ?_
          rw [← hv19]
          refine MW.run rfl [(.bipush 47, 47)] (pc' := 65) (ls' := [some (.ref 137), none]) (st' := [.int 47, .int v19]) (T1 := q14.2) (by decide +kernel) rfl ?_
          refine MW.icmp_ne (off := 7) (tgt := 72) (by decide +kernel) (by decide) (fun c65_20 => ?_) (fun c65_20 => ?_)
          · rw [if_neg c65_20] at hw17
            refine MW.run rfl [(.bipush 14, 14)] (pc' := 74) (ls' := [some (.ref 137), none]) (st' := [.int 14]) (T1 := q14.2) (by decide +kernel) rfl ?_
            have e9 := Option.some.inj hw17
            subst e9
            exact hJ
          · rw [if_pos c65_20] at hw17
            refine MW.run rfl [(.iconst 5, 5), (.goto 5, 0)] (pc' := 74) (ls' := [some (.ref 137), none]) (st' := [.int 5]) (T1 := q14.2) (by decide +kernel) rfl ?_
            have e9 := Option.some.inj hw17
            subst e9
            exact hJ
        · rw [if_pos c47_18] at hw17
          refine MW.run rfl [(.iconst 4, 4), (.goto 23, 0)] (pc' := 74) (ls' := [some (.ref 137), none]) (st' := [.int 4]) (T1 := q14.2) (by decide +kernel) rfl ?_
          have e9 := Option.some.inj hw17
          subst e9
          exact hJ
      · rw [if_neg c24_15] at hf
        refine MW.run rfl [(.aload_n 0, 0)] (pc' := 28) (ls' := [some (.ref 137), none]) (st' := [.ref 137]) (T1 := q14.2) (by decide +kernel) rfl ?_
        obtain ⟨q25, hq25, hf⟩ := bd_some hf
        refine MW.callV (As := []) (st := []) lv_RX12_85 rfl (by decide +kernel) (xm_see hq25) (by decide) (by decide) rfl (Nat.le_of_ble_eq_true rfl) rfl ?_
        show MW l yy_X12_term 4 _ _ 31 [some (.ref 137), none] [.int q25.1] q25.2
        refine MW.run rfl [(.bipush 37, 37)] (pc' := 33) (ls' := [some (.ref 137), none]) (st' := [.int 37, .int q25.1]) (T1 := q25.2) (by decide +kernel) rfl ?_
        refine MW.icmp_ne (off := 70) (tgt := 103) (by decide +kernel) (by decide) (fun c33_26 => ?_) (fun c33_26 => ?_)
        · rw [if_neg c33_26] at hf
          have e9 := Option.some.inj hf
          subst e9
          exact hk1 (q25.2) rfl
        · rw [if_pos c33_26] at hf
          refine MW.run rfl [(.aload_n 0, 0), (.getfield 7, 0), (.aload_n 0, 0), (.getfield 82, 0)] (pc' := 44) (ls' := [some (.ref 137), none]) (st' := [.int (q25.2.1 0 8), .ref 138]) (T1 := q25.2) (by decide +kernel) rfl ?_
          obtain ⟨hi_v27, hf⟩ := bi_some hf
          obtain ⟨v27, hv27, hf⟩ := letv_some hf
          refine MW.bald 1 400 rfl (by decide) rfl (by decide +kernel) (inb_in hi_v27) ?_
          rw [← hv27]
          refine MW.run rfl [(.bipush 42, 42)] (pc' := 47) (ls' := [some (.ref 137), none]) (st' := [.int 42, .int v27]) (T1 := q25.2) (by decide +kernel) rfl ?_
          obtain ⟨w28, hw28, hf⟩ := bd_some hf
          have hJ : MW l yy_X12_term 4 r T' 74 [some (.ref 137), none] [.int w28] q25.2 := by
            refine MW.run rfl [(.istore_n 1, 0), (.aload_n 0, 0), (.dup, 0), (.getfield 82, 0), (.iconst 1, 1), (.iadd, 0), (.putfield 82, 0)] (pc' := 85) (ls' := [some (.ref 137), some (.int w28)]) (st' := []) (T1 := mz q25.2 8 ((q25.2.1 0 8) + 1)) (by decide +kernel) rfl ?_
            obtain ⟨T32, hT32, hf⟩ := letv_some hf
            rw [← hT32]
            refine MW.run rfl [(.aload_n 0, 0)] (pc' := 86) (ls' := [some (.ref 137), some (.int w28)]) (st' := [.ref 137]) (T1 := T32) (by decide +kernel) rfl ?_
            obtain ⟨q33, hq33, hf⟩ := bd_some hf
            refine MW.callV (As := []) (st := []) lv_RX12_160 rfl (by decide +kernel) (xm_value hq33) (by decide) (by decide) rfl (Nat.le_of_ble_eq_true rfl) rfl ?_
            show MW l yy_X12_term 4 _ _ 89 [some (.ref 137), some (.int w28)] [.int (b2i q33.1)] q33.2
            refine MW.if_ne (off := 5) (tgt := 94) (by decide +kernel) (by decide) (fun c89_34 => ?_) (fun c89_34 => ?_)
            · rw [if_neg c89_34] at hf
              refine MW.run rfl [(.aload_n 0, 0), (.iload_n 1, 0), (.iconst 0, 0)] (pc' := 97) (ls' := [some (.ref 137), some (.int w28)]) (st' := [.int 0, .int w28, .ref 137]) (T1 := q33.2) (by decide +kernel) rfl ?_
              obtain ⟨q35, hq35, hf⟩ := bd_some hf
              refine MW.callV (As := [.int w28, .int 0]) (st := []) lv_RX12_146 rfl (by decide +kernel) (xm_puts hq35) (by decide) (by decide) rfl (Nat.le_of_ble_eq_true rfl) rfl ?_
              show MW l yy_X12_term 4 _ _ 100 [some (.ref 137), some (.int w28)] [] q35
              refine MW.run rfl [(.goto (-91), 0)] (pc' := 9) (ls' := [some (.ref 137), some (.int w28)]) (st' := []) (T1 := q35) (by decide +kernel) rfl ?_
              refine MW.fgt (ls' := [some (.ref 137), none]) (by repeat' (first | exact trivial | refine ⟨rfl, ?_⟩)) ?_
              exact ih _ _ hf hk1 hk2
            · rw [if_pos c89_34] at hf
              refine MW.run rfl [(.iconst 0, 0)] (pc' := 93) (ls' := [some (.ref 137), some (.int w28)]) (st' := [.int 0]) (T1 := q33.2) (by decide +kernel) rfl ?_
              have e9 := Option.some.inj hf
              subst e9
              obtain ⟨e1, e2⟩ := (hk2 _ rfl)
              subst e1
              subst e2
              exact MW.zret rfl (b2i_nar _) (by decide +kernel)
          clear hf
          refine MW.icmp_ne (off := 7) (tgt := 54) (by decide +kernel) (by decide) (fun c47_29 => ?_) (fun c47_29 => ?_)
          · rw [if_neg c47_29] at hw28
            refine MW.run rfl [(.aload_n 0, 0), (.getfield 7, 0), (.aload_n 0, 0), (.getfield 82, 0)] (pc' := 62) (ls' := [some (.ref 137), none]) (st' := [.int (q25.2.1 0 8), .ref 138]) (T1 := q25.2) (by decide +kernel) rfl ?_
            obtain ⟨hi_v30, hw28⟩ := bi_some hw28
            obtain ⟨v30, hv30, hw28⟩ := letv_some hw28
            refine MW.bald 1 400 rfl (by decide) rfl (by decide +kernel) (inb_in hi_v30) ?_
            rw [← hv30]
            refine MW.run rfl [(.bipush 47, 47)] (pc' := 65) (ls' := [some (.ref 137), none]) (st' := [.int 47, .int v30]) (T1 := q25.2) (by decide +kernel) rfl ?_
            refine MW.icmp_ne (off := 7) (tgt := 72) (by decide +kernel) (by decide) (fun c65_31 => ?_) (fun c65_31 => ?_)
            · rw [if_neg c65_31] at hw28
              refine MW.run rfl [(.bipush 14, 14)] (pc' := 74) (ls' := [some (.ref 137), none]) (st' := [.int 14]) (T1 := q25.2) (by decide +kernel) rfl ?_
              have e9 := Option.some.inj hw28
              subst e9
              exact hJ
            · rw [if_pos c65_31] at hw28
              refine MW.run rfl [(.iconst 5, 5), (.goto 5, 0)] (pc' := 74) (ls' := [some (.ref 137), none]) (st' := [.int 5]) (T1 := q25.2) (by decide +kernel) rfl ?_
              have e9 := Option.some.inj hw28
              subst e9
              exact hJ
          · rw [if_pos c47_29] at hw28
            refine MW.run rfl [(.iconst 4, 4), (.goto 23, 0)] (pc' := 74) (ls' := [some (.ref 137), none]) (st' := [.int 4]) (T1 := q25.2) (by decide +kernel) rfl ?_
            have e9 := Option.some.inj hw28
            subst e9
            exact hJ
theorem xm_term {l : Launch}  {T : mT} {q : Bool × mT} (hf : fm_term  T = some q) : MOk l yy_X12_term 4 [] T (some (.int (b2i q.1))) q.2 := by
  refine MOk.of (ls := [some (.ref 137), none]) (by decide +kernel) (Nat.le_of_ble_eq_true rfl) rfl ?_
  unfold fm_term at hf
  refine MW.run rfl [(.aload_n 0, 0)] (pc' := 1) (ls' := [some (.ref 137), none]) (st' := [.ref 137]) (T1 := T) (by decide +kernel) rfl ?_
  obtain ⟨q1, hq1, hf⟩ := bd_some hf
  refine MW.callV (As := []) (st := []) lv_RX12_160 rfl (by decide +kernel) (xm_value hq1) (by decide) (by decide) rfl (Nat.le_of_ble_eq_true rfl) rfl ?_
  show MW l yy_X12_term 4 _ _ 4 [some (.ref 137), none] [.int (b2i q1.1)] q1.2
  refine MW.if_ne (off := 5) (tgt := 9) (by decide +kernel) (by decide) (fun c4_2 => ?_) (fun c4_2 => ?_)
  · rw [if_neg c4_2] at hf
    obtain ⟨w36, hw36, hf⟩ := bd_some hf
    refine xm_term_L9  FU _ _ hw36 (fun w36a hsw36 => ?_) (fun w36b hsw36 => ?_)
    · subst hsw36
      simp only [Sum.elim_inl] at hf
      refine MW.run rfl [(.iconst 1, 1)] (pc' := 104) (ls' := [some (.ref 137), none]) (st' := [.int 1]) (T1 := w36a) (by decide +kernel) rfl ?_
      have e9 := Option.some.inj hf
      subst e9
      exact MW.zret rfl (b2i_nar _) (by decide +kernel)
    · subst hsw36
      simp only [Sum.elim_inr] at hf
      have e9 := Option.some.inj hf
      subst e9
      exact ⟨rfl, rfl⟩
  · rw [if_pos c4_2] at hf
    refine MW.run rfl [(.iconst 0, 0)] (pc' := 8) (ls' := [some (.ref 137), none]) (st' := [.int 0]) (T1 := q1.2) (by decide +kernel) rfl ?_
    have e9 := Option.some.inj hf
    subst e9
    exact MW.zret rfl (b2i_nar _) (by decide +kernel)
def fm_summed_L9  : Nat → mT → Option ((mT) ⊕ (Bool × mT))
  | 0, _ => none
  | N + 1, T => (fm_see T).bind fun q3 => if q3.1 = 43 then (bif inb (q3.2.1 0 8) 400 then (letv (q3.2.1 1 ((q3.2.1 0 8) : Int32).toNatClampNeg) fun v5 => Option.bind (if v5 = 43 then (some (2)) else (some (3)) : Option (Int32)) fun w6 => letv (mz q3.2 8 ((q3.2.1 0 8) + 1)) fun T8 => (fm_term T8).bind fun q9 => if (b2i q9.1) = 0 then (some (.inr (false, q9.2))) else ((fm_puts w6 0 q9.2).bind fun q11 => fm_summed_L9  N  q11)) else none) else ((fm_see q3.2).bind fun q12 => if q12.1 = 45 then (bif inb (q12.2.1 0 8) 400 then (letv (q12.2.1 1 ((q12.2.1 0 8) : Int32).toNatClampNeg) fun v14 => Option.bind (if v14 = 43 then (some (2)) else (some (3)) : Option (Int32)) fun w15 => letv (mz q12.2 8 ((q12.2.1 0 8) + 1)) fun T17 => (fm_term T17).bind fun q18 => if (b2i q18.1) = 0 then (some (.inr (false, q18.2))) else ((fm_puts w15 0 q18.2).bind fun q20 => fm_summed_L9  N  q20)) else none) else (some (.inl (q12.2))))
def fm_summed  (T : mT) : Option (Bool × mT) := (fm_term T).bind fun q1 => if (b2i q1.1) = 0 then (some (false, q1.2)) else ((fm_summed_L9 FU q1.2).bind fun w21 => Sum.elim (fun w21a => some (true, w21a)) (fun w21b => some w21b) w21)
theorem xm_summed_L9 {l : Launch} {r : Option Value} {T' : mT}  : ∀ (N : Nat) (T : mT) (W0 : (mT) ⊕ (Bool × mT)) (_ : fm_summed_L9  N  T = some W0) (_ : ∀ W, W0 = .inl W → MW l yy_X12_summed 5 r T' 75 [some (.ref 137), none] [] W) (_ : ∀ Y, W0 = .inr Y → r = some (.int (b2i (Y.1))) ∧ T' = Y.2), MW l yy_X12_summed 5 r T' 9 [some (.ref 137), none] [] T := by
  intro N
  induction N with
  | zero =>
    intro  T W0 hf _ _
    cases hf
  | succ N ih =>
    intro  T W0 hf hk1 hk2
    unfold fm_summed_L9 at hf
    refine MW.run rfl [(.aload_n 0, 0)] (pc' := 10) (ls' := [some (.ref 137), none]) (st' := [.ref 137]) (T1 := T) (by decide +kernel) rfl ?_
    obtain ⟨q3, hq3, hf⟩ := bd_some hf
    refine MW.callV (As := []) (st := []) lv_RX12_85 rfl (by decide +kernel) (xm_see hq3) (by decide) (by decide) rfl (Nat.le_of_ble_eq_true rfl) rfl ?_
    show MW l yy_X12_summed 5 _ _ 13 [some (.ref 137), none] [.int q3.1] q3.2
    refine MW.run rfl [(.bipush 43, 43)] (pc' := 15) (ls' := [some (.ref 137), none]) (st' := [.int 43, .int q3.1]) (T1 := q3.2) (by decide +kernel) rfl ?_
    refine MW.icmp_eq (off := 12) (tgt := 27) (by decide +kernel) (by decide) (fun c15_4 => ?_) (fun c15_4 => ?_)
    · rw [if_pos c15_4] at hf
      refine MW.run rfl [(.aload_n 0, 0), (.getfield 7, 0), (.aload_n 0, 0), (.getfield 82, 0)] (pc' := 35) (ls' := [some (.ref 137), none]) (st' := [.int (q3.2.1 0 8), .ref 138]) (T1 := q3.2) (by decide +kernel) rfl ?_
      obtain ⟨hi_v5, hf⟩ := bi_some hf
      obtain ⟨v5, hv5, hf⟩ := letv_some hf
      refine MW.bald 1 400 rfl (by decide) rfl (by decide +kernel) (inb_in hi_v5) ?_
      rw [← hv5]
      refine MW.run rfl [(.bipush 43, 43)] (pc' := 38) (ls' := [some (.ref 137), none]) (st' := [.int 43, .int v5]) (T1 := q3.2) (by decide +kernel) rfl ?_
      obtain ⟨w6, hw6, hf⟩ := bd_some hf
      have hJ : MW l yy_X12_summed 5 r T' 46 [some (.ref 137), none] [.int w6] q3.2 := by
        refine MW.run rfl [(.istore_n 1, 0), (.aload_n 0, 0), (.dup, 0), (.getfield 82, 0), (.iconst 1, 1), (.iadd, 0), (.putfield 82, 0)] (pc' := 57) (ls' := [some (.ref 137), some (.int w6)]) (st' := []) (T1 := mz q3.2 8 ((q3.2.1 0 8) + 1)) (by decide +kernel) rfl ?_
        obtain ⟨T8, hT8, hf⟩ := letv_some hf
        rw [← hT8]
        refine MW.run rfl [(.aload_n 0, 0)] (pc' := 58) (ls' := [some (.ref 137), some (.int w6)]) (st' := [.ref 137]) (T1 := T8) (by decide +kernel) rfl ?_
        obtain ⟨q9, hq9, hf⟩ := bd_some hf
        refine MW.callV (As := []) (st := []) lv_RX12_164 rfl (by decide +kernel) (xm_term hq9) (by decide) (by decide) rfl (Nat.le_of_ble_eq_true rfl) rfl ?_
        show MW l yy_X12_summed 5 _ _ 61 [some (.ref 137), some (.int w6)] [.int (b2i q9.1)] q9.2
        refine MW.if_ne (off := 5) (tgt := 66) (by decide +kernel) (by decide) (fun c61_10 => ?_) (fun c61_10 => ?_)
        · rw [if_neg c61_10] at hf
          refine MW.run rfl [(.aload_n 0, 0), (.iload_n 1, 0), (.iconst 0, 0)] (pc' := 69) (ls' := [some (.ref 137), some (.int w6)]) (st' := [.int 0, .int w6, .ref 137]) (T1 := q9.2) (by decide +kernel) rfl ?_
          obtain ⟨q11, hq11, hf⟩ := bd_some hf
          refine MW.callV (As := [.int w6, .int 0]) (st := []) lv_RX12_146 rfl (by decide +kernel) (xm_puts hq11) (by decide) (by decide) rfl (Nat.le_of_ble_eq_true rfl) rfl ?_
          show MW l yy_X12_summed 5 _ _ 72 [some (.ref 137), some (.int w6)] [] q11
          refine MW.run rfl [(.goto (-63), 0)] (pc' := 9) (ls' := [some (.ref 137), some (.int w6)]) (st' := []) (T1 := q11) (by decide +kernel) rfl ?_
          refine MW.fgt (ls' := [some (.ref 137), none]) (by repeat' (first | exact trivial | refine ⟨rfl, ?_⟩)) ?_
          exact ih _ _ hf hk1 hk2
        · rw [if_pos c61_10] at hf
          refine MW.run rfl [(.iconst 0, 0)] (pc' := 65) (ls' := [some (.ref 137), some (.int w6)]) (st' := [.int 0]) (T1 := q9.2) (by decide +kernel) rfl ?_
          have e9 := Option.some.inj hf
          subst e9
          obtain ⟨e1, e2⟩ := (hk2 _ rfl)
          subst e1
          subst e2
          exact MW.zret rfl (b2i_nar _) (by decide +kernel)
      clear hf
      refine MW.icmp_ne (off := 7) (tgt := 45) (by decide +kernel) (by decide) (fun c38_7 => ?_) (fun c38_7 => ?_)
      · rw [if_neg c38_7] at hw6
        refine MW.run rfl [(.iconst 3, 3)] (pc' := 46) (ls' := [some (.ref 137), none]) (st' := [.int 3]) (T1 := q3.2) (by decide +kernel) rfl ?_
        have e9 := Option.some.inj hw6
        subst e9
        exact hJ
      · rw [if_pos c38_7] at hw6
        refine MW.run rfl [(.iconst 2, 2), (.goto 4, 0)] (pc' := 46) (ls' := [some (.ref 137), none]) (st' := [.int 2]) (T1 := q3.2) (by decide +kernel) rfl ?_
        have e9 := Option.some.inj hw6
        subst e9
        exact hJ
    · rw [if_neg c15_4] at hf
      refine MW.run rfl [(.aload_n 0, 0)] (pc' := 19) (ls' := [some (.ref 137), none]) (st' := [.ref 137]) (T1 := q3.2) (by decide +kernel) rfl ?_
      obtain ⟨q12, hq12, hf⟩ := bd_some hf
      refine MW.callV (As := []) (st := []) lv_RX12_85 rfl (by decide +kernel) (xm_see hq12) (by decide) (by decide) rfl (Nat.le_of_ble_eq_true rfl) rfl ?_
      show MW l yy_X12_summed 5 _ _ 22 [some (.ref 137), none] [.int q12.1] q12.2
      refine MW.run rfl [(.bipush 45, 45)] (pc' := 24) (ls' := [some (.ref 137), none]) (st' := [.int 45, .int q12.1]) (T1 := q12.2) (by decide +kernel) rfl ?_
      refine MW.icmp_ne (off := 51) (tgt := 75) (by decide +kernel) (by decide) (fun c24_13 => ?_) (fun c24_13 => ?_)
      · rw [if_neg c24_13] at hf
        have e9 := Option.some.inj hf
        subst e9
        exact hk1 (q12.2) rfl
      · rw [if_pos c24_13] at hf
        refine MW.run rfl [(.aload_n 0, 0), (.getfield 7, 0), (.aload_n 0, 0), (.getfield 82, 0)] (pc' := 35) (ls' := [some (.ref 137), none]) (st' := [.int (q12.2.1 0 8), .ref 138]) (T1 := q12.2) (by decide +kernel) rfl ?_
        obtain ⟨hi_v14, hf⟩ := bi_some hf
        obtain ⟨v14, hv14, hf⟩ := letv_some hf
        refine MW.bald 1 400 rfl (by decide) rfl (by decide +kernel) (inb_in hi_v14) ?_
        rw [← hv14]
        refine MW.run rfl [(.bipush 43, 43)] (pc' := 38) (ls' := [some (.ref 137), none]) (st' := [.int 43, .int v14]) (T1 := q12.2) (by decide +kernel) rfl ?_
        obtain ⟨w15, hw15, hf⟩ := bd_some hf
        have hJ : MW l yy_X12_summed 5 r T' 46 [some (.ref 137), none] [.int w15] q12.2 := by
          refine MW.run rfl [(.istore_n 1, 0), (.aload_n 0, 0), (.dup, 0), (.getfield 82, 0), (.iconst 1, 1), (.iadd, 0), (.putfield 82, 0)] (pc' := 57) (ls' := [some (.ref 137), some (.int w15)]) (st' := []) (T1 := mz q12.2 8 ((q12.2.1 0 8) + 1)) (by decide +kernel) rfl ?_
          obtain ⟨T17, hT17, hf⟩ := letv_some hf
          rw [← hT17]
          refine MW.run rfl [(.aload_n 0, 0)] (pc' := 58) (ls' := [some (.ref 137), some (.int w15)]) (st' := [.ref 137]) (T1 := T17) (by decide +kernel) rfl ?_
          obtain ⟨q18, hq18, hf⟩ := bd_some hf
          refine MW.callV (As := []) (st := []) lv_RX12_164 rfl (by decide +kernel) (xm_term hq18) (by decide) (by decide) rfl (Nat.le_of_ble_eq_true rfl) rfl ?_
          show MW l yy_X12_summed 5 _ _ 61 [some (.ref 137), some (.int w15)] [.int (b2i q18.1)] q18.2
          refine MW.if_ne (off := 5) (tgt := 66) (by decide +kernel) (by decide) (fun c61_19 => ?_) (fun c61_19 => ?_)
          · rw [if_neg c61_19] at hf
            refine MW.run rfl [(.aload_n 0, 0), (.iload_n 1, 0), (.iconst 0, 0)] (pc' := 69) (ls' := [some (.ref 137), some (.int w15)]) (st' := [.int 0, .int w15, .ref 137]) (T1 := q18.2) (by decide +kernel) rfl ?_
            obtain ⟨q20, hq20, hf⟩ := bd_some hf
            refine MW.callV (As := [.int w15, .int 0]) (st := []) lv_RX12_146 rfl (by decide +kernel) (xm_puts hq20) (by decide) (by decide) rfl (Nat.le_of_ble_eq_true rfl) rfl ?_
            show MW l yy_X12_summed 5 _ _ 72 [some (.ref 137), some (.int w15)] [] q20
            refine MW.run rfl [(.goto (-63), 0)] (pc' := 9) (ls' := [some (.ref 137), some (.int w15)]) (st' := []) (T1 := q20) (by decide +kernel) rfl ?_
            refine MW.fgt (ls' := [some (.ref 137), none]) (by repeat' (first | exact trivial | refine ⟨rfl, ?_⟩)) ?_
            exact ih _ _ hf hk1 hk2
          · rw [if_pos c61_19] at hf
            refine MW.run rfl [(.iconst 0, 0)] (pc' := 65) (ls' := [some (.ref 137), some (.int w15)]) (st' := [.int 0]) (T1 := q18.2) (by decide +kernel) rfl ?_
            have e9 := Option.some.inj hf
            subst e9
            obtain ⟨e1, e2⟩ := (hk2 _ rfl)
            subst e1
            subst e2
            exact MW.zret rfl (b2i_nar _) (by decide +kernel)
        clear hf
        refine MW.icmp_ne (off := 7) (tgt := 45) (by decide +kernel) (by decide) (fun c38_16 => ?_) (fun c38_16 => ?_)
        · rw [if_neg c38_16] at hw15
          refine MW.run rfl [(.iconst 3, 3)] (pc' := 46) (ls' := [some (.ref 137), none]) (st' := [.int 3]) (T1 := q12.2) (by decide +kernel) rfl ?_
          have e9 := Option.some.inj hw15
          subst e9
          exact hJ
        · rw [if_pos c38_16] at hw15
          refine MW.run rfl [(.iconst 2, 2), (.goto 4, 0)] (pc' := 46) (ls' := [some (.ref 137), none]) (st' := [.int 2]) (T1 := q12.2) (by decide +kernel) rfl ?_
          have e9 := Option.some.inj hw15
          subst e9
          exact hJ
theorem xm_summed {l : Launch}  {T : mT} {q : Bool × mT} (hf : fm_summed  T = some q) : MOk l yy_X12_summed 5 [] T (some (.int (b2i q.1))) q.2 := by
  refine MOk.of (ls := [some (.ref 137), none]) (by decide +kernel) (Nat.le_of_ble_eq_true rfl) rfl ?_
  unfold fm_summed at hf
  refine MW.run rfl [(.aload_n 0, 0)] (pc' := 1) (ls' := [some (.ref 137), none]) (st' := [.ref 137]) (T1 := T) (by decide +kernel) rfl ?_
  obtain ⟨q1, hq1, hf⟩ := bd_some hf
  refine MW.callV (As := []) (st := []) lv_RX12_164 rfl (by decide +kernel) (xm_term hq1) (by decide) (by decide) rfl (Nat.le_of_ble_eq_true rfl) rfl ?_
  show MW l yy_X12_summed 5 _ _ 4 [some (.ref 137), none] [.int (b2i q1.1)] q1.2
  refine MW.if_ne (off := 5) (tgt := 9) (by decide +kernel) (by decide) (fun c4_2 => ?_) (fun c4_2 => ?_)
  · rw [if_neg c4_2] at hf
    obtain ⟨w21, hw21, hf⟩ := bd_some hf
    refine xm_summed_L9  FU _ _ hw21 (fun w21a hsw21 => ?_) (fun w21b hsw21 => ?_)
    · subst hsw21
      simp only [Sum.elim_inl] at hf
      refine MW.run rfl [(.iconst 1, 1)] (pc' := 76) (ls' := [some (.ref 137), none]) (st' := [.int 1]) (T1 := w21a) (by decide +kernel) rfl ?_
      have e9 := Option.some.inj hf
      subst e9
      exact MW.zret rfl (b2i_nar _) (by decide +kernel)
    · subst hsw21
      simp only [Sum.elim_inr] at hf
      have e9 := Option.some.inj hf
      subst e9
      exact ⟨rfl, rfl⟩
  · rw [if_pos c4_2] at hf
    refine MW.run rfl [(.iconst 0, 0)] (pc' := 8) (ls' := [some (.ref 137), none]) (st' := [.int 0]) (T1 := q1.2) (by decide +kernel) rfl ?_
    have e9 := Option.some.inj hf
    subst e9
    exact MW.zret rfl (b2i_nar _) (by decide +kernel)
def fm_compare  (T : mT) : Option (Bool × mT) := (fm_summed T).bind fun q1 => if (b2i q1.1) = 0 then (some (false, q1.2)) else ((fm_see q1.2).bind fun q3 => if q3.1 = 60 then (letv (mz q3.2 8 ((q3.2.1 0 8) + 1)) fun T5 => Option.bind (if q3.1 = 61 then (some (0)) else (if (T5.1 0 1) ≤ (T5.1 0 8) then (some (0)) else (bif inb (T5.1 0 8) 400 then (letv (T5.1 1 ((T5.1 0 8) : Int32).toNatClampNeg) fun v9 => if v9 = 61 then (some (1)) else (some (0))) else none)) : Option (Int32)) fun w6 => Option.bind (if w6 = 0 then (some (T5)) else (letv (mz T5 8 ((T5.1 0 8) + 1)) fun T13 => some (T13)) : Option (mT)) fun w11 => (fm_makes (q3.2.1 0 8) w11).bind fun q14 => if (b2i q14.1) = 0 then (some (false, q14.2)) else (Option.bind (if q3.1 = 60 then (if w6 = 0 then (some (0)) else (some (1))) else (if q3.1 = 61 then (some (2)) else (if w6 = 0 then (some (4)) else (some (3)))) : Option (Int32)) fun w16 => (fm_summed q14.2).bind fun q21 => if (b2i q21.1) = 0 then (some (false, q21.2)) else ((fm_puts (6 + w16) 0 q21.2).bind fun q23 => some (true, q23)))) else (if q3.1 = 61 then (letv (mz q3.2 8 ((q3.2.1 0 8) + 1)) fun T25 => Option.bind (if q3.1 = 61 then (some (0)) else (if (T25.1 0 1) ≤ (T25.1 0 8) then (some (0)) else (bif inb (T25.1 0 8) 400 then (letv (T25.1 1 ((T25.1 0 8) : Int32).toNatClampNeg) fun v29 => if v29 = 61 then (some (1)) else (some (0))) else none)) : Option (Int32)) fun w26 => Option.bind (if w26 = 0 then (some (T25)) else (letv (mz T25 8 ((T25.1 0 8) + 1)) fun T33 => some (T33)) : Option (mT)) fun w31 => (fm_makes (q3.2.1 0 8) w31).bind fun q34 => if (b2i q34.1) = 0 then (some (false, q34.2)) else (Option.bind (if q3.1 = 60 then (if w26 = 0 then (some (0)) else (some (1))) else (if q3.1 = 61 then (some (2)) else (if w26 = 0 then (some (4)) else (some (3)))) : Option (Int32)) fun w36 => (fm_summed q34.2).bind fun q41 => if (b2i q41.1) = 0 then (some (false, q41.2)) else ((fm_puts (6 + w36) 0 q41.2).bind fun q43 => some (true, q43)))) else (if q3.1 = 62 then (letv (mz q3.2 8 ((q3.2.1 0 8) + 1)) fun T45 => Option.bind (if q3.1 = 61 then (some (0)) else (if (T45.1 0 1) ≤ (T45.1 0 8) then (some (0)) else (bif inb (T45.1 0 8) 400 then (letv (T45.1 1 ((T45.1 0 8) : Int32).toNatClampNeg) fun v49 => if v49 = 61 then (some (1)) else (some (0))) else none)) : Option (Int32)) fun w46 => Option.bind (if w46 = 0 then (some (T45)) else (letv (mz T45 8 ((T45.1 0 8) + 1)) fun T53 => some (T53)) : Option (mT)) fun w51 => (fm_makes (q3.2.1 0 8) w51).bind fun q54 => if (b2i q54.1) = 0 then (some (false, q54.2)) else (Option.bind (if q3.1 = 60 then (if w46 = 0 then (some (0)) else (some (1))) else (if q3.1 = 61 then (some (2)) else (if w46 = 0 then (some (4)) else (some (3)))) : Option (Int32)) fun w56 => (fm_summed q54.2).bind fun q61 => if (b2i q61.1) = 0 then (some (false, q61.2)) else ((fm_puts (6 + w56) 0 q61.2).bind fun q63 => some (true, q63)))) else ((fm_fails 0 (q3.2.1 0 8) q3.2).bind fun q64 => some (q64.1, q64.2)))))
theorem xm_compare {l : Launch}  {T : mT} {q : Bool × mT} (hf : fm_compare  T = some q) : MOk l yy_X12_compare 6 [] T (some (.int (b2i q.1))) q.2 := by
  refine MOk.of (ls := [some (.ref 137), none, none, none, none]) (by decide +kernel) (Nat.le_of_ble_eq_true rfl) rfl ?_
  unfold fm_compare at hf
  refine MW.run rfl [(.aload_n 0, 0)] (pc' := 1) (ls' := [some (.ref 137), none, none, none, none]) (st' := [.ref 137]) (T1 := T) (by decide +kernel) rfl ?_
  obtain ⟨q1, hq1, hf⟩ := bd_some hf
  refine MW.callV (As := []) (st := []) lv_RX12_167 rfl (by decide +kernel) (xm_summed hq1) (by decide) (by decide) rfl (Nat.le_of_ble_eq_true rfl) rfl ?_
  show MW l yy_X12_compare 6 _ _ 4 [some (.ref 137), none, none, none, none] [.int (b2i q1.1)] q1.2
  refine MW.if_ne (off := 5) (tgt := 9) (by decide +kernel) (by decide) (fun c4_2 => ?_) (fun c4_2 => ?_)
  · rw [if_neg c4_2] at hf
    refine MW.run rfl [(.aload_n 0, 0)] (pc' := 10) (ls' := [some (.ref 137), none, none, none, none]) (st' := [.ref 137]) (T1 := q1.2) (by decide +kernel) rfl ?_
    obtain ⟨q3, hq3, hf⟩ := bd_some hf
    refine MW.callV (As := []) (st := []) lv_RX12_85 rfl (by decide +kernel) (xm_see hq3) (by decide) (by decide) rfl (Nat.le_of_ble_eq_true rfl) rfl ?_
    show MW l yy_X12_compare 6 _ _ 13 [some (.ref 137), none, none, none, none] [.int q3.1] q3.2
    refine MW.run rfl [(.istore_n 1, 0), (.aload_n 0, 0), (.getfield 82, 0), (.istore_n 2, 0), (.iload_n 1, 0), (.bipush 60, 60)] (pc' := 22) (ls' := [some (.ref 137), some (.int q3.1), some (.int (q3.2.1 0 8)), none, none]) (st' := [.int 60, .int q3.1]) (T1 := q3.2) (by decide +kernel) rfl ?_
    refine MW.icmp_eq (off := 22) (tgt := 44) (by decide +kernel) (by decide) (fun c22_4 => ?_) (fun c22_4 => ?_)
    · rw [if_pos c22_4] at hf
      refine MW.run rfl [(.aload_n 0, 0), (.dup, 0), (.getfield 82, 0), (.iconst 1, 1), (.iadd, 0), (.putfield 82, 0)] (pc' := 54) (ls' := [some (.ref 137), some (.int q3.1), some (.int (q3.2.1 0 8)), none, none]) (st' := []) (T1 := mz q3.2 8 ((q3.2.1 0 8) + 1)) (by decide +kernel) rfl ?_
      obtain ⟨T5, hT5, hf⟩ := letv_some hf
      rw [← hT5]
      refine MW.run rfl [(.iload_n 1, 0), (.bipush 61, 61)] (pc' := 57) (ls' := [some (.ref 137), some (.int q3.1), some (.int (q3.2.1 0 8)), none, none]) (st' := [.int 61, .int q3.1]) (T1 := T5) (by decide +kernel) rfl ?_
      obtain ⟨w6, hw6, hf⟩ := bd_some hf
      have hJ : MW l yy_X12_compare 6 (some (.int (b2i q.1))) q.2 90 [some (.ref 137), some (.int q3.1), some (.int (q3.2.1 0 8)), none, none] [.int w6] T5 := by
        refine MW.run rfl [(.istore_n 3, 0), (.iload_n 3, 0)] (pc' := 92) (ls' := [some (.ref 137), some (.int q3.1), some (.int (q3.2.1 0 8)), some (.int w6), none]) (st' := [.int w6]) (T1 := T5) (by decide +kernel) rfl ?_
        obtain ⟨w11, hw11, hf⟩ := bd_some hf
        have hJ : MW l yy_X12_compare 6 (some (.int (b2i q.1))) q.2 105 [some (.ref 137), some (.int q3.1), some (.int (q3.2.1 0 8)), some (.int w6), none] [] w11 := by
          refine MW.run rfl [(.aload_n 0, 0), (.iload_n 2, 0)] (pc' := 107) (ls' := [some (.ref 137), some (.int q3.1), some (.int (q3.2.1 0 8)), some (.int w6), none]) (st' := [.int (q3.2.1 0 8), .ref 137]) (T1 := w11) (by decide +kernel) rfl ?_
          obtain ⟨q14, hq14, hf⟩ := bd_some hf
          refine MW.callV (As := [.int (q3.2.1 0 8)]) (st := []) lv_RX12_154 rfl (by decide +kernel) (xm_makes hq14) (by decide) (by decide) rfl (Nat.le_of_ble_eq_true rfl) rfl ?_
          show MW l yy_X12_compare 6 _ _ 110 [some (.ref 137), some (.int q3.1), some (.int (q3.2.1 0 8)), some (.int w6), none] [.int (b2i q14.1)] q14.2
          refine MW.if_ne (off := 5) (tgt := 115) (by decide +kernel) (by decide) (fun c110_15 => ?_) (fun c110_15 => ?_)
          · rw [if_neg c110_15] at hf
            refine MW.run rfl [(.iload_n 1, 0), (.bipush 60, 60)] (pc' := 118) (ls' := [some (.ref 137), some (.int q3.1), some (.int (q3.2.1 0 8)), some (.int w6), none]) (st' := [.int 60, .int q3.1]) (T1 := q14.2) (by decide +kernel) rfl ?_
            obtain ⟨w16, hw16, hf⟩ := bd_some hf
            have hJ : MW l yy_X12_compare 6 (some (.int (b2i q.1))) q.2 152 [some (.ref 137), some (.int q3.1), some (.int (q3.2.1 0 8)), some (.int w6), none] [.int w16] q14.2 := by
              refine MW.run rfl [(.istore 4, 0), (.aload_n 0, 0)] (pc' := 155) (ls' := [some (.ref 137), some (.int q3.1), some (.int (q3.2.1 0 8)), some (.int w6), some (.int w16)]) (st' := [.ref 137]) (T1 := q14.2) (by decide +kernel) rfl ?_
              obtain ⟨q21, hq21, hf⟩ := bd_some hf
              refine MW.callV (As := []) (st := []) lv_RX12_167 rfl (by decide +kernel) (xm_summed hq21) (by decide) (by decide) rfl (Nat.le_of_ble_eq_true rfl) rfl ?_
              show MW l yy_X12_compare 6 _ _ 158 [some (.ref 137), some (.int q3.1), some (.int (q3.2.1 0 8)), some (.int w6), some (.int w16)] [.int (b2i q21.1)] q21.2
              refine MW.if_ne (off := 5) (tgt := 163) (by decide +kernel) (by decide) (fun c158_22 => ?_) (fun c158_22 => ?_)
              · rw [if_neg c158_22] at hf
                refine MW.run rfl [(.aload_n 0, 0), (.bipush 6, 6), (.iload 4, 0), (.iadd, 0), (.iconst 0, 0)] (pc' := 170) (ls' := [some (.ref 137), some (.int q3.1), some (.int (q3.2.1 0 8)), some (.int w6), some (.int w16)]) (st' := [.int 0, .int (6 + w16), .ref 137]) (T1 := q21.2) (by decide +kernel) rfl ?_
                obtain ⟨q23, hq23, hf⟩ := bd_some hf
                refine MW.callV (As := [.int (6 + w16), .int 0]) (st := []) lv_RX12_146 rfl (by decide +kernel) (xm_puts hq23) (by decide) (by decide) rfl (Nat.le_of_ble_eq_true rfl) rfl ?_
                show MW l yy_X12_compare 6 _ _ 173 [some (.ref 137), some (.int q3.1), some (.int (q3.2.1 0 8)), some (.int w6), some (.int w16)] [] q23
                refine MW.run rfl [(.iconst 1, 1)] (pc' := 174) (ls' := [some (.ref 137), some (.int q3.1), some (.int (q3.2.1 0 8)), some (.int w6), some (.int w16)]) (st' := [.int 1]) (T1 := q23) (by decide +kernel) rfl ?_
                have e9 := Option.some.inj hf
                subst e9
                exact MW.zret rfl (b2i_nar _) (by decide +kernel)
              · rw [if_pos c158_22] at hf
                refine MW.run rfl [(.iconst 0, 0)] (pc' := 162) (ls' := [some (.ref 137), some (.int q3.1), some (.int (q3.2.1 0 8)), some (.int w6), some (.int w16)]) (st' := [.int 0]) (T1 := q21.2) (by decide +kernel) rfl ?_
                have e9 := Option.some.inj hf
                subst e9
                exact MW.zret rfl (b2i_nar _) (by decide +kernel)
            clear hf
            refine MW.icmp_ne (off := 15) (tgt := 133) (by decide +kernel) (by decide) (fun c118_17 => ?_) (fun c118_17 => ?_)
            · rw [if_neg c118_17] at hw16
              refine MW.run rfl [(.iload_n 1, 0), (.bipush 61, 61)] (pc' := 136) (ls' := [some (.ref 137), some (.int q3.1), some (.int (q3.2.1 0 8)), some (.int w6), none]) (st' := [.int 61, .int q3.1]) (T1 := q14.2) (by decide +kernel) rfl ?_
              refine MW.icmp_ne (off := 7) (tgt := 143) (by decide +kernel) (by decide) (fun c136_18 => ?_) (fun c136_18 => ?_)
              · rw [if_neg c136_18] at hw16
                refine MW.run rfl [(.iload_n 3, 0)] (pc' := 144) (ls' := [some (.ref 137), some (.int q3.1), some (.int (q3.2.1 0 8)), some (.int w6), none]) (st' := [.int w6]) (T1 := q14.2) (by decide +kernel) rfl ?_
                refine MW.if_eq (off := 7) (tgt := 151) (by decide +kernel) (by decide) (fun c144_19 => ?_) (fun c144_19 => ?_)
                · rw [if_pos c144_19] at hw16
                  refine MW.run rfl [(.iconst 4, 4)] (pc' := 152) (ls' := [some (.ref 137), some (.int q3.1), some (.int (q3.2.1 0 8)), some (.int w6), none]) (st' := [.int 4]) (T1 := q14.2) (by decide +kernel) rfl ?_
                  have e9 := Option.some.inj hw16
                  subst e9
                  exact hJ
                · rw [if_neg c144_19] at hw16
                  refine MW.run rfl [(.iconst 3, 3), (.goto 4, 0)] (pc' := 152) (ls' := [some (.ref 137), some (.int q3.1), some (.int (q3.2.1 0 8)), some (.int w6), none]) (st' := [.int 3]) (T1 := q14.2) (by decide +kernel) rfl ?_
                  have e9 := Option.some.inj hw16
                  subst e9
                  exact hJ
              · rw [if_pos c136_18] at hw16
                refine MW.run rfl [(.iconst 2, 2), (.goto 12, 0)] (pc' := 152) (ls' := [some (.ref 137), some (.int q3.1), some (.int (q3.2.1 0 8)), some (.int w6), none]) (st' := [.int 2]) (T1 := q14.2) (by decide +kernel) rfl ?_
                have e9 := Option.some.inj hw16
                subst e9
                exact hJ
            · rw [if_pos c118_17] at hw16
              refine MW.run rfl [(.iload_n 3, 0)] (pc' := 122) (ls' := [some (.ref 137), some (.int q3.1), some (.int (q3.2.1 0 8)), some (.int w6), none]) (st' := [.int w6]) (T1 := q14.2) (by decide +kernel) rfl ?_
              refine MW.if_eq (off := 7) (tgt := 129) (by decide +kernel) (by decide) (fun c122_20 => ?_) (fun c122_20 => ?_)
              · rw [if_pos c122_20] at hw16
                refine MW.run rfl [(.iconst 0, 0), (.goto 22, 0)] (pc' := 152) (ls' := [some (.ref 137), some (.int q3.1), some (.int (q3.2.1 0 8)), some (.int w6), none]) (st' := [.int 0]) (T1 := q14.2) (by decide +kernel) rfl ?_
                have e9 := Option.some.inj hw16
                subst e9
                exact hJ
              · rw [if_neg c122_20] at hw16
                refine MW.run rfl [(.iconst 1, 1), (.goto 26, 0)] (pc' := 152) (ls' := [some (.ref 137), some (.int q3.1), some (.int (q3.2.1 0 8)), some (.int w6), none]) (st' := [.int 1]) (T1 := q14.2) (by decide +kernel) rfl ?_
                have e9 := Option.some.inj hw16
                subst e9
                exact hJ
          · rw [if_pos c110_15] at hf
            refine MW.run rfl [(.iconst 0, 0)] (pc' := 114) (ls' := [some (.ref 137), some (.int q3.1), some (.int (q3.2.1 0 8)), some (.int w6), none]) (st' := [.int 0]) (T1 := q14.2) (by decide +kernel) rfl ?_
            have e9 := Option.some.inj hf
            subst e9
            exact MW.zret rfl (b2i_nar _) (by decide +kernel)
        clear hf
        refine MW.if_eq (off := 13) (tgt := 105) (by decide +kernel) (by decide) (fun c92_12 => ?_) (fun c92_12 => ?_)
        · rw [if_pos c92_12] at hw11
          have e9 := Option.some.inj hw11
          subst e9
          exact hJ
        · rw [if_neg c92_12] at hw11
          refine MW.run rfl [(.aload_n 0, 0), (.dup, 0), (.getfield 82, 0), (.iconst 1, 1), (.iadd, 0), (.putfield 82, 0)] (pc' := 105) (ls' := [some (.ref 137), some (.int q3.1), some (.int (q3.2.1 0 8)), some (.int w6), none]) (st' := []) (T1 := mz T5 8 ((T5.1 0 8) + 1)) (by decide +kernel) rfl ?_
          obtain ⟨T13, hT13, hw11⟩ := letv_some hw11
          rw [← hT13]
          have e9 := Option.some.inj hw11
          subst e9
          exact hJ
      clear hf
      refine MW.icmp_eq (off := 32) (tgt := 89) (by decide +kernel) (by decide) (fun c57_7 => ?_) (fun c57_7 => ?_)
      · rw [if_pos c57_7] at hw6
        refine MW.run rfl [(.iconst 0, 0)] (pc' := 90) (ls' := [some (.ref 137), some (.int q3.1), some (.int (q3.2.1 0 8)), none, none]) (st' := [.int 0]) (T1 := T5) (by decide +kernel) rfl ?_
        have e9 := Option.some.inj hw6
        subst e9
        exact hJ
      · rw [if_neg c57_7] at hw6
        refine MW.run rfl [(.aload_n 0, 0), (.getfield 82, 0), (.aload_n 0, 0), (.getfield 72, 0)] (pc' := 68) (ls' := [some (.ref 137), some (.int q3.1), some (.int (q3.2.1 0 8)), none, none]) (st' := [.int (T5.1 0 1), .int (T5.1 0 8)]) (T1 := T5) (by decide +kernel) rfl ?_
        refine MW.icmp_ge (off := 21) (tgt := 89) (by decide +kernel) (by decide) (fun c68_8 => ?_) (fun c68_8 => ?_)
        · rw [if_pos c68_8] at hw6
          refine MW.run rfl [(.iconst 0, 0)] (pc' := 90) (ls' := [some (.ref 137), some (.int q3.1), some (.int (q3.2.1 0 8)), none, none]) (st' := [.int 0]) (T1 := T5) (by decide +kernel) rfl ?_
          have e9 := Option.some.inj hw6
          subst e9
          exact hJ
        · rw [if_neg c68_8] at hw6
          refine MW.run rfl [(.aload_n 0, 0), (.getfield 7, 0), (.aload_n 0, 0), (.getfield 82, 0)] (pc' := 79) (ls' := [some (.ref 137), some (.int q3.1), some (.int (q3.2.1 0 8)), none, none]) (st' := [.int (T5.1 0 8), .ref 138]) (T1 := T5) (by decide +kernel) rfl ?_
          obtain ⟨hi_v9, hw6⟩ := bi_some hw6
          obtain ⟨v9, hv9, hw6⟩ := letv_some hw6
          refine MW.bald 1 400 rfl (by decide) rfl (by decide +kernel) (inb_in hi_v9) ?_
          rw [← hv9]
          refine MW.run rfl [(.bipush 61, 61)] (pc' := 82) (ls' := [some (.ref 137), some (.int q3.1), some (.int (q3.2.1 0 8)), none, none]) (st' := [.int 61, .int v9]) (T1 := T5) (by decide +kernel) rfl ?_
          refine MW.icmp_ne (off := 7) (tgt := 89) (by decide +kernel) (by decide) (fun c82_10 => ?_) (fun c82_10 => ?_)
          · rw [if_neg c82_10] at hw6
            refine MW.run rfl [(.iconst 0, 0)] (pc' := 90) (ls' := [some (.ref 137), some (.int q3.1), some (.int (q3.2.1 0 8)), none, none]) (st' := [.int 0]) (T1 := T5) (by decide +kernel) rfl ?_
            have e9 := Option.some.inj hw6
            subst e9
            exact hJ
          · rw [if_pos c82_10] at hw6
            refine MW.run rfl [(.iconst 1, 1), (.goto 4, 0)] (pc' := 90) (ls' := [some (.ref 137), some (.int q3.1), some (.int (q3.2.1 0 8)), none, none]) (st' := [.int 1]) (T1 := T5) (by decide +kernel) rfl ?_
            have e9 := Option.some.inj hw6
            subst e9
            exact hJ
    · rw [if_neg c22_4] at hf
      refine MW.run rfl [(.iload_n 1, 0), (.bipush 61, 61)] (pc' := 28) (ls' := [some (.ref 137), some (.int q3.1), some (.int (q3.2.1 0 8)), none, none]) (st' := [.int 61, .int q3.1]) (T1 := q3.2) (by decide +kernel) rfl ?_
      refine MW.icmp_eq (off := 16) (tgt := 44) (by decide +kernel) (by decide) (fun c28_24 => ?_) (fun c28_24 => ?_)
      · rw [if_pos c28_24] at hf
        refine MW.run rfl [(.aload_n 0, 0), (.dup, 0), (.getfield 82, 0), (.iconst 1, 1), (.iadd, 0), (.putfield 82, 0)] (pc' := 54) (ls' := [some (.ref 137), some (.int q3.1), some (.int (q3.2.1 0 8)), none, none]) (st' := []) (T1 := mz q3.2 8 ((q3.2.1 0 8) + 1)) (by decide +kernel) rfl ?_
        obtain ⟨T25, hT25, hf⟩ := letv_some hf
        rw [← hT25]
        refine MW.run rfl [(.iload_n 1, 0), (.bipush 61, 61)] (pc' := 57) (ls' := [some (.ref 137), some (.int q3.1), some (.int (q3.2.1 0 8)), none, none]) (st' := [.int 61, .int q3.1]) (T1 := T25) (by decide +kernel) rfl ?_
        obtain ⟨w26, hw26, hf⟩ := bd_some hf
        have hJ : MW l yy_X12_compare 6 (some (.int (b2i q.1))) q.2 90 [some (.ref 137), some (.int q3.1), some (.int (q3.2.1 0 8)), none, none] [.int w26] T25 := by
          refine MW.run rfl [(.istore_n 3, 0), (.iload_n 3, 0)] (pc' := 92) (ls' := [some (.ref 137), some (.int q3.1), some (.int (q3.2.1 0 8)), some (.int w26), none]) (st' := [.int w26]) (T1 := T25) (by decide +kernel) rfl ?_
          obtain ⟨w31, hw31, hf⟩ := bd_some hf
          have hJ : MW l yy_X12_compare 6 (some (.int (b2i q.1))) q.2 105 [some (.ref 137), some (.int q3.1), some (.int (q3.2.1 0 8)), some (.int w26), none] [] w31 := by
            refine MW.run rfl [(.aload_n 0, 0), (.iload_n 2, 0)] (pc' := 107) (ls' := [some (.ref 137), some (.int q3.1), some (.int (q3.2.1 0 8)), some (.int w26), none]) (st' := [.int (q3.2.1 0 8), .ref 137]) (T1 := w31) (by decide +kernel) rfl ?_
            obtain ⟨q34, hq34, hf⟩ := bd_some hf
            refine MW.callV (As := [.int (q3.2.1 0 8)]) (st := []) lv_RX12_154 rfl (by decide +kernel) (xm_makes hq34) (by decide) (by decide) rfl (Nat.le_of_ble_eq_true rfl) rfl ?_
            show MW l yy_X12_compare 6 _ _ 110 [some (.ref 137), some (.int q3.1), some (.int (q3.2.1 0 8)), some (.int w26), none] [.int (b2i q34.1)] q34.2
            refine MW.if_ne (off := 5) (tgt := 115) (by decide +kernel) (by decide) (fun c110_35 => ?_) (fun c110_35 => ?_)
            · rw [if_neg c110_35] at hf
              refine MW.run rfl [(.iload_n 1, 0), (.bipush 60, 60)] (pc' := 118) (ls' := [some (.ref 137), some (.int q3.1), some (.int (q3.2.1 0 8)), some (.int w26), none]) (st' := [.int 60, .int q3.1]) (T1 := q34.2) (by decide +kernel) rfl ?_
              obtain ⟨w36, hw36, hf⟩ := bd_some hf
              have hJ : MW l yy_X12_compare 6 (some (.int (b2i q.1))) q.2 152 [some (.ref 137), some (.int q3.1), some (.int (q3.2.1 0 8)), some (.int w26), none] [.int w36] q34.2 := by
                refine MW.run rfl [(.istore 4, 0), (.aload_n 0, 0)] (pc' := 155) (ls' := [some (.ref 137), some (.int q3.1), some (.int (q3.2.1 0 8)), some (.int w26), some (.int w36)]) (st' := [.ref 137]) (T1 := q34.2) (by decide +kernel) rfl ?_
                obtain ⟨q41, hq41, hf⟩ := bd_some hf
                refine MW.callV (As := []) (st := []) lv_RX12_167 rfl (by decide +kernel) (xm_summed hq41) (by decide) (by decide) rfl (Nat.le_of_ble_eq_true rfl) rfl ?_
                show MW l yy_X12_compare 6 _ _ 158 [some (.ref 137), some (.int q3.1), some (.int (q3.2.1 0 8)), some (.int w26), some (.int w36)] [.int (b2i q41.1)] q41.2
                refine MW.if_ne (off := 5) (tgt := 163) (by decide +kernel) (by decide) (fun c158_42 => ?_) (fun c158_42 => ?_)
                · rw [if_neg c158_42] at hf
                  refine MW.run rfl [(.aload_n 0, 0), (.bipush 6, 6), (.iload 4, 0), (.iadd, 0), (.iconst 0, 0)] (pc' := 170) (ls' := [some (.ref 137), some (.int q3.1), some (.int (q3.2.1 0 8)), some (.int w26), some (.int w36)]) (st' := [.int 0, .int (6 + w36), .ref 137]) (T1 := q41.2) (by decide +kernel) rfl ?_
                  obtain ⟨q43, hq43, hf⟩ := bd_some hf
                  refine MW.callV (As := [.int (6 + w36), .int 0]) (st := []) lv_RX12_146 rfl (by decide +kernel) (xm_puts hq43) (by decide) (by decide) rfl (Nat.le_of_ble_eq_true rfl) rfl ?_
                  show MW l yy_X12_compare 6 _ _ 173 [some (.ref 137), some (.int q3.1), some (.int (q3.2.1 0 8)), some (.int w26), some (.int w36)] [] q43
                  refine MW.run rfl [(.iconst 1, 1)] (pc' := 174) (ls' := [some (.ref 137), some (.int q3.1), some (.int (q3.2.1 0 8)), some (.int w26), some (.int w36)]) (st' := [.int 1]) (T1 := q43) (by decide +kernel) rfl ?_
                  have e9 := Option.some.inj hf
                  subst e9
                  exact MW.zret rfl (b2i_nar _) (by decide +kernel)
                · rw [if_pos c158_42] at hf
                  refine MW.run rfl [(.iconst 0, 0)] (pc' := 162) (ls' := [some (.ref 137), some (.int q3.1), some (.int (q3.2.1 0 8)), some (.int w26), some (.int w36)]) (st' := [.int 0]) (T1 := q41.2) (by decide +kernel) rfl ?_
                  have e9 := Option.some.inj hf
                  subst e9
                  exact MW.zret rfl (b2i_nar _) (by decide +kernel)
              clear hf
              refine MW.icmp_ne (off := 15) (tgt := 133) (by decide +kernel) (by decide) (fun c118_37 => ?_) (fun c118_37 => ?_)
              · rw [if_neg c118_37] at hw36
                refine MW.run rfl [(.iload_n 1, 0), (.bipush 61, 61)] (pc' := 136) (ls' := [some (.ref 137), some (.int q3.1), some (.int (q3.2.1 0 8)), some (.int w26), none]) (st' := [.int 61, .int q3.1]) (T1 := q34.2) (by decide +kernel) rfl ?_
                refine MW.icmp_ne (off := 7) (tgt := 143) (by decide +kernel) (by decide) (fun c136_38 => ?_) (fun c136_38 => ?_)
                · rw [if_neg c136_38] at hw36
                  refine MW.run rfl [(.iload_n 3, 0)] (pc' := 144) (ls' := [some (.ref 137), some (.int q3.1), some (.int (q3.2.1 0 8)), some (.int w26), none]) (st' := [.int w26]) (T1 := q34.2) (by decide +kernel) rfl ?_
                  refine MW.if_eq (off := 7) (tgt := 151) (by decide +kernel) (by decide) (fun c144_39 => ?_) (fun c144_39 => ?_)
                  · rw [if_pos c144_39] at hw36
                    refine MW.run rfl [(.iconst 4, 4)] (pc' := 152) (ls' := [some (.ref 137), some (.int q3.1), some (.int (q3.2.1 0 8)), some (.int w26), none]) (st' := [.int 4]) (T1 := q34.2) (by decide +kernel) rfl ?_
                    have e9 := Option.some.inj hw36
                    subst e9
                    exact hJ
                  · rw [if_neg c144_39] at hw36
                    refine MW.run rfl [(.iconst 3, 3), (.goto 4, 0)] (pc' := 152) (ls' := [some (.ref 137), some (.int q3.1), some (.int (q3.2.1 0 8)), some (.int w26), none]) (st' := [.int 3]) (T1 := q34.2) (by decide +kernel) rfl ?_
                    have e9 := Option.some.inj hw36
                    subst e9
                    exact hJ
                · rw [if_pos c136_38] at hw36
                  refine MW.run rfl [(.iconst 2, 2), (.goto 12, 0)] (pc' := 152) (ls' := [some (.ref 137), some (.int q3.1), some (.int (q3.2.1 0 8)), some (.int w26), none]) (st' := [.int 2]) (T1 := q34.2) (by decide +kernel) rfl ?_
                  have e9 := Option.some.inj hw36
                  subst e9
                  exact hJ
              · rw [if_pos c118_37] at hw36
                refine MW.run rfl [(.iload_n 3, 0)] (pc' := 122) (ls' := [some (.ref 137), some (.int q3.1), some (.int (q3.2.1 0 8)), some (.int w26), none]) (st' := [.int w26]) (T1 := q34.2) (by decide +kernel) rfl ?_
                refine MW.if_eq (off := 7) (tgt := 129) (by decide +kernel) (by decide) (fun c122_40 => ?_) (fun c122_40 => ?_)
                · rw [if_pos c122_40] at hw36
                  refine MW.run rfl [(.iconst 0, 0), (.goto 22, 0)] (pc' := 152) (ls' := [some (.ref 137), some (.int q3.1), some (.int (q3.2.1 0 8)), some (.int w26), none]) (st' := [.int 0]) (T1 := q34.2) (by decide +kernel) rfl ?_
                  have e9 := Option.some.inj hw36
                  subst e9
                  exact hJ
                · rw [if_neg c122_40] at hw36
                  refine MW.run rfl [(.iconst 1, 1), (.goto 26, 0)] (pc' := 152) (ls' := [some (.ref 137), some (.int q3.1), some (.int (q3.2.1 0 8)), some (.int w26), none]) (st' := [.int 1]) (T1 := q34.2) (by decide +kernel) rfl ?_
                  have e9 := Option.some.inj hw36
                  subst e9
                  exact hJ
            · rw [if_pos c110_35] at hf
              refine MW.run rfl [(.iconst 0, 0)] (pc' := 114) (ls' := [some (.ref 137), some (.int q3.1), some (.int (q3.2.1 0 8)), some (.int w26), none]) (st' := [.int 0]) (T1 := q34.2) (by decide +kernel) rfl ?_
              have e9 := Option.some.inj hf
              subst e9
              exact MW.zret rfl (b2i_nar _) (by decide +kernel)
          clear hf
          refine MW.if_eq (off := 13) (tgt := 105) (by decide +kernel) (by decide) (fun c92_32 => ?_) (fun c92_32 => ?_)
          · rw [if_pos c92_32] at hw31
            have e9 := Option.some.inj hw31
            subst e9
            exact hJ
          · rw [if_neg c92_32] at hw31
            refine MW.run rfl [(.aload_n 0, 0), (.dup, 0), (.getfield 82, 0), (.iconst 1, 1), (.iadd, 0), (.putfield 82, 0)] (pc' := 105) (ls' := [some (.ref 137), some (.int q3.1), some (.int (q3.2.1 0 8)), some (.int w26), none]) (st' := []) (T1 := mz T25 8 ((T25.1 0 8) + 1)) (by decide +kernel) rfl ?_
            obtain ⟨T33, hT33, hw31⟩ := letv_some hw31
            rw [← hT33]
            have e9 := Option.some.inj hw31
            subst e9
            exact hJ
        clear hf
        refine MW.icmp_eq (off := 32) (tgt := 89) (by decide +kernel) (by decide) (fun c57_27 => ?_) (fun c57_27 => ?_)
        · rw [if_pos c57_27] at hw26
          refine MW.run rfl [(.iconst 0, 0)] (pc' := 90) (ls' := [some (.ref 137), some (.int q3.1), some (.int (q3.2.1 0 8)), none, none]) (st' := [.int 0]) (T1 := T25) (by decide +kernel) rfl ?_
          have e9 := Option.some.inj hw26
          subst e9
          exact hJ
        · rw [if_neg c57_27] at hw26
          refine MW.run rfl [(.aload_n 0, 0), (.getfield 82, 0), (.aload_n 0, 0), (.getfield 72, 0)] (pc' := 68) (ls' := [some (.ref 137), some (.int q3.1), some (.int (q3.2.1 0 8)), none, none]) (st' := [.int (T25.1 0 1), .int (T25.1 0 8)]) (T1 := T25) (by decide +kernel) rfl ?_
          refine MW.icmp_ge (off := 21) (tgt := 89) (by decide +kernel) (by decide) (fun c68_28 => ?_) (fun c68_28 => ?_)
          · rw [if_pos c68_28] at hw26
            refine MW.run rfl [(.iconst 0, 0)] (pc' := 90) (ls' := [some (.ref 137), some (.int q3.1), some (.int (q3.2.1 0 8)), none, none]) (st' := [.int 0]) (T1 := T25) (by decide +kernel) rfl ?_
            have e9 := Option.some.inj hw26
            subst e9
            exact hJ
          · rw [if_neg c68_28] at hw26
            refine MW.run rfl [(.aload_n 0, 0), (.getfield 7, 0), (.aload_n 0, 0), (.getfield 82, 0)] (pc' := 79) (ls' := [some (.ref 137), some (.int q3.1), some (.int (q3.2.1 0 8)), none, none]) (st' := [.int (T25.1 0 8), .ref 138]) (T1 := T25) (by decide +kernel) rfl ?_
            obtain ⟨hi_v29, hw26⟩ := bi_some hw26
            obtain ⟨v29, hv29, hw26⟩ := letv_some hw26
            refine MW.bald 1 400 rfl (by decide) rfl (by decide +kernel) (inb_in hi_v29) ?_
            rw [← hv29]
            refine MW.run rfl [(.bipush 61, 61)] (pc' := 82) (ls' := [some (.ref 137), some (.int q3.1), some (.int (q3.2.1 0 8)), none, none]) (st' := [.int 61, .int v29]) (T1 := T25) (by decide +kernel) rfl ?_
            refine MW.icmp_ne (off := 7) (tgt := 89) (by decide +kernel) (by decide) (fun c82_30 => ?_) (fun c82_30 => ?_)
            · rw [if_neg c82_30] at hw26
              refine MW.run rfl [(.iconst 0, 0)] (pc' := 90) (ls' := [some (.ref 137), some (.int q3.1), some (.int (q3.2.1 0 8)), none, none]) (st' := [.int 0]) (T1 := T25) (by decide +kernel) rfl ?_
              have e9 := Option.some.inj hw26
              subst e9
              exact hJ
            · rw [if_pos c82_30] at hw26
              refine MW.run rfl [(.iconst 1, 1), (.goto 4, 0)] (pc' := 90) (ls' := [some (.ref 137), some (.int q3.1), some (.int (q3.2.1 0 8)), none, none]) (st' := [.int 1]) (T1 := T25) (by decide +kernel) rfl ?_
              have e9 := Option.some.inj hw26
              subst e9
              exact hJ
      · rw [if_neg c28_24] at hf
        refine MW.run rfl [(.iload_n 1, 0), (.bipush 62, 62)] (pc' := 34) (ls' := [some (.ref 137), some (.int q3.1), some (.int (q3.2.1 0 8)), none, none]) (st' := [.int 62, .int q3.1]) (T1 := q3.2) (by decide +kernel) rfl ?_
        refine MW.icmp_eq (off := 10) (tgt := 44) (by decide +kernel) (by decide) (fun c34_44 => ?_) (fun c34_44 => ?_)
        · rw [if_pos c34_44] at hf
          refine MW.run rfl [(.aload_n 0, 0), (.dup, 0), (.getfield 82, 0), (.iconst 1, 1), (.iadd, 0), (.putfield 82, 0)] (pc' := 54) (ls' := [some (.ref 137), some (.int q3.1), some (.int (q3.2.1 0 8)), none, none]) (st' := []) (T1 := mz q3.2 8 ((q3.2.1 0 8) + 1)) (by decide +kernel) rfl ?_
          obtain ⟨T45, hT45, hf⟩ := letv_some hf
          rw [← hT45]
          refine MW.run rfl [(.iload_n 1, 0), (.bipush 61, 61)] (pc' := 57) (ls' := [some (.ref 137), some (.int q3.1), some (.int (q3.2.1 0 8)), none, none]) (st' := [.int 61, .int q3.1]) (T1 := T45) (by decide +kernel) rfl ?_
          obtain ⟨w46, hw46, hf⟩ := bd_some hf
          have hJ : MW l yy_X12_compare 6 (some (.int (b2i q.1))) q.2 90 [some (.ref 137), some (.int q3.1), some (.int (q3.2.1 0 8)), none, none] [.int w46] T45 := by
            refine MW.run rfl [(.istore_n 3, 0), (.iload_n 3, 0)] (pc' := 92) (ls' := [some (.ref 137), some (.int q3.1), some (.int (q3.2.1 0 8)), some (.int w46), none]) (st' := [.int w46]) (T1 := T45) (by decide +kernel) rfl ?_
            obtain ⟨w51, hw51, hf⟩ := bd_some hf
            have hJ : MW l yy_X12_compare 6 (some (.int (b2i q.1))) q.2 105 [some (.ref 137), some (.int q3.1), some (.int (q3.2.1 0 8)), some (.int w46), none] [] w51 := by
              refine MW.run rfl [(.aload_n 0, 0), (.iload_n 2, 0)] (pc' := 107) (ls' := [some (.ref 137), some (.int q3.1), some (.int (q3.2.1 0 8)), some (.int w46), none]) (st' := [.int (q3.2.1 0 8), .ref 137]) (T1 := w51) (by decide +kernel) rfl ?_
              obtain ⟨q54, hq54, hf⟩ := bd_some hf
              refine MW.callV (As := [.int (q3.2.1 0 8)]) (st := []) lv_RX12_154 rfl (by decide +kernel) (xm_makes hq54) (by decide) (by decide) rfl (Nat.le_of_ble_eq_true rfl) rfl ?_
              show MW l yy_X12_compare 6 _ _ 110 [some (.ref 137), some (.int q3.1), some (.int (q3.2.1 0 8)), some (.int w46), none] [.int (b2i q54.1)] q54.2
              refine MW.if_ne (off := 5) (tgt := 115) (by decide +kernel) (by decide) (fun c110_55 => ?_) (fun c110_55 => ?_)
              · rw [if_neg c110_55] at hf
                refine MW.run rfl [(.iload_n 1, 0), (.bipush 60, 60)] (pc' := 118) (ls' := [some (.ref 137), some (.int q3.1), some (.int (q3.2.1 0 8)), some (.int w46), none]) (st' := [.int 60, .int q3.1]) (T1 := q54.2) (by decide +kernel) rfl ?_
                obtain ⟨w56, hw56, hf⟩ := bd_some hf
                have hJ : MW l yy_X12_compare 6 (some (.int (b2i q.1))) q.2 152 [some (.ref 137), some (.int q3.1), some (.int (q3.2.1 0 8)), some (.int w46), none] [.int w56] q54.2 := by
                  refine MW.run rfl [(.istore 4, 0), (.aload_n 0, 0)] (pc' := 155) (ls' := [some (.ref 137), some (.int q3.1), some (.int (q3.2.1 0 8)), some (.int w46), some (.int w56)]) (st' := [.ref 137]) (T1 := q54.2) (by decide +kernel) rfl ?_
                  obtain ⟨q61, hq61, hf⟩ := bd_some hf
                  refine MW.callV (As := []) (st := []) lv_RX12_167 rfl (by decide +kernel) (xm_summed hq61) (by decide) (by decide) rfl (Nat.le_of_ble_eq_true rfl) rfl ?_
                  show MW l yy_X12_compare 6 _ _ 158 [some (.ref 137), some (.int q3.1), some (.int (q3.2.1 0 8)), some (.int w46), some (.int w56)] [.int (b2i q61.1)] q61.2
                  refine MW.if_ne (off := 5) (tgt := 163) (by decide +kernel) (by decide) (fun c158_62 => ?_) (fun c158_62 => ?_)
                  · rw [if_neg c158_62] at hf
                    refine MW.run rfl [(.aload_n 0, 0), (.bipush 6, 6), (.iload 4, 0), (.iadd, 0), (.iconst 0, 0)] (pc' := 170) (ls' := [some (.ref 137), some (.int q3.1), some (.int (q3.2.1 0 8)), some (.int w46), some (.int w56)]) (st' := [.int 0, .int (6 + w56), .ref 137]) (T1 := q61.2) (by decide +kernel) rfl ?_
                    obtain ⟨q63, hq63, hf⟩ := bd_some hf
                    refine MW.callV (As := [.int (6 + w56), .int 0]) (st := []) lv_RX12_146 rfl (by decide +kernel) (xm_puts hq63) (by decide) (by decide) rfl (Nat.le_of_ble_eq_true rfl) rfl ?_
                    show MW l yy_X12_compare 6 _ _ 173 [some (.ref 137), some (.int q3.1), some (.int (q3.2.1 0 8)), some (.int w46), some (.int w56)] [] q63
                    refine MW.run rfl [(.iconst 1, 1)] (pc' := 174) (ls' := [some (.ref 137), some (.int q3.1), some (.int (q3.2.1 0 8)), some (.int w46), some (.int w56)]) (st' := [.int 1]) (T1 := q63) (by decide +kernel) rfl ?_
                    have e9 := Option.some.inj hf
                    subst e9
                    exact MW.zret rfl (b2i_nar _) (by decide +kernel)
                  · rw [if_pos c158_62] at hf
                    refine MW.run rfl [(.iconst 0, 0)] (pc' := 162) (ls' := [some (.ref 137), some (.int q3.1), some (.int (q3.2.1 0 8)), some (.int w46), some (.int w56)]) (st' := [.int 0]) (T1 := q61.2) (by decide +kernel) rfl ?_
                    have e9 := Option.some.inj hf
                    subst e9
                    exact MW.zret rfl (b2i_nar _) (by decide +kernel)
                clear hf
                refine MW.icmp_ne (off := 15) (tgt := 133) (by decide +kernel) (by decide) (fun c118_57 => ?_) (fun c118_57 => ?_)
                · rw [if_neg c118_57] at hw56
                  refine MW.run rfl [(.iload_n 1, 0), (.bipush 61, 61)] (pc' := 136) (ls' := [some (.ref 137), some (.int q3.1), some (.int (q3.2.1 0 8)), some (.int w46), none]) (st' := [.int 61, .int q3.1]) (T1 := q54.2) (by decide +kernel) rfl ?_
                  refine MW.icmp_ne (off := 7) (tgt := 143) (by decide +kernel) (by decide) (fun c136_58 => ?_) (fun c136_58 => ?_)
                  · rw [if_neg c136_58] at hw56
                    refine MW.run rfl [(.iload_n 3, 0)] (pc' := 144) (ls' := [some (.ref 137), some (.int q3.1), some (.int (q3.2.1 0 8)), some (.int w46), none]) (st' := [.int w46]) (T1 := q54.2) (by decide +kernel) rfl ?_
                    refine MW.if_eq (off := 7) (tgt := 151) (by decide +kernel) (by decide) (fun c144_59 => ?_) (fun c144_59 => ?_)
                    · rw [if_pos c144_59] at hw56
                      refine MW.run rfl [(.iconst 4, 4)] (pc' := 152) (ls' := [some (.ref 137), some (.int q3.1), some (.int (q3.2.1 0 8)), some (.int w46), none]) (st' := [.int 4]) (T1 := q54.2) (by decide +kernel) rfl ?_
                      have e9 := Option.some.inj hw56
                      subst e9
                      exact hJ
                    · rw [if_neg c144_59] at hw56
                      refine MW.run rfl [(.iconst 3, 3), (.goto 4, 0)] (pc' := 152) (ls' := [some (.ref 137), some (.int q3.1), some (.int (q3.2.1 0 8)), some (.int w46), none]) (st' := [.int 3]) (T1 := q54.2) (by decide +kernel) rfl ?_
                      have e9 := Option.some.inj hw56
                      subst e9
                      exact hJ
                  · rw [if_pos c136_58] at hw56
                    refine MW.run rfl [(.iconst 2, 2), (.goto 12, 0)] (pc' := 152) (ls' := [some (.ref 137), some (.int q3.1), some (.int (q3.2.1 0 8)), some (.int w46), none]) (st' := [.int 2]) (T1 := q54.2) (by decide +kernel) rfl ?_
                    have e9 := Option.some.inj hw56
                    subst e9
                    exact hJ
                · rw [if_pos c118_57] at hw56
                  refine MW.run rfl [(.iload_n 3, 0)] (pc' := 122) (ls' := [some (.ref 137), some (.int q3.1), some (.int (q3.2.1 0 8)), some (.int w46), none]) (st' := [.int w46]) (T1 := q54.2) (by decide +kernel) rfl ?_
                  refine MW.if_eq (off := 7) (tgt := 129) (by decide +kernel) (by decide) (fun c122_60 => ?_) (fun c122_60 => ?_)
                  · rw [if_pos c122_60] at hw56
                    refine MW.run rfl [(.iconst 0, 0), (.goto 22, 0)] (pc' := 152) (ls' := [some (.ref 137), some (.int q3.1), some (.int (q3.2.1 0 8)), some (.int w46), none]) (st' := [.int 0]) (T1 := q54.2) (by decide +kernel) rfl ?_
                    have e9 := Option.some.inj hw56
                    subst e9
                    exact hJ
                  · rw [if_neg c122_60] at hw56
                    refine MW.run rfl [(.iconst 1, 1), (.goto 26, 0)] (pc' := 152) (ls' := [some (.ref 137), some (.int q3.1), some (.int (q3.2.1 0 8)), some (.int w46), none]) (st' := [.int 1]) (T1 := q54.2) (by decide +kernel) rfl ?_
                    have e9 := Option.some.inj hw56
                    subst e9
                    exact hJ
              · rw [if_pos c110_55] at hf
                refine MW.run rfl [(.iconst 0, 0)] (pc' := 114) (ls' := [some (.ref 137), some (.int q3.1), some (.int (q3.2.1 0 8)), some (.int w46), none]) (st' := [.int 0]) (T1 := q54.2) (by decide +kernel) rfl ?_
                have e9 := Option.some.inj hf
                subst e9
                exact MW.zret rfl (b2i_nar _) (by decide +kernel)
            clear hf
            refine MW.if_eq (off := 13) (tgt := 105) (by decide +kernel) (by decide) (fun c92_52 => ?_) (fun c92_52 => ?_)
            · rw [if_pos c92_52] at hw51
              have e9 := Option.some.inj hw51
              subst e9
              exact hJ
            · rw [if_neg c92_52] at hw51
              refine MW.run rfl [(.aload_n 0, 0), (.dup, 0), (.getfield 82, 0), (.iconst 1, 1), (.iadd, 0), (.putfield 82, 0)] (pc' := 105) (ls' := [some (.ref 137), some (.int q3.1), some (.int (q3.2.1 0 8)), some (.int w46), none]) (st' := []) (T1 := mz T45 8 ((T45.1 0 8) + 1)) (by decide +kernel) rfl ?_
              obtain ⟨T53, hT53, hw51⟩ := letv_some hw51
              rw [← hT53]
              have e9 := Option.some.inj hw51
              subst e9
              exact hJ
          clear hf
          refine MW.icmp_eq (off := 32) (tgt := 89) (by decide +kernel) (by decide) (fun c57_47 => ?_) (fun c57_47 => ?_)
          · rw [if_pos c57_47] at hw46
            refine MW.run rfl [(.iconst 0, 0)] (pc' := 90) (ls' := [some (.ref 137), some (.int q3.1), some (.int (q3.2.1 0 8)), none, none]) (st' := [.int 0]) (T1 := T45) (by decide +kernel) rfl ?_
            have e9 := Option.some.inj hw46
            subst e9
            exact hJ
          · rw [if_neg c57_47] at hw46
            refine MW.run rfl [(.aload_n 0, 0), (.getfield 82, 0), (.aload_n 0, 0), (.getfield 72, 0)] (pc' := 68) (ls' := [some (.ref 137), some (.int q3.1), some (.int (q3.2.1 0 8)), none, none]) (st' := [.int (T45.1 0 1), .int (T45.1 0 8)]) (T1 := T45) (by decide +kernel) rfl ?_
            refine MW.icmp_ge (off := 21) (tgt := 89) (by decide +kernel) (by decide) (fun c68_48 => ?_) (fun c68_48 => ?_)
            · rw [if_pos c68_48] at hw46
              refine MW.run rfl [(.iconst 0, 0)] (pc' := 90) (ls' := [some (.ref 137), some (.int q3.1), some (.int (q3.2.1 0 8)), none, none]) (st' := [.int 0]) (T1 := T45) (by decide +kernel) rfl ?_
              have e9 := Option.some.inj hw46
              subst e9
              exact hJ
            · rw [if_neg c68_48] at hw46
              refine MW.run rfl [(.aload_n 0, 0), (.getfield 7, 0), (.aload_n 0, 0), (.getfield 82, 0)] (pc' := 79) (ls' := [some (.ref 137), some (.int q3.1), some (.int (q3.2.1 0 8)), none, none]) (st' := [.int (T45.1 0 8), .ref 138]) (T1 := T45) (by decide +kernel) rfl ?_
              obtain ⟨hi_v49, hw46⟩ := bi_some hw46
              obtain ⟨v49, hv49, hw46⟩ := letv_some hw46
              refine MW.bald 1 400 rfl (by decide) rfl (by decide +kernel) (inb_in hi_v49) ?_
              rw [← hv49]
              refine MW.run rfl [(.bipush 61, 61)] (pc' := 82) (ls' := [some (.ref 137), some (.int q3.1), some (.int (q3.2.1 0 8)), none, none]) (st' := [.int 61, .int v49]) (T1 := T45) (by decide +kernel) rfl ?_
              refine MW.icmp_ne (off := 7) (tgt := 89) (by decide +kernel) (by decide) (fun c82_50 => ?_) (fun c82_50 => ?_)
              · rw [if_neg c82_50] at hw46
                refine MW.run rfl [(.iconst 0, 0)] (pc' := 90) (ls' := [some (.ref 137), some (.int q3.1), some (.int (q3.2.1 0 8)), none, none]) (st' := [.int 0]) (T1 := T45) (by decide +kernel) rfl ?_
                have e9 := Option.some.inj hw46
                subst e9
                exact hJ
              · rw [if_pos c82_50] at hw46
                refine MW.run rfl [(.iconst 1, 1), (.goto 4, 0)] (pc' := 90) (ls' := [some (.ref 137), some (.int q3.1), some (.int (q3.2.1 0 8)), none, none]) (st' := [.int 1]) (T1 := T45) (by decide +kernel) rfl ?_
                have e9 := Option.some.inj hw46
                subst e9
                exact hJ
        · rw [if_neg c34_44] at hf
          refine MW.run rfl [(.aload_n 0, 0), (.iconst 0, 0), (.iload_n 2, 0)] (pc' := 40) (ls' := [some (.ref 137), some (.int q3.1), some (.int (q3.2.1 0 8)), none, none]) (st' := [.int (q3.2.1 0 8), .int 0, .ref 137]) (T1 := q3.2) (by decide +kernel) rfl ?_
          obtain ⟨q64, hq64, hf⟩ := bd_some hf
          refine MW.callV (As := [.int 0, .int (q3.2.1 0 8)]) (st := []) lv_RX12_103 rfl (by decide +kernel) (xm_fails hq64) (by decide) (by decide) rfl (Nat.le_of_ble_eq_true rfl) rfl ?_
          show MW l yy_X12_compare 6 _ _ 43 [some (.ref 137), some (.int q3.1), some (.int (q3.2.1 0 8)), none, none] [.int (b2i q64.1)] q64.2
          have e9 := Option.some.inj hf
          subst e9
          exact MW.zret rfl (b2i_nar _) (by decide +kernel)
  · rw [if_pos c4_2] at hf
    refine MW.run rfl [(.iconst 0, 0)] (pc' := 8) (ls' := [some (.ref 137), none, none, none, none]) (st' := [.int 0]) (T1 := q1.2) (by decide +kernel) rfl ?_
    have e9 := Option.some.inj hf
    subst e9
    exact MW.zret rfl (b2i_nar _) (by decide +kernel)
