/-! ===== the reference, method by method (by program) 9 ===== -/
def fm_run_L50 (k1 : Int32) (k2 : Int32) : Nat → Int32 → mT → Option (Int32 × mT)
  | 0, _, _ => none
  | N + 1, a3, T => if k2 ≤ a3 then (some (a3, T)) else ((fm_passes k1 T).bind fun q11 => fm_run_L50 k1 k2 N (a3 + 1) q11)
def fm_run (p0 : Int32) (p1 : Int32) (T : mT) : Option (Int32 × mT) := (fm_isIsland T).bind fun q1 => if (b2i q1) = 0 then (some ((-1), T)) else ((fm_isRule p0 T).bind fun q3 => if (b2i q3) = 0 then (some ((-1), T)) else ((fm_in ((p1 : Int32).toInt64) 1 60).bind fun q5 => if (b2i q5) = 0 then (some ((-1), T)) else (bif inb 2 410 then (letv (T.1 10 (2 : Int32).toNatClampNeg) fun v7 => if (v7 + p1) ≤ 9999 then (letv (mz T 25 0) fun T9 => (fm_run_L50 p0 p1 FU 0 T9).bind fun w12 => bif inb 5 410 then (letv (w12.2.1 10 (5 : Int32).toNatClampNeg) fun v13 => some (v13, w12.2)) else none) else (some ((-1), T))) else none)))
theorem xm_run_L50 {l : Launch} {r : Option Value} {T' : mT} (k1 : Int32) (k2 : Int32) : ∀ (N : Nat) (a3 : Int32) (T : mT) (W0 : Int32 × mT) (_ : fm_run_L50 k1 k2 N a3 T = some W0) (_ : MW l yy_X12_run 8 r T' 66 [some (.ref 137), some (.int k1), some (.int k2), some (.int W0.1)] [] W0.2), MW l yy_X12_run 8 r T' 50 [some (.ref 137), some (.int k1), some (.int k2), some (.int a3)] [] T := by
  intro N
  induction N with
  | zero =>
    intro a3 T W0 hf _
    cases hf
  | succ N ih =>
    intro a3 T W0 hf hk1
    unfold fm_run_L50 at hf
    refine MW.run rfl [(.iload_n 3, 0), (.iload_n 2, 0)] (pc' := 52) (ls' := [some (.ref 137), some (.int k1), some (.int k2), some (.int a3)]) (st' := [.int k2, .int a3]) (T1 := T) (by decide +kernel) rfl ?_
    refine MW.icmp_ge (off := 14) (tgt := 66) (by decide +kernel) (by decide) (fun c52_10 => ?_) (fun c52_10 => ?_)
    · rw [if_pos c52_10] at hf
      have e9 := Option.some.inj hf
      subst e9
      exact hk1
    · rw [if_neg c52_10] at hf
      refine MW.run rfl [(.aload_n 0, 0), (.iload_n 1, 0)] (pc' := 57) (ls' := [some (.ref 137), some (.int k1), some (.int k2), some (.int a3)]) (st' := [.int k1, .ref 137]) (T1 := T) (by decide +kernel) rfl ?_
      obtain ⟨q11, hq11, hf⟩ := bd_some hf
      refine MW.callV (As := [.int k1]) (st := []) lv_RX12_370 rfl (by decide +kernel) (xm_passes hq11) (by decide) (by decide) rfl (Nat.le_of_ble_eq_true rfl) rfl ?_
      show MW l yy_X12_run 8 _ _ 60 [some (.ref 137), some (.int k1), some (.int k2), some (.int a3)] [] q11
      refine MW.run rfl [(.iinc 3 1, 1), (.goto (-13), 0)] (pc' := 50) (ls' := [some (.ref 137), some (.int k1), some (.int k2), some (.int (a3 + 1))]) (st' := []) (T1 := q11) (by decide +kernel) rfl ?_
      exact ih _ _ _ hf hk1
theorem xm_run {l : Launch} {p0 : Int32} {p1 : Int32} {T : mT} {q : Int32 × mT} (hf : fm_run p0 p1 T = some q) : MOk l yy_X12_run 8 [.int p0, .int p1] T (some (.int q.1)) q.2 := by
  refine MOk.of (ls := [some (.ref 137), some (.int p0), some (.int p1), none]) (by decide +kernel) (Nat.le_of_ble_eq_true rfl) rfl ?_
  unfold fm_run at hf
  refine MW.run rfl [(.aload_n 0, 0)] (pc' := 1) (ls' := [some (.ref 137), some (.int p0), some (.int p1), none]) (st' := [.ref 137]) (T1 := T) (by decide +kernel) rfl ?_
  obtain ⟨q1, hq1, hf⟩ := bd_some hf
  refine MW.callV (As := []) (st := []) lv_RX12_336 rfl (by decide +kernel) (xm_isIsland hq1) (by decide) (by decide) rfl (Nat.le_of_ble_eq_true rfl) rfl ?_
  show MW l yy_X12_run 8 _ _ 4 [some (.ref 137), some (.int p0), some (.int p1), none] [.int (b2i q1)] T
  refine MW.if_eq (off := 37) (tgt := 41) (by decide +kernel) (by decide) (fun c4_2 => ?_) (fun c4_2 => ?_)
  · rw [if_pos c4_2] at hf
    refine MW.run rfl [(.iconst (-1), (-1))] (pc' := 42) (ls' := [some (.ref 137), some (.int p0), some (.int p1), none]) (st' := [.int (-1)]) (T1 := T) (by decide +kernel) rfl ?_
    have e9 := Option.some.inj hf
    subst e9
    exact MW.iret rfl (by decide +kernel)
  · rw [if_neg c4_2] at hf
    refine MW.run rfl [(.aload_n 0, 0), (.iload_n 1, 0)] (pc' := 9) (ls' := [some (.ref 137), some (.int p0), some (.int p1), none]) (st' := [.int p0, .ref 137]) (T1 := T) (by decide +kernel) rfl ?_
    obtain ⟨q3, hq3, hf⟩ := bd_some hf
    refine MW.callV (As := [.int p0]) (st := []) lv_RX12_282 rfl (by decide +kernel) (xm_isRule hq3) (by decide) (by decide) rfl (Nat.le_of_ble_eq_true rfl) rfl ?_
    show MW l yy_X12_run 8 _ _ 12 [some (.ref 137), some (.int p0), some (.int p1), none] [.int (b2i q3)] T
    refine MW.if_eq (off := 29) (tgt := 41) (by decide +kernel) (by decide) (fun c12_4 => ?_) (fun c12_4 => ?_)
    · rw [if_pos c12_4] at hf
      refine MW.run rfl [(.iconst (-1), (-1))] (pc' := 42) (ls' := [some (.ref 137), some (.int p0), some (.int p1), none]) (st' := [.int (-1)]) (T1 := T) (by decide +kernel) rfl ?_
      have e9 := Option.some.inj hf
      subst e9
      exact MW.iret rfl (by decide +kernel)
    · rw [if_neg c12_4] at hf
      refine MW.run rfl [(.iload_n 2, 0), (.i2l, 0), (.lconst 1, 0)] (pc' := 18) (ls' := [some (.ref 137), some (.int p0), some (.int p1), none]) (st' := [.long 1, .long ((p1 : Int32).toInt64)]) (T1 := T) (by decide +kernel) rfl ?_
      refine MW.ldc2 (idx := 368) (v := 60) (tb_in 1513 (by decide +kernel) (by decide +kernel)) (by decide +kernel) ?_
      obtain ⟨q5, hq5, hf⟩ := bd_some hf
      refine MW.callP (As := [.long ((p1 : Int32).toInt64), .long 1, .long 60]) (st := []) lt_RX12_110 (by decide +kernel) (xm_in hq5) (by decide) (by decide) rfl (Nat.le_of_ble_eq_true rfl) rfl ?_
      show MW l yy_X12_run 8 _ _ 24 [some (.ref 137), some (.int p0), some (.int p1), none] [.int (b2i q5)] T
      refine MW.if_eq (off := 17) (tgt := 41) (by decide +kernel) (by decide) (fun c24_6 => ?_) (fun c24_6 => ?_)
      · rw [if_pos c24_6] at hf
        refine MW.run rfl [(.iconst (-1), (-1))] (pc' := 42) (ls' := [some (.ref 137), some (.int p0), some (.int p1), none]) (st' := [.int (-1)]) (T1 := T) (by decide +kernel) rfl ?_
        have e9 := Option.some.inj hf
        subst e9
        exact MW.iret rfl (by decide +kernel)
      · rw [if_neg c24_6] at hf
        refine MW.run rfl [(.aload_n 0, 0), (.getfield 39, 0), (.iconst 2, 2)] (pc' := 32) (ls' := [some (.ref 137), some (.int p0), some (.int p1), none]) (st' := [.int 2, .ref 147]) (T1 := T) (by decide +kernel) rfl ?_
        obtain ⟨hi_v7, hf⟩ := bi_some hf
        obtain ⟨v7, hv7, hf⟩ := letv_some hf
        refine MW.iald 10 410 rfl (by decide) rfl (by decide +kernel) (inb_in hi_v7) ?_
        rw [← hv7]
        refine MW.run rfl [(.iload_n 2, 0), (.iadd, 0), (.sipush 9999, 9999)] (pc' := 38) (ls' := [some (.ref 137), some (.int p0), some (.int p1), none]) (st' := [.int 9999, .int (v7 + p1)]) (T1 := T) (by decide +kernel) rfl ?_
        refine MW.icmp_le (off := 5) (tgt := 43) (by decide +kernel) (by decide) (fun c38_8 => ?_) (fun c38_8 => ?_)
        · rw [if_pos c38_8] at hf
          refine MW.run rfl [(.aload_n 0, 0), (.iconst 0, 0), (.putfield 260, 0)] (pc' := 48) (ls' := [some (.ref 137), some (.int p0), some (.int p1), none]) (st' := []) (T1 := mz T 25 0) (by decide +kernel) rfl ?_
          obtain ⟨T9, hT9, hf⟩ := letv_some hf
          rw [← hT9]
          refine MW.run rfl [(.iconst 0, 0), (.istore_n 3, 0)] (pc' := 50) (ls' := [some (.ref 137), some (.int p0), some (.int p1), some (.int 0)]) (st' := []) (T1 := T9) (by decide +kernel) rfl ?_
          obtain ⟨w12, hw12, hf⟩ := bd_some hf
          refine xm_run_L50 p0 p1 FU _ _ _ hw12 ?_
          refine MW.run rfl [(.aload_n 0, 0), (.getfield 39, 0), (.iconst 5, 5)] (pc' := 71) (ls' := [some (.ref 137), some (.int p0), some (.int p1), some (.int w12.1)]) (st' := [.int 5, .ref 147]) (T1 := w12.2) (by decide +kernel) rfl ?_
          obtain ⟨hi_v13, hf⟩ := bi_some hf
          obtain ⟨v13, hv13, hf⟩ := letv_some hf
          refine MW.iald 10 410 rfl (by decide) rfl (by decide +kernel) (inb_in hi_v13) ?_
          rw [← hv13]
          have e9 := Option.some.inj hf
          subst e9
          exact MW.iret rfl (by decide +kernel)
        · rw [if_neg c38_8] at hf
          refine MW.run rfl [(.iconst (-1), (-1))] (pc' := 42) (ls' := [some (.ref 137), some (.int p0), some (.int p1), none]) (st' := [.int (-1)]) (T1 := T) (by decide +kernel) rfl ?_
          have e9 := Option.some.inj hf
          subst e9
          exact MW.iret rfl (by decide +kernel)
def fm_leanOf_L4 (k1 : Int32) (T : mT) : Nat → Int32 → Int32 → Option (Int32 × Int32)
  | 0, _, _ => none
  | N + 1, a2, a3 => bif inb 5 410 then (letv (T.1 10 (5 : Int32).toNatClampNeg) fun v1 => if v1 ≤ a3 then (some (a2, a3)) else ((fm_tellingOf a3 0 T).bind fun q3 => if q3 = k1 then ((fm_tellingOf a3 2 T).bind fun q5 => if q5 = k1 then (fm_leanOf_L4 k1 T N a2 (a3 + 1)) else ((fm_tellingOf a3 3 T).bind fun q7 => (fm_tellingOf a3 2 T).bind fun q8 => (fm_personOf q8 0 T).bind fun q9 => (fm_bits (q7 ^^^ q9)).bind fun q10 => bif inb 0 410 then (letv (T.1 10 (0 : Int32).toNatClampNeg) fun v11 => fm_leanOf_L4 k1 T N (a2 + (v11 - (2 * q10))) (a3 + 1)) else none)) else (fm_leanOf_L4 k1 T N a2 (a3 + 1)))) else none
def fm_leanOf (p0 : Int32) (T : mT) : Option (Int32) := (fm_leanOf_L4 p0 T FU 0 0).bind fun w12 => some w12.1
theorem xm_leanOf_L4 {l : Launch} {r : Option Value} {T' : mT} (k1 : Int32) (T : mT) : ∀ (N : Nat) (a2 : Int32) (a3 : Int32) (W0 : Int32 × Int32) (_ : fm_leanOf_L4 k1 T N a2 a3 = some W0) (_ : MW l yy_X12_leanOf 1 r T' 80 [some (.ref 137), some (.int k1), some (.int W0.1), some (.int W0.2), none] [] T), MW l yy_X12_leanOf 1 r T' 4 [some (.ref 137), some (.int k1), some (.int a2), some (.int a3), none] [] T := by
  intro N
  induction N with
  | zero =>
    intro a2 a3 W0 hf _
    cases hf
  | succ N ih =>
    intro a2 a3 W0 hf hk1
    unfold fm_leanOf_L4 at hf
    refine MW.run rfl [(.iload_n 3, 0), (.aload_n 0, 0), (.getfield 39, 0), (.iconst 5, 5)] (pc' := 10) (ls' := [some (.ref 137), some (.int k1), some (.int a2), some (.int a3), none]) (st' := [.int 5, .ref 147, .int a3]) (T1 := T) (by decide +kernel) rfl ?_
    obtain ⟨hi_v1, hf⟩ := bi_some hf
    obtain ⟨v1, hv1, hf⟩ := letv_some hf
    refine MW.iald 10 410 rfl (by decide) rfl (by decide +kernel) (inb_in hi_v1) ?_
    rw [← hv1]
    refine MW.icmp_ge (off := 69) (tgt := 80) (by decide +kernel) (by decide) (fun c11_2 => ?_) (fun c11_2 => ?_)
    · rw [if_pos c11_2] at hf
      have e9 := Option.some.inj hf
      subst e9
      exact hk1
    · rw [if_neg c11_2] at hf
      refine MW.run rfl [(.aload_n 0, 0), (.iload_n 3, 0), (.iconst 0, 0)] (pc' := 17) (ls' := [some (.ref 137), some (.int k1), some (.int a2), some (.int a3), none]) (st' := [.int 0, .int a3, .ref 137]) (T1 := T) (by decide +kernel) rfl ?_
      obtain ⟨q3, hq3, hf⟩ := bd_some hf
      refine MW.callV (As := [.int a3, .int 0]) (st := []) lv_RX12_278 rfl (by decide +kernel) (xm_tellingOf hq3) (by decide) (by decide) rfl (Nat.le_of_ble_eq_true rfl) rfl ?_
      show MW l yy_X12_leanOf 1 _ _ 20 [some (.ref 137), some (.int k1), some (.int a2), some (.int a3), none] [.int q3] T
      refine MW.run rfl [(.iload_n 1, 0)] (pc' := 21) (ls' := [some (.ref 137), some (.int k1), some (.int a2), some (.int a3), none]) (st' := [.int k1, .int q3]) (T1 := T) (by decide +kernel) rfl ?_
      refine MW.icmp_ne (off := 53) (tgt := 74) (by decide +kernel) (by decide) (fun c21_4 => ?_) (fun c21_4 => ?_)
      · rw [if_neg c21_4] at hf
        refine MW.run rfl [(.iinc 3 1, 1), (.goto (-73), 0)] (pc' := 4) (ls' := [some (.ref 137), some (.int k1), some (.int a2), some (.int (a3 + 1)), none]) (st' := []) (T1 := T) (by decide +kernel) rfl ?_
        exact ih _ _ _ hf hk1
      · rw [if_pos c21_4] at hf
        refine MW.run rfl [(.aload_n 0, 0), (.iload_n 3, 0), (.iconst 2, 2)] (pc' := 27) (ls' := [some (.ref 137), some (.int k1), some (.int a2), some (.int a3), none]) (st' := [.int 2, .int a3, .ref 137]) (T1 := T) (by decide +kernel) rfl ?_
        obtain ⟨q5, hq5, hf⟩ := bd_some hf
        refine MW.callV (As := [.int a3, .int 2]) (st := []) lv_RX12_278 rfl (by decide +kernel) (xm_tellingOf hq5) (by decide) (by decide) rfl (Nat.le_of_ble_eq_true rfl) rfl ?_
        show MW l yy_X12_leanOf 1 _ _ 30 [some (.ref 137), some (.int k1), some (.int a2), some (.int a3), none] [.int q5] T
        refine MW.run rfl [(.iload_n 1, 0)] (pc' := 31) (ls' := [some (.ref 137), some (.int k1), some (.int a2), some (.int a3), none]) (st' := [.int k1, .int q5]) (T1 := T) (by decide +kernel) rfl ?_
        refine MW.icmp_ne (off := 6) (tgt := 37) (by decide +kernel) (by decide) (fun c31_6 => ?_) (fun c31_6 => ?_)
        · rw [if_neg c31_6] at hf
          refine MW.run rfl [(.aload_n 0, 0), (.iload_n 3, 0), (.iconst 3, 3)] (pc' := 40) (ls' := [some (.ref 137), some (.int k1), some (.int a2), some (.int a3), none]) (st' := [.int 3, .int a3, .ref 137]) (T1 := T) (by decide +kernel) rfl ?_
          obtain ⟨q7, hq7, hf⟩ := bd_some hf
          refine MW.callV (As := [.int a3, .int 3]) (st := []) lv_RX12_278 rfl (by decide +kernel) (xm_tellingOf hq7) (by decide) (by decide) rfl (Nat.le_of_ble_eq_true rfl) rfl ?_
          show MW l yy_X12_leanOf 1 _ _ 43 [some (.ref 137), some (.int k1), some (.int a2), some (.int a3), none] [.int q7] T
          refine MW.run rfl [(.aload_n 0, 0), (.aload_n 0, 0), (.iload_n 3, 0), (.iconst 2, 2)] (pc' := 47) (ls' := [some (.ref 137), some (.int k1), some (.int a2), some (.int a3), none]) (st' := [.int 2, .int a3, .ref 137, .ref 137, .int q7]) (T1 := T) (by decide +kernel) rfl ?_
          obtain ⟨q8, hq8, hf⟩ := bd_some hf
          refine MW.callV (As := [.int a3, .int 2]) (st := [.ref 137, .int q7]) lv_RX12_278 rfl (by decide +kernel) (xm_tellingOf hq8) (by decide) (by decide) rfl (Nat.le_of_ble_eq_true rfl) rfl ?_
          show MW l yy_X12_leanOf 1 _ _ 50 [some (.ref 137), some (.int k1), some (.int a2), some (.int a3), none] [.int q8, .ref 137, .int q7] T
          refine MW.run rfl [(.iconst 0, 0)] (pc' := 51) (ls' := [some (.ref 137), some (.int k1), some (.int a2), some (.int a3), none]) (st' := [.int 0, .int q8, .ref 137, .int q7]) (T1 := T) (by decide +kernel) rfl ?_
          obtain ⟨q9, hq9, hf⟩ := bd_some hf
          refine MW.callV (As := [.int q8, .int 0]) (st := [.int q7]) lv_RX12_321 rfl (by decide +kernel) (xm_personOf hq9) (by decide) (by decide) rfl (Nat.le_of_ble_eq_true rfl) rfl ?_
          show MW l yy_X12_leanOf 1 _ _ 54 [some (.ref 137), some (.int k1), some (.int a2), some (.int a3), none] [.int q9, .int q7] T
          refine MW.run rfl [(.ixor, 0)] (pc' := 55) (ls' := [some (.ref 137), some (.int k1), some (.int a2), some (.int a3), none]) (st' := [.int (q7 ^^^ q9)]) (T1 := T) (by decide +kernel) rfl ?_
          obtain ⟨q10, hq10, hf⟩ := bd_some hf
          refine MW.callP (As := [.int (q7 ^^^ q9)]) (st := []) lt_RX12_373 (by decide +kernel) (xm_bits hq10) (by decide) (by decide) rfl (Nat.le_of_ble_eq_true rfl) rfl ?_
          show MW l yy_X12_leanOf 1 _ _ 58 [some (.ref 137), some (.int k1), some (.int a2), some (.int a3), none] [.int q10] T
          refine MW.run rfl [(.istore 4, 0), (.iload_n 2, 0), (.aload_n 0, 0), (.getfield 39, 0), (.iconst 0, 0)] (pc' := 66) (ls' := [some (.ref 137), some (.int k1), some (.int a2), some (.int a3), some (.int q10)]) (st' := [.int 0, .ref 147, .int a2]) (T1 := T) (by decide +kernel) rfl ?_
          obtain ⟨hi_v11, hf⟩ := bi_some hf
          obtain ⟨v11, hv11, hf⟩ := letv_some hf
          refine MW.iald 10 410 rfl (by decide) rfl (by decide +kernel) (inb_in hi_v11) ?_
          rw [← hv11]
          refine MW.run rfl [(.iconst 2, 2), (.iload 4, 0), (.imul, 0), (.isub, 0), (.iadd, 0), (.istore_n 2, 0), (.iinc 3 1, 1), (.goto (-73), 0)] (pc' := 4) (ls' := [some (.ref 137), some (.int k1), some (.int (a2 + (v11 - (2 * q10)))), some (.int (a3 + 1)), some (.int q10)]) (st' := []) (T1 := T) (by decide +kernel) rfl ?_
          refine MW.fgt (ls' := [some (.ref 137), some (.int k1), some (.int (a2 + (v11 - (2 * q10)))), some (.int (a3 + 1)), none]) (by repeat' (first | exact trivial | refine ⟨rfl, ?_⟩)) ?_
          exact ih _ _ _ hf hk1
        · rw [if_pos c31_6] at hf
          refine MW.run rfl [(.goto 40, 0), (.iinc 3 1, 1), (.goto (-73), 0)] (pc' := 4) (ls' := [some (.ref 137), some (.int k1), some (.int a2), some (.int (a3 + 1)), none]) (st' := []) (T1 := T) (by decide +kernel) rfl ?_
          exact ih _ _ _ hf hk1
theorem xm_leanOf {l : Launch} {p0 : Int32} {T : mT} {q : Int32} (hf : fm_leanOf p0 T = some q) : MOk l yy_X12_leanOf 1 [.int p0] T (some (.int q)) T := by
  refine MOk.of (ls := [some (.ref 137), some (.int p0), none, none, none]) (by decide +kernel) (Nat.le_of_ble_eq_true rfl) rfl ?_
  unfold fm_leanOf at hf
  refine MW.run rfl [(.iconst 0, 0), (.istore_n 2, 0), (.iconst 0, 0), (.istore_n 3, 0)] (pc' := 4) (ls' := [some (.ref 137), some (.int p0), some (.int 0), some (.int 0), none]) (st' := []) (T1 := T) (by decide +kernel) rfl ?_
  obtain ⟨w12, hw12, hf⟩ := bd_some hf
  refine xm_leanOf_L4 p0 T FU _ _ _ hw12 ?_
  refine MW.run rfl [(.iload_n 2, 0)] (pc' := 81) (ls' := [some (.ref 137), some (.int p0), some (.int w12.1), some (.int w12.2), none]) (st' := [.int w12.1]) (T1 := T) (by decide +kernel) rfl ?_
  have e9 := Option.some.inj hf
  subst e9
  exact MW.iret rfl (by decide +kernel)
def fm_lean (p0 : Int32) (T : mT) : Option (Int32) := (fm_isPerson p0 T).bind fun q1 => if (b2i q1) = 0 then (some (-1000000)) else ((fm_leanOf p0 T).bind fun q3 => some q3)
theorem xm_lean {l : Launch} {p0 : Int32} {T : mT} {q : Int32} (hf : fm_lean p0 T = some q) : MOk l yy_X12_lean 2 [.int p0] T (some (.int q)) T := by
  refine MOk.of (ls := [some (.ref 137), some (.int p0)]) (by decide +kernel) (Nat.le_of_ble_eq_true rfl) rfl ?_
  unfold fm_lean at hf
  refine MW.run rfl [(.aload_n 0, 0), (.iload_n 1, 0)] (pc' := 2) (ls' := [some (.ref 137), some (.int p0)]) (st' := [.int p0, .ref 137]) (T1 := T) (by decide +kernel) rfl ?_
  obtain ⟨q1, hq1, hf⟩ := bd_some hf
  refine MW.callV (As := [.int p0]) (st := []) lv_RX12_318 rfl (by decide +kernel) (xm_isPerson hq1) (by decide) (by decide) rfl (Nat.le_of_ble_eq_true rfl) rfl ?_
  show MW l yy_X12_lean 2 _ _ 5 [some (.ref 137), some (.int p0)] [.int (b2i q1)] T
  refine MW.if_eq (off := 11) (tgt := 16) (by decide +kernel) (by decide) (fun c5_2 => ?_) (fun c5_2 => ?_)
  · rw [if_pos c5_2] at hf
    refine MW.ldcw (idx := 330) (v := (-1000000)) (tb_in 1419 (by decide +kernel) (by decide +kernel)) (by decide +kernel) ?_
    have e9 := Option.some.inj hf
    subst e9
    exact MW.iret rfl (by decide +kernel)
  · rw [if_neg c5_2] at hf
    refine MW.run rfl [(.aload_n 0, 0), (.iload_n 1, 0)] (pc' := 10) (ls' := [some (.ref 137), some (.int p0)]) (st' := [.int p0, .ref 137]) (T1 := T) (by decide +kernel) rfl ?_
    obtain ⟨q3, hq3, hf⟩ := bd_some hf
    refine MW.callV (As := [.int p0]) (st := []) lv_RX12_376 rfl (by decide +kernel) (xm_leanOf hq3) (by decide) (by decide) rfl (Nat.le_of_ble_eq_true rfl) rfl ?_
    show MW l yy_X12_lean 2 _ _ 13 [some (.ref 137), some (.int p0)] [.int q3] T
    refine MW.run rfl [(.goto 6, 0)] (pc' := 19) (ls' := [some (.ref 137), some (.int p0)]) (st' := [.int q3]) (T1 := T) (by decide +kernel) rfl ?_
    have e9 := Option.some.inj hf
    subst e9
    exact MW.iret rfl (by decide +kernel)
def fm_countFor_L5 (k1 : Int32) (k2 : Int32) (T : mT) : Nat → Int32 → Int32 → Option (Int32 × Int32)
  | 0, _, _ => none
  | N + 1, a3, a4 => bif inb 5 410 then (letv (T.1 10 (5 : Int32).toNatClampNeg) fun v1 => if v1 ≤ a4 then (some (a3, a4)) else ((fm_tellingOf a4 2 T).bind fun q3 => if q3 = k1 then ((fm_tellingOf a4 0 T).bind fun q5 => if q5 = k1 then (fm_countFor_L5 k1 k2 T N a3 (a4 + 1)) else ((fm_tellingOf a4 3 T).bind fun q7 => (fm_isOf q7 k2).bind fun q8 => if (b2i q8) = 0 then ((fm_tellingOf a4 0 T).bind fun q10 => (fm_leanOf q10 T).bind fun q11 => fm_countFor_L5 k1 k2 T N (a3 + (-q11)) (a4 + 1)) else ((fm_tellingOf a4 0 T).bind fun q12 => (fm_leanOf q12 T).bind fun q13 => fm_countFor_L5 k1 k2 T N (a3 + q13) (a4 + 1)))) else (fm_countFor_L5 k1 k2 T N a3 (a4 + 1)))) else none
def fm_countFor (p0 : Int32) (p1 : Int32) (T : mT) : Option (Int32) := (fm_countFor_L5 p0 p1 T FU 0 0).bind fun w14 => some w14.1
theorem xm_countFor_L5 {l : Launch} {r : Option Value} {T' : mT} (k1 : Int32) (k2 : Int32) (T : mT) : ∀ (N : Nat) (a3 : Int32) (a4 : Int32) (W0 : Int32 × Int32) (_ : fm_countFor_L5 k1 k2 T N a3 a4 = some W0) (_ : MW l yy_X12_countFor 2 r T' 90 [some (.ref 137), some (.int k1), some (.int k2), some (.int W0.1), some (.int W0.2)] [] T), MW l yy_X12_countFor 2 r T' 5 [some (.ref 137), some (.int k1), some (.int k2), some (.int a3), some (.int a4)] [] T := by
  intro N
  induction N with
  | zero =>
    intro a3 a4 W0 hf _
    cases hf
  | succ N ih =>
    intro a3 a4 W0 hf hk1
    unfold fm_countFor_L5 at hf
    refine MW.run rfl [(.iload 4, 0), (.aload_n 0, 0), (.getfield 39, 0), (.iconst 5, 5)] (pc' := 12) (ls' := [some (.ref 137), some (.int k1), some (.int k2), some (.int a3), some (.int a4)]) (st' := [.int 5, .ref 147, .int a4]) (T1 := T) (by decide +kernel) rfl ?_
    obtain ⟨hi_v1, hf⟩ := bi_some hf
    obtain ⟨v1, hv1, hf⟩ := letv_some hf
    refine MW.iald 10 410 rfl (by decide) rfl (by decide +kernel) (inb_in hi_v1) ?_
    rw [← hv1]
    refine MW.icmp_ge (off := 77) (tgt := 90) (by decide +kernel) (by decide) (fun c13_2 => ?_) (fun c13_2 => ?_)
    · rw [if_pos c13_2] at hf
      have e9 := Option.some.inj hf
      subst e9
      exact hk1
    · rw [if_neg c13_2] at hf
      refine MW.run rfl [(.aload_n 0, 0), (.iload 4, 0), (.iconst 2, 2)] (pc' := 20) (ls' := [some (.ref 137), some (.int k1), some (.int k2), some (.int a3), some (.int a4)]) (st' := [.int 2, .int a4, .ref 137]) (T1 := T) (by decide +kernel) rfl ?_
      obtain ⟨q3, hq3, hf⟩ := bd_some hf
      refine MW.callV (As := [.int a4, .int 2]) (st := []) lv_RX12_278 rfl (by decide +kernel) (xm_tellingOf hq3) (by decide) (by decide) rfl (Nat.le_of_ble_eq_true rfl) rfl ?_
      show MW l yy_X12_countFor 2 _ _ 23 [some (.ref 137), some (.int k1), some (.int k2), some (.int a3), some (.int a4)] [.int q3] T
      refine MW.run rfl [(.iload_n 1, 0)] (pc' := 24) (ls' := [some (.ref 137), some (.int k1), some (.int k2), some (.int a3), some (.int a4)]) (st' := [.int k1, .int q3]) (T1 := T) (by decide +kernel) rfl ?_
      refine MW.icmp_ne (off := 60) (tgt := 84) (by decide +kernel) (by decide) (fun c24_4 => ?_) (fun c24_4 => ?_)
      · rw [if_neg c24_4] at hf
        refine MW.run rfl [(.iinc 4 1, 1), (.goto (-82), 0)] (pc' := 5) (ls' := [some (.ref 137), some (.int k1), some (.int k2), some (.int a3), some (.int (a4 + 1))]) (st' := []) (T1 := T) (by decide +kernel) rfl ?_
        exact ih _ _ _ hf hk1
      · rw [if_pos c24_4] at hf
        refine MW.run rfl [(.aload_n 0, 0), (.iload 4, 0), (.iconst 0, 0)] (pc' := 31) (ls' := [some (.ref 137), some (.int k1), some (.int k2), some (.int a3), some (.int a4)]) (st' := [.int 0, .int a4, .ref 137]) (T1 := T) (by decide +kernel) rfl ?_
        obtain ⟨q5, hq5, hf⟩ := bd_some hf
        refine MW.callV (As := [.int a4, .int 0]) (st := []) lv_RX12_278 rfl (by decide +kernel) (xm_tellingOf hq5) (by decide) (by decide) rfl (Nat.le_of_ble_eq_true rfl) rfl ?_
        show MW l yy_X12_countFor 2 _ _ 34 [some (.ref 137), some (.int k1), some (.int k2), some (.int a3), some (.int a4)] [.int q5] T
        refine MW.run rfl [(.iload_n 1, 0)] (pc' := 35) (ls' := [some (.ref 137), some (.int k1), some (.int k2), some (.int a3), some (.int a4)]) (st' := [.int k1, .int q5]) (T1 := T) (by decide +kernel) rfl ?_
        refine MW.icmp_ne (off := 6) (tgt := 41) (by decide +kernel) (by decide) (fun c35_6 => ?_) (fun c35_6 => ?_)
        · rw [if_neg c35_6] at hf
          refine MW.run rfl [(.iload_n 3, 0), (.aload_n 0, 0), (.iload 4, 0), (.iconst 3, 3)] (pc' := 46) (ls' := [some (.ref 137), some (.int k1), some (.int k2), some (.int a3), some (.int a4)]) (st' := [.int 3, .int a4, .ref 137, .int a3]) (T1 := T) (by decide +kernel) rfl ?_
          obtain ⟨q7, hq7, hf⟩ := bd_some hf
          refine MW.callV (As := [.int a4, .int 3]) (st := [.int a3]) lv_RX12_278 rfl (by decide +kernel) (xm_tellingOf hq7) (by decide) (by decide) rfl (Nat.le_of_ble_eq_true rfl) rfl ?_
          show MW l yy_X12_countFor 2 _ _ 49 [some (.ref 137), some (.int k1), some (.int k2), some (.int a3), some (.int a4)] [.int q7, .int a3] T
          refine MW.run rfl [(.iload_n 2, 0)] (pc' := 50) (ls' := [some (.ref 137), some (.int k1), some (.int k2), some (.int a3), some (.int a4)]) (st' := [.int k2, .int q7, .int a3]) (T1 := T) (by decide +kernel) rfl ?_
          obtain ⟨q8, hq8, hf⟩ := bd_some hf
          refine MW.callP (As := [.int q7, .int k2]) (st := [.int a3]) lt_RX12_309 (by decide +kernel) (xm_isOf hq8) (by decide) (by decide) rfl (Nat.le_of_ble_eq_true rfl) rfl ?_
          show MW l yy_X12_countFor 2 _ _ 53 [some (.ref 137), some (.int k1), some (.int k2), some (.int a3), some (.int a4)] [.int (b2i q8), .int a3] T
          refine MW.if_eq (off := 17) (tgt := 70) (by decide +kernel) (by decide) (fun c53_9 => ?_) (fun c53_9 => ?_)
          · rw [if_pos c53_9] at hf
            refine MW.run rfl [(.aload_n 0, 0), (.aload_n 0, 0), (.iload 4, 0), (.iconst 0, 0)] (pc' := 75) (ls' := [some (.ref 137), some (.int k1), some (.int k2), some (.int a3), some (.int a4)]) (st' := [.int 0, .int a4, .ref 137, .ref 137, .int a3]) (T1 := T) (by decide +kernel) rfl ?_
            obtain ⟨q10, hq10, hf⟩ := bd_some hf
            refine MW.callV (As := [.int a4, .int 0]) (st := [.ref 137, .int a3]) lv_RX12_278 rfl (by decide +kernel) (xm_tellingOf hq10) (by decide) (by decide) rfl (Nat.le_of_ble_eq_true rfl) rfl ?_
            show MW l yy_X12_countFor 2 _ _ 78 [some (.ref 137), some (.int k1), some (.int k2), some (.int a3), some (.int a4)] [.int q10, .ref 137, .int a3] T
            obtain ⟨q11, hq11, hf⟩ := bd_some hf
            refine MW.callV (As := [.int q10]) (st := [.int a3]) lv_RX12_376 rfl (by decide +kernel) (xm_leanOf hq11) (by decide) (by decide) rfl (Nat.le_of_ble_eq_true rfl) rfl ?_
            show MW l yy_X12_countFor 2 _ _ 81 [some (.ref 137), some (.int k1), some (.int k2), some (.int a3), some (.int a4)] [.int q11, .int a3] T
            refine MW.run rfl [(.ineg, 0), (.iadd, 0), (.istore_n 3, 0), (.iinc 4 1, 1), (.goto (-82), 0)] (pc' := 5) (ls' := [some (.ref 137), some (.int k1), some (.int k2), some (.int (a3 + (-q11))), some (.int (a4 + 1))]) (st' := []) (T1 := T) (by decide +kernel) rfl ?_
            exact ih _ _ _ hf hk1
          · rw [if_neg c53_9] at hf
            refine MW.run rfl [(.aload_n 0, 0), (.aload_n 0, 0), (.iload 4, 0), (.iconst 0, 0)] (pc' := 61) (ls' := [some (.ref 137), some (.int k1), some (.int k2), some (.int a3), some (.int a4)]) (st' := [.int 0, .int a4, .ref 137, .ref 137, .int a3]) (T1 := T) (by decide +kernel) rfl ?_
            obtain ⟨q12, hq12, hf⟩ := bd_some hf
            refine MW.callV (As := [.int a4, .int 0]) (st := [.ref 137, .int a3]) lv_RX12_278 rfl (by decide +kernel) (xm_tellingOf hq12) (by decide) (by decide) rfl (Nat.le_of_ble_eq_true rfl) rfl ?_
            show MW l yy_X12_countFor 2 _ _ 64 [some (.ref 137), some (.int k1), some (.int k2), some (.int a3), some (.int a4)] [.int q12, .ref 137, .int a3] T
            obtain ⟨q13, hq13, hf⟩ := bd_some hf
            refine MW.callV (As := [.int q12]) (st := [.int a3]) lv_RX12_376 rfl (by decide +kernel) (xm_leanOf hq13) (by decide) (by decide) rfl (Nat.le_of_ble_eq_true rfl) rfl ?_
            show MW l yy_X12_countFor 2 _ _ 67 [some (.ref 137), some (.int k1), some (.int k2), some (.int a3), some (.int a4)] [.int q13, .int a3] T
            refine MW.run rfl [(.goto 15, 0), (.iadd, 0), (.istore_n 3, 0), (.iinc 4 1, 1), (.goto (-82), 0)] (pc' := 5) (ls' := [some (.ref 137), some (.int k1), some (.int k2), some (.int (a3 + q13)), some (.int (a4 + 1))]) (st' := []) (T1 := T) (by decide +kernel) rfl ?_
            exact ih _ _ _ hf hk1
        · rw [if_pos c35_6] at hf
          refine MW.run rfl [(.goto 46, 0), (.iinc 4 1, 1), (.goto (-82), 0)] (pc' := 5) (ls' := [some (.ref 137), some (.int k1), some (.int k2), some (.int a3), some (.int (a4 + 1))]) (st' := []) (T1 := T) (by decide +kernel) rfl ?_
          exact ih _ _ _ hf hk1
theorem xm_countFor {l : Launch} {p0 : Int32} {p1 : Int32} {T : mT} {q : Int32} (hf : fm_countFor p0 p1 T = some q) : MOk l yy_X12_countFor 2 [.int p0, .int p1] T (some (.int q)) T := by
  refine MOk.of (ls := [some (.ref 137), some (.int p0), some (.int p1), none, none]) (by decide +kernel) (Nat.le_of_ble_eq_true rfl) rfl ?_
  unfold fm_countFor at hf
  refine MW.run rfl [(.iconst 0, 0), (.istore_n 3, 0), (.iconst 0, 0), (.istore 4, 0)] (pc' := 5) (ls' := [some (.ref 137), some (.int p0), some (.int p1), some (.int 0), some (.int 0)]) (st' := []) (T1 := T) (by decide +kernel) rfl ?_
  obtain ⟨w14, hw14, hf⟩ := bd_some hf
  refine xm_countFor_L5 p0 p1 T FU _ _ _ hw14 ?_
  refine MW.run rfl [(.iload_n 3, 0)] (pc' := 91) (ls' := [some (.ref 137), some (.int p0), some (.int p1), some (.int w14.1), some (.int w14.2)]) (st' := [.int w14.1]) (T1 := T) (by decide +kernel) rfl ?_
  have e9 := Option.some.inj hf
  subst e9
  exact MW.iret rfl (by decide +kernel)
def fm_likeliest_L25 (k1 : Int32) (k2 : Int32) (T : mT) : Nat → Int32 → Int32 → Option (Int32 × Int32)
  | 0, _, _ => none
  | N + 1, a3, a4 => bif inb 0 410 then (letv (T.1 10 (0 : Int32).toNatClampNeg) fun v5 => if v5 ≤ a4 then (some (a3, a4)) else ((fm_countFor k1 a4 T).bind fun q7 => if k2 = 0 then (if 0 < q7 then (fm_likeliest_L25 k1 k2 T N (a3 ||| (1 <<< (a4 &&& 31))) (a4 + 1)) else (if k2 = 1 then (if q7 = 0 then (fm_likeliest_L25 k1 k2 T N (a3 ||| (1 <<< (a4 &&& 31))) (a4 + 1)) else (fm_likeliest_L25 k1 k2 T N (a3 ||| 0) (a4 + 1))) else (fm_likeliest_L25 k1 k2 T N (a3 ||| 0) (a4 + 1)))) else (if k2 = 1 then (if q7 = 0 then (fm_likeliest_L25 k1 k2 T N (a3 ||| (1 <<< (a4 &&& 31))) (a4 + 1)) else (fm_likeliest_L25 k1 k2 T N (a3 ||| 0) (a4 + 1))) else (fm_likeliest_L25 k1 k2 T N (a3 ||| 0) (a4 + 1))))) else none
def fm_likeliest (p0 : Int32) (p1 : Int32) (T : mT) : Option (Int32) := (fm_isPerson p0 T).bind fun q1 => if (b2i q1) = 0 then (some (-1)) else ((fm_in ((p1 : Int32).toInt64) 0 1).bind fun q3 => if (b2i q3) = 0 then (some (-1)) else ((fm_likeliest_L25 p0 p1 T FU 0 0).bind fun w14 => some w14.1))
theorem xm_likeliest_L25 {l : Launch} {r : Option Value} {T' : mT} (k1 : Int32) (k2 : Int32) (T : mT) : ∀ (N : Nat) (a3 : Int32) (a4 : Int32) (W0 : Int32 × Int32) (_ : fm_likeliest_L25 k1 k2 T N a3 a4 = some W0) (_ : MW l yy_X12_likeliest 3 r T' 81 [some (.ref 137), some (.int k1), some (.int k2), some (.int W0.1), some (.int W0.2), none] [] T), MW l yy_X12_likeliest 3 r T' 25 [some (.ref 137), some (.int k1), some (.int k2), some (.int a3), some (.int a4), none] [] T := by
  intro N
  induction N with
  | zero =>
    intro a3 a4 W0 hf _
    cases hf
  | succ N ih =>
    intro a3 a4 W0 hf hk1
    unfold fm_likeliest_L25 at hf
    refine MW.run rfl [(.iload 4, 0), (.aload_n 0, 0), (.getfield 39, 0), (.iconst 0, 0)] (pc' := 32) (ls' := [some (.ref 137), some (.int k1), some (.int k2), some (.int a3), some (.int a4), none]) (st' := [.int 0, .ref 147, .int a4]) (T1 := T) (by decide +kernel) rfl ?_
    obtain ⟨hi_v5, hf⟩ := bi_some hf
    obtain ⟨v5, hv5, hf⟩ := letv_some hf
    refine MW.iald 10 410 rfl (by decide) rfl (by decide +kernel) (inb_in hi_v5) ?_
    rw [← hv5]
    refine MW.icmp_ge (off := 48) (tgt := 81) (by decide +kernel) (by decide) (fun c33_6 => ?_) (fun c33_6 => ?_)
    · rw [if_pos c33_6] at hf
      have e9 := Option.some.inj hf
      subst e9
      exact hk1
    · rw [if_neg c33_6] at hf
      refine MW.run rfl [(.aload_n 0, 0), (.iload_n 1, 0), (.iload 4, 0)] (pc' := 40) (ls' := [some (.ref 137), some (.int k1), some (.int k2), some (.int a3), some (.int a4), none]) (st' := [.int a4, .int k1, .ref 137]) (T1 := T) (by decide +kernel) rfl ?_
      obtain ⟨q7, hq7, hf⟩ := bd_some hf
      refine MW.callV (As := [.int k1, .int a4]) (st := []) lv_RX12_379 rfl (by decide +kernel) (xm_countFor hq7) (by decide) (by decide) rfl (Nat.le_of_ble_eq_true rfl) rfl ?_
      show MW l yy_X12_likeliest 3 _ _ 43 [some (.ref 137), some (.int k1), some (.int k2), some (.int a3), some (.int a4), none] [.int q7] T
      refine MW.run rfl [(.istore 5, 0), (.iload_n 3, 0), (.iload_n 2, 0)] (pc' := 47) (ls' := [some (.ref 137), some (.int k1), some (.int k2), some (.int a3), some (.int a4), some (.int q7)]) (st' := [.int k2, .int a3]) (T1 := T) (by decide +kernel) rfl ?_
      refine MW.if_ne (off := 8) (tgt := 55) (by decide +kernel) (by decide) (fun c47_8 => ?_) (fun c47_8 => ?_)
      · rw [if_neg c47_8] at hf
        refine MW.run rfl [(.iload_n 2, 0), (.iconst 1, 1)] (pc' := 57) (ls' := [some (.ref 137), some (.int k1), some (.int k2), some (.int a3), some (.int a4), some (.int q7)]) (st' := [.int 1, .int k2, .int a3]) (T1 := T) (by decide +kernel) rfl ?_
        refine MW.icmp_ne (off := 15) (tgt := 72) (by decide +kernel) (by decide) (fun c57_9 => ?_) (fun c57_9 => ?_)
        · rw [if_neg c57_9] at hf
          refine MW.run rfl [(.iconst 0, 0), (.ior, 0), (.istore_n 3, 0), (.iinc 4 1, 1), (.goto (-53), 0)] (pc' := 25) (ls' := [some (.ref 137), some (.int k1), some (.int k2), some (.int (a3 ||| 0)), some (.int (a4 + 1)), some (.int q7)]) (st' := []) (T1 := T) (by decide +kernel) rfl ?_
          refine MW.fgt (ls' := [some (.ref 137), some (.int k1), some (.int k2), some (.int (a3 ||| 0)), some (.int (a4 + 1)), none]) (by repeat' (first | exact trivial | refine ⟨rfl, ?_⟩)) ?_
          exact ih _ _ _ hf hk1
        · rw [if_pos c57_9] at hf
          refine MW.run rfl [(.iload 5, 0)] (pc' := 62) (ls' := [some (.ref 137), some (.int k1), some (.int k2), some (.int a3), some (.int a4), some (.int q7)]) (st' := [.int q7, .int a3]) (T1 := T) (by decide +kernel) rfl ?_
          refine MW.if_ne (off := 10) (tgt := 72) (by decide +kernel) (by decide) (fun c62_10 => ?_) (fun c62_10 => ?_)
          · rw [if_neg c62_10] at hf
            refine MW.run rfl [(.iconst 0, 0), (.ior, 0), (.istore_n 3, 0), (.iinc 4 1, 1), (.goto (-53), 0)] (pc' := 25) (ls' := [some (.ref 137), some (.int k1), some (.int k2), some (.int (a3 ||| 0)), some (.int (a4 + 1)), some (.int q7)]) (st' := []) (T1 := T) (by decide +kernel) rfl ?_
            refine MW.fgt (ls' := [some (.ref 137), some (.int k1), some (.int k2), some (.int (a3 ||| 0)), some (.int (a4 + 1)), none]) (by repeat' (first | exact trivial | refine ⟨rfl, ?_⟩)) ?_
            exact ih _ _ _ hf hk1
          · rw [if_pos c62_10] at hf
            refine MW.run rfl [(.iconst 1, 1), (.iload 4, 0), (.ishl, 0), (.goto 4, 0), (.ior, 0), (.istore_n 3, 0), (.iinc 4 1, 1), (.goto (-53), 0)] (pc' := 25) (ls' := [some (.ref 137), some (.int k1), some (.int k2), some (.int (a3 ||| (1 <<< (a4 &&& 31)))), some (.int (a4 + 1)), some (.int q7)]) (st' := []) (T1 := T) (by decide +kernel) rfl ?_
            refine MW.fgt (ls' := [some (.ref 137), some (.int k1), some (.int k2), some (.int (a3 ||| (1 <<< (a4 &&& 31)))), some (.int (a4 + 1)), none]) (by repeat' (first | exact trivial | refine ⟨rfl, ?_⟩)) ?_
            exact ih _ _ _ hf hk1
      · rw [if_pos c47_8] at hf
        refine MW.run rfl [(.iload 5, 0)] (pc' := 52) (ls' := [some (.ref 137), some (.int k1), some (.int k2), some (.int a3), some (.int a4), some (.int q7)]) (st' := [.int q7, .int a3]) (T1 := T) (by decide +kernel) rfl ?_
        refine MW.if_gt (off := 13) (tgt := 65) (by decide +kernel) (by decide) (fun c52_11 => ?_) (fun c52_11 => ?_)
        · rw [if_pos c52_11] at hf
          refine MW.run rfl [(.iconst 1, 1), (.iload 4, 0), (.ishl, 0), (.goto 4, 0), (.ior, 0), (.istore_n 3, 0), (.iinc 4 1, 1), (.goto (-53), 0)] (pc' := 25) (ls' := [some (.ref 137), some (.int k1), some (.int k2), some (.int (a3 ||| (1 <<< (a4 &&& 31)))), some (.int (a4 + 1)), some (.int q7)]) (st' := []) (T1 := T) (by decide +kernel) rfl ?_
          refine MW.fgt (ls' := [some (.ref 137), some (.int k1), some (.int k2), some (.int (a3 ||| (1 <<< (a4 &&& 31)))), some (.int (a4 + 1)), none]) (by repeat' (first | exact trivial | refine ⟨rfl, ?_⟩)) ?_
          exact ih _ _ _ hf hk1
        · rw [if_neg c52_11] at hf
          refine MW.run rfl [(.iload_n 2, 0), (.iconst 1, 1)] (pc' := 57) (ls' := [some (.ref 137), some (.int k1), some (.int k2), some (.int a3), some (.int a4), some (.int q7)]) (st' := [.int 1, .int k2, .int a3]) (T1 := T) (by decide +kernel) rfl ?_
          refine MW.icmp_ne (off := 15) (tgt := 72) (by decide +kernel) (by decide) (fun c57_12 => ?_) (fun c57_12 => ?_)
          · rw [if_neg c57_12] at hf
            refine MW.run rfl [(.iconst 0, 0), (.ior, 0), (.istore_n 3, 0), (.iinc 4 1, 1), (.goto (-53), 0)] (pc' := 25) (ls' := [some (.ref 137), some (.int k1), some (.int k2), some (.int (a3 ||| 0)), some (.int (a4 + 1)), some (.int q7)]) (st' := []) (T1 := T) (by decide +kernel) rfl ?_
            refine MW.fgt (ls' := [some (.ref 137), some (.int k1), some (.int k2), some (.int (a3 ||| 0)), some (.int (a4 + 1)), none]) (by repeat' (first | exact trivial | refine ⟨rfl, ?_⟩)) ?_
            exact ih _ _ _ hf hk1
          · rw [if_pos c57_12] at hf
            refine MW.run rfl [(.iload 5, 0)] (pc' := 62) (ls' := [some (.ref 137), some (.int k1), some (.int k2), some (.int a3), some (.int a4), some (.int q7)]) (st' := [.int q7, .int a3]) (T1 := T) (by decide +kernel) rfl ?_
            refine MW.if_ne (off := 10) (tgt := 72) (by decide +kernel) (by decide) (fun c62_13 => ?_) (fun c62_13 => ?_)
            · rw [if_neg c62_13] at hf
              refine MW.run rfl [(.iconst 0, 0), (.ior, 0), (.istore_n 3, 0), (.iinc 4 1, 1), (.goto (-53), 0)] (pc' := 25) (ls' := [some (.ref 137), some (.int k1), some (.int k2), some (.int (a3 ||| 0)), some (.int (a4 + 1)), some (.int q7)]) (st' := []) (T1 := T) (by decide +kernel) rfl ?_
              refine MW.fgt (ls' := [some (.ref 137), some (.int k1), some (.int k2), some (.int (a3 ||| 0)), some (.int (a4 + 1)), none]) (by repeat' (first | exact trivial | refine ⟨rfl, ?_⟩)) ?_
              exact ih _ _ _ hf hk1
            · rw [if_pos c62_13] at hf
              refine MW.run rfl [(.iconst 1, 1), (.iload 4, 0), (.ishl, 0), (.goto 4, 0), (.ior, 0), (.istore_n 3, 0), (.iinc 4 1, 1), (.goto (-53), 0)] (pc' := 25) (ls' := [some (.ref 137), some (.int k1), some (.int k2), some (.int (a3 ||| (1 <<< (a4 &&& 31)))), some (.int (a4 + 1)), some (.int q7)]) (st' := []) (T1 := T) (by decide +kernel) rfl ?_
              refine MW.fgt (ls' := [some (.ref 137), some (.int k1), some (.int k2), some (.int (a3 ||| (1 <<< (a4 &&& 31)))), some (.int (a4 + 1)), none]) (by repeat' (first | exact trivial | refine ⟨rfl, ?_⟩)) ?_
              exact ih _ _ _ hf hk1
theorem xm_likeliest {l : Launch} {p0 : Int32} {p1 : Int32} {T : mT} {q : Int32} (hf : fm_likeliest p0 p1 T = some q) : MOk l yy_X12_likeliest 3 [.int p0, .int p1] T (some (.int q)) T := by
  refine MOk.of (ls := [some (.ref 137), some (.int p0), some (.int p1), none, none, none]) (by decide +kernel) (Nat.le_of_ble_eq_true rfl) rfl ?_
  unfold fm_likeliest at hf
  refine MW.run rfl [(.aload_n 0, 0), (.iload_n 1, 0)] (pc' := 2) (ls' := [some (.ref 137), some (.int p0), some (.int p1), none, none, none]) (st' := [.int p0, .ref 137]) (T1 := T) (by decide +kernel) rfl ?_
  obtain ⟨q1, hq1, hf⟩ := bd_some hf
  refine MW.callV (As := [.int p0]) (st := []) lv_RX12_318 rfl (by decide +kernel) (xm_isPerson hq1) (by decide) (by decide) rfl (Nat.le_of_ble_eq_true rfl) rfl ?_
  show MW l yy_X12_likeliest 3 _ _ 5 [some (.ref 137), some (.int p0), some (.int p1), none, none, none] [.int (b2i q1)] T
  refine MW.if_eq (off := 13) (tgt := 18) (by decide +kernel) (by decide) (fun c5_2 => ?_) (fun c5_2 => ?_)
  · rw [if_pos c5_2] at hf
    refine MW.run rfl [(.iconst (-1), (-1))] (pc' := 19) (ls' := [some (.ref 137), some (.int p0), some (.int p1), none, none, none]) (st' := [.int (-1)]) (T1 := T) (by decide +kernel) rfl ?_
    have e9 := Option.some.inj hf
    subst e9
    exact MW.iret rfl (by decide +kernel)
  · rw [if_neg c5_2] at hf
    refine MW.run rfl [(.iload_n 2, 0), (.i2l, 0), (.lconst 0, 0), (.lconst 1, 0)] (pc' := 12) (ls' := [some (.ref 137), some (.int p0), some (.int p1), none, none, none]) (st' := [.long 1, .long 0, .long ((p1 : Int32).toInt64)]) (T1 := T) (by decide +kernel) rfl ?_
    obtain ⟨q3, hq3, hf⟩ := bd_some hf
    refine MW.callP (As := [.long ((p1 : Int32).toInt64), .long 0, .long 1]) (st := []) lt_RX12_110 (by decide +kernel) (xm_in hq3) (by decide) (by decide) rfl (Nat.le_of_ble_eq_true rfl) rfl ?_
    show MW l yy_X12_likeliest 3 _ _ 15 [some (.ref 137), some (.int p0), some (.int p1), none, none, none] [.int (b2i q3)] T
    refine MW.if_ne (off := 5) (tgt := 20) (by decide +kernel) (by decide) (fun c15_4 => ?_) (fun c15_4 => ?_)
    · rw [if_neg c15_4] at hf
      refine MW.run rfl [(.iconst 0, 0), (.istore_n 3, 0), (.iconst 0, 0), (.istore 4, 0)] (pc' := 25) (ls' := [some (.ref 137), some (.int p0), some (.int p1), some (.int 0), some (.int 0), none]) (st' := []) (T1 := T) (by decide +kernel) rfl ?_
      obtain ⟨w14, hw14, hf⟩ := bd_some hf
      refine xm_likeliest_L25 p0 p1 T FU _ _ _ hw14 ?_
      refine MW.run rfl [(.iload_n 3, 0)] (pc' := 82) (ls' := [some (.ref 137), some (.int p0), some (.int p1), some (.int w14.1), some (.int w14.2), none]) (st' := [.int w14.1]) (T1 := T) (by decide +kernel) rfl ?_
      have e9 := Option.some.inj hf
      subst e9
      exact MW.iret rfl (by decide +kernel)
    · rw [if_pos c15_4] at hf
      refine MW.run rfl [(.iconst (-1), (-1))] (pc' := 19) (ls' := [some (.ref 137), some (.int p0), some (.int p1), none, none, none]) (st' := [.int (-1)]) (T1 := T) (by decide +kernel) rfl ?_
      have e9 := Option.some.inj hf
      subst e9
      exact MW.iret rfl (by decide +kernel)
def fm_flatteryOf_L4 (k1 : Int32) (T : mT) : Nat → Int32 → Int32 → Option (Int32 × Int32)
  | 0, _, _ => none
  | N + 1, a2, a3 => bif inb 5 410 then (letv (T.1 10 (5 : Int32).toNatClampNeg) fun v1 => if v1 ≤ a3 then (some (a2, a3)) else ((fm_tellingOf a3 2 T).bind fun q3 => (fm_tellingOf a3 0 T).bind fun q4 => if q4 = k1 then (if q3 = k1 then (fm_flatteryOf_L4 k1 T N a2 (a3 + 1)) else ((fm_tellingOf a3 1 T).bind fun q7 => if q7 = q3 then ((fm_tellingOf a3 3 T).bind fun q9 => (fm_personOf q3 0 T).bind fun q10 => (fm_tellingOf a3 3 T).bind fun q11 => (fm_bits ((q9 ^^^ q10) &&& q11)).bind fun q12 => (fm_tellingOf a3 3 T).bind fun q13 => (fm_bits ((q9 ^^^ q10) &&& (q13 ^^^ (-1)))).bind fun q14 => fm_flatteryOf_L4 k1 T N (a2 + (q12 - q14)) (a3 + 1)) else (fm_flatteryOf_L4 k1 T N a2 (a3 + 1)))) else (fm_flatteryOf_L4 k1 T N a2 (a3 + 1)))) else none
def fm_flatteryOf (p0 : Int32) (T : mT) : Option (Int32) := (fm_flatteryOf_L4 p0 T FU 0 0).bind fun w15 => some w15.1
theorem xm_flatteryOf_L4 {l : Launch} {r : Option Value} {T' : mT} (k1 : Int32) (T : mT) : ∀ (N : Nat) (a2 : Int32) (a3 : Int32) (W0 : Int32 × Int32) (_ : fm_flatteryOf_L4 k1 T N a2 a3 = some W0) (_ : MW l yy_X12_flatteryOf 1 r T' 104 [some (.ref 137), some (.int k1), some (.int W0.1), some (.int W0.2), none, none] [] T), MW l yy_X12_flatteryOf 1 r T' 4 [some (.ref 137), some (.int k1), some (.int a2), some (.int a3), none, none] [] T := by
  intro N
  induction N with
  | zero =>
    intro a2 a3 W0 hf _
    cases hf
  | succ N ih =>
    intro a2 a3 W0 hf hk1
    unfold fm_flatteryOf_L4 at hf
    refine MW.run rfl [(.iload_n 3, 0), (.aload_n 0, 0), (.getfield 39, 0), (.iconst 5, 5)] (pc' := 10) (ls' := [some (.ref 137), some (.int k1), some (.int a2), some (.int a3), none, none]) (st' := [.int 5, .ref 147, .int a3]) (T1 := T) (by decide +kernel) rfl ?_
    obtain ⟨hi_v1, hf⟩ := bi_some hf
    obtain ⟨v1, hv1, hf⟩ := letv_some hf
    refine MW.iald 10 410 rfl (by decide) rfl (by decide +kernel) (inb_in hi_v1) ?_
    rw [← hv1]
    refine MW.icmp_ge (off := 93) (tgt := 104) (by decide +kernel) (by decide) (fun c11_2 => ?_) (fun c11_2 => ?_)
    · rw [if_pos c11_2] at hf
      have e9 := Option.some.inj hf
      subst e9
      exact hk1
    · rw [if_neg c11_2] at hf
      refine MW.run rfl [(.aload_n 0, 0), (.iload_n 3, 0), (.iconst 2, 2)] (pc' := 17) (ls' := [some (.ref 137), some (.int k1), some (.int a2), some (.int a3), none, none]) (st' := [.int 2, .int a3, .ref 137]) (T1 := T) (by decide +kernel) rfl ?_
      obtain ⟨q3, hq3, hf⟩ := bd_some hf
      refine MW.callV (As := [.int a3, .int 2]) (st := []) lv_RX12_278 rfl (by decide +kernel) (xm_tellingOf hq3) (by decide) (by decide) rfl (Nat.le_of_ble_eq_true rfl) rfl ?_
      show MW l yy_X12_flatteryOf 1 _ _ 20 [some (.ref 137), some (.int k1), some (.int a2), some (.int a3), none, none] [.int q3] T
      refine MW.run rfl [(.istore 4, 0), (.aload_n 0, 0), (.iload_n 3, 0), (.iconst 0, 0)] (pc' := 25) (ls' := [some (.ref 137), some (.int k1), some (.int a2), some (.int a3), some (.int q3), none]) (st' := [.int 0, .int a3, .ref 137]) (T1 := T) (by decide +kernel) rfl ?_
      obtain ⟨q4, hq4, hf⟩ := bd_some hf
      refine MW.callV (As := [.int a3, .int 0]) (st := []) lv_RX12_278 rfl (by decide +kernel) (xm_tellingOf hq4) (by decide) (by decide) rfl (Nat.le_of_ble_eq_true rfl) rfl ?_
      show MW l yy_X12_flatteryOf 1 _ _ 28 [some (.ref 137), some (.int k1), some (.int a2), some (.int a3), some (.int q3), none] [.int q4] T
      refine MW.run rfl [(.iload_n 1, 0)] (pc' := 29) (ls' := [some (.ref 137), some (.int k1), some (.int a2), some (.int a3), some (.int q3), none]) (st' := [.int k1, .int q4]) (T1 := T) (by decide +kernel) rfl ?_
      refine MW.icmp_ne (off := 69) (tgt := 98) (by decide +kernel) (by decide) (fun c29_5 => ?_) (fun c29_5 => ?_)
      · rw [if_neg c29_5] at hf
        refine MW.run rfl [(.iinc 3 1, 1), (.goto (-97), 0)] (pc' := 4) (ls' := [some (.ref 137), some (.int k1), some (.int a2), some (.int (a3 + 1)), some (.int q3), none]) (st' := []) (T1 := T) (by decide +kernel) rfl ?_
        refine MW.fgt (ls' := [some (.ref 137), some (.int k1), some (.int a2), some (.int (a3 + 1)), none, none]) (by repeat' (first | exact trivial | refine ⟨rfl, ?_⟩)) ?_
        exact ih _ _ _ hf hk1
      · rw [if_pos c29_5] at hf
        refine MW.run rfl [(.iload 4, 0), (.iload_n 1, 0)] (pc' := 35) (ls' := [some (.ref 137), some (.int k1), some (.int a2), some (.int a3), some (.int q3), none]) (st' := [.int k1, .int q3]) (T1 := T) (by decide +kernel) rfl ?_
        refine MW.icmp_eq (off := 63) (tgt := 98) (by decide +kernel) (by decide) (fun c35_6 => ?_) (fun c35_6 => ?_)
        · rw [if_pos c35_6] at hf
          refine MW.run rfl [(.iinc 3 1, 1), (.goto (-97), 0)] (pc' := 4) (ls' := [some (.ref 137), some (.int k1), some (.int a2), some (.int (a3 + 1)), some (.int q3), none]) (st' := []) (T1 := T) (by decide +kernel) rfl ?_
          refine MW.fgt (ls' := [some (.ref 137), some (.int k1), some (.int a2), some (.int (a3 + 1)), none, none]) (by repeat' (first | exact trivial | refine ⟨rfl, ?_⟩)) ?_
          exact ih _ _ _ hf hk1
        · rw [if_neg c35_6] at hf
          refine MW.run rfl [(.aload_n 0, 0), (.iload_n 3, 0), (.iconst 1, 1)] (pc' := 41) (ls' := [some (.ref 137), some (.int k1), some (.int a2), some (.int a3), some (.int q3), none]) (st' := [.int 1, .int a3, .ref 137]) (T1 := T) (by decide +kernel) rfl ?_
          obtain ⟨q7, hq7, hf⟩ := bd_some hf
          refine MW.callV (As := [.int a3, .int 1]) (st := []) lv_RX12_278 rfl (by decide +kernel) (xm_tellingOf hq7) (by decide) (by decide) rfl (Nat.le_of_ble_eq_true rfl) rfl ?_
          show MW l yy_X12_flatteryOf 1 _ _ 44 [some (.ref 137), some (.int k1), some (.int a2), some (.int a3), some (.int q3), none] [.int q7] T
          refine MW.run rfl [(.iload 4, 0)] (pc' := 46) (ls' := [some (.ref 137), some (.int k1), some (.int a2), some (.int a3), some (.int q3), none]) (st' := [.int q3, .int q7]) (T1 := T) (by decide +kernel) rfl ?_
          refine MW.icmp_eq (off := 6) (tgt := 52) (by decide +kernel) (by decide) (fun c46_8 => ?_) (fun c46_8 => ?_)
          · rw [if_pos c46_8] at hf
            refine MW.run rfl [(.aload_n 0, 0), (.iload_n 3, 0), (.iconst 3, 3)] (pc' := 55) (ls' := [some (.ref 137), some (.int k1), some (.int a2), some (.int a3), some (.int q3), none]) (st' := [.int 3, .int a3, .ref 137]) (T1 := T) (by decide +kernel) rfl ?_
            obtain ⟨q9, hq9, hf⟩ := bd_some hf
            refine MW.callV (As := [.int a3, .int 3]) (st := []) lv_RX12_278 rfl (by decide +kernel) (xm_tellingOf hq9) (by decide) (by decide) rfl (Nat.le_of_ble_eq_true rfl) rfl ?_
            show MW l yy_X12_flatteryOf 1 _ _ 58 [some (.ref 137), some (.int k1), some (.int a2), some (.int a3), some (.int q3), none] [.int q9] T
            refine MW.run rfl [(.aload_n 0, 0), (.iload 4, 0), (.iconst 0, 0)] (pc' := 62) (ls' := [some (.ref 137), some (.int k1), some (.int a2), some (.int a3), some (.int q3), none]) (st' := [.int 0, .int q3, .ref 137, .int q9]) (T1 := T) (by decide +kernel) rfl ?_
            obtain ⟨q10, hq10, hf⟩ := bd_some hf
            refine MW.callV (As := [.int q3, .int 0]) (st := [.int q9]) lv_RX12_321 rfl (by decide +kernel) (xm_personOf hq10) (by decide) (by decide) rfl (Nat.le_of_ble_eq_true rfl) rfl ?_
            show MW l yy_X12_flatteryOf 1 _ _ 65 [some (.ref 137), some (.int k1), some (.int a2), some (.int a3), some (.int q3), none] [.int q10, .int q9] T
            refine MW.run rfl [(.ixor, 0), (.istore 5, 0), (.iload_n 2, 0), (.iload 5, 0), (.aload_n 0, 0), (.iload_n 3, 0), (.iconst 3, 3)] (pc' := 74) (ls' := [some (.ref 137), some (.int k1), some (.int a2), some (.int a3), some (.int q3), some (.int (q9 ^^^ q10))]) (st' := [.int 3, .int a3, .ref 137, .int (q9 ^^^ q10), .int a2]) (T1 := T) (by decide +kernel) rfl ?_
            obtain ⟨q11, hq11, hf⟩ := bd_some hf
            refine MW.callV (As := [.int a3, .int 3]) (st := [.int (q9 ^^^ q10), .int a2]) lv_RX12_278 rfl (by decide +kernel) (xm_tellingOf hq11) (by decide) (by decide) rfl (Nat.le_of_ble_eq_true rfl) rfl ?_
            show MW l yy_X12_flatteryOf 1 _ _ 77 [some (.ref 137), some (.int k1), some (.int a2), some (.int a3), some (.int q3), some (.int (q9 ^^^ q10))] [.int q11, .int (q9 ^^^ q10), .int a2] T
            refine MW.run rfl [(.iand, 0)] (pc' := 78) (ls' := [some (.ref 137), some (.int k1), some (.int a2), some (.int a3), some (.int q3), some (.int (q9 ^^^ q10))]) (st' := [.int ((q9 ^^^ q10) &&& q11), .int a2]) (T1 := T) (by decide +kernel) rfl ?_
            obtain ⟨q12, hq12, hf⟩ := bd_some hf
            refine MW.callP (As := [.int ((q9 ^^^ q10) &&& q11)]) (st := [.int a2]) lt_RX12_373 (by decide +kernel) (xm_bits hq12) (by decide) (by decide) rfl (Nat.le_of_ble_eq_true rfl) rfl ?_
            show MW l yy_X12_flatteryOf 1 _ _ 81 [some (.ref 137), some (.int k1), some (.int a2), some (.int a3), some (.int q3), some (.int (q9 ^^^ q10))] [.int q12, .int a2] T
            refine MW.run rfl [(.iload 5, 0), (.aload_n 0, 0), (.iload_n 3, 0), (.iconst 3, 3)] (pc' := 86) (ls' := [some (.ref 137), some (.int k1), some (.int a2), some (.int a3), some (.int q3), some (.int (q9 ^^^ q10))]) (st' := [.int 3, .int a3, .ref 137, .int (q9 ^^^ q10), .int q12, .int a2]) (T1 := T) (by decide +kernel) rfl ?_
            obtain ⟨q13, hq13, hf⟩ := bd_some hf
            refine MW.callV (As := [.int a3, .int 3]) (st := [.int (q9 ^^^ q10), .int q12, .int a2]) lv_RX12_278 rfl (by decide +kernel) (xm_tellingOf hq13) (by decide) (by decide) rfl (Nat.le_of_ble_eq_true rfl) rfl ?_
            show MW l yy_X12_flatteryOf 1 _ _ 89 [some (.ref 137), some (.int k1), some (.int a2), some (.int a3), some (.int q3), some (.int (q9 ^^^ q10))] [.int q13, .int (q9 ^^^ q10), .int q12, .int a2] T
            refine MW.run rfl [(.iconst (-1), (-1)), (.ixor, 0), (.iand, 0)] (pc' := 92) (ls' := [some (.ref 137), some (.int k1), some (.int a2), some (.int a3), some (.int q3), some (.int (q9 ^^^ q10))]) (st' := [.int ((q9 ^^^ q10) &&& (q13 ^^^ (-1))), .int q12, .int a2]) (T1 := T) (by decide +kernel) rfl ?_
            obtain ⟨q14, hq14, hf⟩ := bd_some hf
            refine MW.callP (As := [.int ((q9 ^^^ q10) &&& (q13 ^^^ (-1)))]) (st := [.int q12, .int a2]) lt_RX12_373 (by decide +kernel) (xm_bits hq14) (by decide) (by decide) rfl (Nat.le_of_ble_eq_true rfl) rfl ?_
            show MW l yy_X12_flatteryOf 1 _ _ 95 [some (.ref 137), some (.int k1), some (.int a2), some (.int a3), some (.int q3), some (.int (q9 ^^^ q10))] [.int q14, .int q12, .int a2] T
            refine MW.run rfl [(.isub, 0), (.iadd, 0), (.istore_n 2, 0), (.iinc 3 1, 1), (.goto (-97), 0)] (pc' := 4) (ls' := [some (.ref 137), some (.int k1), some (.int (a2 + (q12 - q14))), some (.int (a3 + 1)), some (.int q3), some (.int (q9 ^^^ q10))]) (st' := []) (T1 := T) (by decide +kernel) rfl ?_
            refine MW.fgt (ls' := [some (.ref 137), some (.int k1), some (.int (a2 + (q12 - q14))), some (.int (a3 + 1)), none, none]) (by repeat' (first | exact trivial | refine ⟨rfl, ?_⟩)) ?_
            exact ih _ _ _ hf hk1
          · rw [if_neg c46_8] at hf
            refine MW.run rfl [(.goto 49, 0), (.iinc 3 1, 1), (.goto (-97), 0)] (pc' := 4) (ls' := [some (.ref 137), some (.int k1), some (.int a2), some (.int (a3 + 1)), some (.int q3), none]) (st' := []) (T1 := T) (by decide +kernel) rfl ?_
            refine MW.fgt (ls' := [some (.ref 137), some (.int k1), some (.int a2), some (.int (a3 + 1)), none, none]) (by repeat' (first | exact trivial | refine ⟨rfl, ?_⟩)) ?_
            exact ih _ _ _ hf hk1
theorem xm_flatteryOf {l : Launch} {p0 : Int32} {T : mT} {q : Int32} (hf : fm_flatteryOf p0 T = some q) : MOk l yy_X12_flatteryOf 1 [.int p0] T (some (.int q)) T := by
  refine MOk.of (ls := [some (.ref 137), some (.int p0), none, none, none, none]) (by decide +kernel) (Nat.le_of_ble_eq_true rfl) rfl ?_
  unfold fm_flatteryOf at hf
  refine MW.run rfl [(.iconst 0, 0), (.istore_n 2, 0), (.iconst 0, 0), (.istore_n 3, 0)] (pc' := 4) (ls' := [some (.ref 137), some (.int p0), some (.int 0), some (.int 0), none, none]) (st' := []) (T1 := T) (by decide +kernel) rfl ?_
  obtain ⟨w15, hw15, hf⟩ := bd_some hf
  refine xm_flatteryOf_L4 p0 T FU _ _ _ hw15 ?_
  refine MW.run rfl [(.iload_n 2, 0)] (pc' := 105) (ls' := [some (.ref 137), some (.int p0), some (.int w15.1), some (.int w15.2), none, none]) (st' := [.int w15.1]) (T1 := T) (by decide +kernel) rfl ?_
  have e9 := Option.some.inj hf
  subst e9
  exact MW.iret rfl (by decide +kernel)
def fm_flatters_L50 (k1 : Int32) (k2 : Int32) (T : mT) : Nat → Int32 → Int32 → Option (Int32 × Int32)
  | 0, _, _ => none
  | N + 1, a3, a4 => bif inb 1 410 then (letv (T.1 10 (1 : Int32).toNatClampNeg) fun v6 => if v6 ≤ a4 then (some (a3, a4)) else ((fm_flatteryOf a4 T).bind fun q8 => if 0 ≤ a3 then ((fm_flatteryOf a3 T).bind fun q10 => if q8 ≤ q10 then (fm_flatters_L50 k1 k2 T N a3 (a4 + 1)) else (fm_flatters_L50 k1 k2 T N a4 (a4 + 1))) else (if q8 ≤ 0 then (fm_flatters_L50 k1 k2 T N a3 (a4 + 1)) else (fm_flatters_L50 k1 k2 T N a4 (a4 + 1))))) else none
def fm_flatters (p0 : Int32) (p1 : Int32) (T : mT) : Option (Int32) := (fm_isIsland T).bind fun q1 => if (b2i q1) = 0 then (some (-1000000)) else ((fm_in ((p1 : Int32).toInt64) 0 1).bind fun q3 => if (b2i q3) = 0 then (some (-1000000)) else (if p1 = 0 then ((fm_isPerson p0 T).bind fun q14 => if (b2i q14) = 0 then (some (-1000000)) else ((fm_flatteryOf p0 T).bind fun q16 => some q16)) else ((fm_flatters_L50 p0 p1 T FU (-1) 0).bind fun w13 => some w13.1)))
theorem xm_flatters_L50 {l : Launch} {r : Option Value} {T' : mT} (k1 : Int32) (k2 : Int32) (T : mT) : ∀ (N : Nat) (a3 : Int32) (a4 : Int32) (W0 : Int32 × Int32) (_ : fm_flatters_L50 k1 k2 T N a3 a4 = some W0) (_ : MW l yy_X12_flatters 2 r T' 92 [some (.ref 137), some (.int k1), some (.int k2), some (.int W0.1), some (.int W0.2)] [] T), MW l yy_X12_flatters 2 r T' 50 [some (.ref 137), some (.int k1), some (.int k2), some (.int a3), some (.int a4)] [] T := by
  intro N
  induction N with
  | zero =>
    intro a3 a4 W0 hf _
    cases hf
  | succ N ih =>
    intro a3 a4 W0 hf hk1
    unfold fm_flatters_L50 at hf
    refine MW.run rfl [(.iload 4, 0), (.aload_n 0, 0), (.getfield 39, 0), (.iconst 1, 1)] (pc' := 57) (ls' := [some (.ref 137), some (.int k1), some (.int k2), some (.int a3), some (.int a4)]) (st' := [.int 1, .ref 147, .int a4]) (T1 := T) (by decide +kernel) rfl ?_
    obtain ⟨hi_v6, hf⟩ := bi_some hf
    obtain ⟨v6, hv6, hf⟩ := letv_some hf
    refine MW.iald 10 410 rfl (by decide) rfl (by decide +kernel) (inb_in hi_v6) ?_
    rw [← hv6]
    refine MW.icmp_ge (off := 34) (tgt := 92) (by decide +kernel) (by decide) (fun c58_7 => ?_) (fun c58_7 => ?_)
    · rw [if_pos c58_7] at hf
      have e9 := Option.some.inj hf
      subst e9
      exact hk1
    · rw [if_neg c58_7] at hf
      refine MW.run rfl [(.aload_n 0, 0), (.iload 4, 0)] (pc' := 64) (ls' := [some (.ref 137), some (.int k1), some (.int k2), some (.int a3), some (.int a4)]) (st' := [.int a4, .ref 137]) (T1 := T) (by decide +kernel) rfl ?_
      obtain ⟨q8, hq8, hf⟩ := bd_some hf
      refine MW.callV (As := [.int a4]) (st := []) lv_RX12_382 rfl (by decide +kernel) (xm_flatteryOf hq8) (by decide) (by decide) rfl (Nat.le_of_ble_eq_true rfl) rfl ?_
      show MW l yy_X12_flatters 2 _ _ 67 [some (.ref 137), some (.int k1), some (.int k2), some (.int a3), some (.int a4)] [.int q8] T
      refine MW.run rfl [(.iload_n 3, 0)] (pc' := 68) (ls' := [some (.ref 137), some (.int k1), some (.int k2), some (.int a3), some (.int a4)]) (st' := [.int a3, .int q8]) (T1 := T) (by decide +kernel) rfl ?_
      refine MW.if_ge (off := 7) (tgt := 75) (by decide +kernel) (by decide) (fun c68_9 => ?_) (fun c68_9 => ?_)
      · rw [if_pos c68_9] at hf
        refine MW.run rfl [(.aload_n 0, 0), (.iload_n 3, 0)] (pc' := 77) (ls' := [some (.ref 137), some (.int k1), some (.int k2), some (.int a3), some (.int a4)]) (st' := [.int a3, .ref 137, .int q8]) (T1 := T) (by decide +kernel) rfl ?_
        obtain ⟨q10, hq10, hf⟩ := bd_some hf
        refine MW.callV (As := [.int a3]) (st := [.int q8]) lv_RX12_382 rfl (by decide +kernel) (xm_flatteryOf hq10) (by decide) (by decide) rfl (Nat.le_of_ble_eq_true rfl) rfl ?_
        show MW l yy_X12_flatters 2 _ _ 80 [some (.ref 137), some (.int k1), some (.int k2), some (.int a3), some (.int a4)] [.int q10, .int q8] T
        refine MW.icmp_le (off := 6) (tgt := 86) (by decide +kernel) (by decide) (fun c80_11 => ?_) (fun c80_11 => ?_)
        · rw [if_pos c80_11] at hf
          refine MW.run rfl [(.iinc 4 1, 1), (.goto (-39), 0)] (pc' := 50) (ls' := [some (.ref 137), some (.int k1), some (.int k2), some (.int a3), some (.int (a4 + 1))]) (st' := []) (T1 := T) (by decide +kernel) rfl ?_
          exact ih _ _ _ hf hk1
        · rw [if_neg c80_11] at hf
          refine MW.run rfl [(.iload 4, 0), (.istore_n 3, 0), (.iinc 4 1, 1), (.goto (-39), 0)] (pc' := 50) (ls' := [some (.ref 137), some (.int k1), some (.int k2), some (.int a4), some (.int (a4 + 1))]) (st' := []) (T1 := T) (by decide +kernel) rfl ?_
          exact ih _ _ _ hf hk1
      · rw [if_neg c68_9] at hf
        refine MW.run rfl [(.iconst 0, 0), (.goto 8, 0)] (pc' := 80) (ls' := [some (.ref 137), some (.int k1), some (.int k2), some (.int a3), some (.int a4)]) (st' := [.int 0, .int q8]) (T1 := T) (by decide +kernel) rfl ?_
        refine MW.icmp_le (off := 6) (tgt := 86) (by decide +kernel) (by decide) (fun c80_12 => ?_) (fun c80_12 => ?_)
        · rw [if_pos c80_12] at hf
          refine MW.run rfl [(.iinc 4 1, 1), (.goto (-39), 0)] (pc' := 50) (ls' := [some (.ref 137), some (.int k1), some (.int k2), some (.int a3), some (.int (a4 + 1))]) (st' := []) (T1 := T) (by decide +kernel) rfl ?_
          exact ih _ _ _ hf hk1
        · rw [if_neg c80_12] at hf
          refine MW.run rfl [(.iload 4, 0), (.istore_n 3, 0), (.iinc 4 1, 1), (.goto (-39), 0)] (pc' := 50) (ls' := [some (.ref 137), some (.int k1), some (.int k2), some (.int a4), some (.int (a4 + 1))]) (st' := []) (T1 := T) (by decide +kernel) rfl ?_
          exact ih _ _ _ hf hk1
theorem xm_flatters {l : Launch} {p0 : Int32} {p1 : Int32} {T : mT} {q : Int32} (hf : fm_flatters p0 p1 T = some q) : MOk l yy_X12_flatters 2 [.int p0, .int p1] T (some (.int q)) T := by
  refine MOk.of (ls := [some (.ref 137), some (.int p0), some (.int p1), none, none]) (by decide +kernel) (Nat.le_of_ble_eq_true rfl) rfl ?_
  unfold fm_flatters at hf
  refine MW.run rfl [(.aload_n 0, 0)] (pc' := 1) (ls' := [some (.ref 137), some (.int p0), some (.int p1), none, none]) (st' := [.ref 137]) (T1 := T) (by decide +kernel) rfl ?_
  obtain ⟨q1, hq1, hf⟩ := bd_some hf
  refine MW.callV (As := []) (st := []) lv_RX12_336 rfl (by decide +kernel) (xm_isIsland hq1) (by decide) (by decide) rfl (Nat.le_of_ble_eq_true rfl) rfl ?_
  show MW l yy_X12_flatters 2 _ _ 4 [some (.ref 137), some (.int p0), some (.int p1), none, none] [.int (b2i q1)] T
  refine MW.if_eq (off := 13) (tgt := 17) (by decide +kernel) (by decide) (fun c4_2 => ?_) (fun c4_2 => ?_)
  · rw [if_pos c4_2] at hf
    refine MW.ldcw (idx := 330) (v := (-1000000)) (tb_in 1419 (by decide +kernel) (by decide +kernel)) (by decide +kernel) ?_
    have e9 := Option.some.inj hf
    subst e9
    exact MW.iret rfl (by decide +kernel)
  · rw [if_neg c4_2] at hf
    refine MW.run rfl [(.iload_n 2, 0), (.i2l, 0), (.lconst 0, 0), (.lconst 1, 0)] (pc' := 11) (ls' := [some (.ref 137), some (.int p0), some (.int p1), none, none]) (st' := [.long 1, .long 0, .long ((p1 : Int32).toInt64)]) (T1 := T) (by decide +kernel) rfl ?_
    obtain ⟨q3, hq3, hf⟩ := bd_some hf
    refine MW.callP (As := [.long ((p1 : Int32).toInt64), .long 0, .long 1]) (st := []) lt_RX12_110 (by decide +kernel) (xm_in hq3) (by decide) (by decide) rfl (Nat.le_of_ble_eq_true rfl) rfl ?_
    show MW l yy_X12_flatters 2 _ _ 14 [some (.ref 137), some (.int p0), some (.int p1), none, none] [.int (b2i q3)] T
    refine MW.if_ne (off := 7) (tgt := 21) (by decide +kernel) (by decide) (fun c14_4 => ?_) (fun c14_4 => ?_)
    · rw [if_neg c14_4] at hf
      refine MW.run rfl [(.iload_n 2, 0)] (pc' := 22) (ls' := [some (.ref 137), some (.int p0), some (.int p1), none, none]) (st' := [.int p1]) (T1 := T) (by decide +kernel) rfl ?_
      refine MW.if_ne (off := 23) (tgt := 45) (by decide +kernel) (by decide) (fun c22_5 => ?_) (fun c22_5 => ?_)
      · rw [if_neg c22_5] at hf
        refine MW.run rfl [(.iconst (-1), (-1)), (.istore_n 3, 0), (.iconst 0, 0), (.istore 4, 0)] (pc' := 50) (ls' := [some (.ref 137), some (.int p0), some (.int p1), some (.int (-1)), some (.int 0)]) (st' := []) (T1 := T) (by decide +kernel) rfl ?_
        obtain ⟨w13, hw13, hf⟩ := bd_some hf
        refine xm_flatters_L50 p0 p1 T FU _ _ _ hw13 ?_
        refine MW.run rfl [(.iload_n 3, 0)] (pc' := 93) (ls' := [some (.ref 137), some (.int p0), some (.int p1), some (.int w13.1), some (.int w13.2)]) (st' := [.int w13.1]) (T1 := T) (by decide +kernel) rfl ?_
        have e9 := Option.some.inj hf
        subst e9
        exact MW.iret rfl (by decide +kernel)
      · rw [if_pos c22_5] at hf
        refine MW.run rfl [(.aload_n 0, 0), (.iload_n 1, 0)] (pc' := 27) (ls' := [some (.ref 137), some (.int p0), some (.int p1), none, none]) (st' := [.int p0, .ref 137]) (T1 := T) (by decide +kernel) rfl ?_
        obtain ⟨q14, hq14, hf⟩ := bd_some hf
        refine MW.callV (As := [.int p0]) (st := []) lv_RX12_318 rfl (by decide +kernel) (xm_isPerson hq14) (by decide) (by decide) rfl (Nat.le_of_ble_eq_true rfl) rfl ?_
        show MW l yy_X12_flatters 2 _ _ 30 [some (.ref 137), some (.int p0), some (.int p1), none, none] [.int (b2i q14)] T
        refine MW.if_eq (off := 11) (tgt := 41) (by decide +kernel) (by decide) (fun c30_15 => ?_) (fun c30_15 => ?_)
        · rw [if_pos c30_15] at hf
          refine MW.ldcw (idx := 330) (v := (-1000000)) (tb_in 1419 (by decide +kernel) (by decide +kernel)) (by decide +kernel) ?_
          have e9 := Option.some.inj hf
          subst e9
          exact MW.iret rfl (by decide +kernel)
        · rw [if_neg c30_15] at hf
          refine MW.run rfl [(.aload_n 0, 0), (.iload_n 1, 0)] (pc' := 35) (ls' := [some (.ref 137), some (.int p0), some (.int p1), none, none]) (st' := [.int p0, .ref 137]) (T1 := T) (by decide +kernel) rfl ?_
          obtain ⟨q16, hq16, hf⟩ := bd_some hf
          refine MW.callV (As := [.int p0]) (st := []) lv_RX12_382 rfl (by decide +kernel) (xm_flatteryOf hq16) (by decide) (by decide) rfl (Nat.le_of_ble_eq_true rfl) rfl ?_
          show MW l yy_X12_flatters 2 _ _ 38 [some (.ref 137), some (.int p0), some (.int p1), none, none] [.int q16] T
          refine MW.run rfl [(.goto 6, 0)] (pc' := 44) (ls' := [some (.ref 137), some (.int p0), some (.int p1), none, none]) (st' := [.int q16]) (T1 := T) (by decide +kernel) rfl ?_
          have e9 := Option.some.inj hf
          subst e9
          exact MW.iret rfl (by decide +kernel)
    · rw [if_pos c14_4] at hf
      refine MW.ldcw (idx := 330) (v := (-1000000)) (tb_in 1419 (by decide +kernel) (by decide +kernel)) (by decide +kernel) ?_
      have e9 := Option.some.inj hf
      subst e9
      exact MW.iret rfl (by decide +kernel)
