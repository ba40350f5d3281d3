/-! ===== the reference, method by method (by program) 7 ===== -/
def fm_sum (p0 : Int32) (p1 : Int32) (T : mT) : Option (Int32 × mT) := (fm_isPerson p0 T).bind fun q1 => if (b2i q1) = 0 then (some ((-1000000), T)) else (bif inb 0 410 then (letv (T.1 10 (0 : Int32).toNatClampNeg) fun v3 => (fm_in ((p1 : Int32).toInt64) 0 (((v3 - 1) : Int32).toInt64)).bind fun q4 => if (b2i q4) = 0 then (some ((-1000000), T)) else ((fm_sumOf p0 p1 T).bind fun q6 => some (q6.1, q6.2))) else none)
theorem xm_sum {l : Launch} {p0 : Int32} {p1 : Int32} {T : mT} {q : Int32 × mT} (hf : fm_sum p0 p1 T = some q) : MOk l yy_X12_sum 5 [.int p0, .int p1] T (some (.int q.1)) q.2 := by
  refine MOk.of (ls := [some (.ref 137), some (.int p0), some (.int p1)]) (by decide +kernel) (Nat.le_of_ble_eq_true rfl) rfl ?_
  unfold fm_sum at hf
  refine MW.run rfl [(.aload_n 0, 0), (.iload_n 1, 0)] (pc' := 2) (ls' := [some (.ref 137), some (.int p0), some (.int p1)]) (st' := [.int p0, .ref 137]) (T1 := T) (by decide +kernel) rfl ?_
  obtain ⟨q1, hq1, hf⟩ := bd_some hf
  refine MW.callV (As := [.int p0]) (st := []) lv_RX12_318 rfl (by decide +kernel) (xm_isPerson hq1) (by decide) (by decide) rfl (Nat.le_of_ble_eq_true rfl) rfl ?_
  show MW l yy_X12_sum 5 _ _ 5 [some (.ref 137), some (.int p0), some (.int p1)] [.int (b2i q1)] T
  refine MW.if_eq (off := 30) (tgt := 35) (by decide +kernel) (by decide) (fun c5_2 => ?_) (fun c5_2 => ?_)
  · rw [if_pos c5_2] at hf
    refine MW.ldcw (idx := 330) (v := (-1000000)) (tb_in 1419 (by decide +kernel) (by decide +kernel)) (by decide +kernel) ?_
    have e9 := Option.some.inj hf
    subst e9
    exact MW.iret rfl (by decide +kernel)
  · rw [if_neg c5_2] at hf
    refine MW.run rfl [(.iload_n 2, 0), (.i2l, 0), (.lconst 0, 0), (.aload_n 0, 0), (.getfield 39, 0), (.iconst 0, 0)] (pc' := 16) (ls' := [some (.ref 137), some (.int p0), some (.int p1)]) (st' := [.int 0, .ref 147, .long 0, .long ((p1 : Int32).toInt64)]) (T1 := T) (by decide +kernel) rfl ?_
    obtain ⟨hi_v3, hf⟩ := bi_some hf
    obtain ⟨v3, hv3, hf⟩ := letv_some hf
    refine MW.iald 10 410 rfl (by decide) rfl (by decide +kernel) (inb_in hi_v3) ?_
    rw [← hv3]
    refine MW.run rfl [(.iconst 1, 1), (.isub, 0), (.i2l, 0)] (pc' := 20) (ls' := [some (.ref 137), some (.int p0), some (.int p1)]) (st' := [.long (((v3 - 1) : Int32).toInt64), .long 0, .long ((p1 : Int32).toInt64)]) (T1 := T) (by decide +kernel) rfl ?_
    obtain ⟨q4, hq4, hf⟩ := bd_some hf
    refine MW.callP (As := [.long ((p1 : Int32).toInt64), .long 0, .long (((v3 - 1) : Int32).toInt64)]) (st := []) lt_RX12_110 (by decide +kernel) (xm_in hq4) (by decide) (by decide) rfl (Nat.le_of_ble_eq_true rfl) rfl ?_
    show MW l yy_X12_sum 5 _ _ 23 [some (.ref 137), some (.int p0), some (.int p1)] [.int (b2i q4)] T
    refine MW.if_eq (off := 12) (tgt := 35) (by decide +kernel) (by decide) (fun c23_5 => ?_) (fun c23_5 => ?_)
    · rw [if_pos c23_5] at hf
      refine MW.ldcw (idx := 330) (v := (-1000000)) (tb_in 1419 (by decide +kernel) (by decide +kernel)) (by decide +kernel) ?_
      have e9 := Option.some.inj hf
      subst e9
      exact MW.iret rfl (by decide +kernel)
    · rw [if_neg c23_5] at hf
      refine MW.run rfl [(.aload_n 0, 0), (.iload_n 1, 0), (.iload_n 2, 0)] (pc' := 29) (ls' := [some (.ref 137), some (.int p0), some (.int p1)]) (st' := [.int p1, .int p0, .ref 137]) (T1 := T) (by decide +kernel) rfl ?_
      obtain ⟨q6, hq6, hf⟩ := bd_some hf
      refine MW.callV (As := [.int p0, .int p1]) (st := []) lv_RX12_315 rfl (by decide +kernel) (xm_sumOf hq6) (by decide) (by decide) rfl (Nat.le_of_ble_eq_true rfl) rfl ?_
      show MW l yy_X12_sum 5 _ _ 32 [some (.ref 137), some (.int p0), some (.int p1)] [.int q6.1] q6.2
      refine MW.run rfl [(.goto 6, 0)] (pc' := 38) (ls' := [some (.ref 137), some (.int p0), some (.int p1)]) (st' := [.int q6.1]) (T1 := q6.2) (by decide +kernel) rfl ?_
      have e9 := Option.some.inj hf
      subst e9
      exact MW.iret rfl (by decide +kernel)
def fm_tie (p0 : Int32) (p1 : Int32) (T : mT) : Option (Int32) := (fm_isPerson p0 T).bind fun q1 => if (b2i q1) = 0 then (some (-1)) else ((fm_isPerson p1 T).bind fun q3 => if (b2i q3) = 0 then (some (-1)) else (if p0 = p1 then (some (-1)) else ((fm_tieOf p0 p1 T).bind fun q6 => some q6)))
theorem xm_tie {l : Launch} {p0 : Int32} {p1 : Int32} {T : mT} {q : Int32} (hf : fm_tie p0 p1 T = some q) : MOk l yy_X12_tie 1 [.int p0, .int p1] T (some (.int q)) T := by
  refine MOk.of (ls := [some (.ref 137), some (.int p0), some (.int p1)]) (by decide +kernel) (Nat.le_of_ble_eq_true rfl) rfl ?_
  unfold fm_tie at hf
  refine MW.run rfl [(.aload_n 0, 0), (.iload_n 1, 0)] (pc' := 2) (ls' := [some (.ref 137), some (.int p0), some (.int p1)]) (st' := [.int p0, .ref 137]) (T1 := T) (by decide +kernel) rfl ?_
  obtain ⟨q1, hq1, hf⟩ := bd_some hf
  refine MW.callV (As := [.int p0]) (st := []) lv_RX12_318 rfl (by decide +kernel) (xm_isPerson hq1) (by decide) (by decide) rfl (Nat.le_of_ble_eq_true rfl) rfl ?_
  show MW l yy_X12_tie 1 _ _ 5 [some (.ref 137), some (.int p0), some (.int p1)] [.int (b2i q1)] T
  refine MW.if_eq (off := 25) (tgt := 30) (by decide +kernel) (by decide) (fun c5_2 => ?_) (fun c5_2 => ?_)
  · rw [if_pos c5_2] at hf
    refine MW.run rfl [(.iconst (-1), (-1))] (pc' := 31) (ls' := [some (.ref 137), some (.int p0), some (.int p1)]) (st' := [.int (-1)]) (T1 := T) (by decide +kernel) rfl ?_
    have e9 := Option.some.inj hf
    subst e9
    exact MW.iret rfl (by decide +kernel)
  · rw [if_neg c5_2] at hf
    refine MW.run rfl [(.aload_n 0, 0), (.iload_n 2, 0)] (pc' := 10) (ls' := [some (.ref 137), some (.int p0), some (.int p1)]) (st' := [.int p1, .ref 137]) (T1 := T) (by decide +kernel) rfl ?_
    obtain ⟨q3, hq3, hf⟩ := bd_some hf
    refine MW.callV (As := [.int p1]) (st := []) lv_RX12_318 rfl (by decide +kernel) (xm_isPerson hq3) (by decide) (by decide) rfl (Nat.le_of_ble_eq_true rfl) rfl ?_
    show MW l yy_X12_tie 1 _ _ 13 [some (.ref 137), some (.int p0), some (.int p1)] [.int (b2i q3)] T
    refine MW.if_eq (off := 17) (tgt := 30) (by decide +kernel) (by decide) (fun c13_4 => ?_) (fun c13_4 => ?_)
    · rw [if_pos c13_4] at hf
      refine MW.run rfl [(.iconst (-1), (-1))] (pc' := 31) (ls' := [some (.ref 137), some (.int p0), some (.int p1)]) (st' := [.int (-1)]) (T1 := T) (by decide +kernel) rfl ?_
      have e9 := Option.some.inj hf
      subst e9
      exact MW.iret rfl (by decide +kernel)
    · rw [if_neg c13_4] at hf
      refine MW.run rfl [(.iload_n 1, 0), (.iload_n 2, 0)] (pc' := 18) (ls' := [some (.ref 137), some (.int p0), some (.int p1)]) (st' := [.int p1, .int p0]) (T1 := T) (by decide +kernel) rfl ?_
      refine MW.icmp_eq (off := 12) (tgt := 30) (by decide +kernel) (by decide) (fun c18_5 => ?_) (fun c18_5 => ?_)
      · rw [if_pos c18_5] at hf
        refine MW.run rfl [(.iconst (-1), (-1))] (pc' := 31) (ls' := [some (.ref 137), some (.int p0), some (.int p1)]) (st' := [.int (-1)]) (T1 := T) (by decide +kernel) rfl ?_
        have e9 := Option.some.inj hf
        subst e9
        exact MW.iret rfl (by decide +kernel)
      · rw [if_neg c18_5] at hf
        refine MW.run rfl [(.aload_n 0, 0), (.iload_n 1, 0), (.iload_n 2, 0)] (pc' := 24) (ls' := [some (.ref 137), some (.int p0), some (.int p1)]) (st' := [.int p1, .int p0, .ref 137]) (T1 := T) (by decide +kernel) rfl ?_
        obtain ⟨q6, hq6, hf⟩ := bd_some hf
        refine MW.callV (As := [.int p0, .int p1]) (st := []) lv_RX12_285 rfl (by decide +kernel) (xm_tieOf hq6) (by decide) (by decide) rfl (Nat.le_of_ble_eq_true rfl) rfl ?_
        show MW l yy_X12_tie 1 _ _ 27 [some (.ref 137), some (.int p0), some (.int p1)] [.int q6] T
        refine MW.run rfl [(.goto 4, 0)] (pc' := 31) (ls' := [some (.ref 137), some (.int p0), some (.int p1)]) (st' := [.int q6]) (T1 := T) (by decide +kernel) rfl ?_
        have e9 := Option.some.inj hf
        subst e9
        exact MW.iret rfl (by decide +kernel)
def fm_telling (p0 : Int32) (p1 : Int32) (T : mT) : Option (Int32) := (fm_isTelling p0 T).bind fun q1 => if (b2i q1) = 0 then (some (-2)) else ((fm_in ((p1 : Int32).toInt64) 0 6).bind fun q3 => if (b2i q3) = 0 then (some (-2)) else (if 6 ≤ p1 then ((fm_isLook p0 T).bind fun q6 => if (b2i q6) = 0 then (some 0) else (some 1)) else ((fm_tellingOf p0 p1 T).bind fun q8 => some q8)))
theorem xm_telling {l : Launch} {p0 : Int32} {p1 : Int32} {T : mT} {q : Int32} (hf : fm_telling p0 p1 T = some q) : MOk l yy_X12_telling 2 [.int p0, .int p1] T (some (.int q)) T := by
  refine MOk.of (ls := [some (.ref 137), some (.int p0), some (.int p1)]) (by decide +kernel) (Nat.le_of_ble_eq_true rfl) rfl ?_
  unfold fm_telling at hf
  refine MW.run rfl [(.aload_n 0, 0), (.iload_n 1, 0)] (pc' := 2) (ls' := [some (.ref 137), some (.int p0), some (.int p1)]) (st' := [.int p0, .ref 137]) (T1 := T) (by decide +kernel) rfl ?_
  obtain ⟨q1, hq1, hf⟩ := bd_some hf
  refine MW.callV (As := [.int p0]) (st := []) lv_RX12_331 rfl (by decide +kernel) (xm_isTelling hq1) (by decide) (by decide) rfl (Nat.le_of_ble_eq_true rfl) rfl ?_
  show MW l yy_X12_telling 2 _ _ 5 [some (.ref 137), some (.int p0), some (.int p1)] [.int (b2i q1)] T
  refine MW.if_eq (off := 15) (tgt := 20) (by decide +kernel) (by decide) (fun c5_2 => ?_) (fun c5_2 => ?_)
  · rw [if_pos c5_2] at hf
    refine MW.run rfl [(.bipush (-2), (-2))] (pc' := 22) (ls' := [some (.ref 137), some (.int p0), some (.int p1)]) (st' := [.int (-2)]) (T1 := T) (by decide +kernel) rfl ?_
    have e9 := Option.some.inj hf
    subst e9
    exact MW.iret rfl (by decide +kernel)
  · rw [if_neg c5_2] at hf
    refine MW.run rfl [(.iload_n 2, 0), (.i2l, 0), (.lconst 0, 0)] (pc' := 11) (ls' := [some (.ref 137), some (.int p0), some (.int p1)]) (st' := [.long 0, .long ((p1 : Int32).toInt64)]) (T1 := T) (by decide +kernel) rfl ?_
    refine MW.ldc2 (idx := 334) (v := 6) (tb_in 1432 (by decide +kernel) (by decide +kernel)) (by decide +kernel) ?_
    obtain ⟨q3, hq3, hf⟩ := bd_some hf
    refine MW.callP (As := [.long ((p1 : Int32).toInt64), .long 0, .long 6]) (st := []) lt_RX12_110 (by decide +kernel) (xm_in hq3) (by decide) (by decide) rfl (Nat.le_of_ble_eq_true rfl) rfl ?_
    show MW l yy_X12_telling 2 _ _ 17 [some (.ref 137), some (.int p0), some (.int p1)] [.int (b2i q3)] T
    refine MW.if_ne (off := 6) (tgt := 23) (by decide +kernel) (by decide) (fun c17_4 => ?_) (fun c17_4 => ?_)
    · rw [if_neg c17_4] at hf
      refine MW.run rfl [(.iload_n 2, 0), (.bipush 6, 6)] (pc' := 26) (ls' := [some (.ref 137), some (.int p0), some (.int p1)]) (st' := [.int 6, .int p1]) (T1 := T) (by decide +kernel) rfl ?_
      refine MW.icmp_ge (off := 12) (tgt := 38) (by decide +kernel) (by decide) (fun c26_5 => ?_) (fun c26_5 => ?_)
      · rw [if_pos c26_5] at hf
        refine MW.run rfl [(.aload_n 0, 0), (.iload_n 1, 0)] (pc' := 40) (ls' := [some (.ref 137), some (.int p0), some (.int p1)]) (st' := [.int p0, .ref 137]) (T1 := T) (by decide +kernel) rfl ?_
        obtain ⟨q6, hq6, hf⟩ := bd_some hf
        refine MW.callV (As := [.int p0]) (st := []) lv_RX12_306 rfl (by decide +kernel) (xm_isLook hq6) (by decide) (by decide) rfl (Nat.le_of_ble_eq_true rfl) rfl ?_
        show MW l yy_X12_telling 2 _ _ 43 [some (.ref 137), some (.int p0), some (.int p1)] [.int (b2i q6)] T
        refine MW.if_eq (off := 7) (tgt := 50) (by decide +kernel) (by decide) (fun c43_7 => ?_) (fun c43_7 => ?_)
        · rw [if_pos c43_7] at hf
          refine MW.run rfl [(.iconst 0, 0)] (pc' := 51) (ls' := [some (.ref 137), some (.int p0), some (.int p1)]) (st' := [.int 0]) (T1 := T) (by decide +kernel) rfl ?_
          have e9 := Option.some.inj hf
          subst e9
          exact MW.iret rfl (by decide +kernel)
        · rw [if_neg c43_7] at hf
          refine MW.run rfl [(.iconst 1, 1), (.goto 4, 0)] (pc' := 51) (ls' := [some (.ref 137), some (.int p0), some (.int p1)]) (st' := [.int 1]) (T1 := T) (by decide +kernel) rfl ?_
          have e9 := Option.some.inj hf
          subst e9
          exact MW.iret rfl (by decide +kernel)
      · rw [if_neg c26_5] at hf
        refine MW.run rfl [(.aload_n 0, 0), (.iload_n 1, 0), (.iload_n 2, 0)] (pc' := 32) (ls' := [some (.ref 137), some (.int p0), some (.int p1)]) (st' := [.int p1, .int p0, .ref 137]) (T1 := T) (by decide +kernel) rfl ?_
        obtain ⟨q8, hq8, hf⟩ := bd_some hf
        refine MW.callV (As := [.int p0, .int p1]) (st := []) lv_RX12_278 rfl (by decide +kernel) (xm_tellingOf hq8) (by decide) (by decide) rfl (Nat.le_of_ble_eq_true rfl) rfl ?_
        show MW l yy_X12_telling 2 _ _ 35 [some (.ref 137), some (.int p0), some (.int p1)] [.int q8] T
        refine MW.run rfl [(.goto 16, 0)] (pc' := 51) (ls' := [some (.ref 137), some (.int p0), some (.int p1)]) (st' := [.int q8]) (T1 := T) (by decide +kernel) rfl ?_
        have e9 := Option.some.inj hf
        subst e9
        exact MW.iret rfl (by decide +kernel)
    · rw [if_pos c17_4] at hf
      refine MW.run rfl [(.bipush (-2), (-2))] (pc' := 22) (ls' := [some (.ref 137), some (.int p0), some (.int p1)]) (st' := [.int (-2)]) (T1 := T) (by decide +kernel) rfl ?_
      have e9 := Option.some.inj hf
      subst e9
      exact MW.iret rfl (by decide +kernel)
def fm_keepsAct_L13  : Nat → Int32 → mT → Option (Int32 × mT)
  | 0, _, _ => none
  | N + 1, a1, T => if 7040 ≤ a1 then (some (a1, T)) else (bif inb a1 7040 then (letv (T.1 11 (a1 : Int32).toNatClampNeg) fun v4 => bif inb (a1 - 352) 7040 then (letv (ma T 11 ((a1 - 352) : Int32).toNatClampNeg v4) fun T5 => fm_keepsAct_L13  N (a1 + 1) T5) else none) else none)
def fm_keepsAct_L54  : Nat → Int32 → mT → Option (Int32 × mT)
  | 0, _, _ => none
  | N + 1, a1, T => if 352 ≤ a1 then (some (a1, T)) else (bif inb a1 410 then (letv (T.1 10 (a1 : Int32).toNatClampNeg) fun v9 => bif inb ((352 * (T.1 0 25)) + a1) 7040 then (letv (ma T 11 (((352 * (T.1 0 25)) + a1) : Int32).toNatClampNeg v9) fun T10 => fm_keepsAct_L54  N (a1 + 1) T10) else none) else none)
def fm_keepsAct  (T : mT) : Option (mT) := Option.bind (if (T.1 0 25) = 20 then ((fm_keepsAct_L13 FU 352 T).bind fun w6 => letv (mz w6.2 25 ((w6.2.1 0 25) - 1)) fun T7 => some (T7)) else (some (T)) : Option (mT)) fun w1 => (fm_keepsAct_L54 FU 0 w1).bind fun w11 => letv (mz w11.2 25 ((w11.2.1 0 25) + 1)) fun T12 => some T12
theorem xm_keepsAct_L13 {l : Launch} {r : Option Value} {T' : mT}  : ∀ (N : Nat) (a1 : Int32) (T : mT) (W0 : Int32 × mT) (_ : fm_keepsAct_L13  N a1 T = some W0) (_ : MW l yy_X12_keepsAct 0 r T' 42 [some (.ref 137), some (.int W0.1)] [] W0.2), MW l yy_X12_keepsAct 0 r T' 13 [some (.ref 137), some (.int a1)] [] T := by
  intro N
  induction N with
  | zero =>
    intro a1 T W0 hf _
    cases hf
  | succ N ih =>
    intro a1 T W0 hf hk1
    unfold fm_keepsAct_L13 at hf
    refine MW.run rfl [(.iload_n 1, 0), (.sipush 7040, 7040)] (pc' := 17) (ls' := [some (.ref 137), some (.int a1)]) (st' := [.int 7040, .int a1]) (T1 := T) (by decide +kernel) rfl ?_
    refine MW.icmp_ge (off := 25) (tgt := 42) (by decide +kernel) (by decide) (fun c17_3 => ?_) (fun c17_3 => ?_)
    · rw [if_pos c17_3] at hf
      have e9 := Option.some.inj hf
      subst e9
      exact hk1
    · rw [if_neg c17_3] at hf
      refine MW.run rfl [(.aload_n 0, 0), (.getfield 46, 0), (.iload_n 1, 0), (.sipush 352, 352), (.isub, 0), (.aload_n 0, 0), (.getfield 46, 0), (.iload_n 1, 0)] (pc' := 34) (ls' := [some (.ref 137), some (.int a1)]) (st' := [.int a1, .ref 148, .int (a1 - 352), .ref 148]) (T1 := T) (by decide +kernel) rfl ?_
      obtain ⟨hi_v4, hf⟩ := bi_some hf
      obtain ⟨v4, hv4, hf⟩ := letv_some hf
      refine MW.iald 11 7040 rfl (by decide) rfl (by decide +kernel) (inb_in hi_v4) ?_
      rw [← hv4]
      obtain ⟨hi_T5, hf⟩ := bi_some hf
      obtain ⟨T5, hT5, hf⟩ := letv_some hf
      refine MW.iast 11 7040 rfl (by decide) (fun _ => rfl) (by decide +kernel) (inb_in hi_T5) ?_
      rw [← hT5]
      refine MW.run rfl [(.iinc 1 1, 1), (.goto (-26), 0)] (pc' := 13) (ls' := [some (.ref 137), some (.int (a1 + 1))]) (st' := []) (T1 := T5) (by decide +kernel) rfl ?_
      exact ih _ _ _ hf hk1
theorem xm_keepsAct_L54 {l : Launch} {r : Option Value} {T' : mT}  : ∀ (N : Nat) (a1 : Int32) (T : mT) (W0 : Int32 × mT) (_ : fm_keepsAct_L54  N a1 T = some W0) (_ : MW l yy_X12_keepsAct 0 r T' 88 [some (.ref 137), some (.int W0.1)] [] W0.2), MW l yy_X12_keepsAct 0 r T' 54 [some (.ref 137), some (.int a1)] [] T := by
  intro N
  induction N with
  | zero =>
    intro a1 T W0 hf _
    cases hf
  | succ N ih =>
    intro a1 T W0 hf hk1
    unfold fm_keepsAct_L54 at hf
    refine MW.run rfl [(.iload_n 1, 0), (.sipush 352, 352)] (pc' := 58) (ls' := [some (.ref 137), some (.int a1)]) (st' := [.int 352, .int a1]) (T1 := T) (by decide +kernel) rfl ?_
    refine MW.icmp_ge (off := 30) (tgt := 88) (by decide +kernel) (by decide) (fun c58_8 => ?_) (fun c58_8 => ?_)
    · rw [if_pos c58_8] at hf
      have e9 := Option.some.inj hf
      subst e9
      exact hk1
    · rw [if_neg c58_8] at hf
      refine MW.run rfl [(.aload_n 0, 0), (.getfield 46, 0), (.sipush 352, 352), (.aload_n 0, 0), (.getfield 260, 0), (.imul, 0), (.iload_n 1, 0), (.iadd, 0), (.aload_n 0, 0), (.getfield 39, 0), (.iload_n 1, 0)] (pc' := 80) (ls' := [some (.ref 137), some (.int a1)]) (st' := [.int a1, .ref 147, .int ((352 * (T.1 0 25)) + a1), .ref 148]) (T1 := T) (by decide +kernel) rfl ?_
      obtain ⟨hi_v9, hf⟩ := bi_some hf
      obtain ⟨v9, hv9, hf⟩ := letv_some hf
      refine MW.iald 10 410 rfl (by decide) rfl (by decide +kernel) (inb_in hi_v9) ?_
      rw [← hv9]
      obtain ⟨hi_T10, hf⟩ := bi_some hf
      obtain ⟨T10, hT10, hf⟩ := letv_some hf
      refine MW.iast 11 7040 rfl (by decide) (fun _ => rfl) (by decide +kernel) (inb_in hi_T10) ?_
      rw [← hT10]
      refine MW.run rfl [(.iinc 1 1, 1), (.goto (-31), 0)] (pc' := 54) (ls' := [some (.ref 137), some (.int (a1 + 1))]) (st' := []) (T1 := T10) (by decide +kernel) rfl ?_
      exact ih _ _ _ hf hk1
theorem xm_keepsAct {l : Launch}  {T : mT} {q : mT} (hf : fm_keepsAct  T = some q) : MOk l yy_X12_keepsAct 0 [] T none q := by
  refine MOk.of (ls := [some (.ref 137), none]) (by decide +kernel) (Nat.le_of_ble_eq_true rfl) rfl ?_
  unfold fm_keepsAct at hf
  refine MW.run rfl [(.aload_n 0, 0), (.getfield 260, 0), (.bipush 20, 20)] (pc' := 6) (ls' := [some (.ref 137), none]) (st' := [.int 20, .int (T.1 0 25)]) (T1 := T) (by decide +kernel) rfl ?_
  obtain ⟨w1, hw1, hf⟩ := bd_some hf
  have hJ : MW l yy_X12_keepsAct 0 none q 52 [some (.ref 137), none] [] w1 := by
    refine MW.run rfl [(.iconst 0, 0), (.istore_n 1, 0)] (pc' := 54) (ls' := [some (.ref 137), some (.int 0)]) (st' := []) (T1 := w1) (by decide +kernel) rfl ?_
    obtain ⟨w11, hw11, hf⟩ := bd_some hf
    refine xm_keepsAct_L54  FU _ _ _ hw11 ?_
    refine MW.run rfl [(.aload_n 0, 0), (.dup, 0), (.getfield 260, 0), (.iconst 1, 1), (.iadd, 0), (.putfield 260, 0)] (pc' := 98) (ls' := [some (.ref 137), some (.int w11.1)]) (st' := []) (T1 := mz w11.2 25 ((w11.2.1 0 25) + 1)) (by decide +kernel) rfl ?_
    obtain ⟨T12, hT12, hf⟩ := letv_some hf
    rw [← hT12]
    have e9 := Option.some.inj hf
    subst e9
    exact MW.vret rfl (by decide +kernel)
  clear hf
  refine MW.icmp_ne (off := 46) (tgt := 52) (by decide +kernel) (by decide) (fun c6_2 => ?_) (fun c6_2 => ?_)
  · rw [if_neg c6_2] at hw1
    have e9 := Option.some.inj hw1
    subst e9
    exact hJ
  · rw [if_pos c6_2] at hw1
    refine MW.run rfl [(.sipush 352, 352), (.istore_n 1, 0)] (pc' := 13) (ls' := [some (.ref 137), some (.int 352)]) (st' := []) (T1 := T) (by decide +kernel) rfl ?_
    obtain ⟨w6, hw6, hw1⟩ := bd_some hw1
    refine xm_keepsAct_L13  FU _ _ _ hw6 ?_
    refine MW.run rfl [(.aload_n 0, 0), (.dup, 0), (.getfield 260, 0), (.iconst 1, 1), (.isub, 0), (.putfield 260, 0)] (pc' := 52) (ls' := [some (.ref 137), some (.int w6.1)]) (st' := []) (T1 := mz w6.2 25 ((w6.2.1 0 25) - 1)) (by decide +kernel) rfl ?_
    obtain ⟨T7, hT7, hw1⟩ := letv_some hw1
    rw [← hT7]
    have e9 := Option.some.inj hw1
    subst e9
    refine MW.fgt (ls' := [some (.ref 137), none]) (by repeat' (first | exact trivial | refine ⟨rfl, ?_⟩)) ?_
    exact hJ
def fm_undo_L21  : Nat → Int32 → mT → Option (Int32 × mT)
  | 0, _, _ => none
  | N + 1, a1, T => if 352 ≤ a1 then (some (a1, T)) else (bif inb ((352 * (T.1 0 25)) + a1) 7040 then (letv (T.1 11 (((352 * (T.1 0 25)) + a1) : Int32).toNatClampNeg) fun v4 => bif inb a1 410 then (letv (ma T 10 (a1 : Int32).toNatClampNeg v4) fun T5 => fm_undo_L21  N (a1 + 1) T5) else none) else none)
def fm_undo  (T : mT) : Option (Int32 × mT) := if (T.1 0 25) = 0 then (some ((-1), T)) else (letv (mz T 25 ((T.1 0 25) - 1)) fun T2 => (fm_undo_L21 FU 0 T2).bind fun w6 => some (w6.2.1 0 25, w6.2))
theorem xm_undo_L21 {l : Launch} {r : Option Value} {T' : mT}  : ∀ (N : Nat) (a1 : Int32) (T : mT) (W0 : Int32 × mT) (_ : fm_undo_L21  N a1 T = some W0) (_ : MW l yy_X12_undo 0 r T' 55 [some (.ref 137), some (.int W0.1)] [] W0.2), MW l yy_X12_undo 0 r T' 21 [some (.ref 137), some (.int a1)] [] T := by
  intro N
  induction N with
  | zero =>
    intro a1 T W0 hf _
    cases hf
  | succ N ih =>
    intro a1 T W0 hf hk1
    unfold fm_undo_L21 at hf
    refine MW.run rfl [(.iload_n 1, 0), (.sipush 352, 352)] (pc' := 25) (ls' := [some (.ref 137), some (.int a1)]) (st' := [.int 352, .int a1]) (T1 := T) (by decide +kernel) rfl ?_
    refine MW.icmp_ge (off := 30) (tgt := 55) (by decide +kernel) (by decide) (fun c25_3 => ?_) (fun c25_3 => ?_)
    · rw [if_pos c25_3] at hf
      have e9 := Option.some.inj hf
      subst e9
      exact hk1
    · rw [if_neg c25_3] at hf
      refine MW.run rfl [(.aload_n 0, 0), (.getfield 39, 0), (.iload_n 1, 0), (.aload_n 0, 0), (.getfield 46, 0), (.sipush 352, 352), (.aload_n 0, 0), (.getfield 260, 0), (.imul, 0), (.iload_n 1, 0), (.iadd, 0)] (pc' := 47) (ls' := [some (.ref 137), some (.int a1)]) (st' := [.int ((352 * (T.1 0 25)) + a1), .ref 148, .int a1, .ref 147]) (T1 := T) (by decide +kernel) rfl ?_
      obtain ⟨hi_v4, hf⟩ := bi_some hf
      obtain ⟨v4, hv4, hf⟩ := letv_some hf
      refine MW.iald 11 7040 rfl (by decide) rfl (by decide +kernel) (inb_in hi_v4) ?_
      rw [← hv4]
      obtain ⟨hi_T5, hf⟩ := bi_some hf
      obtain ⟨T5, hT5, hf⟩ := letv_some hf
      refine MW.iast 10 410 rfl (by decide) (fun _ => rfl) (by decide +kernel) (inb_in hi_T5) ?_
      rw [← hT5]
      refine MW.run rfl [(.iinc 1 1, 1), (.goto (-31), 0)] (pc' := 21) (ls' := [some (.ref 137), some (.int (a1 + 1))]) (st' := []) (T1 := T5) (by decide +kernel) rfl ?_
      exact ih _ _ _ hf hk1
theorem xm_undo {l : Launch}  {T : mT} {q : Int32 × mT} (hf : fm_undo  T = some q) : MOk l yy_X12_undo 0 [] T (some (.int q.1)) q.2 := by
  refine MOk.of (ls := [some (.ref 137), none]) (by decide +kernel) (Nat.le_of_ble_eq_true rfl) rfl ?_
  unfold fm_undo at hf
  refine MW.run rfl [(.aload_n 0, 0), (.getfield 260, 0)] (pc' := 4) (ls' := [some (.ref 137), none]) (st' := [.int (T.1 0 25)]) (T1 := T) (by decide +kernel) rfl ?_
  refine MW.if_ne (off := 5) (tgt := 9) (by decide +kernel) (by decide) (fun c4_1 => ?_) (fun c4_1 => ?_)
  · rw [if_neg c4_1] at hf
    refine MW.run rfl [(.aload_n 0, 0), (.dup, 0), (.getfield 260, 0), (.iconst 1, 1), (.isub, 0), (.putfield 260, 0)] (pc' := 19) (ls' := [some (.ref 137), none]) (st' := []) (T1 := mz T 25 ((T.1 0 25) - 1)) (by decide +kernel) rfl ?_
    obtain ⟨T2, hT2, hf⟩ := letv_some hf
    rw [← hT2]
    refine MW.run rfl [(.iconst 0, 0), (.istore_n 1, 0)] (pc' := 21) (ls' := [some (.ref 137), some (.int 0)]) (st' := []) (T1 := T2) (by decide +kernel) rfl ?_
    obtain ⟨w6, hw6, hf⟩ := bd_some hf
    refine xm_undo_L21  FU _ _ _ hw6 ?_
    refine MW.run rfl [(.aload_n 0, 0), (.getfield 260, 0)] (pc' := 59) (ls' := [some (.ref 137), some (.int w6.1)]) (st' := [.int (w6.2.1 0 25)]) (T1 := w6.2) (by decide +kernel) rfl ?_
    have e9 := Option.some.inj hf
    subst e9
    exact MW.iret rfl (by decide +kernel)
  · rw [if_pos c4_1] at hf
    refine MW.run rfl [(.iconst (-1), (-1))] (pc' := 8) (ls' := [some (.ref 137), none]) (st' := [.int (-1)]) (T1 := T) (by decide +kernel) rfl ?_
    have e9 := Option.some.inj hf
    subst e9
    exact MW.iret rfl (by decide +kernel)
def fm_isHourLeft  (T : mT) : Option (Bool) := (fm_isIsland T).bind fun q1 => if (b2i q1) = 0 then (some false) else (bif inb 2 410 then (letv (T.1 10 (2 : Int32).toNatClampNeg) fun v3 => if 9999 ≤ v3 then (some false) else (some true)) else none)
theorem xm_isHourLeft {l : Launch}  {T : mT} {q : Bool} (hf : fm_isHourLeft  T = some q) : MOk l yy_X12_isHourLeft 1 [] T (some (.int (b2i q))) T := by
  refine MOk.of (ls := [some (.ref 137)]) (by decide +kernel) (Nat.le_of_ble_eq_true rfl) rfl ?_
  unfold fm_isHourLeft at hf
  refine MW.run rfl [(.aload_n 0, 0)] (pc' := 1) (ls' := [some (.ref 137)]) (st' := [.ref 137]) (T1 := T) (by decide +kernel) rfl ?_
  obtain ⟨q1, hq1, hf⟩ := bd_some hf
  refine MW.callV (As := []) (st := []) lv_RX12_336 rfl (by decide +kernel) (xm_isIsland hq1) (by decide) (by decide) rfl (Nat.le_of_ble_eq_true rfl) rfl ?_
  show MW l yy_X12_isHourLeft 1 _ _ 4 [some (.ref 137)] [.int (b2i q1)] T
  refine MW.if_eq (off := 19) (tgt := 23) (by decide +kernel) (by decide) (fun c4_2 => ?_) (fun c4_2 => ?_)
  · rw [if_pos c4_2] at hf
    refine MW.run rfl [(.iconst 0, 0)] (pc' := 24) (ls' := [some (.ref 137)]) (st' := [.int 0]) (T1 := T) (by decide +kernel) rfl ?_
    have e9 := Option.some.inj hf
    subst e9
    exact MW.zret rfl (b2i_nar _) (by decide +kernel)
  · rw [if_neg c4_2] at hf
    refine MW.run rfl [(.aload_n 0, 0), (.getfield 39, 0), (.iconst 2, 2)] (pc' := 12) (ls' := [some (.ref 137)]) (st' := [.int 2, .ref 147]) (T1 := T) (by decide +kernel) rfl ?_
    obtain ⟨hi_v3, hf⟩ := bi_some hf
    obtain ⟨v3, hv3, hf⟩ := letv_some hf
    refine MW.iald 10 410 rfl (by decide) rfl (by decide +kernel) (inb_in hi_v3) ?_
    rw [← hv3]
    refine MW.run rfl [(.sipush 9999, 9999)] (pc' := 16) (ls' := [some (.ref 137)]) (st' := [.int 9999, .int v3]) (T1 := T) (by decide +kernel) rfl ?_
    refine MW.icmp_ge (off := 7) (tgt := 23) (by decide +kernel) (by decide) (fun c16_4 => ?_) (fun c16_4 => ?_)
    · rw [if_pos c16_4] at hf
      refine MW.run rfl [(.iconst 0, 0)] (pc' := 24) (ls' := [some (.ref 137)]) (st' := [.int 0]) (T1 := T) (by decide +kernel) rfl ?_
      have e9 := Option.some.inj hf
      subst e9
      exact MW.zret rfl (b2i_nar _) (by decide +kernel)
    · rw [if_neg c16_4] at hf
      refine MW.run rfl [(.iconst 1, 1), (.goto 4, 0)] (pc' := 24) (ls' := [some (.ref 137)]) (st' := [.int 1]) (T1 := T) (by decide +kernel) rfl ?_
      have e9 := Option.some.inj hf
      subst e9
      exact MW.zret rfl (b2i_nar _) (by decide +kernel)
def fm_comes (p0 : Int32) (p1 : Int32) (p2 : Int32) (p3 : Int32) (p4 : Int32) (T : mT) : Option (mT) := bif inb 5 410 then (letv (T.1 10 (5 : Int32).toNatClampNeg) fun v1 => bif inb (112 + (6 * v1)) 410 then (letv (ma T 10 ((112 + (6 * v1)) : Int32).toNatClampNeg p0) fun T2 => bif inb ((112 + (6 * v1)) + 1) 410 then (letv (ma T2 10 (((112 + (6 * v1)) + 1) : Int32).toNatClampNeg p1) fun T3 => bif inb ((112 + (6 * v1)) + 2) 410 then (letv (ma T3 10 (((112 + (6 * v1)) + 2) : Int32).toNatClampNeg p2) fun T4 => bif inb ((112 + (6 * v1)) + 3) 410 then (letv (ma T4 10 (((112 + (6 * v1)) + 3) : Int32).toNatClampNeg p3) fun T5 => bif inb 2 410 then (letv (T5.1 10 (2 : Int32).toNatClampNeg) fun v6 => bif inb ((112 + (6 * v1)) + 4) 410 then (letv (ma T5 10 (((112 + (6 * v1)) + 4) : Int32).toNatClampNeg v6) fun T7 => bif inb ((112 + (6 * v1)) + 5) 410 then (letv (ma T7 10 (((112 + (6 * v1)) + 5) : Int32).toNatClampNeg p4) fun T8 => bif inb 5 410 then (letv (T8.1 10 (5 : Int32).toNatClampNeg) fun v9 => bif inb 5 410 then (letv (ma T8 10 (5 : Int32).toNatClampNeg (v9 + 1)) fun T10 => some T10) else none) else none) else none) else none) else none) else none) else none) else none) else none) else none
theorem xm_comes {l : Launch} {p0 : Int32} {p1 : Int32} {p2 : Int32} {p3 : Int32} {p4 : Int32} {T : mT} {q : mT} (hf : fm_comes p0 p1 p2 p3 p4 T = some q) : MOk l yy_X12_comes 0 [.int p0, .int p1, .int p2, .int p3, .int p4] T none q := by
  refine MOk.of (ls := [some (.ref 137), some (.int p0), some (.int p1), some (.int p2), some (.int p3), some (.int p4), none]) (by decide +kernel) (Nat.le_of_ble_eq_true rfl) rfl ?_
  unfold fm_comes at hf
  refine MW.run rfl [(.bipush 112, 112), (.bipush 6, 6), (.aload_n 0, 0), (.getfield 39, 0), (.iconst 5, 5)] (pc' := 9) (ls' := [some (.ref 137), some (.int p0), some (.int p1), some (.int p2), some (.int p3), some (.int p4), none]) (st' := [.int 5, .ref 147, .int 6, .int 112]) (T1 := T) (by decide +kernel) rfl ?_
  obtain ⟨hi_v1, hf⟩ := bi_some hf
  obtain ⟨v1, hv1, hf⟩ := letv_some hf
  refine MW.iald 10 410 rfl (by decide) rfl (by decide +kernel) (inb_in hi_v1) ?_
  rw [← hv1]
  refine MW.run rfl [(.imul, 0), (.iadd, 0), (.istore 6, 0), (.aload_n 0, 0), (.getfield 39, 0), (.iload 6, 0), (.iload_n 1, 0)] (pc' := 21) (ls' := [some (.ref 137), some (.int p0), some (.int p1), some (.int p2), some (.int p3), some (.int p4), some (.int (112 + (6 * v1)))]) (st' := [.int p0, .int (112 + (6 * v1)), .ref 147]) (T1 := T) (by decide +kernel) rfl ?_
  obtain ⟨hi_T2, hf⟩ := bi_some hf
  obtain ⟨T2, hT2, hf⟩ := letv_some hf
  refine MW.iast 10 410 rfl (by decide) (fun _ => rfl) (by decide +kernel) (inb_in hi_T2) ?_
  rw [← hT2]
  refine MW.run rfl [(.aload_n 0, 0), (.getfield 39, 0), (.iload 6, 0), (.iconst 1, 1), (.iadd, 0), (.iload_n 2, 0)] (pc' := 31) (ls' := [some (.ref 137), some (.int p0), some (.int p1), some (.int p2), some (.int p3), some (.int p4), some (.int (112 + (6 * v1)))]) (st' := [.int p1, .int ((112 + (6 * v1)) + 1), .ref 147]) (T1 := T2) (by decide +kernel) rfl ?_
  obtain ⟨hi_T3, hf⟩ := bi_some hf
  obtain ⟨T3, hT3, hf⟩ := letv_some hf
  refine MW.iast 10 410 rfl (by decide) (fun _ => rfl) (by decide +kernel) (inb_in hi_T3) ?_
  rw [← hT3]
  refine MW.run rfl [(.aload_n 0, 0), (.getfield 39, 0), (.iload 6, 0), (.iconst 2, 2), (.iadd, 0), (.iload_n 3, 0)] (pc' := 41) (ls' := [some (.ref 137), some (.int p0), some (.int p1), some (.int p2), some (.int p3), some (.int p4), some (.int (112 + (6 * v1)))]) (st' := [.int p2, .int ((112 + (6 * v1)) + 2), .ref 147]) (T1 := T3) (by decide +kernel) rfl ?_
  obtain ⟨hi_T4, hf⟩ := bi_some hf
  obtain ⟨T4, hT4, hf⟩ := letv_some hf
  refine MW.iast 10 410 rfl (by decide) (fun _ => rfl) (by decide +kernel) (inb_in hi_T4) ?_
  rw [← hT4]
  refine MW.run rfl [(.aload_n 0, 0), (.getfield 39, 0), (.iload 6, 0), (.iconst 3, 3), (.iadd, 0), (.iload 4, 0)] (pc' := 52) (ls' := [some (.ref 137), some (.int p0), some (.int p1), some (.int p2), some (.int p3), some (.int p4), some (.int (112 + (6 * v1)))]) (st' := [.int p3, .int ((112 + (6 * v1)) + 3), .ref 147]) (T1 := T4) (by decide +kernel) rfl ?_
  obtain ⟨hi_T5, hf⟩ := bi_some hf
  obtain ⟨T5, hT5, hf⟩ := letv_some hf
  refine MW.iast 10 410 rfl (by decide) (fun _ => rfl) (by decide +kernel) (inb_in hi_T5) ?_
  rw [← hT5]
  refine MW.run rfl [(.aload_n 0, 0), (.getfield 39, 0), (.iload 6, 0), (.iconst 4, 4), (.iadd, 0), (.aload_n 0, 0), (.getfield 39, 0), (.iconst 2, 2)] (pc' := 66) (ls' := [some (.ref 137), some (.int p0), some (.int p1), some (.int p2), some (.int p3), some (.int p4), some (.int (112 + (6 * v1)))]) (st' := [.int 2, .ref 147, .int ((112 + (6 * v1)) + 4), .ref 147]) (T1 := T5) (by decide +kernel) rfl ?_
  obtain ⟨hi_v6, hf⟩ := bi_some hf
  obtain ⟨v6, hv6, hf⟩ := letv_some hf
  refine MW.iald 10 410 rfl (by decide) rfl (by decide +kernel) (inb_in hi_v6) ?_
  rw [← hv6]
  obtain ⟨hi_T7, hf⟩ := bi_some hf
  obtain ⟨T7, hT7, hf⟩ := letv_some hf
  refine MW.iast 10 410 rfl (by decide) (fun _ => rfl) (by decide +kernel) (inb_in hi_T7) ?_
  rw [← hT7]
  refine MW.run rfl [(.aload_n 0, 0), (.getfield 39, 0), (.iload 6, 0), (.iconst 5, 5), (.iadd, 0), (.iload 5, 0)] (pc' := 78) (ls' := [some (.ref 137), some (.int p0), some (.int p1), some (.int p2), some (.int p3), some (.int p4), some (.int (112 + (6 * v1)))]) (st' := [.int p4, .int ((112 + (6 * v1)) + 5), .ref 147]) (T1 := T7) (by decide +kernel) rfl ?_
  obtain ⟨hi_T8, hf⟩ := bi_some hf
  obtain ⟨T8, hT8, hf⟩ := letv_some hf
  refine MW.iast 10 410 rfl (by decide) (fun _ => rfl) (by decide +kernel) (inb_in hi_T8) ?_
  rw [← hT8]
  refine MW.run rfl [(.aload_n 0, 0), (.getfield 39, 0), (.iconst 5, 5), (.dup2, 0)] (pc' := 85) (ls' := [some (.ref 137), some (.int p0), some (.int p1), some (.int p2), some (.int p3), some (.int p4), some (.int (112 + (6 * v1)))]) (st' := [.int 5, .ref 147, .int 5, .ref 147]) (T1 := T8) (by decide +kernel) rfl ?_
  obtain ⟨hi_v9, hf⟩ := bi_some hf
  obtain ⟨v9, hv9, hf⟩ := letv_some hf
  refine MW.iald 10 410 rfl (by decide) rfl (by decide +kernel) (inb_in hi_v9) ?_
  rw [← hv9]
  refine MW.run rfl [(.iconst 1, 1), (.iadd, 0)] (pc' := 88) (ls' := [some (.ref 137), some (.int p0), some (.int p1), some (.int p2), some (.int p3), some (.int p4), some (.int (112 + (6 * v1)))]) (st' := [.int (v9 + 1), .int 5, .ref 147]) (T1 := T8) (by decide +kernel) rfl ?_
  obtain ⟨hi_T10, hf⟩ := bi_some hf
  obtain ⟨T10, hT10, hf⟩ := letv_some hf
  refine MW.iast 10 410 rfl (by decide) (fun _ => rfl) (by decide +kernel) (inb_in hi_T10) ?_
  rw [← hT10]
  have e9 := Option.some.inj hf
  subst e9
  exact MW.vret rfl (by decide +kernel)
def fm_faceBy (p0 : Int32) (p1 : Int32) (p2 : Int32) (p3 : Int32) (T : mT) : Option (Int32 × mT) := Option.bind (if p3 = p1 then ((fm_believedBy p1 T).bind fun q4 => some (q4.1, q4.2)) else ((fm_personOf p3 0 T).bind fun q3 => some (q3, T)) : Option (Int32 × mT)) fun w1 => (fm_words p1 p2 p3 w1.1 0 0 w1.2).bind fun q5 => (fm_clauseFor p0 0 q5).bind fun q6 => if 0 ≤ q6.1 then ((fm_allMarks q6.2).bind fun q8 => (fm_heldSum p0 q6.1 q8 q6.2).bind fun q9 => some (q9.1, q9.2)) else (some (w1.1, q6.2))
theorem xm_faceBy {l : Launch} {p0 : Int32} {p1 : Int32} {p2 : Int32} {p3 : Int32} {T : mT} {q : Int32 × mT} (hf : fm_faceBy p0 p1 p2 p3 T = some q) : MOk l yy_X12_faceBy 6 [.int p0, .int p1, .int p2, .int p3] T (some (.int q.1)) q.2 := by
  refine MOk.of (ls := [some (.ref 137), some (.int p0), some (.int p1), some (.int p2), some (.int p3), none, none]) (by decide +kernel) (Nat.le_of_ble_eq_true rfl) rfl ?_
  unfold fm_faceBy at hf
  refine MW.run rfl [(.iload 4, 0), (.iload_n 2, 0)] (pc' := 3) (ls' := [some (.ref 137), some (.int p0), some (.int p1), some (.int p2), some (.int p3), none, none]) (st' := [.int p1, .int p3]) (T1 := T) (by decide +kernel) rfl ?_
  obtain ⟨w1, hw1, hf⟩ := bd_some hf
  have hJ : MW l yy_X12_faceBy 6 (some (.int q.1)) q.2 21 [some (.ref 137), some (.int p0), some (.int p1), some (.int p2), some (.int p3), none, none] [.int w1.1] w1.2 := by
    refine MW.run rfl [(.istore 5, 0), (.aload_n 0, 0), (.iload_n 2, 0), (.iload_n 3, 0), (.iload 4, 0), (.iload 5, 0), (.iconst 0, 0), (.iconst 0, 0)] (pc' := 32) (ls' := [some (.ref 137), some (.int p0), some (.int p1), some (.int p2), some (.int p3), some (.int w1.1), none]) (st' := [.int 0, .int 0, .int w1.1, .int p3, .int p2, .int p1, .ref 137]) (T1 := w1.2) (by decide +kernel) rfl ?_
    obtain ⟨q5, hq5, hf⟩ := bd_some hf
    refine MW.callV (As := [.int p1, .int p2, .int p3, .int w1.1, .int 0, .int 0]) (st := []) lv_RX12_295 rfl (by decide +kernel) (xm_words hq5) (by decide) (by decide) rfl (Nat.le_of_ble_eq_true rfl) rfl ?_
    show MW l yy_X12_faceBy 6 _ _ 35 [some (.ref 137), some (.int p0), some (.int p1), some (.int p2), some (.int p3), some (.int w1.1), none] [] q5
    refine MW.run rfl [(.aload_n 0, 0), (.iload_n 1, 0), (.iconst 0, 0)] (pc' := 38) (ls' := [some (.ref 137), some (.int p0), some (.int p1), some (.int p2), some (.int p3), some (.int w1.1), none]) (st' := [.int 0, .int p0, .ref 137]) (T1 := q5) (by decide +kernel) rfl ?_
    obtain ⟨q6, hq6, hf⟩ := bd_some hf
    refine MW.callV (As := [.int p0, .int 0]) (st := []) lv_RX12_299 rfl (by decide +kernel) (xm_clauseFor hq6) (by decide) (by decide) rfl (Nat.le_of_ble_eq_true rfl) rfl ?_
    show MW l yy_X12_faceBy 6 _ _ 41 [some (.ref 137), some (.int p0), some (.int p1), some (.int p2), some (.int p3), some (.int w1.1), none] [.int q6.1] q6.2
    refine MW.run rfl [(.istore 6, 0), (.iload 6, 0)] (pc' := 45) (ls' := [some (.ref 137), some (.int p0), some (.int p1), some (.int p2), some (.int p3), some (.int w1.1), some (.int q6.1)]) (st' := [.int q6.1]) (T1 := q6.2) (by decide +kernel) rfl ?_
    refine MW.if_ge (off := 8) (tgt := 53) (by decide +kernel) (by decide) (fun c45_7 => ?_) (fun c45_7 => ?_)
    · rw [if_pos c45_7] at hf
      refine MW.run rfl [(.aload_n 0, 0), (.iload_n 1, 0), (.iload 6, 0), (.aload_n 0, 0)] (pc' := 58) (ls' := [some (.ref 137), some (.int p0), some (.int p1), some (.int p2), some (.int p3), some (.int w1.1), some (.int q6.1)]) (st' := [.ref 137, .int q6.1, .int p0, .ref 137]) (T1 := q6.2) (by decide +kernel) rfl ?_
      obtain ⟨q8, hq8, hf⟩ := bd_some hf
      refine MW.callV (As := []) (st := [.int q6.1, .int p0, .ref 137]) lv_RX12_339 rfl (by decide +kernel) (xm_allMarks hq8) (by decide) (by decide) rfl (Nat.le_of_ble_eq_true rfl) rfl ?_
      show MW l yy_X12_faceBy 6 _ _ 61 [some (.ref 137), some (.int p0), some (.int p1), some (.int p2), some (.int p3), some (.int w1.1), some (.int q6.1)] [.int q8, .int q6.1, .int p0, .ref 137] q6.2
      obtain ⟨q9, hq9, hf⟩ := bd_some hf
      refine MW.callV (As := [.int p0, .int q6.1, .int q8]) (st := []) lv_RX12_302 rfl (by decide +kernel) (xm_heldSum hq9) (by decide) (by decide) rfl (Nat.le_of_ble_eq_true rfl) rfl ?_
      show MW l yy_X12_faceBy 6 _ _ 64 [some (.ref 137), some (.int p0), some (.int p1), some (.int p2), some (.int p3), some (.int w1.1), some (.int q6.1)] [.int q9.1] q9.2
      have e9 := Option.some.inj hf
      subst e9
      exact MW.iret rfl (by decide +kernel)
    · rw [if_neg c45_7] at hf
      refine MW.run rfl [(.iload 5, 0), (.goto 14, 0)] (pc' := 64) (ls' := [some (.ref 137), some (.int p0), some (.int p1), some (.int p2), some (.int p3), some (.int w1.1), some (.int q6.1)]) (st' := [.int w1.1]) (T1 := q6.2) (by decide +kernel) rfl ?_
      have e9 := Option.some.inj hf
      subst e9
      exact MW.iret rfl (by decide +kernel)
  clear hf
  refine MW.icmp_ne (off := 11) (tgt := 14) (by decide +kernel) (by decide) (fun c3_2 => ?_) (fun c3_2 => ?_)
  · rw [if_neg c3_2] at hw1
    refine MW.run rfl [(.aload_n 0, 0), (.iload 4, 0), (.iconst 0, 0)] (pc' := 18) (ls' := [some (.ref 137), some (.int p0), some (.int p1), some (.int p2), some (.int p3), none, none]) (st' := [.int 0, .int p3, .ref 137]) (T1 := T) (by decide +kernel) rfl ?_
    obtain ⟨q3, hq3, hw1⟩ := bd_some hw1
    refine MW.callV (As := [.int p3, .int 0]) (st := []) lv_RX12_321 rfl (by decide +kernel) (xm_personOf hq3) (by decide) (by decide) rfl (Nat.le_of_ble_eq_true rfl) rfl ?_
    show MW l yy_X12_faceBy 6 _ _ 21 [some (.ref 137), some (.int p0), some (.int p1), some (.int p2), some (.int p3), none, none] [.int q3] T
    have e9 := Option.some.inj hw1
    subst e9
    exact hJ
  · rw [if_pos c3_2] at hw1
    refine MW.run rfl [(.aload_n 0, 0), (.iload_n 2, 0)] (pc' := 8) (ls' := [some (.ref 137), some (.int p0), some (.int p1), some (.int p2), some (.int p3), none, none]) (st' := [.int p1, .ref 137]) (T1 := T) (by decide +kernel) rfl ?_
    obtain ⟨q4, hq4, hw1⟩ := bd_some hw1
    refine MW.callV (As := [.int p1]) (st := []) lv_RX12_324 rfl (by decide +kernel) (xm_believedBy hq4) (by decide) (by decide) rfl (Nat.le_of_ble_eq_true rfl) rfl ?_
    show MW l yy_X12_faceBy 6 _ _ 11 [some (.ref 137), some (.int p0), some (.int p1), some (.int p2), some (.int p3), none, none] [.int q4.1] q4.2
    refine MW.run rfl [(.goto 10, 0)] (pc' := 21) (ls' := [some (.ref 137), some (.int p0), some (.int p1), some (.int p2), some (.int p3), none, none]) (st' := [.int q4.1]) (T1 := q4.2) (by decide +kernel) rfl ?_
    have e9 := Option.some.inj hw1
    subst e9
    exact hJ
def fm_mayBe (p0 : Int32) (T : mT) : Option (Bool) := if p0 = (-1) then (some true) else ((fm_isRule p0 T).bind fun q2 => if (b2i q2) = 0 then (some false) else (some true))
theorem xm_mayBe {l : Launch} {p0 : Int32} {T : mT} {q : Bool} (hf : fm_mayBe p0 T = some q) : MOk l yy_X12_mayBe 1 [.int p0] T (some (.int (b2i q))) T := by
  refine MOk.of (ls := [some (.ref 137), some (.int p0)]) (by decide +kernel) (Nat.le_of_ble_eq_true rfl) rfl ?_
  unfold fm_mayBe at hf
  refine MW.run rfl [(.iload_n 1, 0), (.iconst (-1), (-1))] (pc' := 2) (ls' := [some (.ref 137), some (.int p0)]) (st' := [.int (-1), .int p0]) (T1 := T) (by decide +kernel) rfl ?_
  refine MW.icmp_eq (off := 11) (tgt := 13) (by decide +kernel) (by decide) (fun c2_1 => ?_) (fun c2_1 => ?_)
  · rw [if_pos c2_1] at hf
    refine MW.run rfl [(.iconst 1, 1), (.goto 4, 0)] (pc' := 18) (ls' := [some (.ref 137), some (.int p0)]) (st' := [.int 1]) (T1 := T) (by decide +kernel) rfl ?_
    have e9 := Option.some.inj hf
    subst e9
    exact MW.zret rfl (b2i_nar _) (by decide +kernel)
  · rw [if_neg c2_1] at hf
    refine MW.run rfl [(.aload_n 0, 0), (.iload_n 1, 0)] (pc' := 7) (ls' := [some (.ref 137), some (.int p0)]) (st' := [.int p0, .ref 137]) (T1 := T) (by decide +kernel) rfl ?_
    obtain ⟨q2, hq2, hf⟩ := bd_some hf
    refine MW.callV (As := [.int p0]) (st := []) lv_RX12_282 rfl (by decide +kernel) (xm_isRule hq2) (by decide) (by decide) rfl (Nat.le_of_ble_eq_true rfl) rfl ?_
    show MW l yy_X12_mayBe 1 _ _ 10 [some (.ref 137), some (.int p0)] [.int (b2i q2)] T
    refine MW.if_eq (off := 7) (tgt := 17) (by decide +kernel) (by decide) (fun c10_3 => ?_) (fun c10_3 => ?_)
    · rw [if_pos c10_3] at hf
      refine MW.run rfl [(.iconst 0, 0)] (pc' := 18) (ls' := [some (.ref 137), some (.int p0)]) (st' := [.int 0]) (T1 := T) (by decide +kernel) rfl ?_
      have e9 := Option.some.inj hf
      subst e9
      exact MW.zret rfl (b2i_nar _) (by decide +kernel)
    · rw [if_neg c10_3] at hf
      refine MW.run rfl [(.iconst 1, 1), (.goto 4, 0)] (pc' := 18) (ls' := [some (.ref 137), some (.int p0)]) (st' := [.int 1]) (T1 := T) (by decide +kernel) rfl ?_
      have e9 := Option.some.inj hf
      subst e9
      exact MW.zret rfl (b2i_nar _) (by decide +kernel)
def fm_tell (p0 : Int32) (p1 : Int32) (p2 : Int32) (p3 : Int32) (T : mT) : Option (Int32 × mT) := (fm_mayBe p0 T).bind fun q1 => if (b2i q1) = 0 then (some ((-1), T)) else ((fm_isPerson p1 T).bind fun q3 => if (b2i q3) = 0 then (some ((-1), T)) else ((fm_isPerson p2 T).bind fun q5 => if (b2i q5) = 0 then (some ((-1), T)) else (if p1 = p2 then (some ((-1), T)) else ((fm_isPerson p3 T).bind fun q8 => if (b2i q8) = 0 then (some ((-1), T)) else (bif inb 5 410 then (letv (T.1 10 (5 : Int32).toNatClampNeg) fun v10 => if v10 = 40 then (some ((-1), T)) else ((fm_isHourLeft T).bind fun q12 => if (b2i q12) = 0 then (some ((-1), T)) else ((fm_keepsAct T).bind fun q14 => (fm_faceBy p0 p1 p2 p3 q14).bind fun q15 => (fm_comes p1 p2 p3 q15.1 (-1) q15.2).bind fun q16 => bif inb 2 410 then (letv (q16.1 10 (2 : Int32).toNatClampNeg) fun v17 => bif inb 2 410 then (letv (ma q16 10 (2 : Int32).toNatClampNeg (v17 + 1)) fun T18 => bif inb 5 410 then (letv (T18.1 10 (5 : Int32).toNatClampNeg) fun v19 => some (v19 - 1, T18)) else none) else none) else none))) else none)))))
theorem xm_tell {l : Launch} {p0 : Int32} {p1 : Int32} {p2 : Int32} {p3 : Int32} {T : mT} {q : Int32 × mT} (hf : fm_tell p0 p1 p2 p3 T = some q) : MOk l yy_X12_tell 7 [.int p0, .int p1, .int p2, .int p3] T (some (.int q.1)) q.2 := by
  refine MOk.of (ls := [some (.ref 137), some (.int p0), some (.int p1), some (.int p2), some (.int p3)]) (by decide +kernel) (Nat.le_of_ble_eq_true rfl) rfl ?_
  unfold fm_tell at hf
  refine MW.run rfl [(.aload_n 0, 0), (.iload_n 1, 0)] (pc' := 2) (ls' := [some (.ref 137), some (.int p0), some (.int p1), some (.int p2), some (.int p3)]) (st' := [.int p0, .ref 137]) (T1 := T) (by decide +kernel) rfl ?_
  obtain ⟨q1, hq1, hf⟩ := bd_some hf
  refine MW.callV (As := [.int p0]) (st := []) lv_RX12_342 rfl (by decide +kernel) (xm_mayBe hq1) (by decide) (by decide) rfl (Nat.le_of_ble_eq_true rfl) rfl ?_
  show MW l yy_X12_tell 7 _ _ 5 [some (.ref 137), some (.int p0), some (.int p1), some (.int p2), some (.int p3)] [.int (b2i q1)] T
  refine MW.if_eq (off := 51) (tgt := 56) (by decide +kernel) (by decide) (fun c5_2 => ?_) (fun c5_2 => ?_)
  · rw [if_pos c5_2] at hf
    refine MW.run rfl [(.iconst (-1), (-1))] (pc' := 57) (ls' := [some (.ref 137), some (.int p0), some (.int p1), some (.int p2), some (.int p3)]) (st' := [.int (-1)]) (T1 := T) (by decide +kernel) rfl ?_
    have e9 := Option.some.inj hf
    subst e9
    exact MW.iret rfl (by decide +kernel)
  · rw [if_neg c5_2] at hf
    refine MW.run rfl [(.aload_n 0, 0), (.iload_n 2, 0)] (pc' := 10) (ls' := [some (.ref 137), some (.int p0), some (.int p1), some (.int p2), some (.int p3)]) (st' := [.int p1, .ref 137]) (T1 := T) (by decide +kernel) rfl ?_
    obtain ⟨q3, hq3, hf⟩ := bd_some hf
    refine MW.callV (As := [.int p1]) (st := []) lv_RX12_318 rfl (by decide +kernel) (xm_isPerson hq3) (by decide) (by decide) rfl (Nat.le_of_ble_eq_true rfl) rfl ?_
    show MW l yy_X12_tell 7 _ _ 13 [some (.ref 137), some (.int p0), some (.int p1), some (.int p2), some (.int p3)] [.int (b2i q3)] T
    refine MW.if_eq (off := 43) (tgt := 56) (by decide +kernel) (by decide) (fun c13_4 => ?_) (fun c13_4 => ?_)
    · rw [if_pos c13_4] at hf
      refine MW.run rfl [(.iconst (-1), (-1))] (pc' := 57) (ls' := [some (.ref 137), some (.int p0), some (.int p1), some (.int p2), some (.int p3)]) (st' := [.int (-1)]) (T1 := T) (by decide +kernel) rfl ?_
      have e9 := Option.some.inj hf
      subst e9
      exact MW.iret rfl (by decide +kernel)
    · rw [if_neg c13_4] at hf
      refine MW.run rfl [(.aload_n 0, 0), (.iload_n 3, 0)] (pc' := 18) (ls' := [some (.ref 137), some (.int p0), some (.int p1), some (.int p2), some (.int p3)]) (st' := [.int p2, .ref 137]) (T1 := T) (by decide +kernel) rfl ?_
      obtain ⟨q5, hq5, hf⟩ := bd_some hf
      refine MW.callV (As := [.int p2]) (st := []) lv_RX12_318 rfl (by decide +kernel) (xm_isPerson hq5) (by decide) (by decide) rfl (Nat.le_of_ble_eq_true rfl) rfl ?_
      show MW l yy_X12_tell 7 _ _ 21 [some (.ref 137), some (.int p0), some (.int p1), some (.int p2), some (.int p3)] [.int (b2i q5)] T
      refine MW.if_eq (off := 35) (tgt := 56) (by decide +kernel) (by decide) (fun c21_6 => ?_) (fun c21_6 => ?_)
      · rw [if_pos c21_6] at hf
        refine MW.run rfl [(.iconst (-1), (-1))] (pc' := 57) (ls' := [some (.ref 137), some (.int p0), some (.int p1), some (.int p2), some (.int p3)]) (st' := [.int (-1)]) (T1 := T) (by decide +kernel) rfl ?_
        have e9 := Option.some.inj hf
        subst e9
        exact MW.iret rfl (by decide +kernel)
      · rw [if_neg c21_6] at hf
        refine MW.run rfl [(.iload_n 2, 0), (.iload_n 3, 0)] (pc' := 26) (ls' := [some (.ref 137), some (.int p0), some (.int p1), some (.int p2), some (.int p3)]) (st' := [.int p2, .int p1]) (T1 := T) (by decide +kernel) rfl ?_
        refine MW.icmp_eq (off := 30) (tgt := 56) (by decide +kernel) (by decide) (fun c26_7 => ?_) (fun c26_7 => ?_)
        · rw [if_pos c26_7] at hf
          refine MW.run rfl [(.iconst (-1), (-1))] (pc' := 57) (ls' := [some (.ref 137), some (.int p0), some (.int p1), some (.int p2), some (.int p3)]) (st' := [.int (-1)]) (T1 := T) (by decide +kernel) rfl ?_
          have e9 := Option.some.inj hf
          subst e9
          exact MW.iret rfl (by decide +kernel)
        · rw [if_neg c26_7] at hf
          refine MW.run rfl [(.aload_n 0, 0), (.iload 4, 0)] (pc' := 32) (ls' := [some (.ref 137), some (.int p0), some (.int p1), some (.int p2), some (.int p3)]) (st' := [.int p3, .ref 137]) (T1 := T) (by decide +kernel) rfl ?_
          obtain ⟨q8, hq8, hf⟩ := bd_some hf
          refine MW.callV (As := [.int p3]) (st := []) lv_RX12_318 rfl (by decide +kernel) (xm_isPerson hq8) (by decide) (by decide) rfl (Nat.le_of_ble_eq_true rfl) rfl ?_
          show MW l yy_X12_tell 7 _ _ 35 [some (.ref 137), some (.int p0), some (.int p1), some (.int p2), some (.int p3)] [.int (b2i q8)] T
          refine MW.if_eq (off := 21) (tgt := 56) (by decide +kernel) (by decide) (fun c35_9 => ?_) (fun c35_9 => ?_)
          · rw [if_pos c35_9] at hf
            refine MW.run rfl [(.iconst (-1), (-1))] (pc' := 57) (ls' := [some (.ref 137), some (.int p0), some (.int p1), some (.int p2), some (.int p3)]) (st' := [.int (-1)]) (T1 := T) (by decide +kernel) rfl ?_
            have e9 := Option.some.inj hf
            subst e9
            exact MW.iret rfl (by decide +kernel)
          · rw [if_neg c35_9] at hf
            refine MW.run rfl [(.aload_n 0, 0), (.getfield 39, 0), (.iconst 5, 5)] (pc' := 43) (ls' := [some (.ref 137), some (.int p0), some (.int p1), some (.int p2), some (.int p3)]) (st' := [.int 5, .ref 147]) (T1 := T) (by decide +kernel) rfl ?_
            obtain ⟨hi_v10, hf⟩ := bi_some hf
            obtain ⟨v10, hv10, hf⟩ := letv_some hf
            refine MW.iald 10 410 rfl (by decide) rfl (by decide +kernel) (inb_in hi_v10) ?_
            rw [← hv10]
            refine MW.run rfl [(.bipush 40, 40)] (pc' := 46) (ls' := [some (.ref 137), some (.int p0), some (.int p1), some (.int p2), some (.int p3)]) (st' := [.int 40, .int v10]) (T1 := T) (by decide +kernel) rfl ?_
            refine MW.icmp_eq (off := 10) (tgt := 56) (by decide +kernel) (by decide) (fun c46_11 => ?_) (fun c46_11 => ?_)
            · rw [if_pos c46_11] at hf
              refine MW.run rfl [(.iconst (-1), (-1))] (pc' := 57) (ls' := [some (.ref 137), some (.int p0), some (.int p1), some (.int p2), some (.int p3)]) (st' := [.int (-1)]) (T1 := T) (by decide +kernel) rfl ?_
              have e9 := Option.some.inj hf
              subst e9
              exact MW.iret rfl (by decide +kernel)
            · rw [if_neg c46_11] at hf
              refine MW.run rfl [(.aload_n 0, 0)] (pc' := 50) (ls' := [some (.ref 137), some (.int p0), some (.int p1), some (.int p2), some (.int p3)]) (st' := [.ref 137]) (T1 := T) (by decide +kernel) rfl ?_
              obtain ⟨q12, hq12, hf⟩ := bd_some hf
              refine MW.callV (As := []) (st := []) lv_RX12_345 rfl (by decide +kernel) (xm_isHourLeft hq12) (by decide) (by decide) rfl (Nat.le_of_ble_eq_true rfl) rfl ?_
              show MW l yy_X12_tell 7 _ _ 53 [some (.ref 137), some (.int p0), some (.int p1), some (.int p2), some (.int p3)] [.int (b2i q12)] T
              refine MW.if_ne (off := 5) (tgt := 58) (by decide +kernel) (by decide) (fun c53_13 => ?_) (fun c53_13 => ?_)
              · rw [if_neg c53_13] at hf
                refine MW.run rfl [(.aload_n 0, 0)] (pc' := 59) (ls' := [some (.ref 137), some (.int p0), some (.int p1), some (.int p2), some (.int p3)]) (st' := [.ref 137]) (T1 := T) (by decide +kernel) rfl ?_
                obtain ⟨q14, hq14, hf⟩ := bd_some hf
                refine MW.callV (As := []) (st := []) lv_RX12_348 rfl (by decide +kernel) (xm_keepsAct hq14) (by decide) (by decide) rfl (Nat.le_of_ble_eq_true rfl) rfl ?_
                show MW l yy_X12_tell 7 _ _ 62 [some (.ref 137), some (.int p0), some (.int p1), some (.int p2), some (.int p3)] [] q14
                refine MW.run rfl [(.aload_n 0, 0), (.iload_n 2, 0), (.iload_n 3, 0), (.iload 4, 0), (.aload_n 0, 0), (.iload_n 1, 0), (.iload_n 2, 0), (.iload_n 3, 0), (.iload 4, 0)] (pc' := 73) (ls' := [some (.ref 137), some (.int p0), some (.int p1), some (.int p2), some (.int p3)]) (st' := [.int p3, .int p2, .int p1, .int p0, .ref 137, .int p3, .int p2, .int p1, .ref 137]) (T1 := q14) (by decide +kernel) rfl ?_
                obtain ⟨q15, hq15, hf⟩ := bd_some hf
                refine MW.callV (As := [.int p0, .int p1, .int p2, .int p3]) (st := [.int p3, .int p2, .int p1, .ref 137]) lv_RX12_351 rfl (by decide +kernel) (xm_faceBy hq15) (by decide) (by decide) rfl (Nat.le_of_ble_eq_true rfl) rfl ?_
                show MW l yy_X12_tell 7 _ _ 76 [some (.ref 137), some (.int p0), some (.int p1), some (.int p2), some (.int p3)] [.int q15.1, .int p3, .int p2, .int p1, .ref 137] q15.2
                refine MW.run rfl [(.iconst (-1), (-1))] (pc' := 77) (ls' := [some (.ref 137), some (.int p0), some (.int p1), some (.int p2), some (.int p3)]) (st' := [.int (-1), .int q15.1, .int p3, .int p2, .int p1, .ref 137]) (T1 := q15.2) (by decide +kernel) rfl ?_
                obtain ⟨q16, hq16, hf⟩ := bd_some hf
                refine MW.callV (As := [.int p1, .int p2, .int p3, .int q15.1, .int (-1)]) (st := []) lv_RX12_355 rfl (by decide +kernel) (xm_comes hq16) (by decide) (by decide) rfl (Nat.le_of_ble_eq_true rfl) rfl ?_
                show MW l yy_X12_tell 7 _ _ 80 [some (.ref 137), some (.int p0), some (.int p1), some (.int p2), some (.int p3)] [] q16
                refine MW.run rfl [(.aload_n 0, 0), (.getfield 39, 0), (.iconst 2, 2), (.dup2, 0)] (pc' := 86) (ls' := [some (.ref 137), some (.int p0), some (.int p1), some (.int p2), some (.int p3)]) (st' := [.int 2, .ref 147, .int 2, .ref 147]) (T1 := q16) (by decide +kernel) rfl ?_
                obtain ⟨hi_v17, hf⟩ := bi_some hf
                obtain ⟨v17, hv17, hf⟩ := letv_some hf
                refine MW.iald 10 410 rfl (by decide) rfl (by decide +kernel) (inb_in hi_v17) ?_
                rw [← hv17]
                refine MW.run rfl [(.iconst 1, 1), (.iadd, 0)] (pc' := 89) (ls' := [some (.ref 137), some (.int p0), some (.int p1), some (.int p2), some (.int p3)]) (st' := [.int (v17 + 1), .int 2, .ref 147]) (T1 := q16) (by decide +kernel) rfl ?_
                obtain ⟨hi_T18, hf⟩ := bi_some hf
                obtain ⟨T18, hT18, hf⟩ := letv_some hf
                refine MW.iast 10 410 rfl (by decide) (fun _ => rfl) (by decide +kernel) (inb_in hi_T18) ?_
                rw [← hT18]
                refine MW.run rfl [(.aload_n 0, 0), (.getfield 39, 0), (.iconst 5, 5)] (pc' := 95) (ls' := [some (.ref 137), some (.int p0), some (.int p1), some (.int p2), some (.int p3)]) (st' := [.int 5, .ref 147]) (T1 := T18) (by decide +kernel) rfl ?_
                obtain ⟨hi_v19, hf⟩ := bi_some hf
                obtain ⟨v19, hv19, hf⟩ := letv_some hf
                refine MW.iald 10 410 rfl (by decide) rfl (by decide +kernel) (inb_in hi_v19) ?_
                rw [← hv19]
                refine MW.run rfl [(.iconst 1, 1), (.isub, 0)] (pc' := 98) (ls' := [some (.ref 137), some (.int p0), some (.int p1), some (.int p2), some (.int p3)]) (st' := [.int (v19 - 1)]) (T1 := T18) (by decide +kernel) rfl ?_
                have e9 := Option.some.inj hf
                subst e9
                exact MW.iret rfl (by decide +kernel)
              · rw [if_pos c53_13] at hf
                refine MW.run rfl [(.iconst (-1), (-1))] (pc' := 57) (ls' := [some (.ref 137), some (.int p0), some (.int p1), some (.int p2), some (.int p3)]) (st' := [.int (-1)]) (T1 := T) (by decide +kernel) rfl ?_
                have e9 := Option.some.inj hf
                subst e9
                exact MW.iret rfl (by decide +kernel)
def fm_retell (p0 : Int32) (p1 : Int32) (p2 : Int32) (T : mT) : Option (Int32 × mT) := (fm_isTelling p0 T).bind fun q1 => if (b2i q1) = 0 then (some ((-1), T)) else ((fm_isPerson p1 T).bind fun q3 => if (b2i q3) = 0 then (some ((-1), T)) else ((fm_tellingOf p0 1 T).bind fun q5 => if q5 = p1 then (some ((-1), T)) else ((fm_allMarks T).bind fun q7 => (fm_in ((p2 : Int32).toInt64) 0 ((q7 : Int32).toInt64)).bind fun q8 => if (b2i q8) = 0 then (some ((-1), T)) else (bif inb 5 410 then (letv (T.1 10 (5 : Int32).toNatClampNeg) fun v10 => if v10 = 40 then (some ((-1), T)) else ((fm_isHourLeft T).bind fun q12 => if (b2i q12) = 0 then (some ((-1), T)) else ((fm_keepsAct T).bind fun q14 => (fm_tellingOf p0 1 q14).bind fun q15 => (fm_tellingOf p0 2 q14).bind fun q16 => (fm_tellingOf p0 3 q14).bind fun q17 => (fm_comes q15 p1 q16 (q17 ^^^ p2) p0 q14).bind fun q18 => bif inb 2 410 then (letv (q18.1 10 (2 : Int32).toNatClampNeg) fun v19 => bif inb 2 410 then (letv (ma q18 10 (2 : Int32).toNatClampNeg (v19 + 1)) fun T20 => bif inb 5 410 then (letv (T20.1 10 (5 : Int32).toNatClampNeg) fun v21 => some (v21 - 1, T20)) else none) else none) else none))) else none))))
theorem xm_retell {l : Launch} {p0 : Int32} {p1 : Int32} {p2 : Int32} {T : mT} {q : Int32 × mT} (hf : fm_retell p0 p1 p2 T = some q) : MOk l yy_X12_retell 2 [.int p0, .int p1, .int p2] T (some (.int q.1)) q.2 := by
  refine MOk.of (ls := [some (.ref 137), some (.int p0), some (.int p1), some (.int p2)]) (by decide +kernel) (Nat.le_of_ble_eq_true rfl) rfl ?_
  unfold fm_retell at hf
  refine MW.run rfl [(.aload_n 0, 0), (.iload_n 1, 0)] (pc' := 2) (ls' := [some (.ref 137), some (.int p0), some (.int p1), some (.int p2)]) (st' := [.int p0, .ref 137]) (T1 := T) (by decide +kernel) rfl ?_
  obtain ⟨q1, hq1, hf⟩ := bd_some hf
  refine MW.callV (As := [.int p0]) (st := []) lv_RX12_331 rfl (by decide +kernel) (xm_isTelling hq1) (by decide) (by decide) rfl (Nat.le_of_ble_eq_true rfl) rfl ?_
  show MW l yy_X12_retell 2 _ _ 5 [some (.ref 137), some (.int p0), some (.int p1), some (.int p2)] [.int (b2i q1)] T
  refine MW.if_eq (off := 53) (tgt := 58) (by decide +kernel) (by decide) (fun c5_2 => ?_) (fun c5_2 => ?_)
  · rw [if_pos c5_2] at hf
    refine MW.run rfl [(.iconst (-1), (-1))] (pc' := 59) (ls' := [some (.ref 137), some (.int p0), some (.int p1), some (.int p2)]) (st' := [.int (-1)]) (T1 := T) (by decide +kernel) rfl ?_
    have e9 := Option.some.inj hf
    subst e9
    exact MW.iret rfl (by decide +kernel)
  · rw [if_neg c5_2] at hf
    refine MW.run rfl [(.aload_n 0, 0), (.iload_n 2, 0)] (pc' := 10) (ls' := [some (.ref 137), some (.int p0), some (.int p1), some (.int p2)]) (st' := [.int p1, .ref 137]) (T1 := T) (by decide +kernel) rfl ?_
    obtain ⟨q3, hq3, hf⟩ := bd_some hf
    refine MW.callV (As := [.int p1]) (st := []) lv_RX12_318 rfl (by decide +kernel) (xm_isPerson hq3) (by decide) (by decide) rfl (Nat.le_of_ble_eq_true rfl) rfl ?_
    show MW l yy_X12_retell 2 _ _ 13 [some (.ref 137), some (.int p0), some (.int p1), some (.int p2)] [.int (b2i q3)] T
    refine MW.if_eq (off := 45) (tgt := 58) (by decide +kernel) (by decide) (fun c13_4 => ?_) (fun c13_4 => ?_)
    · rw [if_pos c13_4] at hf
      refine MW.run rfl [(.iconst (-1), (-1))] (pc' := 59) (ls' := [some (.ref 137), some (.int p0), some (.int p1), some (.int p2)]) (st' := [.int (-1)]) (T1 := T) (by decide +kernel) rfl ?_
      have e9 := Option.some.inj hf
      subst e9
      exact MW.iret rfl (by decide +kernel)
    · rw [if_neg c13_4] at hf
      refine MW.run rfl [(.aload_n 0, 0), (.iload_n 1, 0), (.iconst 1, 1)] (pc' := 19) (ls' := [some (.ref 137), some (.int p0), some (.int p1), some (.int p2)]) (st' := [.int 1, .int p0, .ref 137]) (T1 := T) (by decide +kernel) rfl ?_
      obtain ⟨q5, hq5, hf⟩ := bd_some hf
      refine MW.callV (As := [.int p0, .int 1]) (st := []) lv_RX12_278 rfl (by decide +kernel) (xm_tellingOf hq5) (by decide) (by decide) rfl (Nat.le_of_ble_eq_true rfl) rfl ?_
      show MW l yy_X12_retell 2 _ _ 22 [some (.ref 137), some (.int p0), some (.int p1), some (.int p2)] [.int q5] T
      refine MW.run rfl [(.iload_n 2, 0)] (pc' := 23) (ls' := [some (.ref 137), some (.int p0), some (.int p1), some (.int p2)]) (st' := [.int p1, .int q5]) (T1 := T) (by decide +kernel) rfl ?_
      refine MW.icmp_eq (off := 35) (tgt := 58) (by decide +kernel) (by decide) (fun c23_6 => ?_) (fun c23_6 => ?_)
      · rw [if_pos c23_6] at hf
        refine MW.run rfl [(.iconst (-1), (-1))] (pc' := 59) (ls' := [some (.ref 137), some (.int p0), some (.int p1), some (.int p2)]) (st' := [.int (-1)]) (T1 := T) (by decide +kernel) rfl ?_
        have e9 := Option.some.inj hf
        subst e9
        exact MW.iret rfl (by decide +kernel)
      · rw [if_neg c23_6] at hf
        refine MW.run rfl [(.iload_n 3, 0), (.i2l, 0), (.lconst 0, 0), (.aload_n 0, 0)] (pc' := 30) (ls' := [some (.ref 137), some (.int p0), some (.int p1), some (.int p2)]) (st' := [.ref 137, .long 0, .long ((p2 : Int32).toInt64)]) (T1 := T) (by decide +kernel) rfl ?_
        obtain ⟨q7, hq7, hf⟩ := bd_some hf
        refine MW.callV (As := []) (st := [.long 0, .long ((p2 : Int32).toInt64)]) lv_RX12_339 rfl (by decide +kernel) (xm_allMarks hq7) (by decide) (by decide) rfl (Nat.le_of_ble_eq_true rfl) rfl ?_
        show MW l yy_X12_retell 2 _ _ 33 [some (.ref 137), some (.int p0), some (.int p1), some (.int p2)] [.int q7, .long 0, .long ((p2 : Int32).toInt64)] T
        refine MW.run rfl [(.i2l, 0)] (pc' := 34) (ls' := [some (.ref 137), some (.int p0), some (.int p1), some (.int p2)]) (st' := [.long ((q7 : Int32).toInt64), .long 0, .long ((p2 : Int32).toInt64)]) (T1 := T) (by decide +kernel) rfl ?_
        obtain ⟨q8, hq8, hf⟩ := bd_some hf
        refine MW.callP (As := [.long ((p2 : Int32).toInt64), .long 0, .long ((q7 : Int32).toInt64)]) (st := []) lt_RX12_110 (by decide +kernel) (xm_in hq8) (by decide) (by decide) rfl (Nat.le_of_ble_eq_true rfl) rfl ?_
        show MW l yy_X12_retell 2 _ _ 37 [some (.ref 137), some (.int p0), some (.int p1), some (.int p2)] [.int (b2i q8)] T
        refine MW.if_eq (off := 21) (tgt := 58) (by decide +kernel) (by decide) (fun c37_9 => ?_) (fun c37_9 => ?_)
        · rw [if_pos c37_9] at hf
          refine MW.run rfl [(.iconst (-1), (-1))] (pc' := 59) (ls' := [some (.ref 137), some (.int p0), some (.int p1), some (.int p2)]) (st' := [.int (-1)]) (T1 := T) (by decide +kernel) rfl ?_
          have e9 := Option.some.inj hf
          subst e9
          exact MW.iret rfl (by decide +kernel)
        · rw [if_neg c37_9] at hf
          refine MW.run rfl [(.aload_n 0, 0), (.getfield 39, 0), (.iconst 5, 5)] (pc' := 45) (ls' := [some (.ref 137), some (.int p0), some (.int p1), some (.int p2)]) (st' := [.int 5, .ref 147]) (T1 := T) (by decide +kernel) rfl ?_
          obtain ⟨hi_v10, hf⟩ := bi_some hf
          obtain ⟨v10, hv10, hf⟩ := letv_some hf
          refine MW.iald 10 410 rfl (by decide) rfl (by decide +kernel) (inb_in hi_v10) ?_
          rw [← hv10]
          refine MW.run rfl [(.bipush 40, 40)] (pc' := 48) (ls' := [some (.ref 137), some (.int p0), some (.int p1), some (.int p2)]) (st' := [.int 40, .int v10]) (T1 := T) (by decide +kernel) rfl ?_
          refine MW.icmp_eq (off := 10) (tgt := 58) (by decide +kernel) (by decide) (fun c48_11 => ?_) (fun c48_11 => ?_)
          · rw [if_pos c48_11] at hf
            refine MW.run rfl [(.iconst (-1), (-1))] (pc' := 59) (ls' := [some (.ref 137), some (.int p0), some (.int p1), some (.int p2)]) (st' := [.int (-1)]) (T1 := T) (by decide +kernel) rfl ?_
            have e9 := Option.some.inj hf
            subst e9
            exact MW.iret rfl (by decide +kernel)
          · rw [if_neg c48_11] at hf
            refine MW.run rfl [(.aload_n 0, 0)] (pc' := 52) (ls' := [some (.ref 137), some (.int p0), some (.int p1), some (.int p2)]) (st' := [.ref 137]) (T1 := T) (by decide +kernel) rfl ?_
            obtain ⟨q12, hq12, hf⟩ := bd_some hf
            refine MW.callV (As := []) (st := []) lv_RX12_345 rfl (by decide +kernel) (xm_isHourLeft hq12) (by decide) (by decide) rfl (Nat.le_of_ble_eq_true rfl) rfl ?_
            show MW l yy_X12_retell 2 _ _ 55 [some (.ref 137), some (.int p0), some (.int p1), some (.int p2)] [.int (b2i q12)] T
            refine MW.if_ne (off := 5) (tgt := 60) (by decide +kernel) (by decide) (fun c55_13 => ?_) (fun c55_13 => ?_)
            · rw [if_neg c55_13] at hf
              refine MW.run rfl [(.aload_n 0, 0)] (pc' := 61) (ls' := [some (.ref 137), some (.int p0), some (.int p1), some (.int p2)]) (st' := [.ref 137]) (T1 := T) (by decide +kernel) rfl ?_
              obtain ⟨q14, hq14, hf⟩ := bd_some hf
              refine MW.callV (As := []) (st := []) lv_RX12_348 rfl (by decide +kernel) (xm_keepsAct hq14) (by decide) (by decide) rfl (Nat.le_of_ble_eq_true rfl) rfl ?_
              show MW l yy_X12_retell 2 _ _ 64 [some (.ref 137), some (.int p0), some (.int p1), some (.int p2)] [] q14
              refine MW.run rfl [(.aload_n 0, 0), (.aload_n 0, 0), (.iload_n 1, 0), (.iconst 1, 1)] (pc' := 68) (ls' := [some (.ref 137), some (.int p0), some (.int p1), some (.int p2)]) (st' := [.int 1, .int p0, .ref 137, .ref 137]) (T1 := q14) (by decide +kernel) rfl ?_
              obtain ⟨q15, hq15, hf⟩ := bd_some hf
              refine MW.callV (As := [.int p0, .int 1]) (st := [.ref 137]) lv_RX12_278 rfl (by decide +kernel) (xm_tellingOf hq15) (by decide) (by decide) rfl (Nat.le_of_ble_eq_true rfl) rfl ?_
              show MW l yy_X12_retell 2 _ _ 71 [some (.ref 137), some (.int p0), some (.int p1), some (.int p2)] [.int q15, .ref 137] q14
              refine MW.run rfl [(.iload_n 2, 0), (.aload_n 0, 0), (.iload_n 1, 0), (.iconst 2, 2)] (pc' := 75) (ls' := [some (.ref 137), some (.int p0), some (.int p1), some (.int p2)]) (st' := [.int 2, .int p0, .ref 137, .int p1, .int q15, .ref 137]) (T1 := q14) (by decide +kernel) rfl ?_
              obtain ⟨q16, hq16, hf⟩ := bd_some hf
              refine MW.callV (As := [.int p0, .int 2]) (st := [.int p1, .int q15, .ref 137]) lv_RX12_278 rfl (by decide +kernel) (xm_tellingOf hq16) (by decide) (by decide) rfl (Nat.le_of_ble_eq_true rfl) rfl ?_
              show MW l yy_X12_retell 2 _ _ 78 [some (.ref 137), some (.int p0), some (.int p1), some (.int p2)] [.int q16, .int p1, .int q15, .ref 137] q14
              refine MW.run rfl [(.aload_n 0, 0), (.iload_n 1, 0), (.iconst 3, 3)] (pc' := 81) (ls' := [some (.ref 137), some (.int p0), some (.int p1), some (.int p2)]) (st' := [.int 3, .int p0, .ref 137, .int q16, .int p1, .int q15, .ref 137]) (T1 := q14) (by decide +kernel) rfl ?_
              obtain ⟨q17, hq17, hf⟩ := bd_some hf
              refine MW.callV (As := [.int p0, .int 3]) (st := [.int q16, .int p1, .int q15, .ref 137]) lv_RX12_278 rfl (by decide +kernel) (xm_tellingOf hq17) (by decide) (by decide) rfl (Nat.le_of_ble_eq_true rfl) rfl ?_
              show MW l yy_X12_retell 2 _ _ 84 [some (.ref 137), some (.int p0), some (.int p1), some (.int p2)] [.int q17, .int q16, .int p1, .int q15, .ref 137] q14
              refine MW.run rfl [(.iload_n 3, 0), (.ixor, 0), (.iload_n 1, 0)] (pc' := 87) (ls' := [some (.ref 137), some (.int p0), some (.int p1), some (.int p2)]) (st' := [.int p0, .int (q17 ^^^ p2), .int q16, .int p1, .int q15, .ref 137]) (T1 := q14) (by decide +kernel) rfl ?_
              obtain ⟨q18, hq18, hf⟩ := bd_some hf
              refine MW.callV (As := [.int q15, .int p1, .int q16, .int (q17 ^^^ p2), .int p0]) (st := []) lv_RX12_355 rfl (by decide +kernel) (xm_comes hq18) (by decide) (by decide) rfl (Nat.le_of_ble_eq_true rfl) rfl ?_
              show MW l yy_X12_retell 2 _ _ 90 [some (.ref 137), some (.int p0), some (.int p1), some (.int p2)] [] q18
              refine MW.run rfl [(.aload_n 0, 0), (.getfield 39, 0), (.iconst 2, 2), (.dup2, 0)] (pc' := 96) (ls' := [some (.ref 137), some (.int p0), some (.int p1), some (.int p2)]) (st' := [.int 2, .ref 147, .int 2, .ref 147]) (T1 := q18) (by decide +kernel) rfl ?_
              obtain ⟨hi_v19, hf⟩ := bi_some hf
              obtain ⟨v19, hv19, hf⟩ := letv_some hf
              refine MW.iald 10 410 rfl (by decide) rfl (by decide +kernel) (inb_in hi_v19) ?_
              rw [← hv19]
              refine MW.run rfl [(.iconst 1, 1), (.iadd, 0)] (pc' := 99) (ls' := [some (.ref 137), some (.int p0), some (.int p1), some (.int p2)]) (st' := [.int (v19 + 1), .int 2, .ref 147]) (T1 := q18) (by decide +kernel) rfl ?_
              obtain ⟨hi_T20, hf⟩ := bi_some hf
              obtain ⟨T20, hT20, hf⟩ := letv_some hf
              refine MW.iast 10 410 rfl (by decide) (fun _ => rfl) (by decide +kernel) (inb_in hi_T20) ?_
              rw [← hT20]
              refine MW.run rfl [(.aload_n 0, 0), (.getfield 39, 0), (.iconst 5, 5)] (pc' := 105) (ls' := [some (.ref 137), some (.int p0), some (.int p1), some (.int p2)]) (st' := [.int 5, .ref 147]) (T1 := T20) (by decide +kernel) rfl ?_
              obtain ⟨hi_v21, hf⟩ := bi_some hf
              obtain ⟨v21, hv21, hf⟩ := letv_some hf
              refine MW.iald 10 410 rfl (by decide) rfl (by decide +kernel) (inb_in hi_v21) ?_
              rw [← hv21]
              refine MW.run rfl [(.iconst 1, 1), (.isub, 0)] (pc' := 108) (ls' := [some (.ref 137), some (.int p0), some (.int p1), some (.int p2)]) (st' := [.int (v21 - 1)]) (T1 := T20) (by decide +kernel) rfl ?_
              have e9 := Option.some.inj hf
              subst e9
              exact MW.iret rfl (by decide +kernel)
            · rw [if_pos c55_13] at hf
              refine MW.run rfl [(.iconst (-1), (-1))] (pc' := 59) (ls' := [some (.ref 137), some (.int p0), some (.int p1), some (.int p2)]) (st' := [.int (-1)]) (T1 := T) (by decide +kernel) rfl ?_
              have e9 := Option.some.inj hf
              subst e9
              exact MW.iret rfl (by decide +kernel)
