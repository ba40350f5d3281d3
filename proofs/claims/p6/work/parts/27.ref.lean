/-! ===== the reference, method by method (by program) 8 ===== -/
def fm_looks  (T : mT) : Option (mT) := bif inb 3 410 then (letv (T.1 10 (3 : Int32).toNatClampNeg) fun v1 => (fm_personOf v1 0 T).bind fun q2 => (fm_comes v1 v1 v1 q2 (-1) T).bind fun q3 => bif inb ((8 + (4 * v1)) + 3) 410 then (letv (q3.1 10 (((8 + (4 * v1)) + 3) : Int32).toNatClampNeg) fun v4 => bif inb ((8 + (4 * v1)) + 3) 410 then (letv (ma q3 10 (((8 + (4 * v1)) + 3) : Int32).toNatClampNeg (v4 + 1)) fun T5 => some T5) else none) else none) else none
theorem xm_looks {l : Launch}  {T : mT} {q : mT} (hf : fm_looks  T = some q) : MOk l yy_X12_looks 1 [] T none q := by
  refine MOk.of (ls := [some (.ref 137), none]) (by decide +kernel) (Nat.le_of_ble_eq_true rfl) rfl ?_
  unfold fm_looks at hf
  refine MW.run rfl [(.aload_n 0, 0), (.getfield 39, 0), (.iconst 3, 3)] (pc' := 5) (ls' := [some (.ref 137), none]) (st' := [.int 3, .ref 147]) (T1 := T) (by decide +kernel) rfl ?_
  obtain ⟨hi_v1, hf⟩ := bi_some hf
  obtain ⟨v1, hv1, hf⟩ := letv_some hf
  refine MW.iald 10 410 rfl (by decide) rfl (by decide +kernel) (inb_in hi_v1) ?_
  rw [← hv1]
  refine MW.run rfl [(.istore_n 1, 0), (.aload_n 0, 0), (.iload_n 1, 0), (.iload_n 1, 0), (.iload_n 1, 0), (.aload_n 0, 0), (.iload_n 1, 0), (.iconst 0, 0)] (pc' := 14) (ls' := [some (.ref 137), some (.int v1)]) (st' := [.int 0, .int v1, .ref 137, .int v1, .int v1, .int v1, .ref 137]) (T1 := T) (by decide +kernel) rfl ?_
  obtain ⟨q2, hq2, hf⟩ := bd_some hf
  refine MW.callV (As := [.int v1, .int 0]) (st := [.int v1, .int v1, .int v1, .ref 137]) lv_RX12_321 rfl (by decide +kernel) (xm_personOf hq2) (by decide) (by decide) rfl (Nat.le_of_ble_eq_true rfl) rfl ?_
  show MW l yy_X12_looks 1 _ _ 17 [some (.ref 137), some (.int v1)] [.int q2, .int v1, .int v1, .int v1, .ref 137] T
  refine MW.run rfl [(.iconst (-1), (-1))] (pc' := 18) (ls' := [some (.ref 137), some (.int v1)]) (st' := [.int (-1), .int q2, .int v1, .int v1, .int v1, .ref 137]) (T1 := T) (by decide +kernel) rfl ?_
  obtain ⟨q3, hq3, hf⟩ := bd_some hf
  refine MW.callV (As := [.int v1, .int v1, .int v1, .int q2, .int (-1)]) (st := []) lv_RX12_355 rfl (by decide +kernel) (xm_comes hq3) (by decide) (by decide) rfl (Nat.le_of_ble_eq_true rfl) rfl ?_
  show MW l yy_X12_looks 1 _ _ 21 [some (.ref 137), some (.int v1)] [] q3
  refine MW.run rfl [(.aload_n 0, 0), (.getfield 39, 0), (.bipush 8, 8), (.iconst 4, 4), (.iload_n 1, 0), (.imul, 0), (.iadd, 0), (.iconst 3, 3), (.iadd, 0), (.dup2, 0)] (pc' := 34) (ls' := [some (.ref 137), some (.int v1)]) (st' := [.int ((8 + (4 * v1)) + 3), .ref 147, .int ((8 + (4 * v1)) + 3), .ref 147]) (T1 := q3) (by decide +kernel) rfl ?_
  obtain ⟨hi_v4, hf⟩ := bi_some hf
  obtain ⟨v4, hv4, hf⟩ := letv_some hf
  refine MW.iald 10 410 rfl (by decide) rfl (by decide +kernel) (inb_in hi_v4) ?_
  rw [← hv4]
  refine MW.run rfl [(.iconst 1, 1), (.iadd, 0)] (pc' := 37) (ls' := [some (.ref 137), some (.int v1)]) (st' := [.int (v4 + 1), .int ((8 + (4 * v1)) + 3), .ref 147]) (T1 := q3) (by decide +kernel) rfl ?_
  obtain ⟨hi_T5, hf⟩ := bi_some hf
  obtain ⟨T5, hT5, hf⟩ := letv_some hf
  refine MW.iast 10 410 rfl (by decide) (fun _ => rfl) (by decide +kernel) (inb_in hi_T5) ?_
  rw [← hT5]
  have e9 := Option.some.inj hf
  subst e9
  exact MW.vret rfl (by decide +kernel)
def fm_look  (T : mT) : Option (Int32 × mT) := bif inb 5 410 then (letv (T.1 10 (5 : Int32).toNatClampNeg) fun v1 => if v1 = 40 then (some ((-1), T)) else ((fm_isHourLeft T).bind fun q3 => if (b2i q3) = 0 then (some ((-1), T)) else ((fm_keepsAct T).bind fun q5 => (fm_looks q5).bind fun q6 => bif inb 2 410 then (letv (q6.1 10 (2 : Int32).toNatClampNeg) fun v7 => bif inb 2 410 then (letv (ma q6 10 (2 : Int32).toNatClampNeg (v7 + 1)) fun T8 => bif inb 5 410 then (letv (T8.1 10 (5 : Int32).toNatClampNeg) fun v9 => some (v9 - 1, T8)) else none) else none) else none))) else none
theorem xm_look {l : Launch}  {T : mT} {q : Int32 × mT} (hf : fm_look  T = some q) : MOk l yy_X12_look 2 [] T (some (.int q.1)) q.2 := by
  refine MOk.of (ls := [some (.ref 137)]) (by decide +kernel) (Nat.le_of_ble_eq_true rfl) rfl ?_
  unfold fm_look at hf
  refine MW.run rfl [(.aload_n 0, 0), (.getfield 39, 0), (.iconst 5, 5)] (pc' := 5) (ls' := [some (.ref 137)]) (st' := [.int 5, .ref 147]) (T1 := T) (by decide +kernel) rfl ?_
  obtain ⟨hi_v1, hf⟩ := bi_some hf
  obtain ⟨v1, hv1, hf⟩ := letv_some hf
  refine MW.iald 10 410 rfl (by decide) rfl (by decide +kernel) (inb_in hi_v1) ?_
  rw [← hv1]
  refine MW.run rfl [(.bipush 40, 40)] (pc' := 8) (ls' := [some (.ref 137)]) (st' := [.int 40, .int v1]) (T1 := T) (by decide +kernel) rfl ?_
  refine MW.icmp_eq (off := 10) (tgt := 18) (by decide +kernel) (by decide) (fun c8_2 => ?_) (fun c8_2 => ?_)
  · rw [if_pos c8_2] at hf
    refine MW.run rfl [(.iconst (-1), (-1))] (pc' := 19) (ls' := [some (.ref 137)]) (st' := [.int (-1)]) (T1 := T) (by decide +kernel) rfl ?_
    have e9 := Option.some.inj hf
    subst e9
    exact MW.iret rfl (by decide +kernel)
  · rw [if_neg c8_2] at hf
    refine MW.run rfl [(.aload_n 0, 0)] (pc' := 12) (ls' := [some (.ref 137)]) (st' := [.ref 137]) (T1 := T) (by decide +kernel) rfl ?_
    obtain ⟨q3, hq3, hf⟩ := bd_some hf
    refine MW.callV (As := []) (st := []) lv_RX12_345 rfl (by decide +kernel) (xm_isHourLeft hq3) (by decide) (by decide) rfl (Nat.le_of_ble_eq_true rfl) rfl ?_
    show MW l yy_X12_look 2 _ _ 15 [some (.ref 137)] [.int (b2i q3)] T
    refine MW.if_ne (off := 5) (tgt := 20) (by decide +kernel) (by decide) (fun c15_4 => ?_) (fun c15_4 => ?_)
    · rw [if_neg c15_4] at hf
      refine MW.run rfl [(.aload_n 0, 0)] (pc' := 21) (ls' := [some (.ref 137)]) (st' := [.ref 137]) (T1 := T) (by decide +kernel) rfl ?_
      obtain ⟨q5, hq5, hf⟩ := bd_some hf
      refine MW.callV (As := []) (st := []) lv_RX12_348 rfl (by decide +kernel) (xm_keepsAct hq5) (by decide) (by decide) rfl (Nat.le_of_ble_eq_true rfl) rfl ?_
      show MW l yy_X12_look 2 _ _ 24 [some (.ref 137)] [] q5
      refine MW.run rfl [(.aload_n 0, 0)] (pc' := 25) (ls' := [some (.ref 137)]) (st' := [.ref 137]) (T1 := q5) (by decide +kernel) rfl ?_
      obtain ⟨q6, hq6, hf⟩ := bd_some hf
      refine MW.callV (As := []) (st := []) lv_RX12_359 rfl (by decide +kernel) (xm_looks hq6) (by decide) (by decide) rfl (Nat.le_of_ble_eq_true rfl) rfl ?_
      show MW l yy_X12_look 2 _ _ 28 [some (.ref 137)] [] q6
      refine MW.run rfl [(.aload_n 0, 0), (.getfield 39, 0), (.iconst 2, 2), (.dup2, 0)] (pc' := 34) (ls' := [some (.ref 137)]) (st' := [.int 2, .ref 147, .int 2, .ref 147]) (T1 := q6) (by decide +kernel) rfl ?_
      obtain ⟨hi_v7, hf⟩ := bi_some hf
      obtain ⟨v7, hv7, hf⟩ := letv_some hf
      refine MW.iald 10 410 rfl (by decide) rfl (by decide +kernel) (inb_in hi_v7) ?_
      rw [← hv7]
      refine MW.run rfl [(.iconst 1, 1), (.iadd, 0)] (pc' := 37) (ls' := [some (.ref 137)]) (st' := [.int (v7 + 1), .int 2, .ref 147]) (T1 := q6) (by decide +kernel) rfl ?_
      obtain ⟨hi_T8, hf⟩ := bi_some hf
      obtain ⟨T8, hT8, hf⟩ := letv_some hf
      refine MW.iast 10 410 rfl (by decide) (fun _ => rfl) (by decide +kernel) (inb_in hi_T8) ?_
      rw [← hT8]
      refine MW.run rfl [(.aload_n 0, 0), (.getfield 39, 0), (.iconst 5, 5)] (pc' := 43) (ls' := [some (.ref 137)]) (st' := [.int 5, .ref 147]) (T1 := T8) (by decide +kernel) rfl ?_
      obtain ⟨hi_v9, hf⟩ := bi_some hf
      obtain ⟨v9, hv9, hf⟩ := letv_some hf
      refine MW.iald 10 410 rfl (by decide) rfl (by decide +kernel) (inb_in hi_v9) ?_
      rw [← hv9]
      refine MW.run rfl [(.iconst 1, 1), (.isub, 0)] (pc' := 46) (ls' := [some (.ref 137)]) (st' := [.int (v9 - 1)]) (T1 := T8) (by decide +kernel) rfl ?_
      have e9 := Option.some.inj hf
      subst e9
      exact MW.iret rfl (by decide +kernel)
    · rw [if_pos c15_4] at hf
      refine MW.run rfl [(.iconst (-1), (-1))] (pc' := 19) (ls' := [some (.ref 137)]) (st' := [.int (-1)]) (T1 := T) (by decide +kernel) rfl ?_
      have e9 := Option.some.inj hf
      subst e9
      exact MW.iret rfl (by decide +kernel)
def fm_glassGoes (p0 : Int32) (T : mT) : Option (mT) := bif inb 3 410 then (letv (ma T 10 (3 : Int32).toNatClampNeg p0) fun T1 => bif inb 4 410 then (letv (ma T1 10 (4 : Int32).toNatClampNeg 0) fun T2 => some T2) else none) else none
theorem xm_glassGoes {l : Launch} {p0 : Int32} {T : mT} {q : mT} (hf : fm_glassGoes p0 T = some q) : MOk l yy_X12_glassGoes 0 [.int p0] T none q := by
  refine MOk.of (ls := [some (.ref 137), some (.int p0)]) (by decide +kernel) (Nat.le_of_ble_eq_true rfl) rfl ?_
  unfold fm_glassGoes at hf
  refine MW.run rfl [(.aload_n 0, 0), (.getfield 39, 0), (.iconst 3, 3), (.iload_n 1, 0)] (pc' := 6) (ls' := [some (.ref 137), some (.int p0)]) (st' := [.int p0, .int 3, .ref 147]) (T1 := T) (by decide +kernel) rfl ?_
  obtain ⟨hi_T1, hf⟩ := bi_some hf
  obtain ⟨T1, hT1, hf⟩ := letv_some hf
  refine MW.iast 10 410 rfl (by decide) (fun _ => rfl) (by decide +kernel) (inb_in hi_T1) ?_
  rw [← hT1]
  refine MW.run rfl [(.aload_n 0, 0), (.getfield 39, 0), (.iconst 4, 4), (.iconst 0, 0)] (pc' := 13) (ls' := [some (.ref 137), some (.int p0)]) (st' := [.int 0, .int 4, .ref 147]) (T1 := T1) (by decide +kernel) rfl ?_
  obtain ⟨hi_T2, hf⟩ := bi_some hf
  obtain ⟨T2, hT2, hf⟩ := letv_some hf
  refine MW.iast 10 410 rfl (by decide) (fun _ => rfl) (by decide +kernel) (inb_in hi_T2) ?_
  rw [← hT2]
  have e9 := Option.some.inj hf
  subst e9
  exact MW.vret rfl (by decide +kernel)
def fm_give (p0 : Int32) (T : mT) : Option (Int32 × mT) := (fm_isPerson p0 T).bind fun q1 => if (b2i q1) = 0 then (some ((-1), T)) else (bif inb 3 410 then (letv (T.1 10 (3 : Int32).toNatClampNeg) fun v3 => bif inb (104 + v3) 410 then (letv (T.1 10 ((104 + v3) : Int32).toNatClampNeg) fun v4 => (fm_isOf v4 p0).bind fun q5 => if (b2i q5) = 0 then (some ((-1), T)) else (bif inb 4 410 then (letv (T.1 10 (4 : Int32).toNatClampNeg) fun v7 => if v7 = 1 then (some ((-1), T)) else ((fm_isHourLeft T).bind fun q9 => if (b2i q9) = 0 then (some ((-1), T)) else ((fm_keepsAct T).bind fun q11 => (fm_glassGoes p0 q11).bind fun q12 => bif inb 2 410 then (letv (q12.1 10 (2 : Int32).toNatClampNeg) fun v13 => bif inb 2 410 then (letv (ma q12 10 (2 : Int32).toNatClampNeg (v13 + 1)) fun T14 => bif inb 2 410 then (letv (T14.1 10 (2 : Int32).toNatClampNeg) fun v15 => some (v15, T14)) else none) else none) else none))) else none)) else none) else none)
theorem xm_give {l : Launch} {p0 : Int32} {T : mT} {q : Int32 × mT} (hf : fm_give p0 T = some q) : MOk l yy_X12_give 2 [.int p0] T (some (.int q.1)) q.2 := by
  refine MOk.of (ls := [some (.ref 137), some (.int p0)]) (by decide +kernel) (Nat.le_of_ble_eq_true rfl) rfl ?_
  unfold fm_give at hf
  refine MW.run rfl [(.aload_n 0, 0), (.iload_n 1, 0)] (pc' := 2) (ls' := [some (.ref 137), some (.int p0)]) (st' := [.int p0, .ref 137]) (T1 := T) (by decide +kernel) rfl ?_
  obtain ⟨q1, hq1, hf⟩ := bd_some hf
  refine MW.callV (As := [.int p0]) (st := []) lv_RX12_318 rfl (by decide +kernel) (xm_isPerson hq1) (by decide) (by decide) rfl (Nat.le_of_ble_eq_true rfl) rfl ?_
  show MW l yy_X12_give 2 _ _ 5 [some (.ref 137), some (.int p0)] [.int (b2i q1)] T
  refine MW.if_eq (off := 41) (tgt := 46) (by decide +kernel) (by decide) (fun c5_2 => ?_) (fun c5_2 => ?_)
  · rw [if_pos c5_2] at hf
    refine MW.run rfl [(.iconst (-1), (-1))] (pc' := 47) (ls' := [some (.ref 137), some (.int p0)]) (st' := [.int (-1)]) (T1 := T) (by decide +kernel) rfl ?_
    have e9 := Option.some.inj hf
    subst e9
    exact MW.iret rfl (by decide +kernel)
  · rw [if_neg c5_2] at hf
    refine MW.run rfl [(.aload_n 0, 0), (.getfield 39, 0), (.bipush 104, 104), (.aload_n 0, 0), (.getfield 39, 0), (.iconst 3, 3)] (pc' := 19) (ls' := [some (.ref 137), some (.int p0)]) (st' := [.int 3, .ref 147, .int 104, .ref 147]) (T1 := T) (by decide +kernel) rfl ?_
    obtain ⟨hi_v3, hf⟩ := bi_some hf
    obtain ⟨v3, hv3, hf⟩ := letv_some hf
    refine MW.iald 10 410 rfl (by decide) rfl (by decide +kernel) (inb_in hi_v3) ?_
    rw [← hv3]
    refine MW.run rfl [(.iadd, 0)] (pc' := 21) (ls' := [some (.ref 137), some (.int p0)]) (st' := [.int (104 + v3), .ref 147]) (T1 := T) (by decide +kernel) rfl ?_
    obtain ⟨hi_v4, hf⟩ := bi_some hf
    obtain ⟨v4, hv4, hf⟩ := letv_some hf
    refine MW.iald 10 410 rfl (by decide) rfl (by decide +kernel) (inb_in hi_v4) ?_
    rw [← hv4]
    refine MW.run rfl [(.iload_n 1, 0)] (pc' := 23) (ls' := [some (.ref 137), some (.int p0)]) (st' := [.int p0, .int v4]) (T1 := T) (by decide +kernel) rfl ?_
    obtain ⟨q5, hq5, hf⟩ := bd_some hf
    refine MW.callP (As := [.int v4, .int p0]) (st := []) lt_RX12_309 (by decide +kernel) (xm_isOf hq5) (by decide) (by decide) rfl (Nat.le_of_ble_eq_true rfl) rfl ?_
    show MW l yy_X12_give 2 _ _ 26 [some (.ref 137), some (.int p0)] [.int (b2i q5)] T
    refine MW.if_eq (off := 20) (tgt := 46) (by decide +kernel) (by decide) (fun c26_6 => ?_) (fun c26_6 => ?_)
    · rw [if_pos c26_6] at hf
      refine MW.run rfl [(.iconst (-1), (-1))] (pc' := 47) (ls' := [some (.ref 137), some (.int p0)]) (st' := [.int (-1)]) (T1 := T) (by decide +kernel) rfl ?_
      have e9 := Option.some.inj hf
      subst e9
      exact MW.iret rfl (by decide +kernel)
    · rw [if_neg c26_6] at hf
      refine MW.run rfl [(.aload_n 0, 0), (.getfield 39, 0), (.iconst 4, 4)] (pc' := 34) (ls' := [some (.ref 137), some (.int p0)]) (st' := [.int 4, .ref 147]) (T1 := T) (by decide +kernel) rfl ?_
      obtain ⟨hi_v7, hf⟩ := bi_some hf
      obtain ⟨v7, hv7, hf⟩ := letv_some hf
      refine MW.iald 10 410 rfl (by decide) rfl (by decide +kernel) (inb_in hi_v7) ?_
      rw [← hv7]
      refine MW.run rfl [(.iconst 1, 1)] (pc' := 36) (ls' := [some (.ref 137), some (.int p0)]) (st' := [.int 1, .int v7]) (T1 := T) (by decide +kernel) rfl ?_
      refine MW.icmp_eq (off := 10) (tgt := 46) (by decide +kernel) (by decide) (fun c36_8 => ?_) (fun c36_8 => ?_)
      · rw [if_pos c36_8] at hf
        refine MW.run rfl [(.iconst (-1), (-1))] (pc' := 47) (ls' := [some (.ref 137), some (.int p0)]) (st' := [.int (-1)]) (T1 := T) (by decide +kernel) rfl ?_
        have e9 := Option.some.inj hf
        subst e9
        exact MW.iret rfl (by decide +kernel)
      · rw [if_neg c36_8] at hf
        refine MW.run rfl [(.aload_n 0, 0)] (pc' := 40) (ls' := [some (.ref 137), some (.int p0)]) (st' := [.ref 137]) (T1 := T) (by decide +kernel) rfl ?_
        obtain ⟨q9, hq9, hf⟩ := bd_some hf
        refine MW.callV (As := []) (st := []) lv_RX12_345 rfl (by decide +kernel) (xm_isHourLeft hq9) (by decide) (by decide) rfl (Nat.le_of_ble_eq_true rfl) rfl ?_
        show MW l yy_X12_give 2 _ _ 43 [some (.ref 137), some (.int p0)] [.int (b2i q9)] T
        refine MW.if_ne (off := 5) (tgt := 48) (by decide +kernel) (by decide) (fun c43_10 => ?_) (fun c43_10 => ?_)
        · rw [if_neg c43_10] at hf
          refine MW.run rfl [(.aload_n 0, 0)] (pc' := 49) (ls' := [some (.ref 137), some (.int p0)]) (st' := [.ref 137]) (T1 := T) (by decide +kernel) rfl ?_
          obtain ⟨q11, hq11, hf⟩ := bd_some hf
          refine MW.callV (As := []) (st := []) lv_RX12_348 rfl (by decide +kernel) (xm_keepsAct hq11) (by decide) (by decide) rfl (Nat.le_of_ble_eq_true rfl) rfl ?_
          show MW l yy_X12_give 2 _ _ 52 [some (.ref 137), some (.int p0)] [] q11
          refine MW.run rfl [(.aload_n 0, 0), (.iload_n 1, 0)] (pc' := 54) (ls' := [some (.ref 137), some (.int p0)]) (st' := [.int p0, .ref 137]) (T1 := q11) (by decide +kernel) rfl ?_
          obtain ⟨q12, hq12, hf⟩ := bd_some hf
          refine MW.callV (As := [.int p0]) (st := []) lv_RX12_362 rfl (by decide +kernel) (xm_glassGoes hq12) (by decide) (by decide) rfl (Nat.le_of_ble_eq_true rfl) rfl ?_
          show MW l yy_X12_give 2 _ _ 57 [some (.ref 137), some (.int p0)] [] q12
          refine MW.run rfl [(.aload_n 0, 0), (.getfield 39, 0), (.iconst 2, 2), (.dup2, 0)] (pc' := 63) (ls' := [some (.ref 137), some (.int p0)]) (st' := [.int 2, .ref 147, .int 2, .ref 147]) (T1 := q12) (by decide +kernel) rfl ?_
          obtain ⟨hi_v13, hf⟩ := bi_some hf
          obtain ⟨v13, hv13, hf⟩ := letv_some hf
          refine MW.iald 10 410 rfl (by decide) rfl (by decide +kernel) (inb_in hi_v13) ?_
          rw [← hv13]
          refine MW.run rfl [(.iconst 1, 1), (.iadd, 0)] (pc' := 66) (ls' := [some (.ref 137), some (.int p0)]) (st' := [.int (v13 + 1), .int 2, .ref 147]) (T1 := q12) (by decide +kernel) rfl ?_
          obtain ⟨hi_T14, hf⟩ := bi_some hf
          obtain ⟨T14, hT14, hf⟩ := letv_some hf
          refine MW.iast 10 410 rfl (by decide) (fun _ => rfl) (by decide +kernel) (inb_in hi_T14) ?_
          rw [← hT14]
          refine MW.run rfl [(.aload_n 0, 0), (.getfield 39, 0), (.iconst 2, 2)] (pc' := 72) (ls' := [some (.ref 137), some (.int p0)]) (st' := [.int 2, .ref 147]) (T1 := T14) (by decide +kernel) rfl ?_
          obtain ⟨hi_v15, hf⟩ := bi_some hf
          obtain ⟨v15, hv15, hf⟩ := letv_some hf
          refine MW.iald 10 410 rfl (by decide) rfl (by decide +kernel) (inb_in hi_v15) ?_
          rw [← hv15]
          have e9 := Option.some.inj hf
          subst e9
          exact MW.iret rfl (by decide +kernel)
        · rw [if_pos c43_10] at hf
          refine MW.run rfl [(.iconst (-1), (-1))] (pc' := 47) (ls' := [some (.ref 137), some (.int p0)]) (st' := [.int (-1)]) (T1 := T) (by decide +kernel) rfl ?_
          have e9 := Option.some.inj hf
          subst e9
          exact MW.iret rfl (by decide +kernel)
def fm_save  (T : mT) : Option (Int32 × mT) := (fm_isHourLeft T).bind fun q1 => if (b2i q1) = 0 then (some ((-1), T)) else ((fm_keepsAct T).bind fun q3 => bif inb 3 410 then (letv (q3.1 10 (3 : Int32).toNatClampNeg) fun v4 => bif inb ((8 + (4 * v4)) + 2) 410 then (letv (q3.1 10 (((8 + (4 * v4)) + 2) : Int32).toNatClampNeg) fun v5 => bif inb ((8 + (4 * v4)) + 2) 410 then (letv (ma q3 10 (((8 + (4 * v4)) + 2) : Int32).toNatClampNeg (v5 + 1)) fun T6 => bif inb 2 410 then (letv (T6.1 10 (2 : Int32).toNatClampNeg) fun v7 => bif inb 2 410 then (letv (ma T6 10 (2 : Int32).toNatClampNeg (v7 + 1)) fun T8 => bif inb 3 410 then (letv (T8.1 10 (3 : Int32).toNatClampNeg) fun v9 => (fm_personOf v9 2 T8).bind fun q10 => some (q10, T8)) else none) else none) else none) else none) else none) else none)
theorem xm_save {l : Launch}  {T : mT} {q : Int32 × mT} (hf : fm_save  T = some q) : MOk l yy_X12_save 2 [] T (some (.int q.1)) q.2 := by
  refine MOk.of (ls := [some (.ref 137)]) (by decide +kernel) (Nat.le_of_ble_eq_true rfl) rfl ?_
  unfold fm_save at hf
  refine MW.run rfl [(.aload_n 0, 0)] (pc' := 1) (ls' := [some (.ref 137)]) (st' := [.ref 137]) (T1 := T) (by decide +kernel) rfl ?_
  obtain ⟨q1, hq1, hf⟩ := bd_some hf
  refine MW.callV (As := []) (st := []) lv_RX12_345 rfl (by decide +kernel) (xm_isHourLeft hq1) (by decide) (by decide) rfl (Nat.le_of_ble_eq_true rfl) rfl ?_
  show MW l yy_X12_save 2 _ _ 4 [some (.ref 137)] [.int (b2i q1)] T
  refine MW.if_ne (off := 5) (tgt := 9) (by decide +kernel) (by decide) (fun c4_2 => ?_) (fun c4_2 => ?_)
  · rw [if_neg c4_2] at hf
    refine MW.run rfl [(.aload_n 0, 0)] (pc' := 10) (ls' := [some (.ref 137)]) (st' := [.ref 137]) (T1 := T) (by decide +kernel) rfl ?_
    obtain ⟨q3, hq3, hf⟩ := bd_some hf
    refine MW.callV (As := []) (st := []) lv_RX12_348 rfl (by decide +kernel) (xm_keepsAct hq3) (by decide) (by decide) rfl (Nat.le_of_ble_eq_true rfl) rfl ?_
    show MW l yy_X12_save 2 _ _ 13 [some (.ref 137)] [] q3
    refine MW.run rfl [(.aload_n 0, 0), (.getfield 39, 0), (.bipush 8, 8), (.iconst 4, 4), (.aload_n 0, 0), (.getfield 39, 0), (.iconst 3, 3)] (pc' := 25) (ls' := [some (.ref 137)]) (st' := [.int 3, .ref 147, .int 4, .int 8, .ref 147]) (T1 := q3) (by decide +kernel) rfl ?_
    obtain ⟨hi_v4, hf⟩ := bi_some hf
    obtain ⟨v4, hv4, hf⟩ := letv_some hf
    refine MW.iald 10 410 rfl (by decide) rfl (by decide +kernel) (inb_in hi_v4) ?_
    rw [← hv4]
    refine MW.run rfl [(.imul, 0), (.iadd, 0), (.iconst 2, 2), (.iadd, 0), (.dup2, 0)] (pc' := 31) (ls' := [some (.ref 137)]) (st' := [.int ((8 + (4 * v4)) + 2), .ref 147, .int ((8 + (4 * v4)) + 2), .ref 147]) (T1 := q3) (by decide +kernel) rfl ?_
    obtain ⟨hi_v5, hf⟩ := bi_some hf
    obtain ⟨v5, hv5, hf⟩ := letv_some hf
    refine MW.iald 10 410 rfl (by decide) rfl (by decide +kernel) (inb_in hi_v5) ?_
    rw [← hv5]
    refine MW.run rfl [(.iconst 1, 1), (.iadd, 0)] (pc' := 34) (ls' := [some (.ref 137)]) (st' := [.int (v5 + 1), .int ((8 + (4 * v4)) + 2), .ref 147]) (T1 := q3) (by decide +kernel) rfl ?_
    obtain ⟨hi_T6, hf⟩ := bi_some hf
    obtain ⟨T6, hT6, hf⟩ := letv_some hf
    refine MW.iast 10 410 rfl (by decide) (fun _ => rfl) (by decide +kernel) (inb_in hi_T6) ?_
    rw [← hT6]
    refine MW.run rfl [(.aload_n 0, 0), (.getfield 39, 0), (.iconst 2, 2), (.dup2, 0)] (pc' := 41) (ls' := [some (.ref 137)]) (st' := [.int 2, .ref 147, .int 2, .ref 147]) (T1 := T6) (by decide +kernel) rfl ?_
    obtain ⟨hi_v7, hf⟩ := bi_some hf
    obtain ⟨v7, hv7, hf⟩ := letv_some hf
    refine MW.iald 10 410 rfl (by decide) rfl (by decide +kernel) (inb_in hi_v7) ?_
    rw [← hv7]
    refine MW.run rfl [(.iconst 1, 1), (.iadd, 0)] (pc' := 44) (ls' := [some (.ref 137)]) (st' := [.int (v7 + 1), .int 2, .ref 147]) (T1 := T6) (by decide +kernel) rfl ?_
    obtain ⟨hi_T8, hf⟩ := bi_some hf
    obtain ⟨T8, hT8, hf⟩ := letv_some hf
    refine MW.iast 10 410 rfl (by decide) (fun _ => rfl) (by decide +kernel) (inb_in hi_T8) ?_
    rw [← hT8]
    refine MW.run rfl [(.aload_n 0, 0), (.aload_n 0, 0), (.getfield 39, 0), (.iconst 3, 3)] (pc' := 51) (ls' := [some (.ref 137)]) (st' := [.int 3, .ref 147, .ref 137]) (T1 := T8) (by decide +kernel) rfl ?_
    obtain ⟨hi_v9, hf⟩ := bi_some hf
    obtain ⟨v9, hv9, hf⟩ := letv_some hf
    refine MW.iald 10 410 rfl (by decide) rfl (by decide +kernel) (inb_in hi_v9) ?_
    rw [← hv9]
    refine MW.run rfl [(.iconst 2, 2)] (pc' := 53) (ls' := [some (.ref 137)]) (st' := [.int 2, .int v9, .ref 137]) (T1 := T8) (by decide +kernel) rfl ?_
    obtain ⟨q10, hq10, hf⟩ := bd_some hf
    refine MW.callV (As := [.int v9, .int 2]) (st := []) lv_RX12_321 rfl (by decide +kernel) (xm_personOf hq10) (by decide) (by decide) rfl (Nat.le_of_ble_eq_true rfl) rfl ?_
    show MW l yy_X12_save 2 _ _ 56 [some (.ref 137)] [.int q10] T8
    have e9 := Option.some.inj hf
    subst e9
    exact MW.iret rfl (by decide +kernel)
  · rw [if_pos c4_2] at hf
    refine MW.run rfl [(.iconst (-1), (-1))] (pc' := 8) (ls' := [some (.ref 137)]) (st' := [.int (-1)]) (T1 := T) (by decide +kernel) rfl ?_
    have e9 := Option.some.inj hf
    subst e9
    exact MW.iret rfl (by decide +kernel)
def fm_sell (p0 : Int32) (p1 : Int32) (p2 : Int32) (T : mT) : Option (Int32 × mT) := (fm_isPerson p0 T).bind fun q1 => if (b2i q1) = 0 then (some ((-1), T)) else ((fm_isPerson p1 T).bind fun q3 => if (b2i q3) = 0 then (some ((-1), T)) else (if p0 = p1 then (some ((-1), T)) else ((fm_personOf p0 2 T).bind fun q6 => if q6 = 0 then (some ((-1), T)) else (if p2 < 0 then (some ((-1), T)) else ((fm_personOf p1 1 T).bind fun q9 => if p2 ≤ q9 then ((fm_keepsAct T).bind fun q11 => bif inb ((8 + (4 * p0)) + 2) 410 then (letv (q11.1 10 (((8 + (4 * p0)) + 2) : Int32).toNatClampNeg) fun v12 => bif inb ((8 + (4 * p0)) + 2) 410 then (letv (ma q11 10 (((8 + (4 * p0)) + 2) : Int32).toNatClampNeg (v12 - 1)) fun T13 => bif inb ((8 + (4 * p1)) + 2) 410 then (letv (T13.1 10 (((8 + (4 * p1)) + 2) : Int32).toNatClampNeg) fun v14 => bif inb ((8 + (4 * p1)) + 2) 410 then (letv (ma T13 10 (((8 + (4 * p1)) + 2) : Int32).toNatClampNeg (v14 + 1)) fun T15 => bif inb ((8 + (4 * p0)) + 1) 410 then (letv (T15.1 10 (((8 + (4 * p0)) + 1) : Int32).toNatClampNeg) fun v16 => bif inb ((8 + (4 * p0)) + 1) 410 then (letv (ma T15 10 (((8 + (4 * p0)) + 1) : Int32).toNatClampNeg (v16 + p2)) fun T17 => bif inb ((8 + (4 * p1)) + 1) 410 then (letv (T17.1 10 (((8 + (4 * p1)) + 1) : Int32).toNatClampNeg) fun v18 => bif inb ((8 + (4 * p1)) + 1) 410 then (letv (ma T17 10 (((8 + (4 * p1)) + 1) : Int32).toNatClampNeg (v18 - p2)) fun T19 => (fm_personOf p1 1 T19).bind fun q20 => some (q20, T19)) else none) else none) else none) else none) else none) else none) else none) else none) else (some ((-1), T)))))))
theorem xm_sell {l : Launch} {p0 : Int32} {p1 : Int32} {p2 : Int32} {T : mT} {q : Int32 × mT} (hf : fm_sell p0 p1 p2 T = some q) : MOk l yy_X12_sell 1 [.int p0, .int p1, .int p2] T (some (.int q.1)) q.2 := by
  refine MOk.of (ls := [some (.ref 137), some (.int p0), some (.int p1), some (.int p2)]) (by decide +kernel) (Nat.le_of_ble_eq_true rfl) rfl ?_
  unfold fm_sell at hf
  refine MW.run rfl [(.aload_n 0, 0), (.iload_n 1, 0)] (pc' := 2) (ls' := [some (.ref 137), some (.int p0), some (.int p1), some (.int p2)]) (st' := [.int p0, .ref 137]) (T1 := T) (by decide +kernel) rfl ?_
  obtain ⟨q1, hq1, hf⟩ := bd_some hf
  refine MW.callV (As := [.int p0]) (st := []) lv_RX12_318 rfl (by decide +kernel) (xm_isPerson hq1) (by decide) (by decide) rfl (Nat.le_of_ble_eq_true rfl) rfl ?_
  show MW l yy_X12_sell 1 _ _ 5 [some (.ref 137), some (.int p0), some (.int p1), some (.int p2)] [.int (b2i q1)] T
  refine MW.if_eq (off := 39) (tgt := 44) (by decide +kernel) (by decide) (fun c5_2 => ?_) (fun c5_2 => ?_)
  · rw [if_pos c5_2] at hf
    refine MW.run rfl [(.iconst (-1), (-1))] (pc' := 45) (ls' := [some (.ref 137), some (.int p0), some (.int p1), some (.int p2)]) (st' := [.int (-1)]) (T1 := T) (by decide +kernel) rfl ?_
    have e9 := Option.some.inj hf
    subst e9
    exact MW.iret rfl (by decide +kernel)
  · rw [if_neg c5_2] at hf
    refine MW.run rfl [(.aload_n 0, 0), (.iload_n 2, 0)] (pc' := 10) (ls' := [some (.ref 137), some (.int p0), some (.int p1), some (.int p2)]) (st' := [.int p1, .ref 137]) (T1 := T) (by decide +kernel) rfl ?_
    obtain ⟨q3, hq3, hf⟩ := bd_some hf
    refine MW.callV (As := [.int p1]) (st := []) lv_RX12_318 rfl (by decide +kernel) (xm_isPerson hq3) (by decide) (by decide) rfl (Nat.le_of_ble_eq_true rfl) rfl ?_
    show MW l yy_X12_sell 1 _ _ 13 [some (.ref 137), some (.int p0), some (.int p1), some (.int p2)] [.int (b2i q3)] T
    refine MW.if_eq (off := 31) (tgt := 44) (by decide +kernel) (by decide) (fun c13_4 => ?_) (fun c13_4 => ?_)
    · rw [if_pos c13_4] at hf
      refine MW.run rfl [(.iconst (-1), (-1))] (pc' := 45) (ls' := [some (.ref 137), some (.int p0), some (.int p1), some (.int p2)]) (st' := [.int (-1)]) (T1 := T) (by decide +kernel) rfl ?_
      have e9 := Option.some.inj hf
      subst e9
      exact MW.iret rfl (by decide +kernel)
    · rw [if_neg c13_4] at hf
      refine MW.run rfl [(.iload_n 1, 0), (.iload_n 2, 0)] (pc' := 18) (ls' := [some (.ref 137), some (.int p0), some (.int p1), some (.int p2)]) (st' := [.int p1, .int p0]) (T1 := T) (by decide +kernel) rfl ?_
      refine MW.icmp_eq (off := 26) (tgt := 44) (by decide +kernel) (by decide) (fun c18_5 => ?_) (fun c18_5 => ?_)
      · rw [if_pos c18_5] at hf
        refine MW.run rfl [(.iconst (-1), (-1))] (pc' := 45) (ls' := [some (.ref 137), some (.int p0), some (.int p1), some (.int p2)]) (st' := [.int (-1)]) (T1 := T) (by decide +kernel) rfl ?_
        have e9 := Option.some.inj hf
        subst e9
        exact MW.iret rfl (by decide +kernel)
      · rw [if_neg c18_5] at hf
        refine MW.run rfl [(.aload_n 0, 0), (.iload_n 1, 0), (.iconst 2, 2)] (pc' := 24) (ls' := [some (.ref 137), some (.int p0), some (.int p1), some (.int p2)]) (st' := [.int 2, .int p0, .ref 137]) (T1 := T) (by decide +kernel) rfl ?_
        obtain ⟨q6, hq6, hf⟩ := bd_some hf
        refine MW.callV (As := [.int p0, .int 2]) (st := []) lv_RX12_321 rfl (by decide +kernel) (xm_personOf hq6) (by decide) (by decide) rfl (Nat.le_of_ble_eq_true rfl) rfl ?_
        show MW l yy_X12_sell 1 _ _ 27 [some (.ref 137), some (.int p0), some (.int p1), some (.int p2)] [.int q6] T
        refine MW.if_eq (off := 17) (tgt := 44) (by decide +kernel) (by decide) (fun c27_7 => ?_) (fun c27_7 => ?_)
        · rw [if_pos c27_7] at hf
          refine MW.run rfl [(.iconst (-1), (-1))] (pc' := 45) (ls' := [some (.ref 137), some (.int p0), some (.int p1), some (.int p2)]) (st' := [.int (-1)]) (T1 := T) (by decide +kernel) rfl ?_
          have e9 := Option.some.inj hf
          subst e9
          exact MW.iret rfl (by decide +kernel)
        · rw [if_neg c27_7] at hf
          refine MW.run rfl [(.iload_n 3, 0)] (pc' := 31) (ls' := [some (.ref 137), some (.int p0), some (.int p1), some (.int p2)]) (st' := [.int p2]) (T1 := T) (by decide +kernel) rfl ?_
          refine MW.if_lt (off := 13) (tgt := 44) (by decide +kernel) (by decide) (fun c31_8 => ?_) (fun c31_8 => ?_)
          · rw [if_pos c31_8] at hf
            refine MW.run rfl [(.iconst (-1), (-1))] (pc' := 45) (ls' := [some (.ref 137), some (.int p0), some (.int p1), some (.int p2)]) (st' := [.int (-1)]) (T1 := T) (by decide +kernel) rfl ?_
            have e9 := Option.some.inj hf
            subst e9
            exact MW.iret rfl (by decide +kernel)
          · rw [if_neg c31_8] at hf
            refine MW.run rfl [(.iload_n 3, 0), (.aload_n 0, 0), (.iload_n 2, 0), (.iconst 1, 1)] (pc' := 38) (ls' := [some (.ref 137), some (.int p0), some (.int p1), some (.int p2)]) (st' := [.int 1, .int p1, .ref 137, .int p2]) (T1 := T) (by decide +kernel) rfl ?_
            obtain ⟨q9, hq9, hf⟩ := bd_some hf
            refine MW.callV (As := [.int p1, .int 1]) (st := [.int p2]) lv_RX12_321 rfl (by decide +kernel) (xm_personOf hq9) (by decide) (by decide) rfl (Nat.le_of_ble_eq_true rfl) rfl ?_
            show MW l yy_X12_sell 1 _ _ 41 [some (.ref 137), some (.int p0), some (.int p1), some (.int p2)] [.int q9, .int p2] T
            refine MW.icmp_le (off := 5) (tgt := 46) (by decide +kernel) (by decide) (fun c41_10 => ?_) (fun c41_10 => ?_)
            · rw [if_pos c41_10] at hf
              refine MW.run rfl [(.aload_n 0, 0)] (pc' := 47) (ls' := [some (.ref 137), some (.int p0), some (.int p1), some (.int p2)]) (st' := [.ref 137]) (T1 := T) (by decide +kernel) rfl ?_
              obtain ⟨q11, hq11, hf⟩ := bd_some hf
              refine MW.callV (As := []) (st := []) lv_RX12_348 rfl (by decide +kernel) (xm_keepsAct hq11) (by decide) (by decide) rfl (Nat.le_of_ble_eq_true rfl) rfl ?_
              show MW l yy_X12_sell 1 _ _ 50 [some (.ref 137), some (.int p0), some (.int p1), some (.int p2)] [] q11
              refine MW.run rfl [(.aload_n 0, 0), (.getfield 39, 0), (.bipush 8, 8), (.iconst 4, 4), (.iload_n 1, 0), (.imul, 0), (.iadd, 0), (.iconst 2, 2), (.iadd, 0), (.dup2, 0)] (pc' := 63) (ls' := [some (.ref 137), some (.int p0), some (.int p1), some (.int p2)]) (st' := [.int ((8 + (4 * p0)) + 2), .ref 147, .int ((8 + (4 * p0)) + 2), .ref 147]) (T1 := q11) (by decide +kernel) rfl ?_
              obtain ⟨hi_v12, hf⟩ := bi_some hf
              obtain ⟨v12, hv12, hf⟩ := letv_some hf
              refine MW.iald 10 410 rfl (by decide) rfl (by decide +kernel) (inb_in hi_v12) ?_
              rw [← hv12]
              refine MW.run rfl [(.iconst 1, 1), (.isub, 0)] (pc' := 66) (ls' := [some (.ref 137), some (.int p0), some (.int p1), some (.int p2)]) (st' := [.int (v12 - 1), .int ((8 + (4 * p0)) + 2), .ref 147]) (T1 := q11) (by decide +kernel) rfl ?_
              obtain ⟨hi_T13, hf⟩ := bi_some hf
              obtain ⟨T13, hT13, hf⟩ := letv_some hf
              refine MW.iast 10 410 rfl (by decide) (fun _ => rfl) (by decide +kernel) (inb_in hi_T13) ?_
              rw [← hT13]
              refine MW.run rfl [(.aload_n 0, 0), (.getfield 39, 0), (.bipush 8, 8), (.iconst 4, 4), (.iload_n 2, 0), (.imul, 0), (.iadd, 0), (.iconst 2, 2), (.iadd, 0), (.dup2, 0)] (pc' := 80) (ls' := [some (.ref 137), some (.int p0), some (.int p1), some (.int p2)]) (st' := [.int ((8 + (4 * p1)) + 2), .ref 147, .int ((8 + (4 * p1)) + 2), .ref 147]) (T1 := T13) (by decide +kernel) rfl ?_
              obtain ⟨hi_v14, hf⟩ := bi_some hf
              obtain ⟨v14, hv14, hf⟩ := letv_some hf
              refine MW.iald 10 410 rfl (by decide) rfl (by decide +kernel) (inb_in hi_v14) ?_
              rw [← hv14]
              refine MW.run rfl [(.iconst 1, 1), (.iadd, 0)] (pc' := 83) (ls' := [some (.ref 137), some (.int p0), some (.int p1), some (.int p2)]) (st' := [.int (v14 + 1), .int ((8 + (4 * p1)) + 2), .ref 147]) (T1 := T13) (by decide +kernel) rfl ?_
              obtain ⟨hi_T15, hf⟩ := bi_some hf
              obtain ⟨T15, hT15, hf⟩ := letv_some hf
              refine MW.iast 10 410 rfl (by decide) (fun _ => rfl) (by decide +kernel) (inb_in hi_T15) ?_
              rw [← hT15]
              refine MW.run rfl [(.aload_n 0, 0), (.getfield 39, 0), (.bipush 8, 8), (.iconst 4, 4), (.iload_n 1, 0), (.imul, 0), (.iadd, 0), (.iconst 1, 1), (.iadd, 0), (.dup2, 0)] (pc' := 97) (ls' := [some (.ref 137), some (.int p0), some (.int p1), some (.int p2)]) (st' := [.int ((8 + (4 * p0)) + 1), .ref 147, .int ((8 + (4 * p0)) + 1), .ref 147]) (T1 := T15) (by decide +kernel) rfl ?_
              obtain ⟨hi_v16, hf⟩ := bi_some hf
              obtain ⟨v16, hv16, hf⟩ := letv_some hf
              refine MW.iald 10 410 rfl (by decide) rfl (by decide +kernel) (inb_in hi_v16) ?_
              rw [← hv16]
              refine MW.run rfl [(.iload_n 3, 0), (.iadd, 0)] (pc' := 100) (ls' := [some (.ref 137), some (.int p0), some (.int p1), some (.int p2)]) (st' := [.int (v16 + p2), .int ((8 + (4 * p0)) + 1), .ref 147]) (T1 := T15) (by decide +kernel) rfl ?_
              obtain ⟨hi_T17, hf⟩ := bi_some hf
              obtain ⟨T17, hT17, hf⟩ := letv_some hf
              refine MW.iast 10 410 rfl (by decide) (fun _ => rfl) (by decide +kernel) (inb_in hi_T17) ?_
              rw [← hT17]
              refine MW.run rfl [(.aload_n 0, 0), (.getfield 39, 0), (.bipush 8, 8), (.iconst 4, 4), (.iload_n 2, 0), (.imul, 0), (.iadd, 0), (.iconst 1, 1), (.iadd, 0), (.dup2, 0)] (pc' := 114) (ls' := [some (.ref 137), some (.int p0), some (.int p1), some (.int p2)]) (st' := [.int ((8 + (4 * p1)) + 1), .ref 147, .int ((8 + (4 * p1)) + 1), .ref 147]) (T1 := T17) (by decide +kernel) rfl ?_
              obtain ⟨hi_v18, hf⟩ := bi_some hf
              obtain ⟨v18, hv18, hf⟩ := letv_some hf
              refine MW.iald 10 410 rfl (by decide) rfl (by decide +kernel) (inb_in hi_v18) ?_
              rw [← hv18]
              refine MW.run rfl [(.iload_n 3, 0), (.isub, 0)] (pc' := 117) (ls' := [some (.ref 137), some (.int p0), some (.int p1), some (.int p2)]) (st' := [.int (v18 - p2), .int ((8 + (4 * p1)) + 1), .ref 147]) (T1 := T17) (by decide +kernel) rfl ?_
              obtain ⟨hi_T19, hf⟩ := bi_some hf
              obtain ⟨T19, hT19, hf⟩ := letv_some hf
              refine MW.iast 10 410 rfl (by decide) (fun _ => rfl) (by decide +kernel) (inb_in hi_T19) ?_
              rw [← hT19]
              refine MW.run rfl [(.aload_n 0, 0), (.iload_n 2, 0), (.iconst 1, 1)] (pc' := 121) (ls' := [some (.ref 137), some (.int p0), some (.int p1), some (.int p2)]) (st' := [.int 1, .int p1, .ref 137]) (T1 := T19) (by decide +kernel) rfl ?_
              obtain ⟨q20, hq20, hf⟩ := bd_some hf
              refine MW.callV (As := [.int p1, .int 1]) (st := []) lv_RX12_321 rfl (by decide +kernel) (xm_personOf hq20) (by decide) (by decide) rfl (Nat.le_of_ble_eq_true rfl) rfl ?_
              show MW l yy_X12_sell 1 _ _ 124 [some (.ref 137), some (.int p0), some (.int p1), some (.int p2)] [.int q20] T19
              have e9 := Option.some.inj hf
              subst e9
              exact MW.iret rfl (by decide +kernel)
            · rw [if_neg c41_10] at hf
              refine MW.run rfl [(.iconst (-1), (-1))] (pc' := 45) (ls' := [some (.ref 137), some (.int p0), some (.int p1), some (.int p2)]) (st' := [.int (-1)]) (T1 := T) (by decide +kernel) rfl ?_
              have e9 := Option.some.inj hf
              subst e9
              exact MW.iret rfl (by decide +kernel)
def fm_spend (p0 : Int32) (T : mT) : Option (Int32 × mT) := (fm_isPerson p0 T).bind fun q1 => if (b2i q1) = 0 then (some ((-1), T)) else (bif inb 3 410 then (letv (T.1 10 (3 : Int32).toNatClampNeg) fun v3 => if p0 = v3 then (some ((-1), T)) else ((fm_personOf p0 2 T).bind fun q5 => if q5 = 0 then (some ((-1), T)) else ((fm_isHourLeft T).bind fun q7 => if (b2i q7) = 0 then (some ((-1), T)) else ((fm_keepsAct T).bind fun q9 => bif inb ((8 + (4 * p0)) + 2) 410 then (letv (q9.1 10 (((8 + (4 * p0)) + 2) : Int32).toNatClampNeg) fun v10 => bif inb ((8 + (4 * p0)) + 2) 410 then (letv (ma q9 10 (((8 + (4 * p0)) + 2) : Int32).toNatClampNeg (v10 - 1)) fun T11 => (fm_glassGoes p0 T11).bind fun q12 => bif inb 2 410 then (letv (q12.1 10 (2 : Int32).toNatClampNeg) fun v13 => bif inb 2 410 then (letv (ma q12 10 (2 : Int32).toNatClampNeg (v13 + 1)) fun T14 => bif inb 2 410 then (letv (T14.1 10 (2 : Int32).toNatClampNeg) fun v15 => some (v15, T14)) else none) else none) else none) else none) else none)))) else none)
theorem xm_spend {l : Launch} {p0 : Int32} {T : mT} {q : Int32 × mT} (hf : fm_spend p0 T = some q) : MOk l yy_X12_spend 2 [.int p0] T (some (.int q.1)) q.2 := by
  refine MOk.of (ls := [some (.ref 137), some (.int p0)]) (by decide +kernel) (Nat.le_of_ble_eq_true rfl) rfl ?_
  unfold fm_spend at hf
  refine MW.run rfl [(.aload_n 0, 0), (.iload_n 1, 0)] (pc' := 2) (ls' := [some (.ref 137), some (.int p0)]) (st' := [.int p0, .ref 137]) (T1 := T) (by decide +kernel) rfl ?_
  obtain ⟨q1, hq1, hf⟩ := bd_some hf
  refine MW.callV (As := [.int p0]) (st := []) lv_RX12_318 rfl (by decide +kernel) (xm_isPerson hq1) (by decide) (by decide) rfl (Nat.le_of_ble_eq_true rfl) rfl ?_
  show MW l yy_X12_spend 2 _ _ 5 [some (.ref 137), some (.int p0)] [.int (b2i q1)] T
  refine MW.if_eq (off := 29) (tgt := 34) (by decide +kernel) (by decide) (fun c5_2 => ?_) (fun c5_2 => ?_)
  · rw [if_pos c5_2] at hf
    refine MW.run rfl [(.iconst (-1), (-1))] (pc' := 35) (ls' := [some (.ref 137), some (.int p0)]) (st' := [.int (-1)]) (T1 := T) (by decide +kernel) rfl ?_
    have e9 := Option.some.inj hf
    subst e9
    exact MW.iret rfl (by decide +kernel)
  · rw [if_neg c5_2] at hf
    refine MW.run rfl [(.iload_n 1, 0), (.aload_n 0, 0), (.getfield 39, 0), (.iconst 3, 3)] (pc' := 14) (ls' := [some (.ref 137), some (.int p0)]) (st' := [.int 3, .ref 147, .int p0]) (T1 := T) (by decide +kernel) rfl ?_
    obtain ⟨hi_v3, hf⟩ := bi_some hf
    obtain ⟨v3, hv3, hf⟩ := letv_some hf
    refine MW.iald 10 410 rfl (by decide) rfl (by decide +kernel) (inb_in hi_v3) ?_
    rw [← hv3]
    refine MW.icmp_eq (off := 19) (tgt := 34) (by decide +kernel) (by decide) (fun c15_4 => ?_) (fun c15_4 => ?_)
    · rw [if_pos c15_4] at hf
      refine MW.run rfl [(.iconst (-1), (-1))] (pc' := 35) (ls' := [some (.ref 137), some (.int p0)]) (st' := [.int (-1)]) (T1 := T) (by decide +kernel) rfl ?_
      have e9 := Option.some.inj hf
      subst e9
      exact MW.iret rfl (by decide +kernel)
    · rw [if_neg c15_4] at hf
      refine MW.run rfl [(.aload_n 0, 0), (.iload_n 1, 0), (.iconst 2, 2)] (pc' := 21) (ls' := [some (.ref 137), some (.int p0)]) (st' := [.int 2, .int p0, .ref 137]) (T1 := T) (by decide +kernel) rfl ?_
      obtain ⟨q5, hq5, hf⟩ := bd_some hf
      refine MW.callV (As := [.int p0, .int 2]) (st := []) lv_RX12_321 rfl (by decide +kernel) (xm_personOf hq5) (by decide) (by decide) rfl (Nat.le_of_ble_eq_true rfl) rfl ?_
      show MW l yy_X12_spend 2 _ _ 24 [some (.ref 137), some (.int p0)] [.int q5] T
      refine MW.if_eq (off := 10) (tgt := 34) (by decide +kernel) (by decide) (fun c24_6 => ?_) (fun c24_6 => ?_)
      · rw [if_pos c24_6] at hf
        refine MW.run rfl [(.iconst (-1), (-1))] (pc' := 35) (ls' := [some (.ref 137), some (.int p0)]) (st' := [.int (-1)]) (T1 := T) (by decide +kernel) rfl ?_
        have e9 := Option.some.inj hf
        subst e9
        exact MW.iret rfl (by decide +kernel)
      · rw [if_neg c24_6] at hf
        refine MW.run rfl [(.aload_n 0, 0)] (pc' := 28) (ls' := [some (.ref 137), some (.int p0)]) (st' := [.ref 137]) (T1 := T) (by decide +kernel) rfl ?_
        obtain ⟨q7, hq7, hf⟩ := bd_some hf
        refine MW.callV (As := []) (st := []) lv_RX12_345 rfl (by decide +kernel) (xm_isHourLeft hq7) (by decide) (by decide) rfl (Nat.le_of_ble_eq_true rfl) rfl ?_
        show MW l yy_X12_spend 2 _ _ 31 [some (.ref 137), some (.int p0)] [.int (b2i q7)] T
        refine MW.if_ne (off := 5) (tgt := 36) (by decide +kernel) (by decide) (fun c31_8 => ?_) (fun c31_8 => ?_)
        · rw [if_neg c31_8] at hf
          refine MW.run rfl [(.aload_n 0, 0)] (pc' := 37) (ls' := [some (.ref 137), some (.int p0)]) (st' := [.ref 137]) (T1 := T) (by decide +kernel) rfl ?_
          obtain ⟨q9, hq9, hf⟩ := bd_some hf
          refine MW.callV (As := []) (st := []) lv_RX12_348 rfl (by decide +kernel) (xm_keepsAct hq9) (by decide) (by decide) rfl (Nat.le_of_ble_eq_true rfl) rfl ?_
          show MW l yy_X12_spend 2 _ _ 40 [some (.ref 137), some (.int p0)] [] q9
          refine MW.run rfl [(.aload_n 0, 0), (.getfield 39, 0), (.bipush 8, 8), (.iconst 4, 4), (.iload_n 1, 0), (.imul, 0), (.iadd, 0), (.iconst 2, 2), (.iadd, 0), (.dup2, 0)] (pc' := 53) (ls' := [some (.ref 137), some (.int p0)]) (st' := [.int ((8 + (4 * p0)) + 2), .ref 147, .int ((8 + (4 * p0)) + 2), .ref 147]) (T1 := q9) (by decide +kernel) rfl ?_
          obtain ⟨hi_v10, hf⟩ := bi_some hf
          obtain ⟨v10, hv10, hf⟩ := letv_some hf
          refine MW.iald 10 410 rfl (by decide) rfl (by decide +kernel) (inb_in hi_v10) ?_
          rw [← hv10]
          refine MW.run rfl [(.iconst 1, 1), (.isub, 0)] (pc' := 56) (ls' := [some (.ref 137), some (.int p0)]) (st' := [.int (v10 - 1), .int ((8 + (4 * p0)) + 2), .ref 147]) (T1 := q9) (by decide +kernel) rfl ?_
          obtain ⟨hi_T11, hf⟩ := bi_some hf
          obtain ⟨T11, hT11, hf⟩ := letv_some hf
          refine MW.iast 10 410 rfl (by decide) (fun _ => rfl) (by decide +kernel) (inb_in hi_T11) ?_
          rw [← hT11]
          refine MW.run rfl [(.aload_n 0, 0), (.iload_n 1, 0)] (pc' := 59) (ls' := [some (.ref 137), some (.int p0)]) (st' := [.int p0, .ref 137]) (T1 := T11) (by decide +kernel) rfl ?_
          obtain ⟨q12, hq12, hf⟩ := bd_some hf
          refine MW.callV (As := [.int p0]) (st := []) lv_RX12_362 rfl (by decide +kernel) (xm_glassGoes hq12) (by decide) (by decide) rfl (Nat.le_of_ble_eq_true rfl) rfl ?_
          show MW l yy_X12_spend 2 _ _ 62 [some (.ref 137), some (.int p0)] [] q12
          refine MW.run rfl [(.aload_n 0, 0), (.getfield 39, 0), (.iconst 2, 2), (.dup2, 0)] (pc' := 68) (ls' := [some (.ref 137), some (.int p0)]) (st' := [.int 2, .ref 147, .int 2, .ref 147]) (T1 := q12) (by decide +kernel) rfl ?_
          obtain ⟨hi_v13, hf⟩ := bi_some hf
          obtain ⟨v13, hv13, hf⟩ := letv_some hf
          refine MW.iald 10 410 rfl (by decide) rfl (by decide +kernel) (inb_in hi_v13) ?_
          rw [← hv13]
          refine MW.run rfl [(.iconst 1, 1), (.iadd, 0)] (pc' := 71) (ls' := [some (.ref 137), some (.int p0)]) (st' := [.int (v13 + 1), .int 2, .ref 147]) (T1 := q12) (by decide +kernel) rfl ?_
          obtain ⟨hi_T14, hf⟩ := bi_some hf
          obtain ⟨T14, hT14, hf⟩ := letv_some hf
          refine MW.iast 10 410 rfl (by decide) (fun _ => rfl) (by decide +kernel) (inb_in hi_T14) ?_
          rw [← hT14]
          refine MW.run rfl [(.aload_n 0, 0), (.getfield 39, 0), (.iconst 2, 2)] (pc' := 77) (ls' := [some (.ref 137), some (.int p0)]) (st' := [.int 2, .ref 147]) (T1 := T14) (by decide +kernel) rfl ?_
          obtain ⟨hi_v15, hf⟩ := bi_some hf
          obtain ⟨v15, hv15, hf⟩ := letv_some hf
          refine MW.iald 10 410 rfl (by decide) rfl (by decide +kernel) (inb_in hi_v15) ?_
          rw [← hv15]
          have e9 := Option.some.inj hf
          subst e9
          exact MW.iret rfl (by decide +kernel)
        · rw [if_pos c31_8] at hf
          refine MW.run rfl [(.iconst (-1), (-1))] (pc' := 35) (ls' := [some (.ref 137), some (.int p0)]) (st' := [.int (-1)]) (T1 := T) (by decide +kernel) rfl ?_
          have e9 := Option.some.inj hf
          subst e9
          exact MW.iret rfl (by decide +kernel)
def fm_keep (p0 : Int32) (T : mT) : Option (Bool × mT) := (fm_isIsland T).bind fun q1 => if (b2i q1) = 0 then (some (false, T)) else (bif inb 4 410 then (letv (T.1 10 (4 : Int32).toNatClampNeg) fun v3 => Option.bind (if v3 = 1 then (some (1)) else (some (0)) : Option (Int32)) fun w4 => if w4 = p0 then (some (false, T)) else ((fm_keepsAct T).bind fun q7 => if p0 = 0 then (bif inb 4 410 then (letv (ma q7 10 (4 : Int32).toNatClampNeg 0) fun T9 => some (true, T9)) else none) else (bif inb 4 410 then (letv (ma q7 10 (4 : Int32).toNatClampNeg 1) fun T10 => some (true, T10)) else none))) else none)
theorem xm_keep {l : Launch} {p0 : Int32} {T : mT} {q : Bool × mT} (hf : fm_keep p0 T = some q) : MOk l yy_X12_keep 1 [.int p0] T (some (.int (b2i q.1))) q.2 := by
  refine MOk.of (ls := [some (.ref 137), some (.int p0)]) (by decide +kernel) (Nat.le_of_ble_eq_true rfl) rfl ?_
  unfold fm_keep at hf
  refine MW.run rfl [(.aload_n 0, 0)] (pc' := 1) (ls' := [some (.ref 137), some (.int p0)]) (st' := [.ref 137]) (T1 := T) (by decide +kernel) rfl ?_
  obtain ⟨q1, hq1, hf⟩ := bd_some hf
  refine MW.callV (As := []) (st := []) lv_RX12_336 rfl (by decide +kernel) (xm_isIsland hq1) (by decide) (by decide) rfl (Nat.le_of_ble_eq_true rfl) rfl ?_
  show MW l yy_X12_keep 1 _ _ 4 [some (.ref 137), some (.int p0)] [.int (b2i q1)] T
  refine MW.if_eq (off := 22) (tgt := 26) (by decide +kernel) (by decide) (fun c4_2 => ?_) (fun c4_2 => ?_)
  · rw [if_pos c4_2] at hf
    refine MW.run rfl [(.iconst 0, 0)] (pc' := 27) (ls' := [some (.ref 137), some (.int p0)]) (st' := [.int 0]) (T1 := T) (by decide +kernel) rfl ?_
    have e9 := Option.some.inj hf
    subst e9
    exact MW.zret rfl (b2i_nar _) (by decide +kernel)
  · rw [if_neg c4_2] at hf
    refine MW.run rfl [(.aload_n 0, 0), (.getfield 39, 0), (.iconst 4, 4)] (pc' := 12) (ls' := [some (.ref 137), some (.int p0)]) (st' := [.int 4, .ref 147]) (T1 := T) (by decide +kernel) rfl ?_
    obtain ⟨hi_v3, hf⟩ := bi_some hf
    obtain ⟨v3, hv3, hf⟩ := letv_some hf
    refine MW.iald 10 410 rfl (by decide) rfl (by decide +kernel) (inb_in hi_v3) ?_
    rw [← hv3]
    refine MW.run rfl [(.iconst 1, 1)] (pc' := 14) (ls' := [some (.ref 137), some (.int p0)]) (st' := [.int 1, .int v3]) (T1 := T) (by decide +kernel) rfl ?_
    obtain ⟨w4, hw4, hf⟩ := bd_some hf
    have hJ : MW l yy_X12_keep 1 (some (.int (b2i q.1))) q.2 22 [some (.ref 137), some (.int p0)] [.int w4] T := by
      refine MW.run rfl [(.iload_n 1, 0)] (pc' := 23) (ls' := [some (.ref 137), some (.int p0)]) (st' := [.int p0, .int w4]) (T1 := T) (by decide +kernel) rfl ?_
      refine MW.icmp_ne (off := 5) (tgt := 28) (by decide +kernel) (by decide) (fun c23_6 => ?_) (fun c23_6 => ?_)
      · rw [if_neg c23_6] at hf
        refine MW.run rfl [(.aload_n 0, 0)] (pc' := 29) (ls' := [some (.ref 137), some (.int p0)]) (st' := [.ref 137]) (T1 := T) (by decide +kernel) rfl ?_
        obtain ⟨q7, hq7, hf⟩ := bd_some hf
        refine MW.callV (As := []) (st := []) lv_RX12_348 rfl (by decide +kernel) (xm_keepsAct hq7) (by decide) (by decide) rfl (Nat.le_of_ble_eq_true rfl) rfl ?_
        show MW l yy_X12_keep 1 _ _ 32 [some (.ref 137), some (.int p0)] [] q7
        refine MW.run rfl [(.aload_n 0, 0), (.getfield 39, 0), (.iconst 4, 4), (.iload_n 1, 0)] (pc' := 38) (ls' := [some (.ref 137), some (.int p0)]) (st' := [.int p0, .int 4, .ref 147]) (T1 := q7) (by decide +kernel) rfl ?_
        refine MW.if_eq (off := 7) (tgt := 45) (by decide +kernel) (by decide) (fun c38_8 => ?_) (fun c38_8 => ?_)
        · rw [if_pos c38_8] at hf
          refine MW.run rfl [(.iconst 0, 0)] (pc' := 46) (ls' := [some (.ref 137), some (.int p0)]) (st' := [.int 0, .int 4, .ref 147]) (T1 := q7) (by decide +kernel) rfl ?_
          obtain ⟨hi_T9, hf⟩ := bi_some hf
          obtain ⟨T9, hT9, hf⟩ := letv_some hf
          refine MW.iast 10 410 rfl (by decide) (fun _ => rfl) (by decide +kernel) (inb_in hi_T9) ?_
          rw [← hT9]
          refine MW.run rfl [(.iconst 1, 1)] (pc' := 48) (ls' := [some (.ref 137), some (.int p0)]) (st' := [.int 1]) (T1 := T9) (by decide +kernel) rfl ?_
          have e9 := Option.some.inj hf
          subst e9
          exact MW.zret rfl (b2i_nar _) (by decide +kernel)
        · rw [if_neg c38_8] at hf
          refine MW.run rfl [(.iconst 1, 1), (.goto 4, 0)] (pc' := 46) (ls' := [some (.ref 137), some (.int p0)]) (st' := [.int 1, .int 4, .ref 147]) (T1 := q7) (by decide +kernel) rfl ?_
          obtain ⟨hi_T10, hf⟩ := bi_some hf
          obtain ⟨T10, hT10, hf⟩ := letv_some hf
          refine MW.iast 10 410 rfl (by decide) (fun _ => rfl) (by decide +kernel) (inb_in hi_T10) ?_
          rw [← hT10]
          refine MW.run rfl [(.iconst 1, 1)] (pc' := 48) (ls' := [some (.ref 137), some (.int p0)]) (st' := [.int 1]) (T1 := T10) (by decide +kernel) rfl ?_
          have e9 := Option.some.inj hf
          subst e9
          exact MW.zret rfl (b2i_nar _) (by decide +kernel)
      · rw [if_pos c23_6] at hf
        refine MW.run rfl [(.iconst 0, 0)] (pc' := 27) (ls' := [some (.ref 137), some (.int p0)]) (st' := [.int 0]) (T1 := T) (by decide +kernel) rfl ?_
        have e9 := Option.some.inj hf
        subst e9
        exact MW.zret rfl (b2i_nar _) (by decide +kernel)
    clear hf
    refine MW.icmp_ne (off := 7) (tgt := 21) (by decide +kernel) (by decide) (fun c14_5 => ?_) (fun c14_5 => ?_)
    · rw [if_neg c14_5] at hw4
      refine MW.run rfl [(.iconst 0, 0)] (pc' := 22) (ls' := [some (.ref 137), some (.int p0)]) (st' := [.int 0]) (T1 := T) (by decide +kernel) rfl ?_
      have e9 := Option.some.inj hw4
      subst e9
      exact hJ
    · rw [if_pos c14_5] at hw4
      refine MW.run rfl [(.iconst 1, 1), (.goto 4, 0)] (pc' := 22) (ls' := [some (.ref 137), some (.int p0)]) (st' := [.int 1]) (T1 := T) (by decide +kernel) rfl ?_
      have e9 := Option.some.inj hw4
      subst e9
      exact hJ
def fm_rest  (T : mT) : Option (Int32 × mT) := (fm_isHourLeft T).bind fun q1 => if (b2i q1) = 0 then (some ((-1), T)) else ((fm_keepsAct T).bind fun q3 => bif inb 2 410 then (letv (q3.1 10 (2 : Int32).toNatClampNeg) fun v4 => bif inb 2 410 then (letv (ma q3 10 (2 : Int32).toNatClampNeg (v4 + 1)) fun T5 => bif inb 2 410 then (letv (T5.1 10 (2 : Int32).toNatClampNeg) fun v6 => some (v6, T5)) else none) else none) else none)
theorem xm_rest {l : Launch}  {T : mT} {q : Int32 × mT} (hf : fm_rest  T = some q) : MOk l yy_X12_rest 2 [] T (some (.int q.1)) q.2 := by
  refine MOk.of (ls := [some (.ref 137)]) (by decide +kernel) (Nat.le_of_ble_eq_true rfl) rfl ?_
  unfold fm_rest at hf
  refine MW.run rfl [(.aload_n 0, 0)] (pc' := 1) (ls' := [some (.ref 137)]) (st' := [.ref 137]) (T1 := T) (by decide +kernel) rfl ?_
  obtain ⟨q1, hq1, hf⟩ := bd_some hf
  refine MW.callV (As := []) (st := []) lv_RX12_345 rfl (by decide +kernel) (xm_isHourLeft hq1) (by decide) (by decide) rfl (Nat.le_of_ble_eq_true rfl) rfl ?_
  show MW l yy_X12_rest 2 _ _ 4 [some (.ref 137)] [.int (b2i q1)] T
  refine MW.if_ne (off := 5) (tgt := 9) (by decide +kernel) (by decide) (fun c4_2 => ?_) (fun c4_2 => ?_)
  · rw [if_neg c4_2] at hf
    refine MW.run rfl [(.aload_n 0, 0)] (pc' := 10) (ls' := [some (.ref 137)]) (st' := [.ref 137]) (T1 := T) (by decide +kernel) rfl ?_
    obtain ⟨q3, hq3, hf⟩ := bd_some hf
    refine MW.callV (As := []) (st := []) lv_RX12_348 rfl (by decide +kernel) (xm_keepsAct hq3) (by decide) (by decide) rfl (Nat.le_of_ble_eq_true rfl) rfl ?_
    show MW l yy_X12_rest 2 _ _ 13 [some (.ref 137)] [] q3
    refine MW.run rfl [(.aload_n 0, 0), (.getfield 39, 0), (.iconst 2, 2), (.dup2, 0)] (pc' := 19) (ls' := [some (.ref 137)]) (st' := [.int 2, .ref 147, .int 2, .ref 147]) (T1 := q3) (by decide +kernel) rfl ?_
    obtain ⟨hi_v4, hf⟩ := bi_some hf
    obtain ⟨v4, hv4, hf⟩ := letv_some hf
    refine MW.iald 10 410 rfl (by decide) rfl (by decide +kernel) (inb_in hi_v4) ?_
    rw [← hv4]
    refine MW.run rfl [(.iconst 1, 1), (.iadd, 0)] (pc' := 22) (ls' := [some (.ref 137)]) (st' := [.int (v4 + 1), .int 2, .ref 147]) (T1 := q3) (by decide +kernel) rfl ?_
    obtain ⟨hi_T5, hf⟩ := bi_some hf
    obtain ⟨T5, hT5, hf⟩ := letv_some hf
    refine MW.iast 10 410 rfl (by decide) (fun _ => rfl) (by decide +kernel) (inb_in hi_T5) ?_
    rw [← hT5]
    refine MW.run rfl [(.aload_n 0, 0), (.getfield 39, 0), (.iconst 2, 2)] (pc' := 28) (ls' := [some (.ref 137)]) (st' := [.int 2, .ref 147]) (T1 := T5) (by decide +kernel) rfl ?_
    obtain ⟨hi_v6, hf⟩ := bi_some hf
    obtain ⟨v6, hv6, hf⟩ := letv_some hf
    refine MW.iald 10 410 rfl (by decide) rfl (by decide +kernel) (inb_in hi_v6) ?_
    rw [← hv6]
    have e9 := Option.some.inj hf
    subst e9
    exact MW.iret rfl (by decide +kernel)
  · rw [if_pos c4_2] at hf
    refine MW.run rfl [(.iconst (-1), (-1))] (pc' := 8) (ls' := [some (.ref 137)]) (st' := [.int (-1)]) (T1 := T) (by decide +kernel) rfl ?_
    have e9 := Option.some.inj hf
    subst e9
    exact MW.iret rfl (by decide +kernel)
def fm_heeding_L4 (k1 : Int32) (T : mT) : Nat → Int32 → Int32 → Option (Int32 × Int32)
  | 0, _, _ => none
  | N + 1, a2, a3 => bif inb 1 410 then (letv (T.1 10 (1 : Int32).toNatClampNeg) fun v1 => if v1 ≤ a3 then (some (a2, a3)) else (if a3 = k1 then (fm_heeding_L4 k1 T N a2 (a3 + 1)) else ((fm_tieOf a3 k1 T).bind fun q4 => if 0 ≤ a2 then ((fm_tieOf a2 k1 T).bind fun q6 => if q4 ≤ q6 then (fm_heeding_L4 k1 T N a2 (a3 + 1)) else (fm_heeding_L4 k1 T N a3 (a3 + 1))) else (if q4 ≤ 0 then (fm_heeding_L4 k1 T N a2 (a3 + 1)) else (fm_heeding_L4 k1 T N a3 (a3 + 1)))))) else none
def fm_heeding (p0 : Int32) (T : mT) : Option (Int32) := (fm_heeding_L4 p0 T FU (-1) 0).bind fun w9 => some w9.1
theorem xm_heeding_L4 {l : Launch} {r : Option Value} {T' : mT} (k1 : Int32) (T : mT) : ∀ (N : Nat) (a2 : Int32) (a3 : Int32) (W0 : Int32 × Int32) (_ : fm_heeding_L4 k1 T N a2 a3 = some W0) (_ : MW l yy_X12_heeding 1 r T' 50 [some (.ref 137), some (.int k1), some (.int W0.1), some (.int W0.2)] [] T), MW l yy_X12_heeding 1 r T' 4 [some (.ref 137), some (.int k1), some (.int a2), some (.int a3)] [] T := by
  intro N
  induction N with
  | zero =>
    intro a2 a3 W0 hf _
    cases hf
  | succ N ih =>
    intro a2 a3 W0 hf hk1
    unfold fm_heeding_L4 at hf
    refine MW.run rfl [(.iload_n 3, 0), (.aload_n 0, 0), (.getfield 39, 0), (.iconst 1, 1)] (pc' := 10) (ls' := [some (.ref 137), some (.int k1), some (.int a2), some (.int a3)]) (st' := [.int 1, .ref 147, .int a3]) (T1 := T) (by decide +kernel) rfl ?_
    obtain ⟨hi_v1, hf⟩ := bi_some hf
    obtain ⟨v1, hv1, hf⟩ := letv_some hf
    refine MW.iald 10 410 rfl (by decide) rfl (by decide +kernel) (inb_in hi_v1) ?_
    rw [← hv1]
    refine MW.icmp_ge (off := 39) (tgt := 50) (by decide +kernel) (by decide) (fun c11_2 => ?_) (fun c11_2 => ?_)
    · rw [if_pos c11_2] at hf
      have e9 := Option.some.inj hf
      subst e9
      exact hk1
    · rw [if_neg c11_2] at hf
      refine MW.run rfl [(.iload_n 3, 0), (.iload_n 1, 0)] (pc' := 16) (ls' := [some (.ref 137), some (.int k1), some (.int a2), some (.int a3)]) (st' := [.int k1, .int a3]) (T1 := T) (by decide +kernel) rfl ?_
      refine MW.icmp_eq (off := 28) (tgt := 44) (by decide +kernel) (by decide) (fun c16_3 => ?_) (fun c16_3 => ?_)
      · rw [if_pos c16_3] at hf
        refine MW.run rfl [(.iinc 3 1, 1), (.goto (-43), 0)] (pc' := 4) (ls' := [some (.ref 137), some (.int k1), some (.int a2), some (.int (a3 + 1))]) (st' := []) (T1 := T) (by decide +kernel) rfl ?_
        exact ih _ _ _ hf hk1
      · rw [if_neg c16_3] at hf
        refine MW.run rfl [(.aload_n 0, 0), (.iload_n 3, 0), (.iload_n 1, 0)] (pc' := 22) (ls' := [some (.ref 137), some (.int k1), some (.int a2), some (.int a3)]) (st' := [.int k1, .int a3, .ref 137]) (T1 := T) (by decide +kernel) rfl ?_
        obtain ⟨q4, hq4, hf⟩ := bd_some hf
        refine MW.callV (As := [.int a3, .int k1]) (st := []) lv_RX12_285 rfl (by decide +kernel) (xm_tieOf hq4) (by decide) (by decide) rfl (Nat.le_of_ble_eq_true rfl) rfl ?_
        show MW l yy_X12_heeding 1 _ _ 25 [some (.ref 137), some (.int k1), some (.int a2), some (.int a3)] [.int q4] T
        refine MW.run rfl [(.iload_n 2, 0)] (pc' := 26) (ls' := [some (.ref 137), some (.int k1), some (.int a2), some (.int a3)]) (st' := [.int a2, .int q4]) (T1 := T) (by decide +kernel) rfl ?_
        refine MW.if_ge (off := 7) (tgt := 33) (by decide +kernel) (by decide) (fun c26_5 => ?_) (fun c26_5 => ?_)
        · rw [if_pos c26_5] at hf
          refine MW.run rfl [(.aload_n 0, 0), (.iload_n 2, 0), (.iload_n 1, 0)] (pc' := 36) (ls' := [some (.ref 137), some (.int k1), some (.int a2), some (.int a3)]) (st' := [.int k1, .int a2, .ref 137, .int q4]) (T1 := T) (by decide +kernel) rfl ?_
          obtain ⟨q6, hq6, hf⟩ := bd_some hf
          refine MW.callV (As := [.int a2, .int k1]) (st := [.int q4]) lv_RX12_285 rfl (by decide +kernel) (xm_tieOf hq6) (by decide) (by decide) rfl (Nat.le_of_ble_eq_true rfl) rfl ?_
          show MW l yy_X12_heeding 1 _ _ 39 [some (.ref 137), some (.int k1), some (.int a2), some (.int a3)] [.int q6, .int q4] T
          refine MW.icmp_le (off := 5) (tgt := 44) (by decide +kernel) (by decide) (fun c39_7 => ?_) (fun c39_7 => ?_)
          · rw [if_pos c39_7] at hf
            refine MW.run rfl [(.iinc 3 1, 1), (.goto (-43), 0)] (pc' := 4) (ls' := [some (.ref 137), some (.int k1), some (.int a2), some (.int (a3 + 1))]) (st' := []) (T1 := T) (by decide +kernel) rfl ?_
            exact ih _ _ _ hf hk1
          · rw [if_neg c39_7] at hf
            refine MW.run rfl [(.iload_n 3, 0), (.istore_n 2, 0), (.iinc 3 1, 1), (.goto (-43), 0)] (pc' := 4) (ls' := [some (.ref 137), some (.int k1), some (.int a3), some (.int (a3 + 1))]) (st' := []) (T1 := T) (by decide +kernel) rfl ?_
            exact ih _ _ _ hf hk1
        · rw [if_neg c26_5] at hf
          refine MW.run rfl [(.iconst 0, 0), (.goto 9, 0)] (pc' := 39) (ls' := [some (.ref 137), some (.int k1), some (.int a2), some (.int a3)]) (st' := [.int 0, .int q4]) (T1 := T) (by decide +kernel) rfl ?_
          refine MW.icmp_le (off := 5) (tgt := 44) (by decide +kernel) (by decide) (fun c39_8 => ?_) (fun c39_8 => ?_)
          · rw [if_pos c39_8] at hf
            refine MW.run rfl [(.iinc 3 1, 1), (.goto (-43), 0)] (pc' := 4) (ls' := [some (.ref 137), some (.int k1), some (.int a2), some (.int (a3 + 1))]) (st' := []) (T1 := T) (by decide +kernel) rfl ?_
            exact ih _ _ _ hf hk1
          · rw [if_neg c39_8] at hf
            refine MW.run rfl [(.iload_n 3, 0), (.istore_n 2, 0), (.iinc 3 1, 1), (.goto (-43), 0)] (pc' := 4) (ls' := [some (.ref 137), some (.int k1), some (.int a3), some (.int (a3 + 1))]) (st' := []) (T1 := T) (by decide +kernel) rfl ?_
            exact ih _ _ _ hf hk1
theorem xm_heeding {l : Launch} {p0 : Int32} {T : mT} {q : Int32} (hf : fm_heeding p0 T = some q) : MOk l yy_X12_heeding 1 [.int p0] T (some (.int q)) T := by
  refine MOk.of (ls := [some (.ref 137), some (.int p0), none, none]) (by decide +kernel) (Nat.le_of_ble_eq_true rfl) rfl ?_
  unfold fm_heeding at hf
  refine MW.run rfl [(.iconst (-1), (-1)), (.istore_n 2, 0), (.iconst 0, 0), (.istore_n 3, 0)] (pc' := 4) (ls' := [some (.ref 137), some (.int p0), some (.int (-1)), some (.int 0)]) (st' := []) (T1 := T) (by decide +kernel) rfl ?_
  obtain ⟨w9, hw9, hf⟩ := bd_some hf
  refine xm_heeding_L4 p0 T FU _ _ _ hw9 ?_
  refine MW.run rfl [(.iload_n 2, 0)] (pc' := 51) (ls' := [some (.ref 137), some (.int p0), some (.int w9.1), some (.int w9.2)]) (st' := [.int w9.1]) (T1 := T) (by decide +kernel) rfl ?_
  have e9 := Option.some.inj hf
  subst e9
  exact MW.iret rfl (by decide +kernel)
def fm_passes_L83 (k1 : Int32) (T : mT) : Nat → Int32 → Int32 → Option (Int32 × Int32)
  | 0, _, _ => none
  | N + 1, a2, a3 => if a3 < 0 then (some (a2, a3)) else (bif inb 4 410 then (letv (T.1 10 (4 : Int32).toNatClampNeg) fun v17 => if v17 = 0 then (bif inb 3 410 then (letv (T.1 10 (3 : Int32).toNatClampNeg) fun v19 => bif inb (104 + v19) 410 then (letv (T.1 10 ((104 + v19) : Int32).toNatClampNeg) fun v20 => (fm_isOf v20 a3).bind fun q21 => if (b2i q21) = 0 then (fm_passes_L83 k1 T N a2 (a3 + (-1))) else ((fm_personOf a3 3 T).bind fun q23 => if q23 = 0 then (fm_passes_L83 k1 T N a3 (a3 + (-1))) else (fm_passes_L83 k1 T N a2 (a3 + (-1))))) else none) else none) else (some (a2, a3))) else none)
def fm_passes (p0 : Int32) (T : mT) : Option (mT) := bif inb 5 410 then (letv (T.1 10 (5 : Int32).toNatClampNeg) fun v1 => Option.bind (if 40 ≤ v1 then (some (T)) else (bif inb 2 410 then (letv (T.1 10 (2 : Int32).toNatClampNeg) fun v4 => bif inb 1 410 then (letv (T.1 10 (1 : Int32).toNatClampNeg) fun v5 => if (v5 : Int32) = 0 then none else ((fm_heeding (v4 - v4 / v5 * v5) T).bind fun q7 => bif inb 3 410 then (letv (T.1 10 (3 : Int32).toNatClampNeg) fun v8 => (fm_personOf v8 3 T).bind fun q9 => if q9 = 0 then ((fm_looks T).bind fun q14 => some (q14)) else (if q7 < 0 then (some (T)) else ((fm_faceBy p0 (v4 - v4 / v5 * v5) q7 q7 T).bind fun q12 => (fm_comes (v4 - v4 / v5 * v5) q7 q7 q12.1 (-1) q12.2).bind fun q13 => some (q13)))) else none)) else none) else none) : Option (mT)) fun w2 => bif inb 1 410 then (letv (w2.1 10 (1 : Int32).toNatClampNeg) fun v15 => (fm_passes_L83 p0 w2 FU (-1) (v15 - 1)).bind fun w25 => Option.bind (if w25.1 < 0 then (some (w2)) else ((fm_glassGoes w25.1 w2).bind fun q28 => some (q28)) : Option (mT)) fun w26 => bif inb 2 410 then (letv (w26.1 10 (2 : Int32).toNatClampNeg) fun v29 => bif inb 2 410 then (letv (ma w26 10 (2 : Int32).toNatClampNeg (v29 + 1)) fun T30 => some T30) else none) else none) else none) else none
theorem xm_passes_L83 {l : Launch} {r : Option Value} {T' : mT} (k1 : Int32) (T : mT) : ∀ (N : Nat) (a2 : Int32) (a3 : Int32) (W0 : Int32 × Int32) (_ : fm_passes_L83 k1 T N a2 a3 = some W0) (_ : MW l yy_X12_passes 7 r T' 134 [some (.ref 137), some (.int k1), some (.int W0.1), some (.int W0.2)] [] T), MW l yy_X12_passes 7 r T' 83 [some (.ref 137), some (.int k1), some (.int a2), some (.int a3)] [] T := by
  intro N
  induction N with
  | zero =>
    intro a2 a3 W0 hf _
    cases hf
  | succ N ih =>
    intro a2 a3 W0 hf hk1
    unfold fm_passes_L83 at hf
    refine MW.run rfl [(.iload_n 3, 0)] (pc' := 84) (ls' := [some (.ref 137), some (.int k1), some (.int a2), some (.int a3)]) (st' := [.int a3]) (T1 := T) (by decide +kernel) rfl ?_
    refine MW.if_lt (off := 50) (tgt := 134) (by decide +kernel) (by decide) (fun c84_16 => ?_) (fun c84_16 => ?_)
    · rw [if_pos c84_16] at hf
      have e9 := Option.some.inj hf
      subst e9
      exact hk1
    · rw [if_neg c84_16] at hf
      refine MW.run rfl [(.aload_n 0, 0), (.getfield 39, 0), (.iconst 4, 4)] (pc' := 92) (ls' := [some (.ref 137), some (.int k1), some (.int a2), some (.int a3)]) (st' := [.int 4, .ref 147]) (T1 := T) (by decide +kernel) rfl ?_
      obtain ⟨hi_v17, hf⟩ := bi_some hf
      obtain ⟨v17, hv17, hf⟩ := letv_some hf
      refine MW.iald 10 410 rfl (by decide) rfl (by decide +kernel) (inb_in hi_v17) ?_
      rw [← hv17]
      refine MW.if_ne (off := 41) (tgt := 134) (by decide +kernel) (by decide) (fun c93_18 => ?_) (fun c93_18 => ?_)
      · rw [if_neg c93_18] at hf
        have e9 := Option.some.inj hf
        subst e9
        exact hk1
      · rw [if_pos c93_18] at hf
        refine MW.run rfl [(.aload_n 0, 0), (.getfield 39, 0), (.bipush 104, 104), (.aload_n 0, 0), (.getfield 39, 0), (.iconst 3, 3)] (pc' := 107) (ls' := [some (.ref 137), some (.int k1), some (.int a2), some (.int a3)]) (st' := [.int 3, .ref 147, .int 104, .ref 147]) (T1 := T) (by decide +kernel) rfl ?_
        obtain ⟨hi_v19, hf⟩ := bi_some hf
        obtain ⟨v19, hv19, hf⟩ := letv_some hf
        refine MW.iald 10 410 rfl (by decide) rfl (by decide +kernel) (inb_in hi_v19) ?_
        rw [← hv19]
        refine MW.run rfl [(.iadd, 0)] (pc' := 109) (ls' := [some (.ref 137), some (.int k1), some (.int a2), some (.int a3)]) (st' := [.int (104 + v19), .ref 147]) (T1 := T) (by decide +kernel) rfl ?_
        obtain ⟨hi_v20, hf⟩ := bi_some hf
        obtain ⟨v20, hv20, hf⟩ := letv_some hf
        refine MW.iald 10 410 rfl (by decide) rfl (by decide +kernel) (inb_in hi_v20) ?_
        rw [← hv20]
        refine MW.run rfl [(.iload_n 3, 0)] (pc' := 111) (ls' := [some (.ref 137), some (.int k1), some (.int a2), some (.int a3)]) (st' := [.int a3, .int v20]) (T1 := T) (by decide +kernel) rfl ?_
        obtain ⟨q21, hq21, hf⟩ := bd_some hf
        refine MW.callP (As := [.int v20, .int a3]) (st := []) lt_RX12_309 (by decide +kernel) (xm_isOf hq21) (by decide) (by decide) rfl (Nat.le_of_ble_eq_true rfl) rfl ?_
        show MW l yy_X12_passes 7 _ _ 114 [some (.ref 137), some (.int k1), some (.int a2), some (.int a3)] [.int (b2i q21)] T
        refine MW.if_eq (off := 14) (tgt := 128) (by decide +kernel) (by decide) (fun c114_22 => ?_) (fun c114_22 => ?_)
        · rw [if_pos c114_22] at hf
          refine MW.run rfl [(.iinc 3 (-1), (-1)), (.goto (-48), 0)] (pc' := 83) (ls' := [some (.ref 137), some (.int k1), some (.int a2), some (.int (a3 + (-1)))]) (st' := []) (T1 := T) (by decide +kernel) rfl ?_
          exact ih _ _ _ hf hk1
        · rw [if_neg c114_22] at hf
          refine MW.run rfl [(.aload_n 0, 0), (.iload_n 3, 0), (.iconst 3, 3)] (pc' := 120) (ls' := [some (.ref 137), some (.int k1), some (.int a2), some (.int a3)]) (st' := [.int 3, .int a3, .ref 137]) (T1 := T) (by decide +kernel) rfl ?_
          obtain ⟨q23, hq23, hf⟩ := bd_some hf
          refine MW.callV (As := [.int a3, .int 3]) (st := []) lv_RX12_321 rfl (by decide +kernel) (xm_personOf hq23) (by decide) (by decide) rfl (Nat.le_of_ble_eq_true rfl) rfl ?_
          show MW l yy_X12_passes 7 _ _ 123 [some (.ref 137), some (.int k1), some (.int a2), some (.int a3)] [.int q23] T
          refine MW.if_ne (off := 5) (tgt := 128) (by decide +kernel) (by decide) (fun c123_24 => ?_) (fun c123_24 => ?_)
          · rw [if_neg c123_24] at hf
            refine MW.run rfl [(.iinc 3 (-1), (-1)), (.goto (-48), 0)] (pc' := 83) (ls' := [some (.ref 137), some (.int k1), some (.int a2), some (.int (a3 + (-1)))]) (st' := []) (T1 := T) (by decide +kernel) rfl ?_
            exact ih _ _ _ hf hk1
          · rw [if_pos c123_24] at hf
            refine MW.run rfl [(.iload_n 3, 0), (.istore_n 2, 0), (.iinc 3 (-1), (-1)), (.goto (-48), 0)] (pc' := 83) (ls' := [some (.ref 137), some (.int k1), some (.int a3), some (.int (a3 + (-1)))]) (st' := []) (T1 := T) (by decide +kernel) rfl ?_
            exact ih _ _ _ hf hk1
theorem xm_passes {l : Launch} {p0 : Int32} {T : mT} {q : mT} (hf : fm_passes p0 T = some q) : MOk l yy_X12_passes 7 [.int p0] T none q := by
  refine MOk.of (ls := [some (.ref 137), some (.int p0), none, none]) (by decide +kernel) (Nat.le_of_ble_eq_true rfl) rfl ?_
  unfold fm_passes at hf
  refine MW.run rfl [(.aload_n 0, 0), (.getfield 39, 0), (.iconst 5, 5)] (pc' := 5) (ls' := [some (.ref 137), some (.int p0), none, none]) (st' := [.int 5, .ref 147]) (T1 := T) (by decide +kernel) rfl ?_
  obtain ⟨hi_v1, hf⟩ := bi_some hf
  obtain ⟨v1, hv1, hf⟩ := letv_some hf
  refine MW.iald 10 410 rfl (by decide) rfl (by decide +kernel) (inb_in hi_v1) ?_
  rw [← hv1]
  refine MW.run rfl [(.bipush 40, 40)] (pc' := 8) (ls' := [some (.ref 137), some (.int p0), none, none]) (st' := [.int 40, .int v1]) (T1 := T) (by decide +kernel) rfl ?_
  obtain ⟨w2, hw2, hf⟩ := bd_some hf
  have hJ : MW l yy_X12_passes 7 none q 72 [some (.ref 137), some (.int p0), none, none] [] w2 := by
    refine MW.run rfl [(.iconst (-1), (-1)), (.istore_n 2, 0), (.aload_n 0, 0), (.getfield 39, 0), (.iconst 1, 1)] (pc' := 79) (ls' := [some (.ref 137), some (.int p0), some (.int (-1)), none]) (st' := [.int 1, .ref 147]) (T1 := w2) (by decide +kernel) rfl ?_
    obtain ⟨hi_v15, hf⟩ := bi_some hf
    obtain ⟨v15, hv15, hf⟩ := letv_some hf
    refine MW.iald 10 410 rfl (by decide) rfl (by decide +kernel) (inb_in hi_v15) ?_
    rw [← hv15]
    refine MW.run rfl [(.iconst 1, 1), (.isub, 0), (.istore_n 3, 0)] (pc' := 83) (ls' := [some (.ref 137), some (.int p0), some (.int (-1)), some (.int (v15 - 1))]) (st' := []) (T1 := w2) (by decide +kernel) rfl ?_
    obtain ⟨w25, hw25, hf⟩ := bd_some hf
    refine xm_passes_L83 p0 w2 FU _ _ _ hw25 ?_
    refine MW.run rfl [(.iload_n 2, 0)] (pc' := 135) (ls' := [some (.ref 137), some (.int p0), some (.int w25.1), some (.int w25.2)]) (st' := [.int w25.1]) (T1 := w2) (by decide +kernel) rfl ?_
    obtain ⟨w26, hw26, hf⟩ := bd_some hf
    have hJ : MW l yy_X12_passes 7 none q 143 [some (.ref 137), some (.int p0), some (.int w25.1), some (.int w25.2)] [] w26 := by
      refine MW.run rfl [(.aload_n 0, 0), (.getfield 39, 0), (.iconst 2, 2), (.dup2, 0)] (pc' := 149) (ls' := [some (.ref 137), some (.int p0), some (.int w25.1), some (.int w25.2)]) (st' := [.int 2, .ref 147, .int 2, .ref 147]) (T1 := w26) (by decide +kernel) rfl ?_
      obtain ⟨hi_v29, hf⟩ := bi_some hf
      obtain ⟨v29, hv29, hf⟩ := letv_some hf
      refine MW.iald 10 410 rfl (by decide) rfl (by decide +kernel) (inb_in hi_v29) ?_
      rw [← hv29]
      refine MW.run rfl [(.iconst 1, 1), (.iadd, 0)] (pc' := 152) (ls' := [some (.ref 137), some (.int p0), some (.int w25.1), some (.int w25.2)]) (st' := [.int (v29 + 1), .int 2, .ref 147]) (T1 := w26) (by decide +kernel) rfl ?_
      obtain ⟨hi_T30, hf⟩ := bi_some hf
      obtain ⟨T30, hT30, hf⟩ := letv_some hf
      refine MW.iast 10 410 rfl (by decide) (fun _ => rfl) (by decide +kernel) (inb_in hi_T30) ?_
      rw [← hT30]
      have e9 := Option.some.inj hf
      subst e9
      exact MW.vret rfl (by decide +kernel)
    clear hf
    refine MW.if_lt (off := 8) (tgt := 143) (by decide +kernel) (by decide) (fun c135_27 => ?_) (fun c135_27 => ?_)
    · rw [if_pos c135_27] at hw26
      have e9 := Option.some.inj hw26
      subst e9
      exact hJ
    · rw [if_neg c135_27] at hw26
      refine MW.run rfl [(.aload_n 0, 0), (.iload_n 2, 0)] (pc' := 140) (ls' := [some (.ref 137), some (.int p0), some (.int w25.1), some (.int w25.2)]) (st' := [.int w25.1, .ref 137]) (T1 := w2) (by decide +kernel) rfl ?_
      obtain ⟨q28, hq28, hw26⟩ := bd_some hw26
      refine MW.callV (As := [.int w25.1]) (st := []) lv_RX12_362 rfl (by decide +kernel) (xm_glassGoes hq28) (by decide) (by decide) rfl (Nat.le_of_ble_eq_true rfl) rfl ?_
      show MW l yy_X12_passes 7 _ _ 143 [some (.ref 137), some (.int p0), some (.int w25.1), some (.int w25.2)] [] q28
      have e9 := Option.some.inj hw26
      subst e9
      exact hJ
  clear hf
  refine MW.icmp_ge (off := 64) (tgt := 72) (by decide +kernel) (by decide) (fun c8_3 => ?_) (fun c8_3 => ?_)
  · rw [if_pos c8_3] at hw2
    have e9 := Option.some.inj hw2
    subst e9
    exact hJ
  · rw [if_neg c8_3] at hw2
    refine MW.run rfl [(.aload_n 0, 0), (.getfield 39, 0), (.iconst 2, 2)] (pc' := 16) (ls' := [some (.ref 137), some (.int p0), none, none]) (st' := [.int 2, .ref 147]) (T1 := T) (by decide +kernel) rfl ?_
    obtain ⟨hi_v4, hw2⟩ := bi_some hw2
    obtain ⟨v4, hv4, hw2⟩ := letv_some hw2
    refine MW.iald 10 410 rfl (by decide) rfl (by decide +kernel) (inb_in hi_v4) ?_
    rw [← hv4]
    refine MW.run rfl [(.aload_n 0, 0), (.getfield 39, 0), (.iconst 1, 1)] (pc' := 22) (ls' := [some (.ref 137), some (.int p0), none, none]) (st' := [.int 1, .ref 147, .int v4]) (T1 := T) (by decide +kernel) rfl ?_
    obtain ⟨hi_v5, hw2⟩ := bi_some hw2
    obtain ⟨v5, hv5, hw2⟩ := letv_some hw2
    refine MW.iald 10 410 rfl (by decide) rfl (by decide +kernel) (inb_in hi_v5) ?_
    rw [← hv5]
    obtain ⟨hn6, hw2⟩ := nz_some hw2
    refine MW.irem hn6 (by decide +kernel) ?_
    refine MW.run rfl [(.istore_n 2, 0), (.aload_n 0, 0), (.iload_n 2, 0)] (pc' := 27) (ls' := [some (.ref 137), some (.int p0), some (.int (v4 - v4 / v5 * v5)), none]) (st' := [.int (v4 - v4 / v5 * v5), .ref 137]) (T1 := T) (by decide +kernel) rfl ?_
    obtain ⟨q7, hq7, hw2⟩ := bd_some hw2
    refine MW.callV (As := [.int (v4 - v4 / v5 * v5)]) (st := []) lv_RX12_365 rfl (by decide +kernel) (xm_heeding hq7) (by decide) (by decide) rfl (Nat.le_of_ble_eq_true rfl) rfl ?_
    show MW l yy_X12_passes 7 _ _ 30 [some (.ref 137), some (.int p0), some (.int (v4 - v4 / v5 * v5)), none] [.int q7] T
    refine MW.run rfl [(.istore_n 3, 0), (.aload_n 0, 0), (.aload_n 0, 0), (.getfield 39, 0), (.iconst 3, 3)] (pc' := 37) (ls' := [some (.ref 137), some (.int p0), some (.int (v4 - v4 / v5 * v5)), some (.int q7)]) (st' := [.int 3, .ref 147, .ref 137]) (T1 := T) (by decide +kernel) rfl ?_
    obtain ⟨hi_v8, hw2⟩ := bi_some hw2
    obtain ⟨v8, hv8, hw2⟩ := letv_some hw2
    refine MW.iald 10 410 rfl (by decide) rfl (by decide +kernel) (inb_in hi_v8) ?_
    rw [← hv8]
    refine MW.run rfl [(.iconst 3, 3)] (pc' := 39) (ls' := [some (.ref 137), some (.int p0), some (.int (v4 - v4 / v5 * v5)), some (.int q7)]) (st' := [.int 3, .int v8, .ref 137]) (T1 := T) (by decide +kernel) rfl ?_
    obtain ⟨q9, hq9, hw2⟩ := bd_some hw2
    refine MW.callV (As := [.int v8, .int 3]) (st := []) lv_RX12_321 rfl (by decide +kernel) (xm_personOf hq9) (by decide) (by decide) rfl (Nat.le_of_ble_eq_true rfl) rfl ?_
    show MW l yy_X12_passes 7 _ _ 42 [some (.ref 137), some (.int p0), some (.int (v4 - v4 / v5 * v5)), some (.int q7)] [.int q9] T
    refine MW.if_ne (off := 10) (tgt := 52) (by decide +kernel) (by decide) (fun c42_10 => ?_) (fun c42_10 => ?_)
    · rw [if_neg c42_10] at hw2
      refine MW.run rfl [(.iload_n 3, 0)] (pc' := 53) (ls' := [some (.ref 137), some (.int p0), some (.int (v4 - v4 / v5 * v5)), some (.int q7)]) (st' := [.int q7]) (T1 := T) (by decide +kernel) rfl ?_
      refine MW.if_lt (off := 19) (tgt := 72) (by decide +kernel) (by decide) (fun c53_11 => ?_) (fun c53_11 => ?_)
      · rw [if_pos c53_11] at hw2
        have e9 := Option.some.inj hw2
        subst e9
        refine MW.fgt (ls' := [some (.ref 137), some (.int p0), none, none]) (by repeat' (first | exact trivial | refine ⟨rfl, ?_⟩)) ?_
        exact hJ
      · rw [if_neg c53_11] at hw2
        refine MW.run rfl [(.aload_n 0, 0), (.iload_n 2, 0), (.iload_n 3, 0), (.iload_n 3, 0), (.aload_n 0, 0), (.iload_n 1, 0), (.iload_n 2, 0), (.iload_n 3, 0), (.iload_n 3, 0)] (pc' := 65) (ls' := [some (.ref 137), some (.int p0), some (.int (v4 - v4 / v5 * v5)), some (.int q7)]) (st' := [.int q7, .int q7, .int (v4 - v4 / v5 * v5), .int p0, .ref 137, .int q7, .int q7, .int (v4 - v4 / v5 * v5), .ref 137]) (T1 := T) (by decide +kernel) rfl ?_
        obtain ⟨q12, hq12, hw2⟩ := bd_some hw2
        refine MW.callV (As := [.int p0, .int (v4 - v4 / v5 * v5), .int q7, .int q7]) (st := [.int q7, .int q7, .int (v4 - v4 / v5 * v5), .ref 137]) lv_RX12_351 rfl (by decide +kernel) (xm_faceBy hq12) (by decide) (by decide) rfl (Nat.le_of_ble_eq_true rfl) rfl ?_
        show MW l yy_X12_passes 7 _ _ 68 [some (.ref 137), some (.int p0), some (.int (v4 - v4 / v5 * v5)), some (.int q7)] [.int q12.1, .int q7, .int q7, .int (v4 - v4 / v5 * v5), .ref 137] q12.2
        refine MW.run rfl [(.iconst (-1), (-1))] (pc' := 69) (ls' := [some (.ref 137), some (.int p0), some (.int (v4 - v4 / v5 * v5)), some (.int q7)]) (st' := [.int (-1), .int q12.1, .int q7, .int q7, .int (v4 - v4 / v5 * v5), .ref 137]) (T1 := q12.2) (by decide +kernel) rfl ?_
        obtain ⟨q13, hq13, hw2⟩ := bd_some hw2
        refine MW.callV (As := [.int (v4 - v4 / v5 * v5), .int q7, .int q7, .int q12.1, .int (-1)]) (st := []) lv_RX12_355 rfl (by decide +kernel) (xm_comes hq13) (by decide) (by decide) rfl (Nat.le_of_ble_eq_true rfl) rfl ?_
        show MW l yy_X12_passes 7 _ _ 72 [some (.ref 137), some (.int p0), some (.int (v4 - v4 / v5 * v5)), some (.int q7)] [] q13
        have e9 := Option.some.inj hw2
        subst e9
        refine MW.fgt (ls' := [some (.ref 137), some (.int p0), none, none]) (by repeat' (first | exact trivial | refine ⟨rfl, ?_⟩)) ?_
        exact hJ
    · rw [if_pos c42_10] at hw2
      refine MW.run rfl [(.aload_n 0, 0)] (pc' := 46) (ls' := [some (.ref 137), some (.int p0), some (.int (v4 - v4 / v5 * v5)), some (.int q7)]) (st' := [.ref 137]) (T1 := T) (by decide +kernel) rfl ?_
      obtain ⟨q14, hq14, hw2⟩ := bd_some hw2
      refine MW.callV (As := []) (st := []) lv_RX12_359 rfl (by decide +kernel) (xm_looks hq14) (by decide) (by decide) rfl (Nat.le_of_ble_eq_true rfl) rfl ?_
      show MW l yy_X12_passes 7 _ _ 49 [some (.ref 137), some (.int p0), some (.int (v4 - v4 / v5 * v5)), some (.int q7)] [] q14
      refine MW.run rfl [(.goto 23, 0)] (pc' := 72) (ls' := [some (.ref 137), some (.int p0), some (.int (v4 - v4 / v5 * v5)), some (.int q7)]) (st' := []) (T1 := q14) (by decide +kernel) rfl ?_
      have e9 := Option.some.inj hw2
      subst e9
      refine MW.fgt (ls' := [some (.ref 137), some (.int p0), none, none]) (by repeat' (first | exact trivial | refine ⟨rfl, ?_⟩)) ?_
      exact hJ
