/-! ===== the reference, method by method (by program) 6 ===== -/
def fm_force (p0 : Int32) (T : mT) : Option (Int32 × mT) := if p0 = (-1) then (letv (mz T 22 p0) fun T2 => some (T.1 0 22, T2)) else ((fm_isRule p0 T).bind fun q3 => if (b2i q3) = 0 then (some ((-2), T)) else (letv (mz T 22 p0) fun T5 => some (T.1 0 22, T5)))
theorem xm_force {l : Launch} {p0 : Int32} {T : mT} {q : Int32 × mT} (hf : fm_force p0 T = some q) : MOk l yy_X12_force 1 [.int p0] T (some (.int q.1)) q.2 := by
  refine MOk.of (ls := [some (.ref 137), some (.int p0), none]) (by decide +kernel) (Nat.le_of_ble_eq_true rfl) rfl ?_
  unfold fm_force at hf
  refine MW.run rfl [(.iload_n 1, 0), (.iconst (-1), (-1))] (pc' := 2) (ls' := [some (.ref 137), some (.int p0), none]) (st' := [.int (-1), .int p0]) (T1 := T) (by decide +kernel) rfl ?_
  refine MW.icmp_eq (off := 14) (tgt := 16) (by decide +kernel) (by decide) (fun c2_1 => ?_) (fun c2_1 => ?_)
  · rw [if_pos c2_1] at hf
    refine MW.run rfl [(.aload_n 0, 0), (.getfield 42, 0), (.istore_n 2, 0), (.aload_n 0, 0), (.iload_n 1, 0), (.putfield 42, 0)] (pc' := 26) (ls' := [some (.ref 137), some (.int p0), some (.int (T.1 0 22))]) (st' := []) (T1 := mz T 22 p0) (by decide +kernel) rfl ?_
    obtain ⟨T2, hT2, hf⟩ := letv_some hf
    rw [← hT2]
    refine MW.run rfl [(.iload_n 2, 0)] (pc' := 27) (ls' := [some (.ref 137), some (.int p0), some (.int (T.1 0 22))]) (st' := [.int (T.1 0 22)]) (T1 := T2) (by decide +kernel) rfl ?_
    have e9 := Option.some.inj hf
    subst e9
    exact MW.iret rfl (by decide +kernel)
  · rw [if_neg c2_1] at hf
    refine MW.run rfl [(.aload_n 0, 0), (.iload_n 1, 0)] (pc' := 7) (ls' := [some (.ref 137), some (.int p0), none]) (st' := [.int p0, .ref 137]) (T1 := T) (by decide +kernel) rfl ?_
    obtain ⟨q3, hq3, hf⟩ := bd_some hf
    refine MW.callV (As := [.int p0]) (st := []) lv_RX12_282 rfl (by decide +kernel) (xm_isRule hq3) (by decide) (by decide) rfl (Nat.le_of_ble_eq_true rfl) rfl ?_
    show MW l yy_X12_force 1 _ _ 10 [some (.ref 137), some (.int p0), none] [.int (b2i q3)] T
    refine MW.if_ne (off := 6) (tgt := 16) (by decide +kernel) (by decide) (fun c10_4 => ?_) (fun c10_4 => ?_)
    · rw [if_neg c10_4] at hf
      refine MW.run rfl [(.aload_n 0, 0), (.getfield 42, 0), (.istore_n 2, 0), (.aload_n 0, 0), (.iload_n 1, 0), (.putfield 42, 0)] (pc' := 26) (ls' := [some (.ref 137), some (.int p0), some (.int (T.1 0 22))]) (st' := []) (T1 := mz T 22 p0) (by decide +kernel) rfl ?_
      obtain ⟨T5, hT5, hf⟩ := letv_some hf
      rw [← hT5]
      refine MW.run rfl [(.iload_n 2, 0)] (pc' := 27) (ls' := [some (.ref 137), some (.int p0), some (.int (T.1 0 22))]) (st' := [.int (T.1 0 22)]) (T1 := T5) (by decide +kernel) rfl ?_
      have e9 := Option.some.inj hf
      subst e9
      exact MW.iret rfl (by decide +kernel)
    · rw [if_pos c10_4] at hf
      refine MW.run rfl [(.bipush (-2), (-2))] (pc' := 15) (ls' := [some (.ref 137), some (.int p0), none]) (st' := [.int (-2)]) (T1 := T) (by decide +kernel) rfl ?_
      have e9 := Option.some.inj hf
      subst e9
      exact MW.iret rfl (by decide +kernel)
def fm_words (p0 : Int32) (p1 : Int32) (p2 : Int32) (p3 : Int32) (p4 : Int32) (p5 : Int32) (T : mT) : Option (mT) := bif inb 0 8 then (letv (mb T 9 (0 : Int32).toNatClampNeg ((p0 : Int32).toInt64)) fun T1 => bif inb 1 8 then (letv (mb T1 9 (1 : Int32).toNatClampNeg ((p1 : Int32).toInt64)) fun T2 => bif inb 2 8 then (letv (mb T2 9 (2 : Int32).toNatClampNeg ((p2 : Int32).toInt64)) fun T3 => bif inb 2 410 then (letv (T3.1 10 (2 : Int32).toNatClampNeg) fun v4 => bif inb 3 8 then (letv (mb T3 9 (3 : Int32).toNatClampNeg ((v4 : Int32).toInt64)) fun T5 => bif inb 4 8 then (letv (mb T5 9 (4 : Int32).toNatClampNeg ((p3 : Int32).toInt64)) fun T6 => Option.bind (if p0 = p1 then (some (0)) else ((fm_tieOf p1 p0 T6).bind fun q9 => some ((q9 : Int32).toInt64)) : Option (Int64)) fun w7 => bif inb 5 8 then (letv (mb T6 9 (5 : Int32).toNatClampNeg w7) fun T10 => bif inb 6 8 then (letv (mb T10 9 (6 : Int32).toNatClampNeg ((p4 : Int32).toInt64)) fun T11 => bif inb 7 8 then (letv (mb T11 9 (7 : Int32).toNatClampNeg ((p5 : Int32).toInt64)) fun T12 => some T12) else none) else none) else none) else none) else none) else none) else none) else none) else none
theorem xm_words {l : Launch} {p0 : Int32} {p1 : Int32} {p2 : Int32} {p3 : Int32} {p4 : Int32} {p5 : Int32} {T : mT} {q : mT} (hf : fm_words p0 p1 p2 p3 p4 p5 T = some q) : MOk l yy_X12_words 1 [.int p0, .int p1, .int p2, .int p3, .int p4, .int p5] T none q := by
  refine MOk.of (ls := [some (.ref 137), some (.int p0), some (.int p1), some (.int p2), some (.int p3), some (.int p4), some (.int p5)]) (by decide +kernel) (Nat.le_of_ble_eq_true rfl) rfl ?_
  unfold fm_words at hf
  refine MW.run rfl [(.aload_n 0, 0), (.getfield 36, 0), (.iconst 0, 0), (.iload_n 1, 0), (.i2l, 0)] (pc' := 7) (ls' := [some (.ref 137), some (.int p0), some (.int p1), some (.int p2), some (.int p3), some (.int p4), some (.int p5)]) (st' := [.long ((p0 : Int32).toInt64), .int 0, .ref 146]) (T1 := T) (by decide +kernel) rfl ?_
  obtain ⟨hi_T1, hf⟩ := bi_some hf
  obtain ⟨T1, hT1, hf⟩ := letv_some hf
  refine MW.last 9 8 rfl (by decide) (fun _ => rfl) (by decide +kernel) (inb_in hi_T1) ?_
  rw [← hT1]
  refine MW.run rfl [(.aload_n 0, 0), (.getfield 36, 0), (.iconst 1, 1), (.iload_n 2, 0), (.i2l, 0)] (pc' := 15) (ls' := [some (.ref 137), some (.int p0), some (.int p1), some (.int p2), some (.int p3), some (.int p4), some (.int p5)]) (st' := [.long ((p1 : Int32).toInt64), .int 1, .ref 146]) (T1 := T1) (by decide +kernel) rfl ?_
  obtain ⟨hi_T2, hf⟩ := bi_some hf
  obtain ⟨T2, hT2, hf⟩ := letv_some hf
  refine MW.last 9 8 rfl (by decide) (fun _ => rfl) (by decide +kernel) (inb_in hi_T2) ?_
  rw [← hT2]
  refine MW.run rfl [(.aload_n 0, 0), (.getfield 36, 0), (.iconst 2, 2), (.iload_n 3, 0), (.i2l, 0)] (pc' := 23) (ls' := [some (.ref 137), some (.int p0), some (.int p1), some (.int p2), some (.int p3), some (.int p4), some (.int p5)]) (st' := [.long ((p2 : Int32).toInt64), .int 2, .ref 146]) (T1 := T2) (by decide +kernel) rfl ?_
  obtain ⟨hi_T3, hf⟩ := bi_some hf
  obtain ⟨T3, hT3, hf⟩ := letv_some hf
  refine MW.last 9 8 rfl (by decide) (fun _ => rfl) (by decide +kernel) (inb_in hi_T3) ?_
  rw [← hT3]
  refine MW.run rfl [(.aload_n 0, 0), (.getfield 36, 0), (.iconst 3, 3), (.aload_n 0, 0), (.getfield 39, 0), (.iconst 2, 2)] (pc' := 34) (ls' := [some (.ref 137), some (.int p0), some (.int p1), some (.int p2), some (.int p3), some (.int p4), some (.int p5)]) (st' := [.int 2, .ref 147, .int 3, .ref 146]) (T1 := T3) (by decide +kernel) rfl ?_
  obtain ⟨hi_v4, hf⟩ := bi_some hf
  obtain ⟨v4, hv4, hf⟩ := letv_some hf
  refine MW.iald 10 410 rfl (by decide) rfl (by decide +kernel) (inb_in hi_v4) ?_
  rw [← hv4]
  refine MW.run rfl [(.i2l, 0)] (pc' := 36) (ls' := [some (.ref 137), some (.int p0), some (.int p1), some (.int p2), some (.int p3), some (.int p4), some (.int p5)]) (st' := [.long ((v4 : Int32).toInt64), .int 3, .ref 146]) (T1 := T3) (by decide +kernel) rfl ?_
  obtain ⟨hi_T5, hf⟩ := bi_some hf
  obtain ⟨T5, hT5, hf⟩ := letv_some hf
  refine MW.last 9 8 rfl (by decide) (fun _ => rfl) (by decide +kernel) (inb_in hi_T5) ?_
  rw [← hT5]
  refine MW.run rfl [(.aload_n 0, 0), (.getfield 36, 0), (.iconst 4, 4), (.iload 4, 0), (.i2l, 0)] (pc' := 45) (ls' := [some (.ref 137), some (.int p0), some (.int p1), some (.int p2), some (.int p3), some (.int p4), some (.int p5)]) (st' := [.long ((p3 : Int32).toInt64), .int 4, .ref 146]) (T1 := T5) (by decide +kernel) rfl ?_
  obtain ⟨hi_T6, hf⟩ := bi_some hf
  obtain ⟨T6, hT6, hf⟩ := letv_some hf
  refine MW.last 9 8 rfl (by decide) (fun _ => rfl) (by decide +kernel) (inb_in hi_T6) ?_
  rw [← hT6]
  refine MW.run rfl [(.aload_n 0, 0), (.getfield 36, 0), (.iconst 5, 5), (.iload_n 1, 0), (.iload_n 2, 0)] (pc' := 53) (ls' := [some (.ref 137), some (.int p0), some (.int p1), some (.int p2), some (.int p3), some (.int p4), some (.int p5)]) (st' := [.int p1, .int p0, .int 5, .ref 146]) (T1 := T6) (by decide +kernel) rfl ?_
  obtain ⟨w7, hw7, hf⟩ := bd_some hf
  have hJ : MW l yy_X12_words 1 none q 67 [some (.ref 137), some (.int p0), some (.int p1), some (.int p2), some (.int p3), some (.int p4), some (.int p5)] [.long w7, .int 5, .ref 146] T6 := by
    obtain ⟨hi_T10, hf⟩ := bi_some hf
    obtain ⟨T10, hT10, hf⟩ := letv_some hf
    refine MW.last 9 8 rfl (by decide) (fun _ => rfl) (by decide +kernel) (inb_in hi_T10) ?_
    rw [← hT10]
    refine MW.run rfl [(.aload_n 0, 0), (.getfield 36, 0), (.bipush 6, 6), (.iload 5, 0), (.i2l, 0)] (pc' := 77) (ls' := [some (.ref 137), some (.int p0), some (.int p1), some (.int p2), some (.int p3), some (.int p4), some (.int p5)]) (st' := [.long ((p4 : Int32).toInt64), .int 6, .ref 146]) (T1 := T10) (by decide +kernel) rfl ?_
    obtain ⟨hi_T11, hf⟩ := bi_some hf
    obtain ⟨T11, hT11, hf⟩ := letv_some hf
    refine MW.last 9 8 rfl (by decide) (fun _ => rfl) (by decide +kernel) (inb_in hi_T11) ?_
    rw [← hT11]
    refine MW.run rfl [(.aload_n 0, 0), (.getfield 36, 0), (.bipush 7, 7), (.iload 6, 0), (.i2l, 0)] (pc' := 87) (ls' := [some (.ref 137), some (.int p0), some (.int p1), some (.int p2), some (.int p3), some (.int p4), some (.int p5)]) (st' := [.long ((p5 : Int32).toInt64), .int 7, .ref 146]) (T1 := T11) (by decide +kernel) rfl ?_
    obtain ⟨hi_T12, hf⟩ := bi_some hf
    obtain ⟨T12, hT12, hf⟩ := letv_some hf
    refine MW.last 9 8 rfl (by decide) (fun _ => rfl) (by decide +kernel) (inb_in hi_T12) ?_
    rw [← hT12]
    have e9 := Option.some.inj hf
    subst e9
    exact MW.vret rfl (by decide +kernel)
  clear hf
  refine MW.icmp_ne (off := 7) (tgt := 60) (by decide +kernel) (by decide) (fun c53_8 => ?_) (fun c53_8 => ?_)
  · rw [if_neg c53_8] at hw7
    refine MW.run rfl [(.aload_n 0, 0), (.iload_n 2, 0), (.iload_n 1, 0)] (pc' := 63) (ls' := [some (.ref 137), some (.int p0), some (.int p1), some (.int p2), some (.int p3), some (.int p4), some (.int p5)]) (st' := [.int p0, .int p1, .ref 137, .int 5, .ref 146]) (T1 := T6) (by decide +kernel) rfl ?_
    obtain ⟨q9, hq9, hw7⟩ := bd_some hw7
    refine MW.callV (As := [.int p1, .int p0]) (st := [.int 5, .ref 146]) lv_RX12_285 rfl (by decide +kernel) (xm_tieOf hq9) (by decide) (by decide) rfl (Nat.le_of_ble_eq_true rfl) rfl ?_
    show MW l yy_X12_words 1 _ _ 66 [some (.ref 137), some (.int p0), some (.int p1), some (.int p2), some (.int p3), some (.int p4), some (.int p5)] [.int q9, .int 5, .ref 146] T6
    refine MW.run rfl [(.i2l, 0)] (pc' := 67) (ls' := [some (.ref 137), some (.int p0), some (.int p1), some (.int p2), some (.int p3), some (.int p4), some (.int p5)]) (st' := [.long ((q9 : Int32).toInt64), .int 5, .ref 146]) (T1 := T6) (by decide +kernel) rfl ?_
    have e9 := Option.some.inj hw7
    subst e9
    exact hJ
  · rw [if_pos c53_8] at hw7
    refine MW.run rfl [(.lconst 0, 0), (.goto 10, 0)] (pc' := 67) (ls' := [some (.ref 137), some (.int p0), some (.int p1), some (.int p2), some (.int p3), some (.int p4), some (.int p5)]) (st' := [.long 0, .int 5, .ref 146]) (T1 := T6) (by decide +kernel) rfl ?_
    have e9 := Option.some.inj hw7
    subst e9
    exact hJ
def fm_clauseFor_L8 (k1 : Int32) (k2 : Int32) : Nat → Int32 → mT → Option ((Int32 × mT) ⊕ (Int32 × mT))
  | 0, _, _ => none
  | N + 1, a3, T => bif inb k1 6 then (letv (T.1 5 (k1 : Int32).toNatClampNeg) fun v2 => if v2 ≤ a3 then (some (.inl (a3, T))) else (bif inb ((60 * k1) + (5 * a3)) 360 then (letv (T.1 4 (((60 * k1) + (5 * a3)) : Int32).toNatClampNeg) fun v4 => if v4 = k2 then (bif inb (((60 * k1) + (5 * a3)) + 3) 360 then (letv (T.1 4 ((((60 * k1) + (5 * a3)) + 3) : Int32).toNatClampNeg) fun v6 => if v6 < 0 then (some (.inr ((60 * k1) + (5 * a3), T))) else (bif inb (((60 * k1) + (5 * a3)) + 3) 360 then (letv (T.1 4 ((((60 * k1) + (5 * a3)) + 3) : Int32).toNatClampNeg) fun v8 => bif inb (((60 * k1) + (5 * a3)) + 4) 360 then (letv (T.1 4 ((((60 * k1) + (5 * a3)) + 4) : Int32).toNatClampNeg) fun v9 => (fm_reckons k1 v8 v9 T).bind fun q10 => if (lg_cmp q10.1 1) = 0 then (some (.inr ((60 * k1) + (5 * a3), q10.2))) else (fm_clauseFor_L8 k1 k2 N (a3 + 1) q10.2)) else none) else none)) else none) else (fm_clauseFor_L8 k1 k2 N (a3 + 1) T)) else none)) else none
def fm_clauseFor (p0 : Int32) (p1 : Int32) (T : mT) : Option (Int32 × mT) := if 0 ≤ p0 then ((fm_clauseFor_L8 p0 p1 FU 0 T).bind fun w12 => Sum.elim (fun w12a => some ((-1), w12a.2)) (fun w12b => some w12b) w12) else (some ((-1), T))
theorem xm_clauseFor_L8 {l : Launch} {r : Option Value} {T' : mT} (k1 : Int32) (k2 : Int32) : ∀ (N : Nat) (a3 : Int32) (T : mT) (W0 : (Int32 × mT) ⊕ (Int32 × mT)) (_ : fm_clauseFor_L8 k1 k2 N a3 T = some W0) (_ : ∀ W, W0 = .inl W → MW l yy_X12_clauseFor 2 r T' 88 [some (.ref 137), some (.int k1), some (.int k2), some (.int W.1), none] [] W.2) (_ : ∀ Y, W0 = .inr Y → r = some (.int (Y.1)) ∧ T' = Y.2), MW l yy_X12_clauseFor 2 r T' 8 [some (.ref 137), some (.int k1), some (.int k2), some (.int a3), none] [] T := by
  intro N
  induction N with
  | zero =>
    intro a3 T W0 hf _ _
    cases hf
  | succ N ih =>
    intro a3 T W0 hf hk1 hk2
    unfold fm_clauseFor_L8 at hf
    refine MW.run rfl [(.iload_n 3, 0), (.aload_n 0, 0), (.getfield 23, 0), (.iload_n 1, 0)] (pc' := 14) (ls' := [some (.ref 137), some (.int k1), some (.int k2), some (.int a3), none]) (st' := [.int k1, .ref 142, .int a3]) (T1 := T) (by decide +kernel) rfl ?_
    obtain ⟨hi_v2, hf⟩ := bi_some hf
    obtain ⟨v2, hv2, hf⟩ := letv_some hf
    refine MW.iald 5 6 rfl (by decide) rfl (by decide +kernel) (inb_in hi_v2) ?_
    rw [← hv2]
    refine MW.icmp_ge (off := 73) (tgt := 88) (by decide +kernel) (by decide) (fun c15_3 => ?_) (fun c15_3 => ?_)
    · rw [if_pos c15_3] at hf
      have e9 := Option.some.inj hf
      subst e9
      exact hk1 (a3, T) rfl
    · rw [if_neg c15_3] at hf
      refine MW.run rfl [(.bipush 60, 60), (.iload_n 1, 0), (.imul, 0), (.iconst 5, 5), (.iload_n 3, 0), (.imul, 0), (.iadd, 0), (.istore 4, 0), (.aload_n 0, 0), (.getfield 20, 0), (.iload 4, 0)] (pc' := 34) (ls' := [some (.ref 137), some (.int k1), some (.int k2), some (.int a3), some (.int ((60 * k1) + (5 * a3)))]) (st' := [.int ((60 * k1) + (5 * a3)), .ref 141]) (T1 := T) (by decide +kernel) rfl ?_
      obtain ⟨hi_v4, hf⟩ := bi_some hf
      obtain ⟨v4, hv4, hf⟩ := letv_some hf
      refine MW.iald 4 360 rfl (by decide) rfl (by decide +kernel) (inb_in hi_v4) ?_
      rw [← hv4]
      refine MW.run rfl [(.iload_n 2, 0)] (pc' := 36) (ls' := [some (.ref 137), some (.int k1), some (.int k2), some (.int a3), some (.int ((60 * k1) + (5 * a3)))]) (st' := [.int k2, .int v4]) (T1 := T) (by decide +kernel) rfl ?_
      refine MW.icmp_ne (off := 46) (tgt := 82) (by decide +kernel) (by decide) (fun c36_5 => ?_) (fun c36_5 => ?_)
      · rw [if_neg c36_5] at hf
        refine MW.run rfl [(.iinc 3 1, 1), (.goto (-77), 0)] (pc' := 8) (ls' := [some (.ref 137), some (.int k1), some (.int k2), some (.int (a3 + 1)), some (.int ((60 * k1) + (5 * a3)))]) (st' := []) (T1 := T) (by decide +kernel) rfl ?_
        refine MW.fgt (ls' := [some (.ref 137), some (.int k1), some (.int k2), some (.int (a3 + 1)), none]) (by repeat' (first | exact trivial | refine ⟨rfl, ?_⟩)) ?_
        exact ih _ _ _ hf hk1 hk2
      · rw [if_pos c36_5] at hf
        refine MW.run rfl [(.aload_n 0, 0), (.getfield 20, 0), (.iload 4, 0), (.iconst 3, 3), (.iadd, 0)] (pc' := 47) (ls' := [some (.ref 137), some (.int k1), some (.int k2), some (.int a3), some (.int ((60 * k1) + (5 * a3)))]) (st' := [.int (((60 * k1) + (5 * a3)) + 3), .ref 141]) (T1 := T) (by decide +kernel) rfl ?_
        obtain ⟨hi_v6, hf⟩ := bi_some hf
        obtain ⟨v6, hv6, hf⟩ := letv_some hf
        refine MW.iald 4 360 rfl (by decide) rfl (by decide +kernel) (inb_in hi_v6) ?_
        rw [← hv6]
        refine MW.if_lt (off := 31) (tgt := 79) (by decide +kernel) (by decide) (fun c48_7 => ?_) (fun c48_7 => ?_)
        · rw [if_pos c48_7] at hf
          refine MW.run rfl [(.iload 4, 0)] (pc' := 81) (ls' := [some (.ref 137), some (.int k1), some (.int k2), some (.int a3), some (.int ((60 * k1) + (5 * a3)))]) (st' := [.int ((60 * k1) + (5 * a3))]) (T1 := T) (by decide +kernel) rfl ?_
          have e9 := Option.some.inj hf
          subst e9
          obtain ⟨e1, e2⟩ := (hk2 _ rfl)
          subst e1
          subst e2
          exact MW.iret rfl (by decide +kernel)
        · rw [if_neg c48_7] at hf
          refine MW.run rfl [(.aload_n 0, 0), (.iload_n 1, 0), (.aload_n 0, 0), (.getfield 20, 0), (.iload 4, 0), (.iconst 3, 3), (.iadd, 0)] (pc' := 61) (ls' := [some (.ref 137), some (.int k1), some (.int k2), some (.int a3), some (.int ((60 * k1) + (5 * a3)))]) (st' := [.int (((60 * k1) + (5 * a3)) + 3), .ref 141, .int k1, .ref 137]) (T1 := T) (by decide +kernel) rfl ?_
          obtain ⟨hi_v8, hf⟩ := bi_some hf
          obtain ⟨v8, hv8, hf⟩ := letv_some hf
          refine MW.iald 4 360 rfl (by decide) rfl (by decide +kernel) (inb_in hi_v8) ?_
          rw [← hv8]
          refine MW.run rfl [(.aload_n 0, 0), (.getfield 20, 0), (.iload 4, 0), (.iconst 4, 4), (.iadd, 0)] (pc' := 70) (ls' := [some (.ref 137), some (.int k1), some (.int k2), some (.int a3), some (.int ((60 * k1) + (5 * a3)))]) (st' := [.int (((60 * k1) + (5 * a3)) + 4), .ref 141, .int v8, .int k1, .ref 137]) (T1 := T) (by decide +kernel) rfl ?_
          obtain ⟨hi_v9, hf⟩ := bi_some hf
          obtain ⟨v9, hv9, hf⟩ := letv_some hf
          refine MW.iald 4 360 rfl (by decide) rfl (by decide +kernel) (inb_in hi_v9) ?_
          rw [← hv9]
          obtain ⟨q10, hq10, hf⟩ := bd_some hf
          refine MW.callV (As := [.int k1, .int v8, .int v9]) (st := []) lv_RX12_288 rfl (by decide +kernel) (xm_reckons hq10) (by decide) (by decide) rfl (Nat.le_of_ble_eq_true rfl) rfl ?_
          show MW l yy_X12_clauseFor 2 _ _ 74 [some (.ref 137), some (.int k1), some (.int k2), some (.int a3), some (.int ((60 * k1) + (5 * a3)))] [.long q10.1] q10.2
          refine MW.run rfl [(.lconst 1, 0), (.lcmp, 0)] (pc' := 76) (ls' := [some (.ref 137), some (.int k1), some (.int k2), some (.int a3), some (.int ((60 * k1) + (5 * a3)))]) (st' := [.int (lg_cmp q10.1 1)]) (T1 := q10.2) (by decide +kernel) rfl ?_
          refine MW.if_ne (off := 6) (tgt := 82) (by decide +kernel) (by decide) (fun c76_11 => ?_) (fun c76_11 => ?_)
          · rw [if_neg c76_11] at hf
            refine MW.run rfl [(.iinc 3 1, 1), (.goto (-77), 0)] (pc' := 8) (ls' := [some (.ref 137), some (.int k1), some (.int k2), some (.int (a3 + 1)), some (.int ((60 * k1) + (5 * a3)))]) (st' := []) (T1 := q10.2) (by decide +kernel) rfl ?_
            refine MW.fgt (ls' := [some (.ref 137), some (.int k1), some (.int k2), some (.int (a3 + 1)), none]) (by repeat' (first | exact trivial | refine ⟨rfl, ?_⟩)) ?_
            exact ih _ _ _ hf hk1 hk2
          · rw [if_pos c76_11] at hf
            refine MW.run rfl [(.iload 4, 0)] (pc' := 81) (ls' := [some (.ref 137), some (.int k1), some (.int k2), some (.int a3), some (.int ((60 * k1) + (5 * a3)))]) (st' := [.int ((60 * k1) + (5 * a3))]) (T1 := q10.2) (by decide +kernel) rfl ?_
            have e9 := Option.some.inj hf
            subst e9
            obtain ⟨e1, e2⟩ := (hk2 _ rfl)
            subst e1
            subst e2
            exact MW.iret rfl (by decide +kernel)
theorem xm_clauseFor {l : Launch} {p0 : Int32} {p1 : Int32} {T : mT} {q : Int32 × mT} (hf : fm_clauseFor p0 p1 T = some q) : MOk l yy_X12_clauseFor 2 [.int p0, .int p1] T (some (.int q.1)) q.2 := by
  refine MOk.of (ls := [some (.ref 137), some (.int p0), some (.int p1), none, none]) (by decide +kernel) (Nat.le_of_ble_eq_true rfl) rfl ?_
  unfold fm_clauseFor at hf
  refine MW.run rfl [(.iload_n 1, 0)] (pc' := 1) (ls' := [some (.ref 137), some (.int p0), some (.int p1), none, none]) (st' := [.int p0]) (T1 := T) (by decide +kernel) rfl ?_
  refine MW.if_ge (off := 5) (tgt := 6) (by decide +kernel) (by decide) (fun c1_1 => ?_) (fun c1_1 => ?_)
  · rw [if_pos c1_1] at hf
    refine MW.run rfl [(.iconst 0, 0), (.istore_n 3, 0)] (pc' := 8) (ls' := [some (.ref 137), some (.int p0), some (.int p1), some (.int 0), none]) (st' := []) (T1 := T) (by decide +kernel) rfl ?_
    obtain ⟨w12, hw12, hf⟩ := bd_some hf
    refine xm_clauseFor_L8 p0 p1 FU _ _ _ hw12 (fun w12a hsw12 => ?_) (fun w12b hsw12 => ?_)
    · subst hsw12
      simp only [Sum.elim_inl] at hf
      refine MW.run rfl [(.iconst (-1), (-1))] (pc' := 89) (ls' := [some (.ref 137), some (.int p0), some (.int p1), some (.int w12a.1), none]) (st' := [.int (-1)]) (T1 := w12a.2) (by decide +kernel) rfl ?_
      have e9 := Option.some.inj hf
      subst e9
      exact MW.iret rfl (by decide +kernel)
    · subst hsw12
      simp only [Sum.elim_inr] at hf
      have e9 := Option.some.inj hf
      subst e9
      exact ⟨rfl, rfl⟩
  · rw [if_neg c1_1] at hf
    refine MW.run rfl [(.iconst (-1), (-1))] (pc' := 5) (ls' := [some (.ref 137), some (.int p0), some (.int p1), none, none]) (st' := [.int (-1)]) (T1 := T) (by decide +kernel) rfl ?_
    have e9 := Option.some.inj hf
    subst e9
    exact MW.iret rfl (by decide +kernel)
def fm_heldSum (p0 : Int32) (p1 : Int32) (p2 : Int32) (T : mT) : Option (Int32 × mT) := bif inb (p1 + 1) 360 then (letv (T.1 4 ((p1 + 1) : Int32).toNatClampNeg) fun v1 => bif inb (p1 + 2) 360 then (letv (T.1 4 ((p1 + 2) : Int32).toNatClampNeg) fun v2 => (fm_reckons p0 v1 v2 T).bind fun q3 => if 0 ≤ (lg_cmp q3.1 0) then (if (lg_cmp q3.1 ((p2 : Int32).toInt64)) ≤ 0 then (some ((q3.1 : Int64).toInt32, q3.2)) else (some (p2, q3.2))) else (some (0, q3.2))) else none) else none
theorem xm_heldSum {l : Launch} {p0 : Int32} {p1 : Int32} {p2 : Int32} {T : mT} {q : Int32 × mT} (hf : fm_heldSum p0 p1 p2 T = some q) : MOk l yy_X12_heldSum 2 [.int p0, .int p1, .int p2] T (some (.int q.1)) q.2 := by
  refine MOk.of (ls := [some (.ref 137), some (.int p0), some (.int p1), some (.int p2), none, none]) (by decide +kernel) (Nat.le_of_ble_eq_true rfl) rfl ?_
  unfold fm_heldSum at hf
  refine MW.run rfl [(.aload_n 0, 0), (.iload_n 1, 0), (.aload_n 0, 0), (.getfield 20, 0), (.iload_n 2, 0), (.iconst 1, 1), (.iadd, 0)] (pc' := 9) (ls' := [some (.ref 137), some (.int p0), some (.int p1), some (.int p2), none, none]) (st' := [.int (p1 + 1), .ref 141, .int p0, .ref 137]) (T1 := T) (by decide +kernel) rfl ?_
  obtain ⟨hi_v1, hf⟩ := bi_some hf
  obtain ⟨v1, hv1, hf⟩ := letv_some hf
  refine MW.iald 4 360 rfl (by decide) rfl (by decide +kernel) (inb_in hi_v1) ?_
  rw [← hv1]
  refine MW.run rfl [(.aload_n 0, 0), (.getfield 20, 0), (.iload_n 2, 0), (.iconst 2, 2), (.iadd, 0)] (pc' := 17) (ls' := [some (.ref 137), some (.int p0), some (.int p1), some (.int p2), none, none]) (st' := [.int (p1 + 2), .ref 141, .int v1, .int p0, .ref 137]) (T1 := T) (by decide +kernel) rfl ?_
  obtain ⟨hi_v2, hf⟩ := bi_some hf
  obtain ⟨v2, hv2, hf⟩ := letv_some hf
  refine MW.iald 4 360 rfl (by decide) rfl (by decide +kernel) (inb_in hi_v2) ?_
  rw [← hv2]
  obtain ⟨q3, hq3, hf⟩ := bd_some hf
  refine MW.callV (As := [.int p0, .int v1, .int v2]) (st := []) lv_RX12_288 rfl (by decide +kernel) (xm_reckons hq3) (by decide) (by decide) rfl (Nat.le_of_ble_eq_true rfl) rfl ?_
  show MW l yy_X12_heldSum 2 _ _ 21 [some (.ref 137), some (.int p0), some (.int p1), some (.int p2), none, none] [.long q3.1] q3.2
  refine MW.run rfl [(.lstore 4, 0), (.lload 4, 0), (.lconst 0, 0), (.lcmp, 0)] (pc' := 27) (ls' := [some (.ref 137), some (.int p0), some (.int p1), some (.int p2), some (.long q3.1), none]) (st' := [.int (lg_cmp q3.1 0)]) (T1 := q3.2) (by decide +kernel) rfl ?_
  refine MW.if_ge (off := 7) (tgt := 34) (by decide +kernel) (by decide) (fun c27_4 => ?_) (fun c27_4 => ?_)
  · rw [if_pos c27_4] at hf
    refine MW.run rfl [(.lload 4, 0), (.iload_n 3, 0), (.i2l, 0), (.lcmp, 0)] (pc' := 39) (ls' := [some (.ref 137), some (.int p0), some (.int p1), some (.int p2), some (.long q3.1), none]) (st' := [.int (lg_cmp q3.1 ((p2 : Int32).toInt64))]) (T1 := q3.2) (by decide +kernel) rfl ?_
    refine MW.if_le (off := 7) (tgt := 46) (by decide +kernel) (by decide) (fun c39_5 => ?_) (fun c39_5 => ?_)
    · rw [if_pos c39_5] at hf
      refine MW.run rfl [(.lload 4, 0), (.l2i, 0)] (pc' := 49) (ls' := [some (.ref 137), some (.int p0), some (.int p1), some (.int p2), some (.long q3.1), none]) (st' := [.int ((q3.1 : Int64).toInt32)]) (T1 := q3.2) (by decide +kernel) rfl ?_
      have e9 := Option.some.inj hf
      subst e9
      exact MW.iret rfl (by decide +kernel)
    · rw [if_neg c39_5] at hf
      refine MW.run rfl [(.iload_n 3, 0), (.goto 6, 0)] (pc' := 49) (ls' := [some (.ref 137), some (.int p0), some (.int p1), some (.int p2), some (.long q3.1), none]) (st' := [.int p2]) (T1 := q3.2) (by decide +kernel) rfl ?_
      have e9 := Option.some.inj hf
      subst e9
      exact MW.iret rfl (by decide +kernel)
  · rw [if_neg c27_4] at hf
    refine MW.run rfl [(.iconst 0, 0), (.goto 18, 0)] (pc' := 49) (ls' := [some (.ref 137), some (.int p0), some (.int p1), some (.int p2), some (.long q3.1), none]) (st' := [.int 0]) (T1 := q3.2) (by decide +kernel) rfl ?_
    have e9 := Option.some.inj hf
    subst e9
    exact MW.iret rfl (by decide +kernel)
def fm_weightOf (p0 : Int32) (T : mT) : Option (Int32 × mT) := (fm_tellingOf p0 0 T).bind fun q1 => (fm_tellingOf p0 1 T).bind fun q2 => (fm_tellingOf p0 2 T).bind fun q3 => (fm_tellingOf p0 3 T).bind fun q4 => bif inb 2 410 then (letv (T.1 10 (2 : Int32).toNatClampNeg) fun v5 => (fm_tellingOf p0 4 T).bind fun q6 => (fm_stepsOf p0 T).bind fun q7 => (fm_words q1 q2 q3 q4 (v5 - q6) q7 T).bind fun q8 => (fm_clauseFor (q8.1 0 22) 1 q8).bind fun q9 => if q9.1 < 0 then ((fm_isLook p0 q9.2).bind fun q11 => if (b2i q11) = 0 then (some (1, q9.2)) else (some (99, q9.2))) else ((fm_heldSum (q9.2.1 0 22) q9.1 999 q9.2).bind fun q13 => some (q13.1, q13.2))) else none
theorem xm_weightOf {l : Launch} {p0 : Int32} {T : mT} {q : Int32 × mT} (hf : fm_weightOf p0 T = some q) : MOk l yy_X12_weightOf 3 [.int p0] T (some (.int q.1)) q.2 := by
  refine MOk.of (ls := [some (.ref 137), some (.int p0), none]) (by decide +kernel) (Nat.le_of_ble_eq_true rfl) rfl ?_
  unfold fm_weightOf at hf
  refine MW.run rfl [(.aload_n 0, 0), (.aload_n 0, 0), (.iload_n 1, 0), (.iconst 0, 0)] (pc' := 4) (ls' := [some (.ref 137), some (.int p0), none]) (st' := [.int 0, .int p0, .ref 137, .ref 137]) (T1 := T) (by decide +kernel) rfl ?_
  obtain ⟨q1, hq1, hf⟩ := bd_some hf
  refine MW.callV (As := [.int p0, .int 0]) (st := [.ref 137]) lv_RX12_278 rfl (by decide +kernel) (xm_tellingOf hq1) (by decide) (by decide) rfl (Nat.le_of_ble_eq_true rfl) rfl ?_
  show MW l yy_X12_weightOf 3 _ _ 7 [some (.ref 137), some (.int p0), none] [.int q1, .ref 137] T
  refine MW.run rfl [(.aload_n 0, 0), (.iload_n 1, 0), (.iconst 1, 1)] (pc' := 10) (ls' := [some (.ref 137), some (.int p0), none]) (st' := [.int 1, .int p0, .ref 137, .int q1, .ref 137]) (T1 := T) (by decide +kernel) rfl ?_
  obtain ⟨q2, hq2, hf⟩ := bd_some hf
  refine MW.callV (As := [.int p0, .int 1]) (st := [.int q1, .ref 137]) lv_RX12_278 rfl (by decide +kernel) (xm_tellingOf hq2) (by decide) (by decide) rfl (Nat.le_of_ble_eq_true rfl) rfl ?_
  show MW l yy_X12_weightOf 3 _ _ 13 [some (.ref 137), some (.int p0), none] [.int q2, .int q1, .ref 137] T
  refine MW.run rfl [(.aload_n 0, 0), (.iload_n 1, 0), (.iconst 2, 2)] (pc' := 16) (ls' := [some (.ref 137), some (.int p0), none]) (st' := [.int 2, .int p0, .ref 137, .int q2, .int q1, .ref 137]) (T1 := T) (by decide +kernel) rfl ?_
  obtain ⟨q3, hq3, hf⟩ := bd_some hf
  refine MW.callV (As := [.int p0, .int 2]) (st := [.int q2, .int q1, .ref 137]) lv_RX12_278 rfl (by decide +kernel) (xm_tellingOf hq3) (by decide) (by decide) rfl (Nat.le_of_ble_eq_true rfl) rfl ?_
  show MW l yy_X12_weightOf 3 _ _ 19 [some (.ref 137), some (.int p0), none] [.int q3, .int q2, .int q1, .ref 137] T
  refine MW.run rfl [(.aload_n 0, 0), (.iload_n 1, 0), (.iconst 3, 3)] (pc' := 22) (ls' := [some (.ref 137), some (.int p0), none]) (st' := [.int 3, .int p0, .ref 137, .int q3, .int q2, .int q1, .ref 137]) (T1 := T) (by decide +kernel) rfl ?_
  obtain ⟨q4, hq4, hf⟩ := bd_some hf
  refine MW.callV (As := [.int p0, .int 3]) (st := [.int q3, .int q2, .int q1, .ref 137]) lv_RX12_278 rfl (by decide +kernel) (xm_tellingOf hq4) (by decide) (by decide) rfl (Nat.le_of_ble_eq_true rfl) rfl ?_
  show MW l yy_X12_weightOf 3 _ _ 25 [some (.ref 137), some (.int p0), none] [.int q4, .int q3, .int q2, .int q1, .ref 137] T
  refine MW.run rfl [(.aload_n 0, 0), (.getfield 39, 0), (.iconst 2, 2)] (pc' := 30) (ls' := [some (.ref 137), some (.int p0), none]) (st' := [.int 2, .ref 147, .int q4, .int q3, .int q2, .int q1, .ref 137]) (T1 := T) (by decide +kernel) rfl ?_
  obtain ⟨hi_v5, hf⟩ := bi_some hf
  obtain ⟨v5, hv5, hf⟩ := letv_some hf
  refine MW.iald 10 410 rfl (by decide) rfl (by decide +kernel) (inb_in hi_v5) ?_
  rw [← hv5]
  refine MW.run rfl [(.aload_n 0, 0), (.iload_n 1, 0), (.iconst 4, 4)] (pc' := 34) (ls' := [some (.ref 137), some (.int p0), none]) (st' := [.int 4, .int p0, .ref 137, .int v5, .int q4, .int q3, .int q2, .int q1, .ref 137]) (T1 := T) (by decide +kernel) rfl ?_
  obtain ⟨q6, hq6, hf⟩ := bd_some hf
  refine MW.callV (As := [.int p0, .int 4]) (st := [.int v5, .int q4, .int q3, .int q2, .int q1, .ref 137]) lv_RX12_278 rfl (by decide +kernel) (xm_tellingOf hq6) (by decide) (by decide) rfl (Nat.le_of_ble_eq_true rfl) rfl ?_
  show MW l yy_X12_weightOf 3 _ _ 37 [some (.ref 137), some (.int p0), none] [.int q6, .int v5, .int q4, .int q3, .int q2, .int q1, .ref 137] T
  refine MW.run rfl [(.isub, 0), (.aload_n 0, 0), (.iload_n 1, 0)] (pc' := 40) (ls' := [some (.ref 137), some (.int p0), none]) (st' := [.int p0, .ref 137, .int (v5 - q6), .int q4, .int q3, .int q2, .int q1, .ref 137]) (T1 := T) (by decide +kernel) rfl ?_
  obtain ⟨q7, hq7, hf⟩ := bd_some hf
  refine MW.callV (As := [.int p0]) (st := [.int (v5 - q6), .int q4, .int q3, .int q2, .int q1, .ref 137]) lv_RX12_292 rfl (by decide +kernel) (xm_stepsOf hq7) (by decide) (by decide) rfl (Nat.le_of_ble_eq_true rfl) rfl ?_
  show MW l yy_X12_weightOf 3 _ _ 43 [some (.ref 137), some (.int p0), none] [.int q7, .int (v5 - q6), .int q4, .int q3, .int q2, .int q1, .ref 137] T
  obtain ⟨q8, hq8, hf⟩ := bd_some hf
  refine MW.callV (As := [.int q1, .int q2, .int q3, .int q4, .int (v5 - q6), .int q7]) (st := []) lv_RX12_295 rfl (by decide +kernel) (xm_words hq8) (by decide) (by decide) rfl (Nat.le_of_ble_eq_true rfl) rfl ?_
  show MW l yy_X12_weightOf 3 _ _ 46 [some (.ref 137), some (.int p0), none] [] q8
  refine MW.run rfl [(.aload_n 0, 0), (.aload_n 0, 0), (.getfield 42, 0), (.iconst 1, 1)] (pc' := 52) (ls' := [some (.ref 137), some (.int p0), none]) (st' := [.int 1, .int (q8.1 0 22), .ref 137]) (T1 := q8) (by decide +kernel) rfl ?_
  obtain ⟨q9, hq9, hf⟩ := bd_some hf
  refine MW.callV (As := [.int (q8.1 0 22), .int 1]) (st := []) lv_RX12_299 rfl (by decide +kernel) (xm_clauseFor hq9) (by decide) (by decide) rfl (Nat.le_of_ble_eq_true rfl) rfl ?_
  show MW l yy_X12_weightOf 3 _ _ 55 [some (.ref 137), some (.int p0), none] [.int q9.1] q9.2
  refine MW.run rfl [(.istore_n 2, 0), (.iload_n 2, 0)] (pc' := 57) (ls' := [some (.ref 137), some (.int p0), some (.int q9.1)]) (st' := [.int q9.1]) (T1 := q9.2) (by decide +kernel) rfl ?_
  refine MW.if_lt (off := 18) (tgt := 75) (by decide +kernel) (by decide) (fun c57_10 => ?_) (fun c57_10 => ?_)
  · rw [if_pos c57_10] at hf
    refine MW.run rfl [(.aload_n 0, 0), (.iload_n 1, 0)] (pc' := 77) (ls' := [some (.ref 137), some (.int p0), some (.int q9.1)]) (st' := [.int p0, .ref 137]) (T1 := q9.2) (by decide +kernel) rfl ?_
    obtain ⟨q11, hq11, hf⟩ := bd_some hf
    refine MW.callV (As := [.int p0]) (st := []) lv_RX12_306 rfl (by decide +kernel) (xm_isLook hq11) (by decide) (by decide) rfl (Nat.le_of_ble_eq_true rfl) rfl ?_
    show MW l yy_X12_weightOf 3 _ _ 80 [some (.ref 137), some (.int p0), some (.int q9.1)] [.int (b2i q11)] q9.2
    refine MW.if_eq (off := 8) (tgt := 88) (by decide +kernel) (by decide) (fun c80_12 => ?_) (fun c80_12 => ?_)
    · rw [if_pos c80_12] at hf
      refine MW.run rfl [(.iconst 1, 1)] (pc' := 89) (ls' := [some (.ref 137), some (.int p0), some (.int q9.1)]) (st' := [.int 1]) (T1 := q9.2) (by decide +kernel) rfl ?_
      have e9 := Option.some.inj hf
      subst e9
      exact MW.iret rfl (by decide +kernel)
    · rw [if_neg c80_12] at hf
      refine MW.run rfl [(.bipush 99, 99), (.goto 4, 0)] (pc' := 89) (ls' := [some (.ref 137), some (.int p0), some (.int q9.1)]) (st' := [.int 99]) (T1 := q9.2) (by decide +kernel) rfl ?_
      have e9 := Option.some.inj hf
      subst e9
      exact MW.iret rfl (by decide +kernel)
  · rw [if_neg c57_10] at hf
    refine MW.run rfl [(.aload_n 0, 0), (.aload_n 0, 0), (.getfield 42, 0), (.iload_n 2, 0), (.sipush 999, 999)] (pc' := 69) (ls' := [some (.ref 137), some (.int p0), some (.int q9.1)]) (st' := [.int 999, .int q9.1, .int (q9.2.1 0 22), .ref 137]) (T1 := q9.2) (by decide +kernel) rfl ?_
    obtain ⟨q13, hq13, hf⟩ := bd_some hf
    refine MW.callV (As := [.int (q9.2.1 0 22), .int q9.1, .int 999]) (st := []) lv_RX12_302 rfl (by decide +kernel) (xm_heldSum hq13) (by decide) (by decide) rfl (Nat.le_of_ble_eq_true rfl) rfl ?_
    show MW l yy_X12_weightOf 3 _ _ 72 [some (.ref 137), some (.int p0), some (.int q9.1)] [.int q13.1] q13.2
    refine MW.run rfl [(.goto 17, 0)] (pc' := 89) (ls' := [some (.ref 137), some (.int p0), some (.int q9.1)]) (st' := [.int q13.1]) (T1 := q13.2) (by decide +kernel) rfl ?_
    have e9 := Option.some.inj hf
    subst e9
    exact MW.iret rfl (by decide +kernel)
def fm_sumOf_L5 (k1 : Int32) (k2 : Int32) : Nat → Int32 → Int32 → mT → Option (Int32 × Int32 × mT)
  | 0, _, _, _ => none
  | N + 1, a3, a4, T => bif inb 5 410 then (letv (T.1 10 (5 : Int32).toNatClampNeg) fun v1 => if v1 ≤ a4 then (some (a3, a4, T)) else ((fm_tellingOf a4 1 T).bind fun q3 => if q3 = k1 then ((fm_tellingOf a4 2 T).bind fun q5 => if q5 = k1 then ((fm_tellingOf a4 3 T).bind fun q7 => (fm_isOf q7 k2).bind fun q8 => if (b2i q8) = 0 then ((fm_weightOf a4 T).bind fun q10 => fm_sumOf_L5 k1 k2 N (a3 + (-q10.1)) (a4 + 1) q10.2) else ((fm_weightOf a4 T).bind fun q11 => fm_sumOf_L5 k1 k2 N (a3 + q11.1) (a4 + 1) q11.2)) else (fm_sumOf_L5 k1 k2 N a3 (a4 + 1) T)) else (fm_sumOf_L5 k1 k2 N a3 (a4 + 1) T))) else none
def fm_sumOf (p0 : Int32) (p1 : Int32) (T : mT) : Option (Int32 × mT) := (fm_sumOf_L5 p0 p1 FU 0 0 T).bind fun w12 => some (w12.1, w12.2.2)
theorem xm_sumOf_L5 {l : Launch} {r : Option Value} {T' : mT} (k1 : Int32) (k2 : Int32) : ∀ (N : Nat) (a3 : Int32) (a4 : Int32) (T : mT) (W0 : Int32 × Int32 × mT) (_ : fm_sumOf_L5 k1 k2 N a3 a4 T = some W0) (_ : MW l yy_X12_sumOf 4 r T' 80 [some (.ref 137), some (.int k1), some (.int k2), some (.int W0.1), some (.int W0.2.1)] [] W0.2.2), MW l yy_X12_sumOf 4 r T' 5 [some (.ref 137), some (.int k1), some (.int k2), some (.int a3), some (.int a4)] [] T := by
  intro N
  induction N with
  | zero =>
    intro a3 a4 T W0 hf _
    cases hf
  | succ N ih =>
    intro a3 a4 T W0 hf hk1
    unfold fm_sumOf_L5 at hf
    refine MW.run rfl [(.iload 4, 0), (.aload_n 0, 0), (.getfield 39, 0), (.iconst 5, 5)] (pc' := 12) (ls' := [some (.ref 137), some (.int k1), some (.int k2), some (.int a3), some (.int a4)]) (st' := [.int 5, .ref 147, .int a4]) (T1 := T) (by decide +kernel) rfl ?_
    obtain ⟨hi_v1, hf⟩ := bi_some hf
    obtain ⟨v1, hv1, hf⟩ := letv_some hf
    refine MW.iald 10 410 rfl (by decide) rfl (by decide +kernel) (inb_in hi_v1) ?_
    rw [← hv1]
    refine MW.icmp_ge (off := 67) (tgt := 80) (by decide +kernel) (by decide) (fun c13_2 => ?_) (fun c13_2 => ?_)
    · rw [if_pos c13_2] at hf
      have e9 := Option.some.inj hf
      subst e9
      exact hk1
    · rw [if_neg c13_2] at hf
      refine MW.run rfl [(.aload_n 0, 0), (.iload 4, 0), (.iconst 1, 1)] (pc' := 20) (ls' := [some (.ref 137), some (.int k1), some (.int k2), some (.int a3), some (.int a4)]) (st' := [.int 1, .int a4, .ref 137]) (T1 := T) (by decide +kernel) rfl ?_
      obtain ⟨q3, hq3, hf⟩ := bd_some hf
      refine MW.callV (As := [.int a4, .int 1]) (st := []) lv_RX12_278 rfl (by decide +kernel) (xm_tellingOf hq3) (by decide) (by decide) rfl (Nat.le_of_ble_eq_true rfl) rfl ?_
      show MW l yy_X12_sumOf 4 _ _ 23 [some (.ref 137), some (.int k1), some (.int k2), some (.int a3), some (.int a4)] [.int q3] T
      refine MW.run rfl [(.iload_n 1, 0)] (pc' := 24) (ls' := [some (.ref 137), some (.int k1), some (.int k2), some (.int a3), some (.int a4)]) (st' := [.int k1, .int q3]) (T1 := T) (by decide +kernel) rfl ?_
      refine MW.icmp_ne (off := 50) (tgt := 74) (by decide +kernel) (by decide) (fun c24_4 => ?_) (fun c24_4 => ?_)
      · rw [if_neg c24_4] at hf
        refine MW.run rfl [(.iinc 4 1, 1), (.goto (-72), 0)] (pc' := 5) (ls' := [some (.ref 137), some (.int k1), some (.int k2), some (.int a3), some (.int (a4 + 1))]) (st' := []) (T1 := T) (by decide +kernel) rfl ?_
        exact ih _ _ _ _ hf hk1
      · rw [if_pos c24_4] at hf
        refine MW.run rfl [(.aload_n 0, 0), (.iload 4, 0), (.iconst 2, 2)] (pc' := 31) (ls' := [some (.ref 137), some (.int k1), some (.int k2), some (.int a3), some (.int a4)]) (st' := [.int 2, .int a4, .ref 137]) (T1 := T) (by decide +kernel) rfl ?_
        obtain ⟨q5, hq5, hf⟩ := bd_some hf
        refine MW.callV (As := [.int a4, .int 2]) (st := []) lv_RX12_278 rfl (by decide +kernel) (xm_tellingOf hq5) (by decide) (by decide) rfl (Nat.le_of_ble_eq_true rfl) rfl ?_
        show MW l yy_X12_sumOf 4 _ _ 34 [some (.ref 137), some (.int k1), some (.int k2), some (.int a3), some (.int a4)] [.int q5] T
        refine MW.run rfl [(.iload_n 1, 0)] (pc' := 35) (ls' := [some (.ref 137), some (.int k1), some (.int k2), some (.int a3), some (.int a4)]) (st' := [.int k1, .int q5]) (T1 := T) (by decide +kernel) rfl ?_
        refine MW.icmp_eq (off := 6) (tgt := 41) (by decide +kernel) (by decide) (fun c35_6 => ?_) (fun c35_6 => ?_)
        · rw [if_pos c35_6] at hf
          refine MW.run rfl [(.iload_n 3, 0), (.aload_n 0, 0), (.iload 4, 0), (.iconst 3, 3)] (pc' := 46) (ls' := [some (.ref 137), some (.int k1), some (.int k2), some (.int a3), some (.int a4)]) (st' := [.int 3, .int a4, .ref 137, .int a3]) (T1 := T) (by decide +kernel) rfl ?_
          obtain ⟨q7, hq7, hf⟩ := bd_some hf
          refine MW.callV (As := [.int a4, .int 3]) (st := [.int a3]) lv_RX12_278 rfl (by decide +kernel) (xm_tellingOf hq7) (by decide) (by decide) rfl (Nat.le_of_ble_eq_true rfl) rfl ?_
          show MW l yy_X12_sumOf 4 _ _ 49 [some (.ref 137), some (.int k1), some (.int k2), some (.int a3), some (.int a4)] [.int q7, .int a3] T
          refine MW.run rfl [(.iload_n 2, 0)] (pc' := 50) (ls' := [some (.ref 137), some (.int k1), some (.int k2), some (.int a3), some (.int a4)]) (st' := [.int k2, .int q7, .int a3]) (T1 := T) (by decide +kernel) rfl ?_
          obtain ⟨q8, hq8, hf⟩ := bd_some hf
          refine MW.callP (As := [.int q7, .int k2]) (st := [.int a3]) lt_RX12_309 (by decide +kernel) (xm_isOf hq8) (by decide) (by decide) rfl (Nat.le_of_ble_eq_true rfl) rfl ?_
          show MW l yy_X12_sumOf 4 _ _ 53 [some (.ref 137), some (.int k1), some (.int k2), some (.int a3), some (.int a4)] [.int (b2i q8), .int a3] T
          refine MW.if_eq (off := 12) (tgt := 65) (by decide +kernel) (by decide) (fun c53_9 => ?_) (fun c53_9 => ?_)
          · rw [if_pos c53_9] at hf
            refine MW.run rfl [(.aload_n 0, 0), (.iload 4, 0)] (pc' := 68) (ls' := [some (.ref 137), some (.int k1), some (.int k2), some (.int a3), some (.int a4)]) (st' := [.int a4, .ref 137, .int a3]) (T1 := T) (by decide +kernel) rfl ?_
            obtain ⟨q10, hq10, hf⟩ := bd_some hf
            refine MW.callV (As := [.int a4]) (st := [.int a3]) lv_RX12_312 rfl (by decide +kernel) (xm_weightOf hq10) (by decide) (by decide) rfl (Nat.le_of_ble_eq_true rfl) rfl ?_
            show MW l yy_X12_sumOf 4 _ _ 71 [some (.ref 137), some (.int k1), some (.int k2), some (.int a3), some (.int a4)] [.int q10.1, .int a3] q10.2
            refine MW.run rfl [(.ineg, 0), (.iadd, 0), (.istore_n 3, 0), (.iinc 4 1, 1), (.goto (-72), 0)] (pc' := 5) (ls' := [some (.ref 137), some (.int k1), some (.int k2), some (.int (a3 + (-q10.1))), some (.int (a4 + 1))]) (st' := []) (T1 := q10.2) (by decide +kernel) rfl ?_
            exact ih _ _ _ _ hf hk1
          · rw [if_neg c53_9] at hf
            refine MW.run rfl [(.aload_n 0, 0), (.iload 4, 0)] (pc' := 59) (ls' := [some (.ref 137), some (.int k1), some (.int k2), some (.int a3), some (.int a4)]) (st' := [.int a4, .ref 137, .int a3]) (T1 := T) (by decide +kernel) rfl ?_
            obtain ⟨q11, hq11, hf⟩ := bd_some hf
            refine MW.callV (As := [.int a4]) (st := [.int a3]) lv_RX12_312 rfl (by decide +kernel) (xm_weightOf hq11) (by decide) (by decide) rfl (Nat.le_of_ble_eq_true rfl) rfl ?_
            show MW l yy_X12_sumOf 4 _ _ 62 [some (.ref 137), some (.int k1), some (.int k2), some (.int a3), some (.int a4)] [.int q11.1, .int a3] q11.2
            refine MW.run rfl [(.goto 10, 0), (.iadd, 0), (.istore_n 3, 0), (.iinc 4 1, 1), (.goto (-72), 0)] (pc' := 5) (ls' := [some (.ref 137), some (.int k1), some (.int k2), some (.int (a3 + q11.1)), some (.int (a4 + 1))]) (st' := []) (T1 := q11.2) (by decide +kernel) rfl ?_
            exact ih _ _ _ _ hf hk1
        · rw [if_neg c35_6] at hf
          refine MW.run rfl [(.goto 36, 0), (.iinc 4 1, 1), (.goto (-72), 0)] (pc' := 5) (ls' := [some (.ref 137), some (.int k1), some (.int k2), some (.int a3), some (.int (a4 + 1))]) (st' := []) (T1 := T) (by decide +kernel) rfl ?_
          exact ih _ _ _ _ hf hk1
theorem xm_sumOf {l : Launch} {p0 : Int32} {p1 : Int32} {T : mT} {q : Int32 × mT} (hf : fm_sumOf p0 p1 T = some q) : MOk l yy_X12_sumOf 4 [.int p0, .int p1] T (some (.int q.1)) q.2 := by
  refine MOk.of (ls := [some (.ref 137), some (.int p0), some (.int p1), none, none]) (by decide +kernel) (Nat.le_of_ble_eq_true rfl) rfl ?_
  unfold fm_sumOf at hf
  refine MW.run rfl [(.iconst 0, 0), (.istore_n 3, 0), (.iconst 0, 0), (.istore 4, 0)] (pc' := 5) (ls' := [some (.ref 137), some (.int p0), some (.int p1), some (.int 0), some (.int 0)]) (st' := []) (T1 := T) (by decide +kernel) rfl ?_
  obtain ⟨w12, hw12, hf⟩ := bd_some hf
  refine xm_sumOf_L5 p0 p1 FU _ _ _ _ hw12 ?_
  refine MW.run rfl [(.iload_n 3, 0)] (pc' := 81) (ls' := [some (.ref 137), some (.int p0), some (.int p1), some (.int w12.1), some (.int w12.2.1)]) (st' := [.int w12.1]) (T1 := w12.2.2) (by decide +kernel) rfl ?_
  have e9 := Option.some.inj hf
  subst e9
  exact MW.iret rfl (by decide +kernel)
def fm_believedBy_L4 (k1 : Int32) : Nat → Int32 → Int32 → mT → Option (Int32 × Int32 × mT)
  | 0, _, _, _ => none
  | N + 1, a2, a3, T => bif inb 0 410 then (letv (T.1 10 (0 : Int32).toNatClampNeg) fun v1 => if v1 ≤ a3 then (some (a2, a3, T)) else ((fm_sumOf k1 a3 T).bind fun q3 => if q3.1 ≤ 0 then (fm_believedBy_L4 k1 N (a2 ||| 0) (a3 + 1) q3.2) else (fm_believedBy_L4 k1 N (a2 ||| (1 <<< (a3 &&& 31))) (a3 + 1) q3.2))) else none
def fm_believedBy (p0 : Int32) (T : mT) : Option (Int32 × mT) := (fm_believedBy_L4 p0 FU 0 0 T).bind fun w5 => some (w5.1, w5.2.2)
theorem xm_believedBy_L4 {l : Launch} {r : Option Value} {T' : mT} (k1 : Int32) : ∀ (N : Nat) (a2 : Int32) (a3 : Int32) (T : mT) (W0 : Int32 × Int32 × mT) (_ : fm_believedBy_L4 k1 N a2 a3 T = some W0) (_ : MW l yy_X12_believedBy 5 r T' 39 [some (.ref 137), some (.int k1), some (.int W0.1), some (.int W0.2.1)] [] W0.2.2), MW l yy_X12_believedBy 5 r T' 4 [some (.ref 137), some (.int k1), some (.int a2), some (.int a3)] [] T := by
  intro N
  induction N with
  | zero =>
    intro a2 a3 T W0 hf _
    cases hf
  | succ N ih =>
    intro a2 a3 T W0 hf hk1
    unfold fm_believedBy_L4 at hf
    refine MW.run rfl [(.iload_n 3, 0), (.aload_n 0, 0), (.getfield 39, 0), (.iconst 0, 0)] (pc' := 10) (ls' := [some (.ref 137), some (.int k1), some (.int a2), some (.int a3)]) (st' := [.int 0, .ref 147, .int a3]) (T1 := T) (by decide +kernel) rfl ?_
    obtain ⟨hi_v1, hf⟩ := bi_some hf
    obtain ⟨v1, hv1, hf⟩ := letv_some hf
    refine MW.iald 10 410 rfl (by decide) rfl (by decide +kernel) (inb_in hi_v1) ?_
    rw [← hv1]
    refine MW.icmp_ge (off := 28) (tgt := 39) (by decide +kernel) (by decide) (fun c11_2 => ?_) (fun c11_2 => ?_)
    · rw [if_pos c11_2] at hf
      have e9 := Option.some.inj hf
      subst e9
      exact hk1
    · rw [if_neg c11_2] at hf
      refine MW.run rfl [(.iload_n 2, 0), (.aload_n 0, 0), (.iload_n 1, 0), (.iload_n 3, 0)] (pc' := 18) (ls' := [some (.ref 137), some (.int k1), some (.int a2), some (.int a3)]) (st' := [.int a3, .int k1, .ref 137, .int a2]) (T1 := T) (by decide +kernel) rfl ?_
      obtain ⟨q3, hq3, hf⟩ := bd_some hf
      refine MW.callV (As := [.int k1, .int a3]) (st := [.int a2]) lv_RX12_315 rfl (by decide +kernel) (xm_sumOf hq3) (by decide) (by decide) rfl (Nat.le_of_ble_eq_true rfl) rfl ?_
      show MW l yy_X12_believedBy 5 _ _ 21 [some (.ref 137), some (.int k1), some (.int a2), some (.int a3)] [.int q3.1, .int a2] q3.2
      refine MW.if_le (off := 9) (tgt := 30) (by decide +kernel) (by decide) (fun c21_4 => ?_) (fun c21_4 => ?_)
      · rw [if_pos c21_4] at hf
        refine MW.run rfl [(.iconst 0, 0), (.ior, 0), (.istore_n 2, 0), (.iinc 3 1, 1), (.goto (-32), 0)] (pc' := 4) (ls' := [some (.ref 137), some (.int k1), some (.int (a2 ||| 0)), some (.int (a3 + 1))]) (st' := []) (T1 := q3.2) (by decide +kernel) rfl ?_
        exact ih _ _ _ _ hf hk1
      · rw [if_neg c21_4] at hf
        refine MW.run rfl [(.iconst 1, 1), (.iload_n 3, 0), (.ishl, 0), (.goto 4, 0), (.ior, 0), (.istore_n 2, 0), (.iinc 3 1, 1), (.goto (-32), 0)] (pc' := 4) (ls' := [some (.ref 137), some (.int k1), some (.int (a2 ||| (1 <<< (a3 &&& 31)))), some (.int (a3 + 1))]) (st' := []) (T1 := q3.2) (by decide +kernel) rfl ?_
        exact ih _ _ _ _ hf hk1
theorem xm_believedBy {l : Launch} {p0 : Int32} {T : mT} {q : Int32 × mT} (hf : fm_believedBy p0 T = some q) : MOk l yy_X12_believedBy 5 [.int p0] T (some (.int q.1)) q.2 := by
  refine MOk.of (ls := [some (.ref 137), some (.int p0), none, none]) (by decide +kernel) (Nat.le_of_ble_eq_true rfl) rfl ?_
  unfold fm_believedBy at hf
  refine MW.run rfl [(.iconst 0, 0), (.istore_n 2, 0), (.iconst 0, 0), (.istore_n 3, 0)] (pc' := 4) (ls' := [some (.ref 137), some (.int p0), some (.int 0), some (.int 0)]) (st' := []) (T1 := T) (by decide +kernel) rfl ?_
  obtain ⟨w5, hw5, hf⟩ := bd_some hf
  refine xm_believedBy_L4 p0 FU _ _ _ _ hw5 ?_
  refine MW.run rfl [(.iload_n 2, 0)] (pc' := 40) (ls' := [some (.ref 137), some (.int p0), some (.int w5.1), some (.int w5.2.1)]) (st' := [.int w5.1]) (T1 := w5.2.2) (by decide +kernel) rfl ?_
  have e9 := Option.some.inj hf
  subst e9
  exact MW.iret rfl (by decide +kernel)
def fm_openOf_L4 (k1 : Int32) : Nat → Int32 → Int32 → mT → Option (Int32 × Int32 × mT)
  | 0, _, _, _ => none
  | N + 1, a2, a3, T => bif inb 0 410 then (letv (T.1 10 (0 : Int32).toNatClampNeg) fun v1 => if v1 ≤ a3 then (some (a2, a3, T)) else ((fm_sumOf k1 a3 T).bind fun q3 => if q3.1 = 0 then (fm_openOf_L4 k1 N (a2 ||| (1 <<< (a3 &&& 31))) (a3 + 1) q3.2) else (fm_openOf_L4 k1 N (a2 ||| 0) (a3 + 1) q3.2))) else none
def fm_openOf (p0 : Int32) (T : mT) : Option (Int32 × mT) := (fm_openOf_L4 p0 FU 0 0 T).bind fun w5 => some (w5.1, w5.2.2)
theorem xm_openOf_L4 {l : Launch} {r : Option Value} {T' : mT} (k1 : Int32) : ∀ (N : Nat) (a2 : Int32) (a3 : Int32) (T : mT) (W0 : Int32 × Int32 × mT) (_ : fm_openOf_L4 k1 N a2 a3 T = some W0) (_ : MW l yy_X12_openOf 5 r T' 39 [some (.ref 137), some (.int k1), some (.int W0.1), some (.int W0.2.1)] [] W0.2.2), MW l yy_X12_openOf 5 r T' 4 [some (.ref 137), some (.int k1), some (.int a2), some (.int a3)] [] T := by
  intro N
  induction N with
  | zero =>
    intro a2 a3 T W0 hf _
    cases hf
  | succ N ih =>
    intro a2 a3 T W0 hf hk1
    unfold fm_openOf_L4 at hf
    refine MW.run rfl [(.iload_n 3, 0), (.aload_n 0, 0), (.getfield 39, 0), (.iconst 0, 0)] (pc' := 10) (ls' := [some (.ref 137), some (.int k1), some (.int a2), some (.int a3)]) (st' := [.int 0, .ref 147, .int a3]) (T1 := T) (by decide +kernel) rfl ?_
    obtain ⟨hi_v1, hf⟩ := bi_some hf
    obtain ⟨v1, hv1, hf⟩ := letv_some hf
    refine MW.iald 10 410 rfl (by decide) rfl (by decide +kernel) (inb_in hi_v1) ?_
    rw [← hv1]
    refine MW.icmp_ge (off := 28) (tgt := 39) (by decide +kernel) (by decide) (fun c11_2 => ?_) (fun c11_2 => ?_)
    · rw [if_pos c11_2] at hf
      have e9 := Option.some.inj hf
      subst e9
      exact hk1
    · rw [if_neg c11_2] at hf
      refine MW.run rfl [(.iload_n 2, 0), (.aload_n 0, 0), (.iload_n 1, 0), (.iload_n 3, 0)] (pc' := 18) (ls' := [some (.ref 137), some (.int k1), some (.int a2), some (.int a3)]) (st' := [.int a3, .int k1, .ref 137, .int a2]) (T1 := T) (by decide +kernel) rfl ?_
      obtain ⟨q3, hq3, hf⟩ := bd_some hf
      refine MW.callV (As := [.int k1, .int a3]) (st := [.int a2]) lv_RX12_315 rfl (by decide +kernel) (xm_sumOf hq3) (by decide) (by decide) rfl (Nat.le_of_ble_eq_true rfl) rfl ?_
      show MW l yy_X12_openOf 5 _ _ 21 [some (.ref 137), some (.int k1), some (.int a2), some (.int a3)] [.int q3.1, .int a2] q3.2
      refine MW.if_ne (off := 9) (tgt := 30) (by decide +kernel) (by decide) (fun c21_4 => ?_) (fun c21_4 => ?_)
      · rw [if_neg c21_4] at hf
        refine MW.run rfl [(.iconst 0, 0), (.ior, 0), (.istore_n 2, 0), (.iinc 3 1, 1), (.goto (-32), 0)] (pc' := 4) (ls' := [some (.ref 137), some (.int k1), some (.int (a2 ||| 0)), some (.int (a3 + 1))]) (st' := []) (T1 := q3.2) (by decide +kernel) rfl ?_
        exact ih _ _ _ _ hf hk1
      · rw [if_pos c21_4] at hf
        refine MW.run rfl [(.iconst 1, 1), (.iload_n 3, 0), (.ishl, 0), (.goto 4, 0), (.ior, 0), (.istore_n 2, 0), (.iinc 3 1, 1), (.goto (-32), 0)] (pc' := 4) (ls' := [some (.ref 137), some (.int k1), some (.int (a2 ||| (1 <<< (a3 &&& 31)))), some (.int (a3 + 1))]) (st' := []) (T1 := q3.2) (by decide +kernel) rfl ?_
        exact ih _ _ _ _ hf hk1
theorem xm_openOf {l : Launch} {p0 : Int32} {T : mT} {q : Int32 × mT} (hf : fm_openOf p0 T = some q) : MOk l yy_X12_openOf 5 [.int p0] T (some (.int q.1)) q.2 := by
  refine MOk.of (ls := [some (.ref 137), some (.int p0), none, none]) (by decide +kernel) (Nat.le_of_ble_eq_true rfl) rfl ?_
  unfold fm_openOf at hf
  refine MW.run rfl [(.iconst 0, 0), (.istore_n 2, 0), (.iconst 0, 0), (.istore_n 3, 0)] (pc' := 4) (ls' := [some (.ref 137), some (.int p0), some (.int 0), some (.int 0)]) (st' := []) (T1 := T) (by decide +kernel) rfl ?_
  obtain ⟨w5, hw5, hf⟩ := bd_some hf
  refine xm_openOf_L4 p0 FU _ _ _ _ hw5 ?_
  refine MW.run rfl [(.iload_n 2, 0)] (pc' := 40) (ls' := [some (.ref 137), some (.int p0), some (.int w5.1), some (.int w5.2.1)]) (st' := [.int w5.1]) (T1 := w5.2.2) (by decide +kernel) rfl ?_
  have e9 := Option.some.inj hf
  subst e9
  exact MW.iret rfl (by decide +kernel)
def fm_person (p0 : Int32) (p1 : Int32) (T : mT) : Option (Int32 × mT) := (fm_isPerson p0 T).bind fun q1 => if (b2i q1) = 0 then (some ((-1), T)) else (if p1 = 0 then ((fm_personOf p0 p1 T).bind fun q4 => some (q4, T)) else (if p1 = 1 then ((fm_personOf p0 p1 T).bind fun q6 => some (q6, T)) else (if p1 = 2 then ((fm_personOf p0 p1 T).bind fun q8 => some (q8, T)) else (if p1 = 3 then ((fm_personOf p0 p1 T).bind fun q10 => some (q10, T)) else (if p1 = 4 then ((fm_believedBy p0 T).bind fun q12 => some (q12.1, q12.2)) else (if p1 = 5 then ((fm_openOf p0 T).bind fun q14 => some (q14.1, q14.2)) else (if p1 = 6 then (bif inb 3 410 then (letv (T.1 10 (3 : Int32).toNatClampNeg) fun v16 => if v16 = p0 then (bif inb 4 410 then (letv (T.1 10 (4 : Int32).toNatClampNeg) fun v18 => some (v18, T)) else none) else (some (0, T))) else none) else (if p1 = 7 then (bif inb (104 + p0) 410 then (letv (T.1 10 ((104 + p0) : Int32).toNatClampNeg) fun v20 => some (v20, T)) else none) else (some ((-1), T))))))))))
theorem xm_person {l : Launch} {p0 : Int32} {p1 : Int32} {T : mT} {q : Int32 × mT} (hf : fm_person p0 p1 T = some q) : MOk l yy_X12_person 6 [.int p0, .int p1] T (some (.int q.1)) q.2 := by
  refine MOk.of (ls := [some (.ref 137), some (.int p0), some (.int p1)]) (by decide +kernel) (Nat.le_of_ble_eq_true rfl) rfl ?_
  unfold fm_person at hf
  refine MW.run rfl [(.aload_n 0, 0), (.iload_n 1, 0)] (pc' := 2) (ls' := [some (.ref 137), some (.int p0), some (.int p1)]) (st' := [.int p0, .ref 137]) (T1 := T) (by decide +kernel) rfl ?_
  obtain ⟨q1, hq1, hf⟩ := bd_some hf
  refine MW.callV (As := [.int p0]) (st := []) lv_RX12_318 rfl (by decide +kernel) (xm_isPerson hq1) (by decide) (by decide) rfl (Nat.le_of_ble_eq_true rfl) rfl ?_
  show MW l yy_X12_person 6 _ _ 5 [some (.ref 137), some (.int p0), some (.int p1)] [.int (b2i q1)] T
  refine MW.if_ne (off := 5) (tgt := 10) (by decide +kernel) (by decide) (fun c5_2 => ?_) (fun c5_2 => ?_)
  · rw [if_neg c5_2] at hf
    refine MW.run rfl [(.iload_n 2, 0)] (pc' := 11) (ls' := [some (.ref 137), some (.int p0), some (.int p1)]) (st' := [.int p1]) (T1 := T) (by decide +kernel) rfl ?_
    by_cases c11_0_3 : p1 = 0
    · rw [if_pos c11_0_3] at hf
      refine MW.tableIn (dflt := 95) (lo := 0) (hi := 7) (offs := #[45, 45, 45, 45, 52, 58, 64, 85]) (len := 45) (off := 45) (tgt := 56) (by decide +kernel) (by rw [c11_0_3]; decide) (by rw [c11_0_3]; decide) (by rw [c11_0_3]; decide) (by decide) ?_
      refine MW.run rfl [(.aload_n 0, 0), (.iload_n 1, 0), (.iload_n 2, 0)] (pc' := 59) (ls' := [some (.ref 137), some (.int p0), some (.int p1)]) (st' := [.int p1, .int p0, .ref 137]) (T1 := T) (by decide +kernel) rfl ?_
      obtain ⟨q4, hq4, hf⟩ := bd_some hf
      refine MW.callV (As := [.int p0, .int p1]) (st := []) lv_RX12_321 rfl (by decide +kernel) (xm_personOf hq4) (by decide) (by decide) rfl (Nat.le_of_ble_eq_true rfl) rfl ?_
      show MW l yy_X12_person 6 _ _ 62 [some (.ref 137), some (.int p0), some (.int p1)] [.int q4] T
      have e9 := Option.some.inj hf
      subst e9
      exact MW.iret rfl (by decide +kernel)
    rw [if_neg c11_0_3] at hf
    by_cases c11_1_5 : p1 = 1
    · rw [if_pos c11_1_5] at hf
      refine MW.tableIn (dflt := 95) (lo := 0) (hi := 7) (offs := #[45, 45, 45, 45, 52, 58, 64, 85]) (len := 45) (off := 45) (tgt := 56) (by decide +kernel) (by rw [c11_1_5]; decide) (by rw [c11_1_5]; decide) (by rw [c11_1_5]; decide) (by decide) ?_
      refine MW.run rfl [(.aload_n 0, 0), (.iload_n 1, 0), (.iload_n 2, 0)] (pc' := 59) (ls' := [some (.ref 137), some (.int p0), some (.int p1)]) (st' := [.int p1, .int p0, .ref 137]) (T1 := T) (by decide +kernel) rfl ?_
      obtain ⟨q6, hq6, hf⟩ := bd_some hf
      refine MW.callV (As := [.int p0, .int p1]) (st := []) lv_RX12_321 rfl (by decide +kernel) (xm_personOf hq6) (by decide) (by decide) rfl (Nat.le_of_ble_eq_true rfl) rfl ?_
      show MW l yy_X12_person 6 _ _ 62 [some (.ref 137), some (.int p0), some (.int p1)] [.int q6] T
      have e9 := Option.some.inj hf
      subst e9
      exact MW.iret rfl (by decide +kernel)
    rw [if_neg c11_1_5] at hf
    by_cases c11_2_7 : p1 = 2
    · rw [if_pos c11_2_7] at hf
      refine MW.tableIn (dflt := 95) (lo := 0) (hi := 7) (offs := #[45, 45, 45, 45, 52, 58, 64, 85]) (len := 45) (off := 45) (tgt := 56) (by decide +kernel) (by rw [c11_2_7]; decide) (by rw [c11_2_7]; decide) (by rw [c11_2_7]; decide) (by decide) ?_
      refine MW.run rfl [(.aload_n 0, 0), (.iload_n 1, 0), (.iload_n 2, 0)] (pc' := 59) (ls' := [some (.ref 137), some (.int p0), some (.int p1)]) (st' := [.int p1, .int p0, .ref 137]) (T1 := T) (by decide +kernel) rfl ?_
      obtain ⟨q8, hq8, hf⟩ := bd_some hf
      refine MW.callV (As := [.int p0, .int p1]) (st := []) lv_RX12_321 rfl (by decide +kernel) (xm_personOf hq8) (by decide) (by decide) rfl (Nat.le_of_ble_eq_true rfl) rfl ?_
      show MW l yy_X12_person 6 _ _ 62 [some (.ref 137), some (.int p0), some (.int p1)] [.int q8] T
      have e9 := Option.some.inj hf
      subst e9
      exact MW.iret rfl (by decide +kernel)
    rw [if_neg c11_2_7] at hf
    by_cases c11_3_9 : p1 = 3
    · rw [if_pos c11_3_9] at hf
      refine MW.tableIn (dflt := 95) (lo := 0) (hi := 7) (offs := #[45, 45, 45, 45, 52, 58, 64, 85]) (len := 45) (off := 45) (tgt := 56) (by decide +kernel) (by rw [c11_3_9]; decide) (by rw [c11_3_9]; decide) (by rw [c11_3_9]; decide) (by decide) ?_
      refine MW.run rfl [(.aload_n 0, 0), (.iload_n 1, 0), (.iload_n 2, 0)] (pc' := 59) (ls' := [some (.ref 137), some (.int p0), some (.int p1)]) (st' := [.int p1, .int p0, .ref 137]) (T1 := T) (by decide +kernel) rfl ?_
      obtain ⟨q10, hq10, hf⟩ := bd_some hf
      refine MW.callV (As := [.int p0, .int p1]) (st := []) lv_RX12_321 rfl (by decide +kernel) (xm_personOf hq10) (by decide) (by decide) rfl (Nat.le_of_ble_eq_true rfl) rfl ?_
      show MW l yy_X12_person 6 _ _ 62 [some (.ref 137), some (.int p0), some (.int p1)] [.int q10] T
      have e9 := Option.some.inj hf
      subst e9
      exact MW.iret rfl (by decide +kernel)
    rw [if_neg c11_3_9] at hf
    by_cases c11_4_11 : p1 = 4
    · rw [if_pos c11_4_11] at hf
      refine MW.tableIn (dflt := 95) (lo := 0) (hi := 7) (offs := #[45, 45, 45, 45, 52, 58, 64, 85]) (len := 45) (off := 52) (tgt := 63) (by decide +kernel) (by rw [c11_4_11]; decide) (by rw [c11_4_11]; decide) (by rw [c11_4_11]; decide) (by decide) ?_
      refine MW.run rfl [(.aload_n 0, 0), (.iload_n 1, 0)] (pc' := 65) (ls' := [some (.ref 137), some (.int p0), some (.int p1)]) (st' := [.int p0, .ref 137]) (T1 := T) (by decide +kernel) rfl ?_
      obtain ⟨q12, hq12, hf⟩ := bd_some hf
      refine MW.callV (As := [.int p0]) (st := []) lv_RX12_324 rfl (by decide +kernel) (xm_believedBy hq12) (by decide) (by decide) rfl (Nat.le_of_ble_eq_true rfl) rfl ?_
      show MW l yy_X12_person 6 _ _ 68 [some (.ref 137), some (.int p0), some (.int p1)] [.int q12.1] q12.2
      have e9 := Option.some.inj hf
      subst e9
      exact MW.iret rfl (by decide +kernel)
    rw [if_neg c11_4_11] at hf
    by_cases c11_5_13 : p1 = 5
    · rw [if_pos c11_5_13] at hf
      refine MW.tableIn (dflt := 95) (lo := 0) (hi := 7) (offs := #[45, 45, 45, 45, 52, 58, 64, 85]) (len := 45) (off := 58) (tgt := 69) (by decide +kernel) (by rw [c11_5_13]; decide) (by rw [c11_5_13]; decide) (by rw [c11_5_13]; decide) (by decide) ?_
      refine MW.run rfl [(.aload_n 0, 0), (.iload_n 1, 0)] (pc' := 71) (ls' := [some (.ref 137), some (.int p0), some (.int p1)]) (st' := [.int p0, .ref 137]) (T1 := T) (by decide +kernel) rfl ?_
      obtain ⟨q14, hq14, hf⟩ := bd_some hf
      refine MW.callV (As := [.int p0]) (st := []) lv_RX12_327 rfl (by decide +kernel) (xm_openOf hq14) (by decide) (by decide) rfl (Nat.le_of_ble_eq_true rfl) rfl ?_
      show MW l yy_X12_person 6 _ _ 74 [some (.ref 137), some (.int p0), some (.int p1)] [.int q14.1] q14.2
      have e9 := Option.some.inj hf
      subst e9
      exact MW.iret rfl (by decide +kernel)
    rw [if_neg c11_5_13] at hf
    by_cases c11_6_15 : p1 = 6
    · rw [if_pos c11_6_15] at hf
      refine MW.tableIn (dflt := 95) (lo := 0) (hi := 7) (offs := #[45, 45, 45, 45, 52, 58, 64, 85]) (len := 45) (off := 64) (tgt := 75) (by decide +kernel) (by rw [c11_6_15]; decide) (by rw [c11_6_15]; decide) (by rw [c11_6_15]; decide) (by decide) ?_
      refine MW.run rfl [(.aload_n 0, 0), (.getfield 39, 0), (.iconst 3, 3)] (pc' := 80) (ls' := [some (.ref 137), some (.int p0), some (.int p1)]) (st' := [.int 3, .ref 147]) (T1 := T) (by decide +kernel) rfl ?_
      obtain ⟨hi_v16, hf⟩ := bi_some hf
      obtain ⟨v16, hv16, hf⟩ := letv_some hf
      refine MW.iald 10 410 rfl (by decide) rfl (by decide +kernel) (inb_in hi_v16) ?_
      rw [← hv16]
      refine MW.run rfl [(.iload_n 1, 0)] (pc' := 82) (ls' := [some (.ref 137), some (.int p0), some (.int p1)]) (st' := [.int p0, .int v16]) (T1 := T) (by decide +kernel) rfl ?_
      refine MW.icmp_ne (off := 12) (tgt := 94) (by decide +kernel) (by decide) (fun c82_17 => ?_) (fun c82_17 => ?_)
      · rw [if_neg c82_17] at hf
        refine MW.run rfl [(.iconst 0, 0)] (pc' := 95) (ls' := [some (.ref 137), some (.int p0), some (.int p1)]) (st' := [.int 0]) (T1 := T) (by decide +kernel) rfl ?_
        have e9 := Option.some.inj hf
        subst e9
        exact MW.iret rfl (by decide +kernel)
      · rw [if_pos c82_17] at hf
        refine MW.run rfl [(.aload_n 0, 0), (.getfield 39, 0), (.iconst 4, 4)] (pc' := 90) (ls' := [some (.ref 137), some (.int p0), some (.int p1)]) (st' := [.int 4, .ref 147]) (T1 := T) (by decide +kernel) rfl ?_
        obtain ⟨hi_v18, hf⟩ := bi_some hf
        obtain ⟨v18, hv18, hf⟩ := letv_some hf
        refine MW.iald 10 410 rfl (by decide) rfl (by decide +kernel) (inb_in hi_v18) ?_
        rw [← hv18]
        refine MW.run rfl [(.goto 4, 0)] (pc' := 95) (ls' := [some (.ref 137), some (.int p0), some (.int p1)]) (st' := [.int v18]) (T1 := T) (by decide +kernel) rfl ?_
        have e9 := Option.some.inj hf
        subst e9
        exact MW.iret rfl (by decide +kernel)
    rw [if_neg c11_6_15] at hf
    by_cases c11_7_19 : p1 = 7
    · rw [if_pos c11_7_19] at hf
      refine MW.tableIn (dflt := 95) (lo := 0) (hi := 7) (offs := #[45, 45, 45, 45, 52, 58, 64, 85]) (len := 45) (off := 85) (tgt := 96) (by decide +kernel) (by rw [c11_7_19]; decide) (by rw [c11_7_19]; decide) (by rw [c11_7_19]; decide) (by decide) ?_
      refine MW.run rfl [(.aload_n 0, 0), (.getfield 39, 0), (.bipush 104, 104), (.iload_n 1, 0), (.iadd, 0)] (pc' := 104) (ls' := [some (.ref 137), some (.int p0), some (.int p1)]) (st' := [.int (104 + p0), .ref 147]) (T1 := T) (by decide +kernel) rfl ?_
      obtain ⟨hi_v20, hf⟩ := bi_some hf
      obtain ⟨v20, hv20, hf⟩ := letv_some hf
      refine MW.iald 10 410 rfl (by decide) rfl (by decide +kernel) (inb_in hi_v20) ?_
      rw [← hv20]
      have e9 := Option.some.inj hf
      subst e9
      exact MW.iret rfl (by decide +kernel)
    rw [if_neg c11_7_19] at hf
    refine MW.tableOut (dflt := 95) (lo := 0) (hi := 7) (offs := #[45, 45, 45, 45, 52, 58, 64, 85]) (len := 45) (tgt := 106) (by decide +kernel) (by have := ne_toInt c11_0_3 (k := 0) rfl; have := ne_toInt c11_1_5 (k := 1) rfl; have := ne_toInt c11_2_7 (k := 2) rfl; have := ne_toInt c11_3_9 (k := 3) rfl; have := ne_toInt c11_4_11 (k := 4) rfl; have := ne_toInt c11_5_13 (k := 5) rfl; have := ne_toInt c11_6_15 (k := 6) rfl; have := ne_toInt c11_7_19 (k := 7) rfl; omega) (by decide) ?_
    refine MW.run rfl [(.iconst (-1), (-1))] (pc' := 107) (ls' := [some (.ref 137), some (.int p0), some (.int p1)]) (st' := [.int (-1)]) (T1 := T) (by decide +kernel) rfl ?_
    have e9 := Option.some.inj hf
    subst e9
    exact MW.iret rfl (by decide +kernel)
  · rw [if_pos c5_2] at hf
    refine MW.run rfl [(.iconst (-1), (-1))] (pc' := 9) (ls' := [some (.ref 137), some (.int p0), some (.int p1)]) (st' := [.int (-1)]) (T1 := T) (by decide +kernel) rfl ?_
    have e9 := Option.some.inj hf
    subst e9
    exact MW.iret rfl (by decide +kernel)
