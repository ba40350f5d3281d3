/-! ===== the reference, method by method (by program) 10 ===== -/
def fm_turnedBy_L48 (k1 : Int32) (k2 : Int32) (k3 : Int32) (k4 : Int32) : Nat → Int32 → Int32 → mT → Option (Int32 × Int32 × mT)
  | 0, _, _, _ => none
  | N + 1, a5, a6, T => bif inb 0 410 then (letv (T.1 10 (0 : Int32).toNatClampNeg) fun v6 => if v6 ≤ a6 then (some (a5, a6, T)) else ((fm_sumOf k1 a6 T).bind fun q8 => if k4 ≤ 0 then (fm_turnedBy_L48 k1 k2 k3 k4 N (a5 + 0) (a6 + 1) q8.2) else (Option.bind (if 0 ≤ q8.1 then (some (q8.1)) else (some (-q8.1)) : Option (Int32)) fun w10 => if k4 < w10 then (fm_turnedBy_L48 k1 k2 k3 k4 N (a5 + 0) (a6 + 1) q8.2) else (fm_turnedBy_L48 k1 k2 k3 k4 N (a5 + 1) (a6 + 1) q8.2)))) else none
def fm_turnedBy (p0 : Int32) (p1 : Int32) (T : mT) : Option (Int32 × mT) := (fm_words p1 p0 p0 0 0 0 T).bind fun q1 => (fm_clauseFor (q1.1 0 22) 1 q1).bind fun q2 => Option.bind (if 0 ≤ q2.1 then ((fm_heldSum (q2.2.1 0 22) q2.1 999 q2.2).bind fun q5 => some (q5.1, q5.2)) else (some (1, q2.2)) : Option (Int32 × mT)) fun w3 => (fm_turnedBy_L48 p0 p1 q2.1 w3.1 FU 0 0 w3.2).bind fun w13 => some (w13.1, w13.2.2)
theorem xm_turnedBy_L48 {l : Launch} {r : Option Value} {T' : mT} (k1 : Int32) (k2 : Int32) (k3 : Int32) (k4 : Int32) : ∀ (N : Nat) (a5 : Int32) (a6 : Int32) (T : mT) (W0 : Int32 × Int32 × mT) (_ : fm_turnedBy_L48 k1 k2 k3 k4 N a5 a6 T = some W0) (_ : MW l yy_X12_turnedBy 5 r T' 107 [some (.ref 137), some (.int k1), some (.int k2), some (.int k3), some (.int k4), some (.int W0.1), some (.int W0.2.1), none] [] W0.2.2), MW l yy_X12_turnedBy 5 r T' 48 [some (.ref 137), some (.int k1), some (.int k2), some (.int k3), some (.int k4), some (.int a5), some (.int a6), none] [] T := by
  intro N
  induction N with
  | zero =>
    intro a5 a6 T W0 hf _
    cases hf
  | succ N ih =>
    intro a5 a6 T W0 hf hk1
    unfold fm_turnedBy_L48 at hf
    refine MW.run rfl [(.iload 6, 0), (.aload_n 0, 0), (.getfield 39, 0), (.iconst 0, 0)] (pc' := 55) (ls' := [some (.ref 137), some (.int k1), some (.int k2), some (.int k3), some (.int k4), some (.int a5), some (.int a6), none]) (st' := [.int 0, .ref 147, .int a6]) (T1 := T) (by decide +kernel) rfl ?_
    obtain ⟨hi_v6, hf⟩ := bi_some hf
    obtain ⟨v6, hv6, hf⟩ := letv_some hf
    refine MW.iald 10 410 rfl (by decide) rfl (by decide +kernel) (inb_in hi_v6) ?_
    rw [← hv6]
    refine MW.icmp_ge (off := 51) (tgt := 107) (by decide +kernel) (by decide) (fun c56_7 => ?_) (fun c56_7 => ?_)
    · rw [if_pos c56_7] at hf
      have e9 := Option.some.inj hf
      subst e9
      exact hk1
    · rw [if_neg c56_7] at hf
      refine MW.run rfl [(.aload_n 0, 0), (.iload_n 1, 0), (.iload 6, 0)] (pc' := 63) (ls' := [some (.ref 137), some (.int k1), some (.int k2), some (.int k3), some (.int k4), some (.int a5), some (.int a6), none]) (st' := [.int a6, .int k1, .ref 137]) (T1 := T) (by decide +kernel) rfl ?_
      obtain ⟨q8, hq8, hf⟩ := bd_some hf
      refine MW.callV (As := [.int k1, .int a6]) (st := []) lv_RX12_315 rfl (by decide +kernel) (xm_sumOf hq8) (by decide) (by decide) rfl (Nat.le_of_ble_eq_true rfl) rfl ?_
      show MW l yy_X12_turnedBy 5 _ _ 66 [some (.ref 137), some (.int k1), some (.int k2), some (.int k3), some (.int k4), some (.int a5), some (.int a6), none] [.int q8.1] q8.2
      refine MW.run rfl [(.istore 7, 0), (.iload 5, 0), (.iload 4, 0)] (pc' := 72) (ls' := [some (.ref 137), some (.int k1), some (.int k2), some (.int k3), some (.int k4), some (.int a5), some (.int a6), some (.int q8.1)]) (st' := [.int k4, .int a5]) (T1 := q8.2) (by decide +kernel) rfl ?_
      refine MW.if_le (off := 25) (tgt := 97) (by decide +kernel) (by decide) (fun c72_9 => ?_) (fun c72_9 => ?_)
      · rw [if_pos c72_9] at hf
        refine MW.run rfl [(.iconst 0, 0), (.iadd, 0), (.istore 5, 0), (.iinc 6 1, 1), (.goto (-56), 0)] (pc' := 48) (ls' := [some (.ref 137), some (.int k1), some (.int k2), some (.int k3), some (.int k4), some (.int (a5 + 0)), some (.int (a6 + 1)), some (.int q8.1)]) (st' := []) (T1 := q8.2) (by decide +kernel) rfl ?_
        refine MW.fgt (ls' := [some (.ref 137), some (.int k1), some (.int k2), some (.int k3), some (.int k4), some (.int (a5 + 0)), some (.int (a6 + 1)), none]) (by repeat' (first | exact trivial | refine ⟨rfl, ?_⟩)) ?_
        exact ih _ _ _ _ hf hk1
      · rw [if_neg c72_9] at hf
        refine MW.run rfl [(.iload 4, 0), (.iload 7, 0)] (pc' := 79) (ls' := [some (.ref 137), some (.int k1), some (.int k2), some (.int k3), some (.int k4), some (.int a5), some (.int a6), some (.int q8.1)]) (st' := [.int q8.1, .int k4, .int a5]) (T1 := q8.2) (by decide +kernel) rfl ?_
        obtain ⟨w10, hw10, hf⟩ := bd_some hf
        have hJ : MW l yy_X12_turnedBy 5 r T' 90 [some (.ref 137), some (.int k1), some (.int k2), some (.int k3), some (.int k4), some (.int a5), some (.int a6), some (.int q8.1)] [.int w10, .int k4, .int a5] q8.2 := by
          refine MW.icmp_lt (off := 7) (tgt := 97) (by decide +kernel) (by decide) (fun c90_12 => ?_) (fun c90_12 => ?_)
          · rw [if_pos c90_12] at hf
            refine MW.run rfl [(.iconst 0, 0), (.iadd, 0), (.istore 5, 0), (.iinc 6 1, 1), (.goto (-56), 0)] (pc' := 48) (ls' := [some (.ref 137), some (.int k1), some (.int k2), some (.int k3), some (.int k4), some (.int (a5 + 0)), some (.int (a6 + 1)), some (.int q8.1)]) (st' := []) (T1 := q8.2) (by decide +kernel) rfl ?_
            refine MW.fgt (ls' := [some (.ref 137), some (.int k1), some (.int k2), some (.int k3), some (.int k4), some (.int (a5 + 0)), some (.int (a6 + 1)), none]) (by repeat' (first | exact trivial | refine ⟨rfl, ?_⟩)) ?_
            exact ih _ _ _ _ hf hk1
          · rw [if_neg c90_12] at hf
            refine MW.run rfl [(.iconst 1, 1), (.goto 4, 0), (.iadd, 0), (.istore 5, 0), (.iinc 6 1, 1), (.goto (-56), 0)] (pc' := 48) (ls' := [some (.ref 137), some (.int k1), some (.int k2), some (.int k3), some (.int k4), some (.int (a5 + 1)), some (.int (a6 + 1)), some (.int q8.1)]) (st' := []) (T1 := q8.2) (by decide +kernel) rfl ?_
            refine MW.fgt (ls' := [some (.ref 137), some (.int k1), some (.int k2), some (.int k3), some (.int k4), some (.int (a5 + 1)), some (.int (a6 + 1)), none]) (by repeat' (first | exact trivial | refine ⟨rfl, ?_⟩)) ?_
            exact ih _ _ _ _ hf hk1
        clear hf
        refine MW.if_ge (off := 9) (tgt := 88) (by decide +kernel) (by decide) (fun c79_11 => ?_) (fun c79_11 => ?_)
        · rw [if_pos c79_11] at hw10
          refine MW.run rfl [(.iload 7, 0)] (pc' := 90) (ls' := [some (.ref 137), some (.int k1), some (.int k2), some (.int k3), some (.int k4), some (.int a5), some (.int a6), some (.int q8.1)]) (st' := [.int q8.1, .int k4, .int a5]) (T1 := q8.2) (by decide +kernel) rfl ?_
          have e9 := Option.some.inj hw10
          subst e9
          exact hJ
        · rw [if_neg c79_11] at hw10
          refine MW.run rfl [(.iload 7, 0), (.ineg, 0), (.goto 5, 0)] (pc' := 90) (ls' := [some (.ref 137), some (.int k1), some (.int k2), some (.int k3), some (.int k4), some (.int a5), some (.int a6), some (.int q8.1)]) (st' := [.int (-q8.1), .int k4, .int a5]) (T1 := q8.2) (by decide +kernel) rfl ?_
          have e9 := Option.some.inj hw10
          subst e9
          exact hJ
theorem xm_turnedBy {l : Launch} {p0 : Int32} {p1 : Int32} {T : mT} {q : Int32 × mT} (hf : fm_turnedBy p0 p1 T = some q) : MOk l yy_X12_turnedBy 5 [.int p0, .int p1] T (some (.int q.1)) q.2 := by
  refine MOk.of (ls := [some (.ref 137), some (.int p0), some (.int p1), none, none, none, none, none]) (by decide +kernel) (Nat.le_of_ble_eq_true rfl) rfl ?_
  unfold fm_turnedBy at hf
  refine MW.run rfl [(.aload_n 0, 0), (.iload_n 2, 0), (.iload_n 1, 0), (.iload_n 1, 0), (.iconst 0, 0), (.iconst 0, 0), (.iconst 0, 0)] (pc' := 7) (ls' := [some (.ref 137), some (.int p0), some (.int p1), none, none, none, none, none]) (st' := [.int 0, .int 0, .int 0, .int p0, .int p0, .int p1, .ref 137]) (T1 := T) (by decide +kernel) rfl ?_
  obtain ⟨q1, hq1, hf⟩ := bd_some hf
  refine MW.callV (As := [.int p1, .int p0, .int p0, .int 0, .int 0, .int 0]) (st := []) lv_RX12_295 rfl (by decide +kernel) (xm_words hq1) (by decide) (by decide) rfl (Nat.le_of_ble_eq_true rfl) rfl ?_
  show MW l yy_X12_turnedBy 5 _ _ 10 [some (.ref 137), some (.int p0), some (.int p1), none, none, none, none, none] [] q1
  refine MW.run rfl [(.aload_n 0, 0), (.aload_n 0, 0), (.getfield 42, 0), (.iconst 1, 1)] (pc' := 16) (ls' := [some (.ref 137), some (.int p0), some (.int p1), none, none, none, none, none]) (st' := [.int 1, .int (q1.1 0 22), .ref 137]) (T1 := q1) (by decide +kernel) rfl ?_
  obtain ⟨q2, hq2, hf⟩ := bd_some hf
  refine MW.callV (As := [.int (q1.1 0 22), .int 1]) (st := []) lv_RX12_299 rfl (by decide +kernel) (xm_clauseFor hq2) (by decide) (by decide) rfl (Nat.le_of_ble_eq_true rfl) rfl ?_
  show MW l yy_X12_turnedBy 5 _ _ 19 [some (.ref 137), some (.int p0), some (.int p1), none, none, none, none, none] [.int q2.1] q2.2
  refine MW.run rfl [(.istore_n 3, 0), (.iload_n 3, 0)] (pc' := 21) (ls' := [some (.ref 137), some (.int p0), some (.int p1), some (.int q2.1), none, none, none, none]) (st' := [.int q2.1]) (T1 := q2.2) (by decide +kernel) rfl ?_
  obtain ⟨w3, hw3, hf⟩ := bd_some hf
  have hJ : MW l yy_X12_turnedBy 5 (some (.int q.1)) q.2 40 [some (.ref 137), some (.int p0), some (.int p1), some (.int q2.1), none, none, none, none] [.int w3.1] w3.2 := by
    refine MW.run rfl [(.istore 4, 0), (.iconst 0, 0), (.istore 5, 0), (.iconst 0, 0), (.istore 6, 0)] (pc' := 48) (ls' := [some (.ref 137), some (.int p0), some (.int p1), some (.int q2.1), some (.int w3.1), some (.int 0), some (.int 0), none]) (st' := []) (T1 := w3.2) (by decide +kernel) rfl ?_
    obtain ⟨w13, hw13, hf⟩ := bd_some hf
    refine xm_turnedBy_L48 p0 p1 q2.1 w3.1 FU _ _ _ _ hw13 ?_
    refine MW.run rfl [(.iload 5, 0)] (pc' := 109) (ls' := [some (.ref 137), some (.int p0), some (.int p1), some (.int q2.1), some (.int w3.1), some (.int w13.1), some (.int w13.2.1), none]) (st' := [.int w13.1]) (T1 := w13.2.2) (by decide +kernel) rfl ?_
    have e9 := Option.some.inj hf
    subst e9
    exact MW.iret rfl (by decide +kernel)
  clear hf
  refine MW.if_ge (off := 7) (tgt := 28) (by decide +kernel) (by decide) (fun c21_4 => ?_) (fun c21_4 => ?_)
  · rw [if_pos c21_4] at hw3
    refine MW.run rfl [(.aload_n 0, 0), (.aload_n 0, 0), (.getfield 42, 0), (.iload_n 3, 0), (.sipush 999, 999)] (pc' := 37) (ls' := [some (.ref 137), some (.int p0), some (.int p1), some (.int q2.1), none, none, none, none]) (st' := [.int 999, .int q2.1, .int (q2.2.1 0 22), .ref 137]) (T1 := q2.2) (by decide +kernel) rfl ?_
    obtain ⟨q5, hq5, hw3⟩ := bd_some hw3
    refine MW.callV (As := [.int (q2.2.1 0 22), .int q2.1, .int 999]) (st := []) lv_RX12_302 rfl (by decide +kernel) (xm_heldSum hq5) (by decide) (by decide) rfl (Nat.le_of_ble_eq_true rfl) rfl ?_
    show MW l yy_X12_turnedBy 5 _ _ 40 [some (.ref 137), some (.int p0), some (.int p1), some (.int q2.1), none, none, none, none] [.int q5.1] q5.2
    have e9 := Option.some.inj hw3
    subst e9
    exact hJ
  · rw [if_neg c21_4] at hw3
    refine MW.run rfl [(.iconst 1, 1), (.goto 15, 0)] (pc' := 40) (ls' := [some (.ref 137), some (.int p0), some (.int p1), some (.int q2.1), none, none, none, none]) (st' := [.int 1]) (T1 := q2.2) (by decide +kernel) rfl ?_
    have e9 := Option.some.inj hw3
    subst e9
    exact hJ
def fm_ask_L29 (k1 : Int32) (k2 : Int32) : Nat → Int32 → Int32 → Int32 → mT → Option (Int32 × Int32 × Int32 × mT)
  | 0, _, _, _, _ => none
  | N + 1, a3, a4, a5, T => bif inb 1 410 then (letv (T.1 10 (1 : Int32).toNatClampNeg) fun v5 => if v5 ≤ a5 then (some (a3, a4, a5, T)) else (if a5 = k1 then (fm_ask_L29 k1 k2 N a3 a4 (a5 + 1) T) else ((fm_turnedBy k1 a5 T).bind fun q8 => if a3 < 0 then (fm_ask_L29 k1 k2 N a5 q8.1 (a5 + 1) q8.2) else (if a4 < q8.1 then (fm_ask_L29 k1 k2 N a5 q8.1 (a5 + 1) q8.2) else (fm_ask_L29 k1 k2 N a3 a4 (a5 + 1) q8.2))))) else none
def fm_ask (p0 : Int32) (p1 : Int32) (T : mT) : Option (Int32 × mT) := (fm_isPerson p0 T).bind fun q1 => if (b2i q1) = 0 then (some ((-1), T)) else ((fm_in ((p1 : Int32).toInt64) 0 1).bind fun q3 => if (b2i q3) = 0 then (some ((-1), T)) else ((fm_ask_L29 p0 p1 FU (-2) 0 0 T).bind fun w11 => if p1 = 0 then (some (w11.1, w11.2.2.2)) else (some (w11.2.1, w11.2.2.2))))
theorem xm_ask_L29 {l : Launch} {r : Option Value} {T' : mT} (k1 : Int32) (k2 : Int32) : ∀ (N : Nat) (a3 : Int32) (a4 : Int32) (a5 : Int32) (T : mT) (W0 : Int32 × Int32 × Int32 × mT) (_ : fm_ask_L29 k1 k2 N a3 a4 a5 T = some W0) (_ : MW l yy_X12_ask 6 r T' 85 [some (.ref 137), some (.int k1), some (.int k2), some (.int W0.1), some (.int W0.2.1), some (.int W0.2.2.1), none] [] W0.2.2.2), MW l yy_X12_ask 6 r T' 29 [some (.ref 137), some (.int k1), some (.int k2), some (.int a3), some (.int a4), some (.int a5), none] [] T := by
  intro N
  induction N with
  | zero =>
    intro a3 a4 a5 T W0 hf _
    cases hf
  | succ N ih =>
    intro a3 a4 a5 T W0 hf hk1
    unfold fm_ask_L29 at hf
    refine MW.run rfl [(.iload 5, 0), (.aload_n 0, 0), (.getfield 39, 0), (.iconst 1, 1)] (pc' := 36) (ls' := [some (.ref 137), some (.int k1), some (.int k2), some (.int a3), some (.int a4), some (.int a5), none]) (st' := [.int 1, .ref 147, .int a5]) (T1 := T) (by decide +kernel) rfl ?_
    obtain ⟨hi_v5, hf⟩ := bi_some hf
    obtain ⟨v5, hv5, hf⟩ := letv_some hf
    refine MW.iald 10 410 rfl (by decide) rfl (by decide +kernel) (inb_in hi_v5) ?_
    rw [← hv5]
    refine MW.icmp_ge (off := 48) (tgt := 85) (by decide +kernel) (by decide) (fun c37_6 => ?_) (fun c37_6 => ?_)
    · rw [if_pos c37_6] at hf
      have e9 := Option.some.inj hf
      subst e9
      exact hk1
    · rw [if_neg c37_6] at hf
      refine MW.run rfl [(.iload 5, 0), (.iload_n 1, 0)] (pc' := 43) (ls' := [some (.ref 137), some (.int k1), some (.int k2), some (.int a3), some (.int a4), some (.int a5), none]) (st' := [.int k1, .int a5]) (T1 := T) (by decide +kernel) rfl ?_
      refine MW.icmp_ne (off := 6) (tgt := 49) (by decide +kernel) (by decide) (fun c43_7 => ?_) (fun c43_7 => ?_)
      · rw [if_neg c43_7] at hf
        refine MW.run rfl [(.aload_n 0, 0), (.iload_n 1, 0), (.iload 5, 0)] (pc' := 53) (ls' := [some (.ref 137), some (.int k1), some (.int k2), some (.int a3), some (.int a4), some (.int a5), none]) (st' := [.int a5, .int k1, .ref 137]) (T1 := T) (by decide +kernel) rfl ?_
        obtain ⟨q8, hq8, hf⟩ := bd_some hf
        refine MW.callV (As := [.int k1, .int a5]) (st := []) lv_RX12_385 rfl (by decide +kernel) (xm_turnedBy hq8) (by decide) (by decide) rfl (Nat.le_of_ble_eq_true rfl) rfl ?_
        show MW l yy_X12_ask 6 _ _ 56 [some (.ref 137), some (.int k1), some (.int k2), some (.int a3), some (.int a4), some (.int a5), none] [.int q8.1] q8.2
        refine MW.run rfl [(.istore 6, 0), (.iload_n 3, 0)] (pc' := 59) (ls' := [some (.ref 137), some (.int k1), some (.int k2), some (.int a3), some (.int a4), some (.int a5), some (.int q8.1)]) (st' := [.int a3]) (T1 := q8.2) (by decide +kernel) rfl ?_
        refine MW.if_lt (off := 13) (tgt := 72) (by decide +kernel) (by decide) (fun c59_9 => ?_) (fun c59_9 => ?_)
        · rw [if_pos c59_9] at hf
          refine MW.run rfl [(.iload 5, 0), (.istore_n 3, 0), (.iload 6, 0), (.istore 4, 0), (.iinc 5 1, 1), (.goto (-53), 0)] (pc' := 29) (ls' := [some (.ref 137), some (.int k1), some (.int k2), some (.int a5), some (.int q8.1), some (.int (a5 + 1)), some (.int q8.1)]) (st' := []) (T1 := q8.2) (by decide +kernel) rfl ?_
          refine MW.fgt (ls' := [some (.ref 137), some (.int k1), some (.int k2), some (.int a5), some (.int q8.1), some (.int (a5 + 1)), none]) (by repeat' (first | exact trivial | refine ⟨rfl, ?_⟩)) ?_
          exact ih _ _ _ _ _ hf hk1
        · rw [if_neg c59_9] at hf
          refine MW.run rfl [(.iload 6, 0), (.iload 4, 0)] (pc' := 66) (ls' := [some (.ref 137), some (.int k1), some (.int k2), some (.int a3), some (.int a4), some (.int a5), some (.int q8.1)]) (st' := [.int a4, .int q8.1]) (T1 := q8.2) (by decide +kernel) rfl ?_
          refine MW.icmp_gt (off := 6) (tgt := 72) (by decide +kernel) (by decide) (fun c66_10 => ?_) (fun c66_10 => ?_)
          · rw [if_pos c66_10] at hf
            refine MW.run rfl [(.iload 5, 0), (.istore_n 3, 0), (.iload 6, 0), (.istore 4, 0), (.iinc 5 1, 1), (.goto (-53), 0)] (pc' := 29) (ls' := [some (.ref 137), some (.int k1), some (.int k2), some (.int a5), some (.int q8.1), some (.int (a5 + 1)), some (.int q8.1)]) (st' := []) (T1 := q8.2) (by decide +kernel) rfl ?_
            refine MW.fgt (ls' := [some (.ref 137), some (.int k1), some (.int k2), some (.int a5), some (.int q8.1), some (.int (a5 + 1)), none]) (by repeat' (first | exact trivial | refine ⟨rfl, ?_⟩)) ?_
            exact ih _ _ _ _ _ hf hk1
          · rw [if_neg c66_10] at hf
            refine MW.run rfl [(.goto 10, 0), (.iinc 5 1, 1), (.goto (-53), 0)] (pc' := 29) (ls' := [some (.ref 137), some (.int k1), some (.int k2), some (.int a3), some (.int a4), some (.int (a5 + 1)), some (.int q8.1)]) (st' := []) (T1 := q8.2) (by decide +kernel) rfl ?_
            refine MW.fgt (ls' := [some (.ref 137), some (.int k1), some (.int k2), some (.int a3), some (.int a4), some (.int (a5 + 1)), none]) (by repeat' (first | exact trivial | refine ⟨rfl, ?_⟩)) ?_
            exact ih _ _ _ _ _ hf hk1
      · rw [if_pos c43_7] at hf
        refine MW.run rfl [(.goto 33, 0), (.iinc 5 1, 1), (.goto (-53), 0)] (pc' := 29) (ls' := [some (.ref 137), some (.int k1), some (.int k2), some (.int a3), some (.int a4), some (.int (a5 + 1)), none]) (st' := []) (T1 := T) (by decide +kernel) rfl ?_
        exact ih _ _ _ _ _ hf hk1
theorem xm_ask {l : Launch} {p0 : Int32} {p1 : Int32} {T : mT} {q : Int32 × mT} (hf : fm_ask p0 p1 T = some q) : MOk l yy_X12_ask 6 [.int p0, .int p1] T (some (.int q.1)) q.2 := by
  refine MOk.of (ls := [some (.ref 137), some (.int p0), some (.int p1), none, none, none, none]) (by decide +kernel) (Nat.le_of_ble_eq_true rfl) rfl ?_
  unfold fm_ask at hf
  refine MW.run rfl [(.aload_n 0, 0), (.iload_n 1, 0)] (pc' := 2) (ls' := [some (.ref 137), some (.int p0), some (.int p1), none, none, none, none]) (st' := [.int p0, .ref 137]) (T1 := T) (by decide +kernel) rfl ?_
  obtain ⟨q1, hq1, hf⟩ := bd_some hf
  refine MW.callV (As := [.int p0]) (st := []) lv_RX12_318 rfl (by decide +kernel) (xm_isPerson hq1) (by decide) (by decide) rfl (Nat.le_of_ble_eq_true rfl) rfl ?_
  show MW l yy_X12_ask 6 _ _ 5 [some (.ref 137), some (.int p0), some (.int p1), none, none, none, none] [.int (b2i q1)] T
  refine MW.if_eq (off := 13) (tgt := 18) (by decide +kernel) (by decide) (fun c5_2 => ?_) (fun c5_2 => ?_)
  · rw [if_pos c5_2] at hf
    refine MW.run rfl [(.iconst (-1), (-1))] (pc' := 19) (ls' := [some (.ref 137), some (.int p0), some (.int p1), none, none, none, none]) (st' := [.int (-1)]) (T1 := T) (by decide +kernel) rfl ?_
    have e9 := Option.some.inj hf
    subst e9
    exact MW.iret rfl (by decide +kernel)
  · rw [if_neg c5_2] at hf
    refine MW.run rfl [(.iload_n 2, 0), (.i2l, 0), (.lconst 0, 0), (.lconst 1, 0)] (pc' := 12) (ls' := [some (.ref 137), some (.int p0), some (.int p1), none, none, none, none]) (st' := [.long 1, .long 0, .long ((p1 : Int32).toInt64)]) (T1 := T) (by decide +kernel) rfl ?_
    obtain ⟨q3, hq3, hf⟩ := bd_some hf
    refine MW.callP (As := [.long ((p1 : Int32).toInt64), .long 0, .long 1]) (st := []) lt_RX12_110 (by decide +kernel) (xm_in hq3) (by decide) (by decide) rfl (Nat.le_of_ble_eq_true rfl) rfl ?_
    show MW l yy_X12_ask 6 _ _ 15 [some (.ref 137), some (.int p0), some (.int p1), none, none, none, none] [.int (b2i q3)] T
    refine MW.if_ne (off := 5) (tgt := 20) (by decide +kernel) (by decide) (fun c15_4 => ?_) (fun c15_4 => ?_)
    · rw [if_neg c15_4] at hf
      refine MW.run rfl [(.bipush (-2), (-2)), (.istore_n 3, 0), (.iconst 0, 0), (.istore 4, 0), (.iconst 0, 0), (.istore 5, 0)] (pc' := 29) (ls' := [some (.ref 137), some (.int p0), some (.int p1), some (.int (-2)), some (.int 0), some (.int 0), none]) (st' := []) (T1 := T) (by decide +kernel) rfl ?_
      obtain ⟨w11, hw11, hf⟩ := bd_some hf
      refine xm_ask_L29 p0 p1 FU _ _ _ _ _ hw11 ?_
      refine MW.run rfl [(.iload_n 2, 0)] (pc' := 86) (ls' := [some (.ref 137), some (.int p0), some (.int p1), some (.int w11.1), some (.int w11.2.1), some (.int w11.2.2.1), none]) (st' := [.int p1]) (T1 := w11.2.2.2) (by decide +kernel) rfl ?_
      refine MW.if_ne (off := 7) (tgt := 93) (by decide +kernel) (by decide) (fun c86_12 => ?_) (fun c86_12 => ?_)
      · rw [if_neg c86_12] at hf
        refine MW.run rfl [(.iload 4, 0)] (pc' := 95) (ls' := [some (.ref 137), some (.int p0), some (.int p1), some (.int w11.1), some (.int w11.2.1), some (.int w11.2.2.1), none]) (st' := [.int w11.2.1]) (T1 := w11.2.2.2) (by decide +kernel) rfl ?_
        have e9 := Option.some.inj hf
        subst e9
        exact MW.iret rfl (by decide +kernel)
      · rw [if_pos c86_12] at hf
        refine MW.run rfl [(.iload_n 3, 0), (.goto 5, 0)] (pc' := 95) (ls' := [some (.ref 137), some (.int p0), some (.int p1), some (.int w11.1), some (.int w11.2.1), some (.int w11.2.2.1), none]) (st' := [.int w11.1]) (T1 := w11.2.2.2) (by decide +kernel) rfl ?_
        have e9 := Option.some.inj hf
        subst e9
        exact MW.iret rfl (by decide +kernel)
    · rw [if_pos c15_4] at hf
      refine MW.run rfl [(.iconst (-1), (-1))] (pc' := 19) (ls' := [some (.ref 137), some (.int p0), some (.int p1), none, none, none, none]) (st' := [.int (-1)]) (T1 := T) (by decide +kernel) rfl ?_
      have e9 := Option.some.inj hf
      subst e9
      exact MW.iret rfl (by decide +kernel)
def fm_chain_L24 (k1 : Int32) (k2 : Int32) (T : mT) : Nat → Int32 → Option (Int32)
  | 0, _ => none
  | N + 1, a3 => (fm_tellingOf a3 5 T).bind fun q5 => if q5 < 0 then (some (a3)) else ((fm_tellingOf a3 5 T).bind fun q7 => fm_chain_L24 k1 k2 T N q7)
def fm_chain (p0 : Int32) (p1 : Int32) (T : mT) : Option (Int32) := (fm_isTelling p0 T).bind fun q1 => if (b2i q1) = 0 then (some (-1)) else ((fm_in ((p1 : Int32).toInt64) 0 2).bind fun q3 => if (b2i q3) = 0 then (some (-1)) else ((fm_chain_L24 p0 p1 T FU p0).bind fun w8 => if p1 = 0 then ((fm_stepsOf p0 T).bind fun q12 => some (q12 + 1)) else (if p1 = 1 then ((fm_tellingOf w8 0 T).bind fun q11 => some q11) else (some w8))))
theorem xm_chain_L24 {l : Launch} {r : Option Value} {T' : mT} (k1 : Int32) (k2 : Int32) (T : mT) : ∀ (N : Nat) (a3 : Int32) (W0 : Int32) (_ : fm_chain_L24 k1 k2 T N a3 = some W0) (_ : MW l yy_X12_chain 2 r T' 43 [some (.ref 137), some (.int k1), some (.int k2), some (.int W0)] [] T), MW l yy_X12_chain 2 r T' 24 [some (.ref 137), some (.int k1), some (.int k2), some (.int a3)] [] T := by
  intro N
  induction N with
  | zero =>
    intro a3 W0 hf _
    cases hf
  | succ N ih =>
    intro a3 W0 hf hk1
    unfold fm_chain_L24 at hf
    refine MW.run rfl [(.aload_n 0, 0), (.iload_n 3, 0), (.iconst 5, 5)] (pc' := 27) (ls' := [some (.ref 137), some (.int k1), some (.int k2), some (.int a3)]) (st' := [.int 5, .int a3, .ref 137]) (T1 := T) (by decide +kernel) rfl ?_
    obtain ⟨q5, hq5, hf⟩ := bd_some hf
    refine MW.callV (As := [.int a3, .int 5]) (st := []) lv_RX12_278 rfl (by decide +kernel) (xm_tellingOf hq5) (by decide) (by decide) rfl (Nat.le_of_ble_eq_true rfl) rfl ?_
    show MW l yy_X12_chain 2 _ _ 30 [some (.ref 137), some (.int k1), some (.int k2), some (.int a3)] [.int q5] T
    refine MW.if_lt (off := 13) (tgt := 43) (by decide +kernel) (by decide) (fun c30_6 => ?_) (fun c30_6 => ?_)
    · rw [if_pos c30_6] at hf
      have e9 := Option.some.inj hf
      subst e9
      exact hk1
    · rw [if_neg c30_6] at hf
      refine MW.run rfl [(.aload_n 0, 0), (.iload_n 3, 0), (.iconst 5, 5)] (pc' := 36) (ls' := [some (.ref 137), some (.int k1), some (.int k2), some (.int a3)]) (st' := [.int 5, .int a3, .ref 137]) (T1 := T) (by decide +kernel) rfl ?_
      obtain ⟨q7, hq7, hf⟩ := bd_some hf
      refine MW.callV (As := [.int a3, .int 5]) (st := []) lv_RX12_278 rfl (by decide +kernel) (xm_tellingOf hq7) (by decide) (by decide) rfl (Nat.le_of_ble_eq_true rfl) rfl ?_
      show MW l yy_X12_chain 2 _ _ 39 [some (.ref 137), some (.int k1), some (.int k2), some (.int a3)] [.int q7] T
      refine MW.run rfl [(.istore_n 3, 0), (.goto (-16), 0)] (pc' := 24) (ls' := [some (.ref 137), some (.int k1), some (.int k2), some (.int q7)]) (st' := []) (T1 := T) (by decide +kernel) rfl ?_
      exact ih _ _ hf hk1
theorem xm_chain {l : Launch} {p0 : Int32} {p1 : Int32} {T : mT} {q : Int32} (hf : fm_chain p0 p1 T = some q) : MOk l yy_X12_chain 2 [.int p0, .int p1] T (some (.int q)) T := by
  refine MOk.of (ls := [some (.ref 137), some (.int p0), some (.int p1), none]) (by decide +kernel) (Nat.le_of_ble_eq_true rfl) rfl ?_
  unfold fm_chain at hf
  refine MW.run rfl [(.aload_n 0, 0), (.iload_n 1, 0)] (pc' := 2) (ls' := [some (.ref 137), some (.int p0), some (.int p1), none]) (st' := [.int p0, .ref 137]) (T1 := T) (by decide +kernel) rfl ?_
  obtain ⟨q1, hq1, hf⟩ := bd_some hf
  refine MW.callV (As := [.int p0]) (st := []) lv_RX12_331 rfl (by decide +kernel) (xm_isTelling hq1) (by decide) (by decide) rfl (Nat.le_of_ble_eq_true rfl) rfl ?_
  show MW l yy_X12_chain 2 _ _ 5 [some (.ref 137), some (.int p0), some (.int p1), none] [.int (b2i q1)] T
  refine MW.if_eq (off := 15) (tgt := 20) (by decide +kernel) (by decide) (fun c5_2 => ?_) (fun c5_2 => ?_)
  · rw [if_pos c5_2] at hf
    refine MW.run rfl [(.iconst (-1), (-1))] (pc' := 21) (ls' := [some (.ref 137), some (.int p0), some (.int p1), none]) (st' := [.int (-1)]) (T1 := T) (by decide +kernel) rfl ?_
    have e9 := Option.some.inj hf
    subst e9
    exact MW.iret rfl (by decide +kernel)
  · rw [if_neg c5_2] at hf
    refine MW.run rfl [(.iload_n 2, 0), (.i2l, 0), (.lconst 0, 0)] (pc' := 11) (ls' := [some (.ref 137), some (.int p0), some (.int p1), none]) (st' := [.long 0, .long ((p1 : Int32).toInt64)]) (T1 := T) (by decide +kernel) rfl ?_
    refine MW.ldc2 (idx := 388) (v := 2) (tb_in 1561 (by decide +kernel) (by decide +kernel)) (by decide +kernel) ?_
    obtain ⟨q3, hq3, hf⟩ := bd_some hf
    refine MW.callP (As := [.long ((p1 : Int32).toInt64), .long 0, .long 2]) (st := []) lt_RX12_110 (by decide +kernel) (xm_in hq3) (by decide) (by decide) rfl (Nat.le_of_ble_eq_true rfl) rfl ?_
    show MW l yy_X12_chain 2 _ _ 17 [some (.ref 137), some (.int p0), some (.int p1), none] [.int (b2i q3)] T
    refine MW.if_ne (off := 5) (tgt := 22) (by decide +kernel) (by decide) (fun c17_4 => ?_) (fun c17_4 => ?_)
    · rw [if_neg c17_4] at hf
      refine MW.run rfl [(.iload_n 1, 0), (.istore_n 3, 0)] (pc' := 24) (ls' := [some (.ref 137), some (.int p0), some (.int p1), some (.int p0)]) (st' := []) (T1 := T) (by decide +kernel) rfl ?_
      obtain ⟨w8, hw8, hf⟩ := bd_some hf
      refine xm_chain_L24 p0 p1 T FU _ _ hw8 ?_
      refine MW.run rfl [(.iload_n 2, 0)] (pc' := 44) (ls' := [some (.ref 137), some (.int p0), some (.int p1), some (.int w8)]) (st' := [.int p1]) (T1 := T) (by decide +kernel) rfl ?_
      refine MW.if_ne (off := 13) (tgt := 57) (by decide +kernel) (by decide) (fun c44_9 => ?_) (fun c44_9 => ?_)
      · rw [if_neg c44_9] at hf
        refine MW.run rfl [(.iload_n 2, 0), (.iconst 1, 1)] (pc' := 59) (ls' := [some (.ref 137), some (.int p0), some (.int p1), some (.int w8)]) (st' := [.int 1, .int p1]) (T1 := T) (by decide +kernel) rfl ?_
        refine MW.icmp_ne (off := 12) (tgt := 71) (by decide +kernel) (by decide) (fun c59_10 => ?_) (fun c59_10 => ?_)
        · rw [if_neg c59_10] at hf
          refine MW.run rfl [(.iload_n 3, 0)] (pc' := 72) (ls' := [some (.ref 137), some (.int p0), some (.int p1), some (.int w8)]) (st' := [.int w8]) (T1 := T) (by decide +kernel) rfl ?_
          have e9 := Option.some.inj hf
          subst e9
          exact MW.iret rfl (by decide +kernel)
        · rw [if_pos c59_10] at hf
          refine MW.run rfl [(.aload_n 0, 0), (.iload_n 3, 0), (.iconst 0, 0)] (pc' := 65) (ls' := [some (.ref 137), some (.int p0), some (.int p1), some (.int w8)]) (st' := [.int 0, .int w8, .ref 137]) (T1 := T) (by decide +kernel) rfl ?_
          obtain ⟨q11, hq11, hf⟩ := bd_some hf
          refine MW.callV (As := [.int w8, .int 0]) (st := []) lv_RX12_278 rfl (by decide +kernel) (xm_tellingOf hq11) (by decide) (by decide) rfl (Nat.le_of_ble_eq_true rfl) rfl ?_
          show MW l yy_X12_chain 2 _ _ 68 [some (.ref 137), some (.int p0), some (.int p1), some (.int w8)] [.int q11] T
          refine MW.run rfl [(.goto 4, 0)] (pc' := 72) (ls' := [some (.ref 137), some (.int p0), some (.int p1), some (.int w8)]) (st' := [.int q11]) (T1 := T) (by decide +kernel) rfl ?_
          have e9 := Option.some.inj hf
          subst e9
          exact MW.iret rfl (by decide +kernel)
      · rw [if_pos c44_9] at hf
        refine MW.run rfl [(.aload_n 0, 0), (.iload_n 1, 0)] (pc' := 49) (ls' := [some (.ref 137), some (.int p0), some (.int p1), some (.int w8)]) (st' := [.int p0, .ref 137]) (T1 := T) (by decide +kernel) rfl ?_
        obtain ⟨q12, hq12, hf⟩ := bd_some hf
        refine MW.callV (As := [.int p0]) (st := []) lv_RX12_292 rfl (by decide +kernel) (xm_stepsOf hq12) (by decide) (by decide) rfl (Nat.le_of_ble_eq_true rfl) rfl ?_
        show MW l yy_X12_chain 2 _ _ 52 [some (.ref 137), some (.int p0), some (.int p1), some (.int w8)] [.int q12] T
        refine MW.run rfl [(.iconst 1, 1), (.iadd, 0), (.goto 18, 0)] (pc' := 72) (ls' := [some (.ref 137), some (.int p0), some (.int p1), some (.int w8)]) (st' := [.int (q12 + 1)]) (T1 := T) (by decide +kernel) rfl ?_
        have e9 := Option.some.inj hf
        subst e9
        exact MW.iret rfl (by decide +kernel)
    · rw [if_pos c17_4] at hf
      refine MW.run rfl [(.iconst (-1), (-1))] (pc' := 21) (ls' := [some (.ref 137), some (.int p0), some (.int p1), none]) (st' := [.int (-1)]) (T1 := T) (by decide +kernel) rfl ?_
      have e9 := Option.some.inj hf
      subst e9
      exact MW.iret rfl (by decide +kernel)
def fm_slip_L34 (k1 : Int32) (k2 : Int32) (T : mT) : Nat → Int32 → Int32 → Option (Int32 × Int32)
  | 0, _, _ => none
  | N + 1, a3, a4 => (fm_tellingOf a4 5 T).bind fun q6 => if q6 < 0 then (some (a3, a4)) else ((fm_tellingOf a4 3 T).bind fun q8 => (fm_tellingOf a4 5 T).bind fun q9 => (fm_tellingOf q9 3 T).bind fun q10 => (fm_isOf (q8 ^^^ q10) k2).bind fun q11 => Option.bind (if (b2i q11) = 0 then (some (a3)) else (some (a4)) : Option (Int32)) fun w12 => (fm_tellingOf a4 5 T).bind fun q14 => fm_slip_L34 k1 k2 T N w12 q14)
def fm_slip (p0 : Int32) (p1 : Int32) (T : mT) : Option (Int32) := (fm_isTelling p0 T).bind fun q1 => if (b2i q1) = 0 then (some (-1)) else (bif inb 0 410 then (letv (T.1 10 (0 : Int32).toNatClampNeg) fun v3 => (fm_in ((p1 : Int32).toInt64) 0 (((v3 - 1) : Int32).toInt64)).bind fun q4 => if (b2i q4) = 0 then (some (-1)) else ((fm_slip_L34 p0 p1 T FU (-2) p0).bind fun w15 => some w15.1)) else none)
theorem xm_slip_L34 {l : Launch} {r : Option Value} {T' : mT} (k1 : Int32) (k2 : Int32) (T : mT) : ∀ (N : Nat) (a3 : Int32) (a4 : Int32) (W0 : Int32 × Int32) (_ : fm_slip_L34 k1 k2 T N a3 a4 = some W0) (_ : MW l yy_X12_slip 1 r T' 86 [some (.ref 137), some (.int k1), some (.int k2), some (.int W0.1), some (.int W0.2)] [] T), MW l yy_X12_slip 1 r T' 34 [some (.ref 137), some (.int k1), some (.int k2), some (.int a3), some (.int a4)] [] T := by
  intro N
  induction N with
  | zero =>
    intro a3 a4 W0 hf _
    cases hf
  | succ N ih =>
    intro a3 a4 W0 hf hk1
    unfold fm_slip_L34 at hf
    refine MW.run rfl [(.aload_n 0, 0), (.iload 4, 0), (.iconst 5, 5)] (pc' := 38) (ls' := [some (.ref 137), some (.int k1), some (.int k2), some (.int a3), some (.int a4)]) (st' := [.int 5, .int a4, .ref 137]) (T1 := T) (by decide +kernel) rfl ?_
    obtain ⟨q6, hq6, hf⟩ := bd_some hf
    refine MW.callV (As := [.int a4, .int 5]) (st := []) lv_RX12_278 rfl (by decide +kernel) (xm_tellingOf hq6) (by decide) (by decide) rfl (Nat.le_of_ble_eq_true rfl) rfl ?_
    show MW l yy_X12_slip 1 _ _ 41 [some (.ref 137), some (.int k1), some (.int k2), some (.int a3), some (.int a4)] [.int q6] T
    refine MW.if_lt (off := 45) (tgt := 86) (by decide +kernel) (by decide) (fun c41_7 => ?_) (fun c41_7 => ?_)
    · rw [if_pos c41_7] at hf
      have e9 := Option.some.inj hf
      subst e9
      exact hk1
    · rw [if_neg c41_7] at hf
      refine MW.run rfl [(.aload_n 0, 0), (.iload 4, 0), (.iconst 3, 3)] (pc' := 48) (ls' := [some (.ref 137), some (.int k1), some (.int k2), some (.int a3), some (.int a4)]) (st' := [.int 3, .int a4, .ref 137]) (T1 := T) (by decide +kernel) rfl ?_
      obtain ⟨q8, hq8, hf⟩ := bd_some hf
      refine MW.callV (As := [.int a4, .int 3]) (st := []) lv_RX12_278 rfl (by decide +kernel) (xm_tellingOf hq8) (by decide) (by decide) rfl (Nat.le_of_ble_eq_true rfl) rfl ?_
      show MW l yy_X12_slip 1 _ _ 51 [some (.ref 137), some (.int k1), some (.int k2), some (.int a3), some (.int a4)] [.int q8] T
      refine MW.run rfl [(.aload_n 0, 0), (.aload_n 0, 0), (.iload 4, 0), (.iconst 5, 5)] (pc' := 56) (ls' := [some (.ref 137), some (.int k1), some (.int k2), some (.int a3), some (.int a4)]) (st' := [.int 5, .int a4, .ref 137, .ref 137, .int q8]) (T1 := T) (by decide +kernel) rfl ?_
      obtain ⟨q9, hq9, hf⟩ := bd_some hf
      refine MW.callV (As := [.int a4, .int 5]) (st := [.ref 137, .int q8]) lv_RX12_278 rfl (by decide +kernel) (xm_tellingOf hq9) (by decide) (by decide) rfl (Nat.le_of_ble_eq_true rfl) rfl ?_
      show MW l yy_X12_slip 1 _ _ 59 [some (.ref 137), some (.int k1), some (.int k2), some (.int a3), some (.int a4)] [.int q9, .ref 137, .int q8] T
      refine MW.run rfl [(.iconst 3, 3)] (pc' := 60) (ls' := [some (.ref 137), some (.int k1), some (.int k2), some (.int a3), some (.int a4)]) (st' := [.int 3, .int q9, .ref 137, .int q8]) (T1 := T) (by decide +kernel) rfl ?_
      obtain ⟨q10, hq10, hf⟩ := bd_some hf
      refine MW.callV (As := [.int q9, .int 3]) (st := [.int q8]) lv_RX12_278 rfl (by decide +kernel) (xm_tellingOf hq10) (by decide) (by decide) rfl (Nat.le_of_ble_eq_true rfl) rfl ?_
      show MW l yy_X12_slip 1 _ _ 63 [some (.ref 137), some (.int k1), some (.int k2), some (.int a3), some (.int a4)] [.int q10, .int q8] T
      refine MW.run rfl [(.ixor, 0), (.iload_n 2, 0)] (pc' := 65) (ls' := [some (.ref 137), some (.int k1), some (.int k2), some (.int a3), some (.int a4)]) (st' := [.int k2, .int (q8 ^^^ q10)]) (T1 := T) (by decide +kernel) rfl ?_
      obtain ⟨q11, hq11, hf⟩ := bd_some hf
      refine MW.callP (As := [.int (q8 ^^^ q10), .int k2]) (st := []) lt_RX12_309 (by decide +kernel) (xm_isOf hq11) (by decide) (by decide) rfl (Nat.le_of_ble_eq_true rfl) rfl ?_
      show MW l yy_X12_slip 1 _ _ 68 [some (.ref 137), some (.int k1), some (.int k2), some (.int a3), some (.int a4)] [.int (b2i q11)] T
      obtain ⟨w12, hw12, hf⟩ := bd_some hf
      have hJ : MW l yy_X12_slip 1 r T' 74 [some (.ref 137), some (.int k1), some (.int k2), some (.int w12), some (.int a4)] [] T := by
        refine MW.run rfl [(.aload_n 0, 0), (.iload 4, 0), (.iconst 5, 5)] (pc' := 78) (ls' := [some (.ref 137), some (.int k1), some (.int k2), some (.int w12), some (.int a4)]) (st' := [.int 5, .int a4, .ref 137]) (T1 := T) (by decide +kernel) rfl ?_
        obtain ⟨q14, hq14, hf⟩ := bd_some hf
        refine MW.callV (As := [.int a4, .int 5]) (st := []) lv_RX12_278 rfl (by decide +kernel) (xm_tellingOf hq14) (by decide) (by decide) rfl (Nat.le_of_ble_eq_true rfl) rfl ?_
        show MW l yy_X12_slip 1 _ _ 81 [some (.ref 137), some (.int k1), some (.int k2), some (.int w12), some (.int a4)] [.int q14] T
        refine MW.run rfl [(.istore 4, 0), (.goto (-49), 0)] (pc' := 34) (ls' := [some (.ref 137), some (.int k1), some (.int k2), some (.int w12), some (.int q14)]) (st' := []) (T1 := T) (by decide +kernel) rfl ?_
        exact ih _ _ _ hf hk1
      clear hf
      refine MW.if_eq (off := 6) (tgt := 74) (by decide +kernel) (by decide) (fun c68_13 => ?_) (fun c68_13 => ?_)
      · rw [if_pos c68_13] at hw12
        have e9 := Option.some.inj hw12
        subst e9
        exact hJ
      · rw [if_neg c68_13] at hw12
        refine MW.run rfl [(.iload 4, 0), (.istore_n 3, 0)] (pc' := 74) (ls' := [some (.ref 137), some (.int k1), some (.int k2), some (.int a4), some (.int a4)]) (st' := []) (T1 := T) (by decide +kernel) rfl ?_
        have e9 := Option.some.inj hw12
        subst e9
        exact hJ
theorem xm_slip {l : Launch} {p0 : Int32} {p1 : Int32} {T : mT} {q : Int32} (hf : fm_slip p0 p1 T = some q) : MOk l yy_X12_slip 1 [.int p0, .int p1] T (some (.int q)) T := by
  refine MOk.of (ls := [some (.ref 137), some (.int p0), some (.int p1), none, none]) (by decide +kernel) (Nat.le_of_ble_eq_true rfl) rfl ?_
  unfold fm_slip at hf
  refine MW.run rfl [(.aload_n 0, 0), (.iload_n 1, 0)] (pc' := 2) (ls' := [some (.ref 137), some (.int p0), some (.int p1), none, none]) (st' := [.int p0, .ref 137]) (T1 := T) (by decide +kernel) rfl ?_
  obtain ⟨q1, hq1, hf⟩ := bd_some hf
  refine MW.callV (As := [.int p0]) (st := []) lv_RX12_331 rfl (by decide +kernel) (xm_isTelling hq1) (by decide) (by decide) rfl (Nat.le_of_ble_eq_true rfl) rfl ?_
  show MW l yy_X12_slip 1 _ _ 5 [some (.ref 137), some (.int p0), some (.int p1), none, none] [.int (b2i q1)] T
  refine MW.if_eq (off := 21) (tgt := 26) (by decide +kernel) (by decide) (fun c5_2 => ?_) (fun c5_2 => ?_)
  · rw [if_pos c5_2] at hf
    refine MW.run rfl [(.iconst (-1), (-1))] (pc' := 27) (ls' := [some (.ref 137), some (.int p0), some (.int p1), none, none]) (st' := [.int (-1)]) (T1 := T) (by decide +kernel) rfl ?_
    have e9 := Option.some.inj hf
    subst e9
    exact MW.iret rfl (by decide +kernel)
  · rw [if_neg c5_2] at hf
    refine MW.run rfl [(.iload_n 2, 0), (.i2l, 0), (.lconst 0, 0), (.aload_n 0, 0), (.getfield 39, 0), (.iconst 0, 0)] (pc' := 16) (ls' := [some (.ref 137), some (.int p0), some (.int p1), none, none]) (st' := [.int 0, .ref 147, .long 0, .long ((p1 : Int32).toInt64)]) (T1 := T) (by decide +kernel) rfl ?_
    obtain ⟨hi_v3, hf⟩ := bi_some hf
    obtain ⟨v3, hv3, hf⟩ := letv_some hf
    refine MW.iald 10 410 rfl (by decide) rfl (by decide +kernel) (inb_in hi_v3) ?_
    rw [← hv3]
    refine MW.run rfl [(.iconst 1, 1), (.isub, 0), (.i2l, 0)] (pc' := 20) (ls' := [some (.ref 137), some (.int p0), some (.int p1), none, none]) (st' := [.long (((v3 - 1) : Int32).toInt64), .long 0, .long ((p1 : Int32).toInt64)]) (T1 := T) (by decide +kernel) rfl ?_
    obtain ⟨q4, hq4, hf⟩ := bd_some hf
    refine MW.callP (As := [.long ((p1 : Int32).toInt64), .long 0, .long (((v3 - 1) : Int32).toInt64)]) (st := []) lt_RX12_110 (by decide +kernel) (xm_in hq4) (by decide) (by decide) rfl (Nat.le_of_ble_eq_true rfl) rfl ?_
    show MW l yy_X12_slip 1 _ _ 23 [some (.ref 137), some (.int p0), some (.int p1), none, none] [.int (b2i q4)] T
    refine MW.if_ne (off := 5) (tgt := 28) (by decide +kernel) (by decide) (fun c23_5 => ?_) (fun c23_5 => ?_)
    · rw [if_neg c23_5] at hf
      refine MW.run rfl [(.bipush (-2), (-2)), (.istore_n 3, 0), (.iload_n 1, 0), (.istore 4, 0)] (pc' := 34) (ls' := [some (.ref 137), some (.int p0), some (.int p1), some (.int (-2)), some (.int p0)]) (st' := []) (T1 := T) (by decide +kernel) rfl ?_
      obtain ⟨w15, hw15, hf⟩ := bd_some hf
      refine xm_slip_L34 p0 p1 T FU _ _ _ hw15 ?_
      refine MW.run rfl [(.iload_n 3, 0)] (pc' := 87) (ls' := [some (.ref 137), some (.int p0), some (.int p1), some (.int w15.1), some (.int w15.2)]) (st' := [.int w15.1]) (T1 := T) (by decide +kernel) rfl ?_
      have e9 := Option.some.inj hf
      subst e9
      exact MW.iret rfl (by decide +kernel)
    · rw [if_pos c23_5] at hf
      refine MW.run rfl [(.iconst (-1), (-1))] (pc' := 27) (ls' := [some (.ref 137), some (.int p0), some (.int p1), none, none]) (st' := [.int (-1)]) (T1 := T) (by decide +kernel) rfl ?_
      have e9 := Option.some.inj hf
      subst e9
      exact MW.iret rfl (by decide +kernel)
def fm_wish (p0 : Int32) (p1 : Int32) (p2 : Int32) (p3 : Int32) (T : mT) : Option (Int32 × mT) := if p0 = (-1) then (bif inb 408 410 then (letv (ma T 10 (408 : Int32).toNatClampNeg 0) fun T20 => some (0, T20)) else none) else ((fm_isPerson p0 T).bind fun q2 => if (b2i q2) = 0 then (some ((-2), T)) else ((fm_in ((p1 : Int32).toInt64) 0 15).bind fun q4 => if (b2i q4) = 0 then (some ((-2), T)) else ((fm_in ((p2 : Int32).toInt64) ((p1 : Int32).toInt64) 15).bind fun q6 => if (b2i q6) = 0 then (some ((-2), T)) else ((fm_in ((p3 : Int32).toInt64) 1 99).bind fun q8 => if (b2i q8) = 0 then (some ((-2), T)) else (bif inb 408 410 then (letv (T.1 10 (408 : Int32).toNatClampNeg) fun v10 => if v10 = 10 then (some ((-2), T)) else (bif inb 408 410 then (letv (T.1 10 (408 : Int32).toNatClampNeg) fun v12 => bif inb (352 + (4 * v12)) 410 then (letv (ma T 10 ((352 + (4 * v12)) : Int32).toNatClampNeg p0) fun T13 => bif inb ((352 + (4 * v12)) + 1) 410 then (letv (ma T13 10 (((352 + (4 * v12)) + 1) : Int32).toNatClampNeg p1) fun T14 => bif inb ((352 + (4 * v12)) + 2) 410 then (letv (ma T14 10 (((352 + (4 * v12)) + 2) : Int32).toNatClampNeg p2) fun T15 => bif inb ((352 + (4 * v12)) + 3) 410 then (letv (ma T15 10 (((352 + (4 * v12)) + 3) : Int32).toNatClampNeg p3) fun T16 => bif inb 408 410 then (letv (T16.1 10 (408 : Int32).toNatClampNeg) fun v17 => bif inb 408 410 then (letv (ma T16 10 (408 : Int32).toNatClampNeg (v17 + 1)) fun T18 => bif inb 408 410 then (letv (T18.1 10 (408 : Int32).toNatClampNeg) fun v19 => some (v19, T18)) else none) else none) else none) else none) else none) else none) else none) else none)) else none)))))
theorem xm_wish {l : Launch} {p0 : Int32} {p1 : Int32} {p2 : Int32} {p3 : Int32} {T : mT} {q : Int32 × mT} (hf : fm_wish p0 p1 p2 p3 T = some q) : MOk l yy_X12_wish 1 [.int p0, .int p1, .int p2, .int p3] T (some (.int q.1)) q.2 := by
  refine MOk.of (ls := [some (.ref 137), some (.int p0), some (.int p1), some (.int p2), some (.int p3), none]) (by decide +kernel) (Nat.le_of_ble_eq_true rfl) rfl ?_
  unfold fm_wish at hf
  refine MW.run rfl [(.iload_n 1, 0), (.iconst (-1), (-1))] (pc' := 2) (ls' := [some (.ref 137), some (.int p0), some (.int p1), some (.int p2), some (.int p3), none]) (st' := [.int (-1), .int p0]) (T1 := T) (by decide +kernel) rfl ?_
  refine MW.icmp_ne (off := 14) (tgt := 16) (by decide +kernel) (by decide) (fun c2_1 => ?_) (fun c2_1 => ?_)
  · rw [if_neg c2_1] at hf
    refine MW.run rfl [(.aload_n 0, 0), (.iload_n 1, 0)] (pc' := 18) (ls' := [some (.ref 137), some (.int p0), some (.int p1), some (.int p2), some (.int p3), none]) (st' := [.int p0, .ref 137]) (T1 := T) (by decide +kernel) rfl ?_
    obtain ⟨q2, hq2, hf⟩ := bd_some hf
    refine MW.callV (As := [.int p0]) (st := []) lv_RX12_318 rfl (by decide +kernel) (xm_isPerson hq2) (by decide) (by decide) rfl (Nat.le_of_ble_eq_true rfl) rfl ?_
    show MW l yy_X12_wish 1 _ _ 21 [some (.ref 137), some (.int p0), some (.int p1), some (.int p2), some (.int p3), none] [.int (b2i q2)] T
    refine MW.if_eq (off := 54) (tgt := 75) (by decide +kernel) (by decide) (fun c21_3 => ?_) (fun c21_3 => ?_)
    · rw [if_pos c21_3] at hf
      refine MW.run rfl [(.bipush (-2), (-2))] (pc' := 77) (ls' := [some (.ref 137), some (.int p0), some (.int p1), some (.int p2), some (.int p3), none]) (st' := [.int (-2)]) (T1 := T) (by decide +kernel) rfl ?_
      have e9 := Option.some.inj hf
      subst e9
      exact MW.iret rfl (by decide +kernel)
    · rw [if_neg c21_3] at hf
      refine MW.run rfl [(.iload_n 2, 0), (.i2l, 0), (.lconst 0, 0)] (pc' := 27) (ls' := [some (.ref 137), some (.int p0), some (.int p1), some (.int p2), some (.int p3), none]) (st' := [.long 0, .long ((p1 : Int32).toInt64)]) (T1 := T) (by decide +kernel) rfl ?_
      refine MW.ldc2 (idx := 390) (v := 15) (tb_in 1570 (by decide +kernel) (by decide +kernel)) (by decide +kernel) ?_
      obtain ⟨q4, hq4, hf⟩ := bd_some hf
      refine MW.callP (As := [.long ((p1 : Int32).toInt64), .long 0, .long 15]) (st := []) lt_RX12_110 (by decide +kernel) (xm_in hq4) (by decide) (by decide) rfl (Nat.le_of_ble_eq_true rfl) rfl ?_
      show MW l yy_X12_wish 1 _ _ 33 [some (.ref 137), some (.int p0), some (.int p1), some (.int p2), some (.int p3), none] [.int (b2i q4)] T
      refine MW.if_eq (off := 42) (tgt := 75) (by decide +kernel) (by decide) (fun c33_5 => ?_) (fun c33_5 => ?_)
      · rw [if_pos c33_5] at hf
        refine MW.run rfl [(.bipush (-2), (-2))] (pc' := 77) (ls' := [some (.ref 137), some (.int p0), some (.int p1), some (.int p2), some (.int p3), none]) (st' := [.int (-2)]) (T1 := T) (by decide +kernel) rfl ?_
        have e9 := Option.some.inj hf
        subst e9
        exact MW.iret rfl (by decide +kernel)
      · rw [if_neg c33_5] at hf
        refine MW.run rfl [(.iload_n 3, 0), (.i2l, 0), (.iload_n 2, 0), (.i2l, 0)] (pc' := 40) (ls' := [some (.ref 137), some (.int p0), some (.int p1), some (.int p2), some (.int p3), none]) (st' := [.long ((p1 : Int32).toInt64), .long ((p2 : Int32).toInt64)]) (T1 := T) (by decide +kernel) rfl ?_
        refine MW.ldc2 (idx := 390) (v := 15) (tb_in 1570 (by decide +kernel) (by decide +kernel)) (by decide +kernel) ?_
        obtain ⟨q6, hq6, hf⟩ := bd_some hf
        refine MW.callP (As := [.long ((p2 : Int32).toInt64), .long ((p1 : Int32).toInt64), .long 15]) (st := []) lt_RX12_110 (by decide +kernel) (xm_in hq6) (by decide) (by decide) rfl (Nat.le_of_ble_eq_true rfl) rfl ?_
        show MW l yy_X12_wish 1 _ _ 46 [some (.ref 137), some (.int p0), some (.int p1), some (.int p2), some (.int p3), none] [.int (b2i q6)] T
        refine MW.if_eq (off := 29) (tgt := 75) (by decide +kernel) (by decide) (fun c46_7 => ?_) (fun c46_7 => ?_)
        · rw [if_pos c46_7] at hf
          refine MW.run rfl [(.bipush (-2), (-2))] (pc' := 77) (ls' := [some (.ref 137), some (.int p0), some (.int p1), some (.int p2), some (.int p3), none]) (st' := [.int (-2)]) (T1 := T) (by decide +kernel) rfl ?_
          have e9 := Option.some.inj hf
          subst e9
          exact MW.iret rfl (by decide +kernel)
        · rw [if_neg c46_7] at hf
          refine MW.run rfl [(.iload 4, 0), (.i2l, 0), (.lconst 1, 0)] (pc' := 53) (ls' := [some (.ref 137), some (.int p0), some (.int p1), some (.int p2), some (.int p3), none]) (st' := [.long 1, .long ((p3 : Int32).toInt64)]) (T1 := T) (by decide +kernel) rfl ?_
          refine MW.ldc2 (idx := 392) (v := 99) (tb_in 1571 (by decide +kernel) (by decide +kernel)) (by decide +kernel) ?_
          obtain ⟨q8, hq8, hf⟩ := bd_some hf
          refine MW.callP (As := [.long ((p3 : Int32).toInt64), .long 1, .long 99]) (st := []) lt_RX12_110 (by decide +kernel) (xm_in hq8) (by decide) (by decide) rfl (Nat.le_of_ble_eq_true rfl) rfl ?_
          show MW l yy_X12_wish 1 _ _ 59 [some (.ref 137), some (.int p0), some (.int p1), some (.int p2), some (.int p3), none] [.int (b2i q8)] T
          refine MW.if_eq (off := 16) (tgt := 75) (by decide +kernel) (by decide) (fun c59_9 => ?_) (fun c59_9 => ?_)
          · rw [if_pos c59_9] at hf
            refine MW.run rfl [(.bipush (-2), (-2))] (pc' := 77) (ls' := [some (.ref 137), some (.int p0), some (.int p1), some (.int p2), some (.int p3), none]) (st' := [.int (-2)]) (T1 := T) (by decide +kernel) rfl ?_
            have e9 := Option.some.inj hf
            subst e9
            exact MW.iret rfl (by decide +kernel)
          · rw [if_neg c59_9] at hf
            refine MW.run rfl [(.aload_n 0, 0), (.getfield 39, 0), (.sipush 408, 408)] (pc' := 69) (ls' := [some (.ref 137), some (.int p0), some (.int p1), some (.int p2), some (.int p3), none]) (st' := [.int 408, .ref 147]) (T1 := T) (by decide +kernel) rfl ?_
            obtain ⟨hi_v10, hf⟩ := bi_some hf
            obtain ⟨v10, hv10, hf⟩ := letv_some hf
            refine MW.iald 10 410 rfl (by decide) rfl (by decide +kernel) (inb_in hi_v10) ?_
            rw [← hv10]
            refine MW.run rfl [(.bipush 10, 10)] (pc' := 72) (ls' := [some (.ref 137), some (.int p0), some (.int p1), some (.int p2), some (.int p3), none]) (st' := [.int 10, .int v10]) (T1 := T) (by decide +kernel) rfl ?_
            refine MW.icmp_ne (off := 6) (tgt := 78) (by decide +kernel) (by decide) (fun c72_11 => ?_) (fun c72_11 => ?_)
            · rw [if_neg c72_11] at hf
              refine MW.run rfl [(.sipush 352, 352), (.iconst 4, 4), (.aload_n 0, 0), (.getfield 39, 0), (.sipush 408, 408)] (pc' := 89) (ls' := [some (.ref 137), some (.int p0), some (.int p1), some (.int p2), some (.int p3), none]) (st' := [.int 408, .ref 147, .int 4, .int 352]) (T1 := T) (by decide +kernel) rfl ?_
              obtain ⟨hi_v12, hf⟩ := bi_some hf
              obtain ⟨v12, hv12, hf⟩ := letv_some hf
              refine MW.iald 10 410 rfl (by decide) rfl (by decide +kernel) (inb_in hi_v12) ?_
              rw [← hv12]
              refine MW.run rfl [(.imul, 0), (.iadd, 0), (.istore 5, 0), (.aload_n 0, 0), (.getfield 39, 0), (.iload 5, 0), (.iload_n 1, 0)] (pc' := 101) (ls' := [some (.ref 137), some (.int p0), some (.int p1), some (.int p2), some (.int p3), some (.int (352 + (4 * v12)))]) (st' := [.int p0, .int (352 + (4 * v12)), .ref 147]) (T1 := T) (by decide +kernel) rfl ?_
              obtain ⟨hi_T13, hf⟩ := bi_some hf
              obtain ⟨T13, hT13, hf⟩ := letv_some hf
              refine MW.iast 10 410 rfl (by decide) (fun _ => rfl) (by decide +kernel) (inb_in hi_T13) ?_
              rw [← hT13]
              refine MW.run rfl [(.aload_n 0, 0), (.getfield 39, 0), (.iload 5, 0), (.iconst 1, 1), (.iadd, 0), (.iload_n 2, 0)] (pc' := 111) (ls' := [some (.ref 137), some (.int p0), some (.int p1), some (.int p2), some (.int p3), some (.int (352 + (4 * v12)))]) (st' := [.int p1, .int ((352 + (4 * v12)) + 1), .ref 147]) (T1 := T13) (by decide +kernel) rfl ?_
              obtain ⟨hi_T14, hf⟩ := bi_some hf
              obtain ⟨T14, hT14, hf⟩ := letv_some hf
              refine MW.iast 10 410 rfl (by decide) (fun _ => rfl) (by decide +kernel) (inb_in hi_T14) ?_
              rw [← hT14]
              refine MW.run rfl [(.aload_n 0, 0), (.getfield 39, 0), (.iload 5, 0), (.iconst 2, 2), (.iadd, 0), (.iload_n 3, 0)] (pc' := 121) (ls' := [some (.ref 137), some (.int p0), some (.int p1), some (.int p2), some (.int p3), some (.int (352 + (4 * v12)))]) (st' := [.int p2, .int ((352 + (4 * v12)) + 2), .ref 147]) (T1 := T14) (by decide +kernel) rfl ?_
              obtain ⟨hi_T15, hf⟩ := bi_some hf
              obtain ⟨T15, hT15, hf⟩ := letv_some hf
              refine MW.iast 10 410 rfl (by decide) (fun _ => rfl) (by decide +kernel) (inb_in hi_T15) ?_
              rw [← hT15]
              refine MW.run rfl [(.aload_n 0, 0), (.getfield 39, 0), (.iload 5, 0), (.iconst 3, 3), (.iadd, 0), (.iload 4, 0)] (pc' := 132) (ls' := [some (.ref 137), some (.int p0), some (.int p1), some (.int p2), some (.int p3), some (.int (352 + (4 * v12)))]) (st' := [.int p3, .int ((352 + (4 * v12)) + 3), .ref 147]) (T1 := T15) (by decide +kernel) rfl ?_
              obtain ⟨hi_T16, hf⟩ := bi_some hf
              obtain ⟨T16, hT16, hf⟩ := letv_some hf
              refine MW.iast 10 410 rfl (by decide) (fun _ => rfl) (by decide +kernel) (inb_in hi_T16) ?_
              rw [← hT16]
              refine MW.run rfl [(.aload_n 0, 0), (.getfield 39, 0), (.sipush 408, 408), (.dup2, 0)] (pc' := 141) (ls' := [some (.ref 137), some (.int p0), some (.int p1), some (.int p2), some (.int p3), some (.int (352 + (4 * v12)))]) (st' := [.int 408, .ref 147, .int 408, .ref 147]) (T1 := T16) (by decide +kernel) rfl ?_
              obtain ⟨hi_v17, hf⟩ := bi_some hf
              obtain ⟨v17, hv17, hf⟩ := letv_some hf
              refine MW.iald 10 410 rfl (by decide) rfl (by decide +kernel) (inb_in hi_v17) ?_
              rw [← hv17]
              refine MW.run rfl [(.iconst 1, 1), (.iadd, 0)] (pc' := 144) (ls' := [some (.ref 137), some (.int p0), some (.int p1), some (.int p2), some (.int p3), some (.int (352 + (4 * v12)))]) (st' := [.int (v17 + 1), .int 408, .ref 147]) (T1 := T16) (by decide +kernel) rfl ?_
              obtain ⟨hi_T18, hf⟩ := bi_some hf
              obtain ⟨T18, hT18, hf⟩ := letv_some hf
              refine MW.iast 10 410 rfl (by decide) (fun _ => rfl) (by decide +kernel) (inb_in hi_T18) ?_
              rw [← hT18]
              refine MW.run rfl [(.aload_n 0, 0), (.getfield 39, 0), (.sipush 408, 408)] (pc' := 152) (ls' := [some (.ref 137), some (.int p0), some (.int p1), some (.int p2), some (.int p3), some (.int (352 + (4 * v12)))]) (st' := [.int 408, .ref 147]) (T1 := T18) (by decide +kernel) rfl ?_
              obtain ⟨hi_v19, hf⟩ := bi_some hf
              obtain ⟨v19, hv19, hf⟩ := letv_some hf
              refine MW.iald 10 410 rfl (by decide) rfl (by decide +kernel) (inb_in hi_v19) ?_
              rw [← hv19]
              have e9 := Option.some.inj hf
              subst e9
              exact MW.iret rfl (by decide +kernel)
            · rw [if_pos c72_11] at hf
              refine MW.run rfl [(.bipush (-2), (-2))] (pc' := 77) (ls' := [some (.ref 137), some (.int p0), some (.int p1), some (.int p2), some (.int p3), none]) (st' := [.int (-2)]) (T1 := T) (by decide +kernel) rfl ?_
              have e9 := Option.some.inj hf
              subst e9
              exact MW.iret rfl (by decide +kernel)
  · rw [if_pos c2_1] at hf
    refine MW.run rfl [(.aload_n 0, 0), (.getfield 39, 0), (.sipush 408, 408), (.iconst 0, 0)] (pc' := 13) (ls' := [some (.ref 137), some (.int p0), some (.int p1), some (.int p2), some (.int p3), none]) (st' := [.int 0, .int 408, .ref 147]) (T1 := T) (by decide +kernel) rfl ?_
    obtain ⟨hi_T20, hf⟩ := bi_some hf
    obtain ⟨T20, hT20, hf⟩ := letv_some hf
    refine MW.iast 10 410 rfl (by decide) (fun _ => rfl) (by decide +kernel) (inb_in hi_T20) ?_
    rw [← hT20]
    refine MW.run rfl [(.iconst 0, 0)] (pc' := 15) (ls' := [some (.ref 137), some (.int p0), some (.int p1), some (.int p2), some (.int p3), none]) (st' := [.int 0]) (T1 := T20) (by decide +kernel) rfl ?_
    have e9 := Option.some.inj hf
    subst e9
    exact MW.iret rfl (by decide +kernel)
def fm_servedAt_L6 (k1 : Int32) (k2 : Int32) (k3 : Int32) (T : mT) : Nat → Int32 → Int32 → Option (Int32 × Int32)
  | 0, _, _ => none
  | N + 1, a4, a5 => bif inb 408 410 then (letv (T.1 10 (408 : Int32).toNatClampNeg) fun v1 => if v1 ≤ a5 then (some (a4, a5)) else (bif inb (352 + (4 * a5)) 410 then (letv (T.1 10 ((352 + (4 * a5)) : Int32).toNatClampNeg) fun v3 => if v3 = k2 then (bif inb ((352 + (4 * a5)) + 1) 410 then (letv (T.1 10 (((352 + (4 * a5)) + 1) : Int32).toNatClampNeg) fun v5 => bif inb ((352 + (4 * a5)) + 2) 410 then (letv (T.1 10 (((352 + (4 * a5)) + 2) : Int32).toNatClampNeg) fun v6 => (fm_in ((k1 : Int32).toInt64) ((v5 : Int32).toInt64) ((v6 : Int32).toInt64)).bind fun q7 => if (b2i q7) = 0 then (fm_servedAt_L6 k1 k2 k3 T N (a4 ||| 0) (a5 + 1)) else (fm_servedAt_L6 k1 k2 k3 T N (a4 ||| (1 <<< (a5 &&& 31))) (a5 + 1))) else none) else none) else (fm_servedAt_L6 k1 k2 k3 T N (a4 ||| 0) (a5 + 1))) else none)) else none
def fm_servedAt (p0 : Int32) (p1 : Int32) (p2 : Int32) (T : mT) : Option (Int32) := (fm_servedAt_L6 p0 p1 p2 T FU p2 0).bind fun w9 => some w9.1
theorem xm_servedAt_L6 {l : Launch} {r : Option Value} {T' : mT} (k1 : Int32) (k2 : Int32) (k3 : Int32) (T : mT) : ∀ (N : Nat) (a4 : Int32) (a5 : Int32) (W0 : Int32 × Int32) (_ : fm_servedAt_L6 k1 k2 k3 T N a4 a5 = some W0) (_ : MW l yy_X12_servedAt 1 r T' 87 [some (.ref 137), some (.int k1), some (.int k2), some (.int k3), some (.int W0.1), some (.int W0.2), none] [] T), MW l yy_X12_servedAt 1 r T' 6 [some (.ref 137), some (.int k1), some (.int k2), some (.int k3), some (.int a4), some (.int a5), none] [] T := by
  intro N
  induction N with
  | zero =>
    intro a4 a5 W0 hf _
    cases hf
  | succ N ih =>
    intro a4 a5 W0 hf hk1
    unfold fm_servedAt_L6 at hf
    refine MW.run rfl [(.iload 5, 0), (.aload_n 0, 0), (.getfield 39, 0), (.sipush 408, 408)] (pc' := 15) (ls' := [some (.ref 137), some (.int k1), some (.int k2), some (.int k3), some (.int a4), some (.int a5), none]) (st' := [.int 408, .ref 147, .int a5]) (T1 := T) (by decide +kernel) rfl ?_
    obtain ⟨hi_v1, hf⟩ := bi_some hf
    obtain ⟨v1, hv1, hf⟩ := letv_some hf
    refine MW.iald 10 410 rfl (by decide) rfl (by decide +kernel) (inb_in hi_v1) ?_
    rw [← hv1]
    refine MW.icmp_ge (off := 71) (tgt := 87) (by decide +kernel) (by decide) (fun c16_2 => ?_) (fun c16_2 => ?_)
    · rw [if_pos c16_2] at hf
      have e9 := Option.some.inj hf
      subst e9
      exact hk1
    · rw [if_neg c16_2] at hf
      refine MW.run rfl [(.sipush 352, 352), (.iconst 4, 4), (.iload 5, 0), (.imul, 0), (.iadd, 0), (.istore 6, 0), (.iload 4, 0), (.aload_n 0, 0), (.getfield 39, 0), (.iload 6, 0)] (pc' := 37) (ls' := [some (.ref 137), some (.int k1), some (.int k2), some (.int k3), some (.int a4), some (.int a5), some (.int (352 + (4 * a5)))]) (st' := [.int (352 + (4 * a5)), .ref 147, .int a4]) (T1 := T) (by decide +kernel) rfl ?_
      obtain ⟨hi_v3, hf⟩ := bi_some hf
      obtain ⟨v3, hv3, hf⟩ := letv_some hf
      refine MW.iald 10 410 rfl (by decide) rfl (by decide +kernel) (inb_in hi_v3) ?_
      rw [← hv3]
      refine MW.run rfl [(.iload_n 2, 0)] (pc' := 39) (ls' := [some (.ref 137), some (.int k1), some (.int k2), some (.int k3), some (.int a4), some (.int a5), some (.int (352 + (4 * a5)))]) (st' := [.int k2, .int v3, .int a4]) (T1 := T) (by decide +kernel) rfl ?_
      refine MW.icmp_ne (off := 38) (tgt := 77) (by decide +kernel) (by decide) (fun c39_4 => ?_) (fun c39_4 => ?_)
      · rw [if_neg c39_4] at hf
        refine MW.run rfl [(.iconst 0, 0), (.ior, 0), (.istore 4, 0), (.iinc 5 1, 1), (.goto (-78), 0)] (pc' := 6) (ls' := [some (.ref 137), some (.int k1), some (.int k2), some (.int k3), some (.int (a4 ||| 0)), some (.int (a5 + 1)), some (.int (352 + (4 * a5)))]) (st' := []) (T1 := T) (by decide +kernel) rfl ?_
        refine MW.fgt (ls' := [some (.ref 137), some (.int k1), some (.int k2), some (.int k3), some (.int (a4 ||| 0)), some (.int (a5 + 1)), none]) (by repeat' (first | exact trivial | refine ⟨rfl, ?_⟩)) ?_
        exact ih _ _ _ hf hk1
      · rw [if_pos c39_4] at hf
        refine MW.run rfl [(.iload_n 1, 0), (.i2l, 0), (.aload_n 0, 0), (.getfield 39, 0), (.iload 6, 0), (.iconst 1, 1), (.iadd, 0)] (pc' := 52) (ls' := [some (.ref 137), some (.int k1), some (.int k2), some (.int k3), some (.int a4), some (.int a5), some (.int (352 + (4 * a5)))]) (st' := [.int ((352 + (4 * a5)) + 1), .ref 147, .long ((k1 : Int32).toInt64), .int a4]) (T1 := T) (by decide +kernel) rfl ?_
        obtain ⟨hi_v5, hf⟩ := bi_some hf
        obtain ⟨v5, hv5, hf⟩ := letv_some hf
        refine MW.iald 10 410 rfl (by decide) rfl (by decide +kernel) (inb_in hi_v5) ?_
        rw [← hv5]
        refine MW.run rfl [(.i2l, 0), (.aload_n 0, 0), (.getfield 39, 0), (.iload 6, 0), (.iconst 2, 2), (.iadd, 0)] (pc' := 62) (ls' := [some (.ref 137), some (.int k1), some (.int k2), some (.int k3), some (.int a4), some (.int a5), some (.int (352 + (4 * a5)))]) (st' := [.int ((352 + (4 * a5)) + 2), .ref 147, .long ((v5 : Int32).toInt64), .long ((k1 : Int32).toInt64), .int a4]) (T1 := T) (by decide +kernel) rfl ?_
        obtain ⟨hi_v6, hf⟩ := bi_some hf
        obtain ⟨v6, hv6, hf⟩ := letv_some hf
        refine MW.iald 10 410 rfl (by decide) rfl (by decide +kernel) (inb_in hi_v6) ?_
        rw [← hv6]
        refine MW.run rfl [(.i2l, 0)] (pc' := 64) (ls' := [some (.ref 137), some (.int k1), some (.int k2), some (.int k3), some (.int a4), some (.int a5), some (.int (352 + (4 * a5)))]) (st' := [.long ((v6 : Int32).toInt64), .long ((v5 : Int32).toInt64), .long ((k1 : Int32).toInt64), .int a4]) (T1 := T) (by decide +kernel) rfl ?_
        obtain ⟨q7, hq7, hf⟩ := bd_some hf
        refine MW.callP (As := [.long ((k1 : Int32).toInt64), .long ((v5 : Int32).toInt64), .long ((v6 : Int32).toInt64)]) (st := [.int a4]) lt_RX12_110 (by decide +kernel) (xm_in hq7) (by decide) (by decide) rfl (Nat.le_of_ble_eq_true rfl) rfl ?_
        show MW l yy_X12_servedAt 1 _ _ 67 [some (.ref 137), some (.int k1), some (.int k2), some (.int k3), some (.int a4), some (.int a5), some (.int (352 + (4 * a5)))] [.int (b2i q7), .int a4] T
        refine MW.if_eq (off := 10) (tgt := 77) (by decide +kernel) (by decide) (fun c67_8 => ?_) (fun c67_8 => ?_)
        · rw [if_pos c67_8] at hf
          refine MW.run rfl [(.iconst 0, 0), (.ior, 0), (.istore 4, 0), (.iinc 5 1, 1), (.goto (-78), 0)] (pc' := 6) (ls' := [some (.ref 137), some (.int k1), some (.int k2), some (.int k3), some (.int (a4 ||| 0)), some (.int (a5 + 1)), some (.int (352 + (4 * a5)))]) (st' := []) (T1 := T) (by decide +kernel) rfl ?_
          refine MW.fgt (ls' := [some (.ref 137), some (.int k1), some (.int k2), some (.int k3), some (.int (a4 ||| 0)), some (.int (a5 + 1)), none]) (by repeat' (first | exact trivial | refine ⟨rfl, ?_⟩)) ?_
          exact ih _ _ _ hf hk1
        · rw [if_neg c67_8] at hf
          refine MW.run rfl [(.iconst 1, 1), (.iload 5, 0), (.ishl, 0), (.goto 4, 0), (.ior, 0), (.istore 4, 0), (.iinc 5 1, 1), (.goto (-78), 0)] (pc' := 6) (ls' := [some (.ref 137), some (.int k1), some (.int k2), some (.int k3), some (.int (a4 ||| (1 <<< (a5 &&& 31)))), some (.int (a5 + 1)), some (.int (352 + (4 * a5)))]) (st' := []) (T1 := T) (by decide +kernel) rfl ?_
          refine MW.fgt (ls' := [some (.ref 137), some (.int k1), some (.int k2), some (.int k3), some (.int (a4 ||| (1 <<< (a5 &&& 31)))), some (.int (a5 + 1)), none]) (by repeat' (first | exact trivial | refine ⟨rfl, ?_⟩)) ?_
          exact ih _ _ _ hf hk1
theorem xm_servedAt {l : Launch} {p0 : Int32} {p1 : Int32} {p2 : Int32} {T : mT} {q : Int32} (hf : fm_servedAt p0 p1 p2 T = some q) : MOk l yy_X12_servedAt 1 [.int p0, .int p1, .int p2] T (some (.int q)) T := by
  refine MOk.of (ls := [some (.ref 137), some (.int p0), some (.int p1), some (.int p2), none, none, none]) (by decide +kernel) (Nat.le_of_ble_eq_true rfl) rfl ?_
  unfold fm_servedAt at hf
  refine MW.run rfl [(.iload_n 3, 0), (.istore 4, 0), (.iconst 0, 0), (.istore 5, 0)] (pc' := 6) (ls' := [some (.ref 137), some (.int p0), some (.int p1), some (.int p2), some (.int p2), some (.int 0), none]) (st' := []) (T1 := T) (by decide +kernel) rfl ?_
  obtain ⟨w9, hw9, hf⟩ := bd_some hf
  refine xm_servedAt_L6 p0 p1 p2 T FU _ _ _ hw9 ?_
  refine MW.run rfl [(.iload 4, 0)] (pc' := 89) (ls' := [some (.ref 137), some (.int p0), some (.int p1), some (.int p2), some (.int w9.1), some (.int w9.2), none]) (st' := [.int w9.1]) (T1 := T) (by decide +kernel) rfl ?_
  have e9 := Option.some.inj hf
  subst e9
  exact MW.iret rfl (by decide +kernel)
