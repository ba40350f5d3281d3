/-! ===== the class, method by method (by program) 9 ===== -/
def fc_X4_marksAbove_L4 (k0 : Nat) (k1 : Nat) (S : cT) : Nat → Int32 → Int32 → Option (Int32 × Int32)
  | 0, _, _ => none
  | N + 1, a2, a3 => if (S.1 k1 8) ≤ a3 then (some (a2, a3)) else (if 6 ≤ a3 then (some (a2, a3)) else (bif inb a3 6 then (letv (S.1 (k0 + 4) (a3 : Int32).toNatClampNeg) fun v3 => if v3 ≤ 0 then (fc_X4_marksAbove_L4 k0 k1 S N a2 (a3 + 1)) else (fc_X4_marksAbove_L4 k0 k1 S N (a2 ||| ((1 : Int32) <<< (a3 &&& 31))) (a3 + 1))) else none))
def fc_X4_marksAbove (b : Nat) (p0 : Nat) (S : cT) : Option (Int32) := (fc_X4_marksAbove_L4 b p0 S FU 0 0).bind fun w5 => some w5.1
theorem xc_X4_marksAbove_L4 {l : Launch} {r : Option Value} {S' : cT} (k0 : Nat) (k1 : Nat) (S : cT) (hk0 : cK k0 = 3) (hk1 : cK k1 = 2) : ∀ (N : Nat) (a2 : Int32) (a3 : Int32) (W0 : Int32 × Int32) (_ : fc_X4_marksAbove_L4 k0 k1 S N a2 a3 = some W0) (_ : CW l yy_X4_marksAbove 0 r S' 39 [some (.ref k0), some (.ref k1), some (.int W0.1), some (.int W0.2)] [] S), CW l yy_X4_marksAbove 0 r S' 4 [some (.ref k0), some (.ref k1), some (.int a2), some (.int a3)] [] S := by
  intro N
  induction N with
  | zero =>
    intro a2 a3 W0 hf _
    cases hf
  | succ N ih =>
    intro a2 a3 W0 hf hk_1
    unfold fc_X4_marksAbove_L4 at hf
    refine CW.run (blk := [(.iload_n 3, 0), (.aload_n 1, 0)]) (pc' := 6) (ls' := [some (.ref k0), some (.ref k1), some (.int a2), some (.int a3)]) (st' := [.ref k1, .int a3]) (by decide +kernel) rfl ?_
    refine CW.getf (v := .int (S.1 k1 8)) hk1 (by decide) fl_RX4_75 (by decide +kernel) rfl ?_
    refine CW.icmp_ge (off := 30) (tgt := 39) (by decide +kernel) (by decide) (fun c9_1 => ?_) (fun c9_1 => ?_)
    · rw [if_pos c9_1] at hf
      have e9 := Option.some.inj hf
      subst e9
      exact hk_1
    · rw [if_neg c9_1] at hf
      refine CW.run (blk := [(.iload_n 3, 0), (.bipush 6, 6)]) (pc' := 15) (ls' := [some (.ref k0), some (.ref k1), some (.int a2), some (.int a3)]) (st' := [.int 6, .int a3]) (by decide +kernel) rfl ?_
      refine CW.icmp_ge (off := 24) (tgt := 39) (by decide +kernel) (by decide) (fun c15_2 => ?_) (fun c15_2 => ?_)
      · rw [if_pos c15_2] at hf
        have e9 := Option.some.inj hf
        subst e9
        exact hk_1
      · rw [if_neg c15_2] at hf
        refine CW.run (blk := [(.aload_n 0, 0)]) (pc' := 19) (ls' := [some (.ref k0), some (.ref k1), some (.int a2), some (.int a3)]) (st' := [.ref k0]) (by decide +kernel) rfl ?_
        refine CW.getf (v := .ref (k0 + 4)) hk0 (by decide) fl_RX4_18 (by decide +kernel) rfl ?_
        refine CW.run (blk := [(.iload_n 3, 0)]) (pc' := 23) (ls' := [some (.ref k0), some (.ref k1), some (.int a2), some (.int a3)]) (st' := [.int a3, .ref (k0 + 4)]) (by decide +kernel) rfl ?_
        obtain ⟨hi_v3, hf⟩ := bi_some hf
        obtain ⟨v3, hv3, hf⟩ := letv_some hf
        refine CW.iald (kk_3_1 hk0) (kn_3_1 hk0) (by decide +kernel) (inb_in hi_v3) ?_
        rw [← hv3]
        refine CW.if_le (off := 9) (tgt := 33) (by decide +kernel) (by decide) (fun c24_4 => ?_) (fun c24_4 => ?_)
        · rw [if_pos c24_4] at hf
          refine CW.run (blk := [(.iinc 3 1, 1), (.goto (-32), 0)]) (pc' := 4) (ls' := [some (.ref k0), some (.ref k1), some (.int a2), some (.int (a3 + 1))]) (st' := []) (by decide +kernel) rfl ?_
          exact ih _ _ _ hf hk_1
        · rw [if_neg c24_4] at hf
          refine CW.run (blk := [(.iload_n 2, 0), (.iconst 1, 1), (.iload_n 3, 0), (.ishl, 0), (.ior, 0), (.istore_n 2, 0), (.iinc 3 1, 1), (.goto (-32), 0)]) (pc' := 4) (ls' := [some (.ref k0), some (.ref k1), some (.int (a2 ||| ((1 : Int32) <<< (a3 &&& 31)))), some (.int (a3 + 1))]) (st' := []) (by decide +kernel) rfl ?_
          exact ih _ _ _ hf hk_1
theorem xc_X4_marksAbove {l : Launch} {b : Nat} {p0 : Nat} {S : cT} {q : Int32} (hb : cK b = 3) (h0 : cK p0 = 2) (hf : fc_X4_marksAbove b p0 S = some q) : COk l yy_X4_marksAbove 0 [.ref b, .ref p0] S (some (.int q)) S := by
  refine COk.of (ls := [some (.ref b), some (.ref p0), none, none]) (by decide +kernel) (Nat.le_of_ble_eq_true rfl) rfl ?_
  unfold fc_X4_marksAbove at hf
  refine CW.run (blk := [(.iconst 0, 0), (.istore_n 2, 0), (.iconst 0, 0), (.istore_n 3, 0)]) (pc' := 4) (ls' := [some (.ref b), some (.ref p0), some (.int 0), some (.int 0)]) (st' := []) (by decide +kernel) rfl ?_
  obtain ⟨w5, hw5, hf⟩ := bd_some hf
  refine xc_X4_marksAbove_L4 b p0 S hb h0 FU _ _ _ hw5 ?_
  refine CW.run (blk := [(.iload_n 2, 0)]) (pc' := 40) (ls' := [some (.ref b), some (.ref p0), some (.int w5.1), some (.int w5.2)]) (st' := [.int w5.1]) (by decide +kernel) rfl ?_
  have e9 := Option.some.inj hf
  subst e9
  exact CW.iret rfl (by decide +kernel)
def fc_X4_believed (b : Nat) (p0 : Nat) (p1 : Nat) (p2 : Int32) (S : cT) : Option (Int32 × cT) := (fc_X4_addUp b p0 p1 p2 S).bind fun q1 => (fc_X4_marksAbove b p0 q1).bind fun q2 => some (q2, q1)
theorem xc_X4_believed {l : Launch} {b : Nat} {p0 : Nat} {p1 : Nat} {p2 : Int32} {S : cT} {q : Int32 × cT} (hb : cK b = 3) (h0 : cK p0 = 2) (h1 : cK p1 = 6) (hf : fc_X4_believed b p0 p1 p2 S = some q) : COk l yy_X4_believed 5 [.ref b, .ref p0, .ref p1, .int p2] S (some (.int q.1)) q.2 := by
  refine COk.of (ls := [some (.ref b), some (.ref p0), some (.ref p1), some (.int p2)]) (by decide +kernel) (Nat.le_of_ble_eq_true rfl) rfl ?_
  unfold fc_X4_believed at hf
  refine CW.run (blk := [(.aload_n 0, 0), (.aload_n 1, 0), (.aload_n 2, 0), (.iload_n 3, 0)]) (pc' := 4) (ls' := [some (.ref b), some (.ref p0), some (.ref p1), some (.int p2)]) (st' := [.int p2, .ref p1, .ref p0, .ref b]) (by decide +kernel) rfl ?_
  obtain ⟨q1, hq1, hf⟩ := bd_some hf
  refine CW.callV (As := [.ref p0, .ref p1, .int p2]) (st := []) lv_RX4_78 hb (by decide) rfl rfl (by decide +kernel) (xc_X4_addUp hb h0 h1 hq1) (by decide) (by decide) rfl (Nat.le_of_ble_eq_true rfl) rfl ?_
  show CW l yy_X4_believed 5 _ _ 7 [some (.ref b), some (.ref p0), some (.ref p1), some (.int p2)] [] q1
  refine CW.run (blk := [(.aload_n 0, 0), (.aload_n 1, 0)]) (pc' := 9) (ls' := [some (.ref b), some (.ref p0), some (.ref p1), some (.int p2)]) (st' := [.ref p0, .ref b]) (by decide +kernel) rfl ?_
  obtain ⟨q2, hq2, hf⟩ := bd_some hf
  refine CW.callV (As := [.ref p0]) (st := []) lv_RX4_82 hb (by decide) rfl rfl (by decide +kernel) (xc_X4_marksAbove hb h0 hq2) (by decide) (by decide) rfl (Nat.le_of_ble_eq_true rfl) rfl ?_
  show CW l yy_X4_believed 5 _ _ 12 [some (.ref b), some (.ref p0), some (.ref p1), some (.int p2)] [.int q2] q1
  have e9 := Option.some.inj hf
  subst e9
  exact CW.iret rfl (by decide +kernel)
def fc_X4_marksEven_L4 (k0 : Nat) (k1 : Nat) (S : cT) : Nat → Int32 → Int32 → Option (Int32 × Int32)
  | 0, _, _ => none
  | N + 1, a2, a3 => if (S.1 k1 8) ≤ a3 then (some (a2, a3)) else (if 6 ≤ a3 then (some (a2, a3)) else (bif inb a3 6 then (letv (S.1 (k0 + 4) (a3 : Int32).toNatClampNeg) fun v3 => if v3 = 0 then (fc_X4_marksEven_L4 k0 k1 S N (a2 ||| ((1 : Int32) <<< (a3 &&& 31))) (a3 + 1)) else (fc_X4_marksEven_L4 k0 k1 S N a2 (a3 + 1))) else none))
def fc_X4_marksEven (b : Nat) (p0 : Nat) (S : cT) : Option (Int32) := (fc_X4_marksEven_L4 b p0 S FU 0 0).bind fun w5 => some w5.1
theorem xc_X4_marksEven_L4 {l : Launch} {r : Option Value} {S' : cT} (k0 : Nat) (k1 : Nat) (S : cT) (hk0 : cK k0 = 3) (hk1 : cK k1 = 2) : ∀ (N : Nat) (a2 : Int32) (a3 : Int32) (W0 : Int32 × Int32) (_ : fc_X4_marksEven_L4 k0 k1 S N a2 a3 = some W0) (_ : CW l yy_X4_marksEven 0 r S' 39 [some (.ref k0), some (.ref k1), some (.int W0.1), some (.int W0.2)] [] S), CW l yy_X4_marksEven 0 r S' 4 [some (.ref k0), some (.ref k1), some (.int a2), some (.int a3)] [] S := by
  intro N
  induction N with
  | zero =>
    intro a2 a3 W0 hf _
    cases hf
  | succ N ih =>
    intro a2 a3 W0 hf hk_1
    unfold fc_X4_marksEven_L4 at hf
    refine CW.run (blk := [(.iload_n 3, 0), (.aload_n 1, 0)]) (pc' := 6) (ls' := [some (.ref k0), some (.ref k1), some (.int a2), some (.int a3)]) (st' := [.ref k1, .int a3]) (by decide +kernel) rfl ?_
    refine CW.getf (v := .int (S.1 k1 8)) hk1 (by decide) fl_RX4_75 (by decide +kernel) rfl ?_
    refine CW.icmp_ge (off := 30) (tgt := 39) (by decide +kernel) (by decide) (fun c9_1 => ?_) (fun c9_1 => ?_)
    · rw [if_pos c9_1] at hf
      have e9 := Option.some.inj hf
      subst e9
      exact hk_1
    · rw [if_neg c9_1] at hf
      refine CW.run (blk := [(.iload_n 3, 0), (.bipush 6, 6)]) (pc' := 15) (ls' := [some (.ref k0), some (.ref k1), some (.int a2), some (.int a3)]) (st' := [.int 6, .int a3]) (by decide +kernel) rfl ?_
      refine CW.icmp_ge (off := 24) (tgt := 39) (by decide +kernel) (by decide) (fun c15_2 => ?_) (fun c15_2 => ?_)
      · rw [if_pos c15_2] at hf
        have e9 := Option.some.inj hf
        subst e9
        exact hk_1
      · rw [if_neg c15_2] at hf
        refine CW.run (blk := [(.aload_n 0, 0)]) (pc' := 19) (ls' := [some (.ref k0), some (.ref k1), some (.int a2), some (.int a3)]) (st' := [.ref k0]) (by decide +kernel) rfl ?_
        refine CW.getf (v := .ref (k0 + 4)) hk0 (by decide) fl_RX4_18 (by decide +kernel) rfl ?_
        refine CW.run (blk := [(.iload_n 3, 0)]) (pc' := 23) (ls' := [some (.ref k0), some (.ref k1), some (.int a2), some (.int a3)]) (st' := [.int a3, .ref (k0 + 4)]) (by decide +kernel) rfl ?_
        obtain ⟨hi_v3, hf⟩ := bi_some hf
        obtain ⟨v3, hv3, hf⟩ := letv_some hf
        refine CW.iald (kk_3_1 hk0) (kn_3_1 hk0) (by decide +kernel) (inb_in hi_v3) ?_
        rw [← hv3]
        refine CW.if_ne (off := 9) (tgt := 33) (by decide +kernel) (by decide) (fun c24_4 => ?_) (fun c24_4 => ?_)
        · rw [if_neg c24_4] at hf
          refine CW.run (blk := [(.iinc 3 1, 1), (.goto (-32), 0)]) (pc' := 4) (ls' := [some (.ref k0), some (.ref k1), some (.int a2), some (.int (a3 + 1))]) (st' := []) (by decide +kernel) rfl ?_
          exact ih _ _ _ hf hk_1
        · rw [if_pos c24_4] at hf
          refine CW.run (blk := [(.iload_n 2, 0), (.iconst 1, 1), (.iload_n 3, 0), (.ishl, 0), (.ior, 0), (.istore_n 2, 0), (.iinc 3 1, 1), (.goto (-32), 0)]) (pc' := 4) (ls' := [some (.ref k0), some (.ref k1), some (.int (a2 ||| ((1 : Int32) <<< (a3 &&& 31)))), some (.int (a3 + 1))]) (st' := []) (by decide +kernel) rfl ?_
          exact ih _ _ _ hf hk_1
theorem xc_X4_marksEven {l : Launch} {b : Nat} {p0 : Nat} {S : cT} {q : Int32} (hb : cK b = 3) (h0 : cK p0 = 2) (hf : fc_X4_marksEven b p0 S = some q) : COk l yy_X4_marksEven 0 [.ref b, .ref p0] S (some (.int q)) S := by
  refine COk.of (ls := [some (.ref b), some (.ref p0), none, none]) (by decide +kernel) (Nat.le_of_ble_eq_true rfl) rfl ?_
  unfold fc_X4_marksEven at hf
  refine CW.run (blk := [(.iconst 0, 0), (.istore_n 2, 0), (.iconst 0, 0), (.istore_n 3, 0)]) (pc' := 4) (ls' := [some (.ref b), some (.ref p0), some (.int 0), some (.int 0)]) (st' := []) (by decide +kernel) rfl ?_
  obtain ⟨w5, hw5, hf⟩ := bd_some hf
  refine xc_X4_marksEven_L4 b p0 S hb h0 FU _ _ _ hw5 ?_
  refine CW.run (blk := [(.iload_n 2, 0)]) (pc' := 40) (ls' := [some (.ref b), some (.ref p0), some (.int w5.1), some (.int w5.2)]) (st' := [.int w5.1]) (by decide +kernel) rfl ?_
  have e9 := Option.some.inj hf
  subst e9
  exact CW.iret rfl (by decide +kernel)
def fc_X4_open (b : Nat) (p0 : Nat) (p1 : Nat) (p2 : Int32) (S : cT) : Option (Int32 × cT) := (fc_X4_addUp b p0 p1 p2 S).bind fun q1 => (fc_X4_marksEven b p0 q1).bind fun q2 => some (q2, q1)
theorem xc_X4_open {l : Launch} {b : Nat} {p0 : Nat} {p1 : Nat} {p2 : Int32} {S : cT} {q : Int32 × cT} (hb : cK b = 3) (h0 : cK p0 = 2) (h1 : cK p1 = 6) (hf : fc_X4_open b p0 p1 p2 S = some q) : COk l yy_X4_open 5 [.ref b, .ref p0, .ref p1, .int p2] S (some (.int q.1)) q.2 := by
  refine COk.of (ls := [some (.ref b), some (.ref p0), some (.ref p1), some (.int p2)]) (by decide +kernel) (Nat.le_of_ble_eq_true rfl) rfl ?_
  unfold fc_X4_open at hf
  refine CW.run (blk := [(.aload_n 0, 0), (.aload_n 1, 0), (.aload_n 2, 0), (.iload_n 3, 0)]) (pc' := 4) (ls' := [some (.ref b), some (.ref p0), some (.ref p1), some (.int p2)]) (st' := [.int p2, .ref p1, .ref p0, .ref b]) (by decide +kernel) rfl ?_
  obtain ⟨q1, hq1, hf⟩ := bd_some hf
  refine CW.callV (As := [.ref p0, .ref p1, .int p2]) (st := []) lv_RX4_78 hb (by decide) rfl rfl (by decide +kernel) (xc_X4_addUp hb h0 h1 hq1) (by decide) (by decide) rfl (Nat.le_of_ble_eq_true rfl) rfl ?_
  show CW l yy_X4_open 5 _ _ 7 [some (.ref b), some (.ref p0), some (.ref p1), some (.int p2)] [] q1
  refine CW.run (blk := [(.aload_n 0, 0), (.aload_n 1, 0)]) (pc' := 9) (ls' := [some (.ref b), some (.ref p0), some (.ref p1), some (.int p2)]) (st' := [.ref p0, .ref b]) (by decide +kernel) rfl ?_
  obtain ⟨q2, hq2, hf⟩ := bd_some hf
  refine CW.callV (As := [.ref p0]) (st := []) lv_RX4_86 hb (by decide) rfl rfl (by decide +kernel) (xc_X4_marksEven hb h0 hq2) (by decide) (by decide) rfl (Nat.le_of_ble_eq_true rfl) rfl ?_
  show CW l yy_X4_open 5 _ _ 12 [some (.ref b), some (.ref p0), some (.ref p1), some (.int p2)] [.int q2] q1
  have e9 := Option.some.inj hf
  subst e9
  exact CW.iret rfl (by decide +kernel)
def fc_X4_marksTurnedBy_L37 (k0 : Nat) (k1 : Nat) (k5 : Int32) (S : cT) : Nat → Int32 → Int32 → Option (Int32 × Int32)
  | 0, _, _ => none
  | N + 1, a6, a7 => if (S.1 k1 8) ≤ a7 then (some (a6, a7)) else (if 6 ≤ a7 then (some (a6, a7)) else (if k5 ≤ 0 then (fc_X4_marksTurnedBy_L37 k0 k1 k5 S N a6 (a7 + 1)) else (bif inb a7 6 then (letv (S.1 (k0 + 4) (a7 : Int32).toNatClampNeg) fun v6 => if k5 < (mabI v6) then (fc_X4_marksTurnedBy_L37 k0 k1 k5 S N a6 (a7 + 1)) else (fc_X4_marksTurnedBy_L37 k0 k1 k5 S N (a6 + 1) (a7 + 1))) else none)))
def fc_X4_marksTurnedBy (b : Nat) (p0 : Nat) (p1 : Nat) (p2 : Int32) (p3 : Int32) (S : cT) : Option (Int32 × cT) := (fc_X9_set (b + 1) p0 p2 p3 p3 0 S).bind fun q1 => (fc_X7_chosen p1 313 (b + 1) 999 1 q1).bind fun q2 => (fc_X4_marksTurnedBy_L37 b p0 q2.1 q2.2 FU 0 0).bind fun w8 => some (w8.1, q2.2)
theorem xc_X4_marksTurnedBy_L37 {l : Launch} {r : Option Value} {S' : cT} (k0 : Nat) (k1 : Nat) (k2 : Nat) (k3 : Int32) (k4 : Int32) (k5 : Int32) (S : cT) (hk0 : cK k0 = 3) (hk1 : cK k1 = 2) (hk2 : cK k2 = 6) : ∀ (N : Nat) (a6 : Int32) (a7 : Int32) (W0 : Int32 × Int32) (_ : fc_X4_marksTurnedBy_L37 k0 k1 k5 S N a6 a7 = some W0) (_ : CW l yy_X4_marksTurnedBy 3 r S' 82 [some (.ref k0), some (.ref k1), some (.ref k2), some (.int k3), some (.int k4), some (.int k5), some (.int W0.1), some (.int W0.2)] [] S), CW l yy_X4_marksTurnedBy 3 r S' 37 [some (.ref k0), some (.ref k1), some (.ref k2), some (.int k3), some (.int k4), some (.int k5), some (.int a6), some (.int a7)] [] S := by
  intro N
  induction N with
  | zero =>
    intro a6 a7 W0 hf _
    cases hf
  | succ N ih =>
    intro a6 a7 W0 hf hk_1
    unfold fc_X4_marksTurnedBy_L37 at hf
    refine CW.run (blk := [(.iload 7, 0), (.aload_n 1, 0)]) (pc' := 40) (ls' := [some (.ref k0), some (.ref k1), some (.ref k2), some (.int k3), some (.int k4), some (.int k5), some (.int a6), some (.int a7)]) (st' := [.ref k1, .int a7]) (by decide +kernel) rfl ?_
    refine CW.getf (v := .int (S.1 k1 8)) hk1 (by decide) fl_RX4_75 (by decide +kernel) rfl ?_
    refine CW.icmp_ge (off := 39) (tgt := 82) (by decide +kernel) (by decide) (fun c43_3 => ?_) (fun c43_3 => ?_)
    · rw [if_pos c43_3] at hf
      have e9 := Option.some.inj hf
      subst e9
      exact hk_1
    · rw [if_neg c43_3] at hf
      refine CW.run (blk := [(.iload 7, 0), (.bipush 6, 6)]) (pc' := 50) (ls' := [some (.ref k0), some (.ref k1), some (.ref k2), some (.int k3), some (.int k4), some (.int k5), some (.int a6), some (.int a7)]) (st' := [.int 6, .int a7]) (by decide +kernel) rfl ?_
      refine CW.icmp_ge (off := 32) (tgt := 82) (by decide +kernel) (by decide) (fun c50_4 => ?_) (fun c50_4 => ?_)
      · rw [if_pos c50_4] at hf
        have e9 := Option.some.inj hf
        subst e9
        exact hk_1
      · rw [if_neg c50_4] at hf
        refine CW.run (blk := [(.iload 5, 0)]) (pc' := 55) (ls' := [some (.ref k0), some (.ref k1), some (.ref k2), some (.int k3), some (.int k4), some (.int k5), some (.int a6), some (.int a7)]) (st' := [.int k5]) (by decide +kernel) rfl ?_
        refine CW.if_le (off := 21) (tgt := 76) (by decide +kernel) (by decide) (fun c55_5 => ?_) (fun c55_5 => ?_)
        · rw [if_pos c55_5] at hf
          refine CW.run (blk := [(.iinc 7 1, 1), (.goto (-42), 0)]) (pc' := 37) (ls' := [some (.ref k0), some (.ref k1), some (.ref k2), some (.int k3), some (.int k4), some (.int k5), some (.int a6), some (.int (a7 + 1))]) (st' := []) (by decide +kernel) rfl ?_
          exact ih _ _ _ hf hk_1
        · rw [if_neg c55_5] at hf
          refine CW.run (blk := [(.iload 5, 0), (.aload_n 0, 0)]) (pc' := 61) (ls' := [some (.ref k0), some (.ref k1), some (.ref k2), some (.int k3), some (.int k4), some (.int k5), some (.int a6), some (.int a7)]) (st' := [.ref k0, .int k5]) (by decide +kernel) rfl ?_
          refine CW.getf (v := .ref (k0 + 4)) hk0 (by decide) fl_RX4_18 (by decide +kernel) rfl ?_
          refine CW.run (blk := [(.iload 7, 0)]) (pc' := 66) (ls' := [some (.ref k0), some (.ref k1), some (.ref k2), some (.int k3), some (.int k4), some (.int k5), some (.int a6), some (.int a7)]) (st' := [.int a7, .ref (k0 + 4), .int k5]) (by decide +kernel) rfl ?_
          obtain ⟨hi_v6, hf⟩ := bi_some hf
          obtain ⟨v6, hv6, hf⟩ := letv_some hf
          refine CW.iald (kk_3_1 hk0) (kn_3_1 hk0) (by decide +kernel) (inb_in hi_v6) ?_
          rw [← hv6]
          refine CW.mabs (idx := 89) (tb_in 862 (by decide +kernel) (by decide +kernel)) (by decide +kernel) (by decide) (Nat.le_of_ble_eq_true rfl) ?_
          refine CW.icmp_lt (off := 6) (tgt := 76) (by decide +kernel) (by decide) (fun c70_7 => ?_) (fun c70_7 => ?_)
          · rw [if_pos c70_7] at hf
            refine CW.run (blk := [(.iinc 7 1, 1), (.goto (-42), 0)]) (pc' := 37) (ls' := [some (.ref k0), some (.ref k1), some (.ref k2), some (.int k3), some (.int k4), some (.int k5), some (.int a6), some (.int (a7 + 1))]) (st' := []) (by decide +kernel) rfl ?_
            exact ih _ _ _ hf hk_1
          · rw [if_neg c70_7] at hf
            refine CW.run (blk := [(.iinc 6 1, 1), (.iinc 7 1, 1), (.goto (-42), 0)]) (pc' := 37) (ls' := [some (.ref k0), some (.ref k1), some (.ref k2), some (.int k3), some (.int k4), some (.int k5), some (.int (a6 + 1)), some (.int (a7 + 1))]) (st' := []) (by decide +kernel) rfl ?_
            exact ih _ _ _ hf hk_1
theorem xc_X4_marksTurnedBy {l : Launch} {b : Nat} {p0 : Nat} {p1 : Nat} {p2 : Int32} {p3 : Int32} {S : cT} {q : Int32 × cT} (hb : cK b = 3) (h0 : cK p0 = 2) (h1 : cK p1 = 6) (hf : fc_X4_marksTurnedBy b p0 p1 p2 p3 S = some q) : COk l yy_X4_marksTurnedBy 3 [.ref b, .ref p0, .ref p1, .int p2, .int p3] S (some (.int q.1)) q.2 := by
  refine COk.of (ls := [some (.ref b), some (.ref p0), some (.ref p1), some (.int p2), some (.int p3), none, none, none]) (by decide +kernel) (Nat.le_of_ble_eq_true rfl) rfl ?_
  unfold fc_X4_marksTurnedBy at hf
  refine CW.run (blk := [(.aload_n 0, 0)]) (pc' := 1) (ls' := [some (.ref b), some (.ref p0), some (.ref p1), some (.int p2), some (.int p3), none, none, none]) (st' := [.ref b]) (by decide +kernel) rfl ?_
  refine CW.getf (v := .ref (b + 1)) hb (by decide) fl_RX4_10 (by decide +kernel) rfl ?_
  refine CW.run (blk := [(.aload_n 1, 0), (.iload_n 3, 0), (.iload 4, 0), (.iload 4, 0), (.iconst 0, 0)]) (pc' := 11) (ls' := [some (.ref b), some (.ref p0), some (.ref p1), some (.int p2), some (.int p3), none, none, none]) (st' := [.int 0, .int p3, .int p3, .int p2, .ref p0, .ref (b + 1)]) (by decide +kernel) rfl ?_
  obtain ⟨q1, hq1, hf⟩ := bd_some hf
  refine CW.callV (As := [.ref p0, .int p2, .int p3, .int p3, .int 0]) (st := []) lv_RX4_22 (kk_3_0 hb) (by decide) rfl rfl (by decide +kernel) (xc_X9_set (kk_3_0 hb) h0 hq1) (by decide) (by decide) rfl (Nat.le_of_ble_eq_true rfl) rfl ?_
  show CW l yy_X4_marksTurnedBy 3 _ _ 14 [some (.ref b), some (.ref p0), some (.ref p1), some (.int p2), some (.int p3), none, none, none] [] q1
  refine CW.run (blk := [(.aload_n 2, 0), (.sipush 313, 313), (.aload_n 0, 0)]) (pc' := 19) (ls' := [some (.ref b), some (.ref p0), some (.ref p1), some (.int p2), some (.int p3), none, none, none]) (st' := [.ref b, .int 313, .ref p1]) (by decide +kernel) rfl ?_
  refine CW.getf (v := .ref (b + 1)) hb (by decide) fl_RX4_10 (by decide +kernel) rfl ?_
  refine CW.run (blk := [(.sipush 999, 999), (.iconst 1, 1)]) (pc' := 26) (ls' := [some (.ref b), some (.ref p0), some (.ref p1), some (.int p2), some (.int p3), none, none, none]) (st' := [.int 1, .int 999, .ref (b + 1), .int 313, .ref p1]) (by decide +kernel) rfl ?_
  obtain ⟨q2, hq2, hf⟩ := bd_some hf
  refine CW.callV (As := [.int 313, .ref (b + 1), .int 999, .int 1]) (st := []) lv_RX4_32 h1 (by decide) rfl rfl (by decide +kernel) (xc_X7_chosen h1 (kk_3_0 hb) hq2) (by decide) (by decide) rfl (Nat.le_of_ble_eq_true rfl) rfl ?_
  show CW l yy_X4_marksTurnedBy 3 _ _ 29 [some (.ref b), some (.ref p0), some (.ref p1), some (.int p2), some (.int p3), none, none, none] [.int q2.1] q2.2
  refine CW.run (blk := [(.istore 5, 0), (.iconst 0, 0), (.istore 6, 0), (.iconst 0, 0), (.istore 7, 0)]) (pc' := 37) (ls' := [some (.ref b), some (.ref p0), some (.ref p1), some (.int p2), some (.int p3), some (.int q2.1), some (.int 0), some (.int 0)]) (st' := []) (by decide +kernel) rfl ?_
  obtain ⟨w8, hw8, hf⟩ := bd_some hf
  refine xc_X4_marksTurnedBy_L37 b p0 p1 p2 p3 q2.1 q2.2 hb h0 h1 FU _ _ _ hw8 ?_
  refine CW.run (blk := [(.iload 6, 0)]) (pc' := 84) (ls' := [some (.ref b), some (.ref p0), some (.ref p1), some (.int p2), some (.int p3), some (.int q2.1), some (.int w8.1), some (.int w8.2)]) (st' := [.int w8.1]) (by decide +kernel) rfl ?_
  have e9 := Option.some.inj hf
  subst e9
  exact CW.iret rfl (by decide +kernel)
def fc_X5_addWorths_L38 (k0 : Nat) (k1 : Nat) (k2 : Int32) (k3 : Int32) : Nat → Int32 → cT → Option (Int32 × cT)
  | 0, _, _ => none
  | N + 1, a4, S => if k3 ≤ a4 then (some (a4, S)) else (bif inb a4 1024 then (letv (S.1 (k0 + 2) (a4 : Int32).toNatClampNeg) fun v7 => (fc_X6_at (k1 + 8) k2 3 S).bind fun q8 => bif inb (k3 + a4) 1024 then (letv (ca S (k0 + 2) ((k3 + a4) : Int32).toNatClampNeg (v7 + q8)) fun S10 => fc_X5_addWorths_L38 k0 k1 k2 k3 N (a4 + 1) S10) else none) else none)
def fc_X5_addWorths_L14 (k0 : Nat) (k1 : Nat) : Nat → Int32 → cT → Option (Int32 × cT)
  | 0, _, _ => none
  | N + 1, a2, S => if (S.1 (k1 + 8) 3) ≤ a2 then (some (a2, S)) else (if 10 ≤ a2 then (some (a2, S)) else ((fc_X5_addWorths_L38 k0 k1 a2 ((1 : Int32) <<< (a2 &&& 31)) FU 0 S).bind fun w11 => if (64 : Int32) = 0 then none else (letv (ca w11.2 k0 3 (mxI 1 (mnI ((2 * ((1 : Int32) <<< (a2 &&& 31))) / 64) 16))) fun S13 => fc_X5_addWorths_L14 k0 k1 N (a2 + 1) S13)))
def fc_X5_addWorths (b : Nat) (p0 : Nat) (S : cT) : Option (cT) := bif inb 0 1024 then (letv (ca S (b + 2) (0 : Int32).toNatClampNeg 0) fun S2 => letv (ca S2 b 3 1) fun S3 => (fc_X5_addWorths_L14 b p0 FU 0 S3).bind fun w14 => some w14.2) else none
theorem xc_X5_addWorths_L38 {l : Launch} {r : Option Value} {S' : cT} (k0 : Nat) (k1 : Nat) (k2 : Int32) (k3 : Int32) (hk0 : cK k0 = 4) (hk1 : cK k1 = 2) : ∀ (N : Nat) (a4 : Int32) (S : cT) (W0 : Int32 × cT) (_ : fc_X5_addWorths_L38 k0 k1 k2 k3 N a4 S = some W0) (_ : CW l yy_X5_addWorths 2 r S' 76 [some (.ref k0), some (.ref k1), some (.int k2), some (.int k3), some (.int W0.1)] [] W0.2), CW l yy_X5_addWorths 2 r S' 38 [some (.ref k0), some (.ref k1), some (.int k2), some (.int k3), some (.int a4)] [] S := by
  intro N
  induction N with
  | zero =>
    intro a4 S W0 hf _
    cases hf
  | succ N ih =>
    intro a4 S W0 hf hk_1
    unfold fc_X5_addWorths_L38 at hf
    refine CW.run (blk := [(.iload 4, 0), (.iload_n 3, 0)]) (pc' := 41) (ls' := [some (.ref k0), some (.ref k1), some (.int k2), some (.int k3), some (.int a4)]) (st' := [.int k3, .int a4]) (by decide +kernel) rfl ?_
    refine CW.icmp_ge (off := 35) (tgt := 76) (by decide +kernel) (by decide) (fun c41_6 => ?_) (fun c41_6 => ?_)
    · rw [if_pos c41_6] at hf
      have e9 := Option.some.inj hf
      subst e9
      exact hk_1
    · rw [if_neg c41_6] at hf
      refine CW.run (blk := [(.aload_n 0, 0)]) (pc' := 45) (ls' := [some (.ref k0), some (.ref k1), some (.int k2), some (.int k3), some (.int a4)]) (st' := [.ref k0]) (by decide +kernel) rfl ?_
      refine CW.getf (v := .ref (k0 + 2)) hk0 (by decide) fl_RX5_15 (by decide +kernel) rfl ?_
      refine CW.run (blk := [(.iload_n 3, 0), (.iload 4, 0), (.iadd, 0), (.aload_n 0, 0)]) (pc' := 53) (ls' := [some (.ref k0), some (.ref k1), some (.int k2), some (.int k3), some (.int a4)]) (st' := [.ref k0, .int (k3 + a4), .ref (k0 + 2)]) (by decide +kernel) rfl ?_
      refine CW.getf (v := .ref (k0 + 2)) hk0 (by decide) fl_RX5_15 (by decide +kernel) rfl ?_
      refine CW.run (blk := [(.iload 4, 0)]) (pc' := 58) (ls' := [some (.ref k0), some (.ref k1), some (.int k2), some (.int k3), some (.int a4)]) (st' := [.int a4, .ref (k0 + 2), .int (k3 + a4), .ref (k0 + 2)]) (by decide +kernel) rfl ?_
      obtain ⟨hi_v7, hf⟩ := bi_some hf
      obtain ⟨v7, hv7, hf⟩ := letv_some hf
      refine CW.iald (kk_4_1 hk0) (kn_4_1 hk0) (by decide +kernel) (inb_in hi_v7) ?_
      rw [← hv7]
      refine CW.run (blk := [(.aload_n 1, 0)]) (pc' := 60) (ls' := [some (.ref k0), some (.ref k1), some (.int k2), some (.int k3), some (.int a4)]) (st' := [.ref k1, .int v7, .int (k3 + a4), .ref (k0 + 2)]) (by decide +kernel) rfl ?_
      refine CW.getf (v := .ref (k1 + 8)) hk1 (by decide) fl_RX5_61 (by decide +kernel) rfl ?_
      refine CW.run (blk := [(.iload_n 2, 0), (.iconst 3, 3)]) (pc' := 65) (ls' := [some (.ref k0), some (.ref k1), some (.int k2), some (.int k3), some (.int a4)]) (st' := [.int 3, .int k2, .ref (k1 + 8), .int v7, .int (k3 + a4), .ref (k0 + 2)]) (by decide +kernel) rfl ?_
      obtain ⟨q8, hq8, hf⟩ := bd_some hf
      refine CW.callV (As := [.int k2, .int 3]) (st := [.int v7, .int (k3 + a4), .ref (k0 + 2)]) lv_RX5_70 (kk_2_6 hk1) (by decide) rfl rfl (by decide +kernel) (xc_X6_at (kk_2_6 hk1) hq8) (by decide) (by decide) rfl (Nat.le_of_ble_eq_true rfl) rfl ?_
      show CW l yy_X5_addWorths 2 _ _ 68 [some (.ref k0), some (.ref k1), some (.int k2), some (.int k3), some (.int a4)] [.int q8, .int v7, .int (k3 + a4), .ref (k0 + 2)] S
      refine CW.run (blk := [(.iadd, 0)]) (pc' := 69) (ls' := [some (.ref k0), some (.ref k1), some (.int k2), some (.int k3), some (.int a4)]) (st' := [.int (v7 + q8), .int (k3 + a4), .ref (k0 + 2)]) (by decide +kernel) rfl ?_
      obtain ⟨hi9, hf⟩ := bi_some hf
      refine CW.iast (kk_4_1 hk0) (kn_4_1 hk0) (by decide +kernel) (inb_in hi9) ?_
      obtain ⟨S10, hS10, hf⟩ := letv_some hf
      rw [← hS10]
      refine CW.run (blk := [(.iinc 4 1, 1), (.goto (-35), 0)]) (pc' := 38) (ls' := [some (.ref k0), some (.ref k1), some (.int k2), some (.int k3), some (.int (a4 + 1))]) (st' := []) (by decide +kernel) rfl ?_
      exact ih _ _ _ hf hk_1
theorem xc_X5_addWorths_L14 {l : Launch} {r : Option Value} {S' : cT} (k0 : Nat) (k1 : Nat) (hk0 : cK k0 = 4) (hk1 : cK k1 = 2) : ∀ (N : Nat) (a2 : Int32) (S : cT) (W0 : Int32 × cT) (_ : fc_X5_addWorths_L14 k0 k1 N a2 S = some W0) (_ : CW l yy_X5_addWorths 2 r S' 101 [some (.ref k0), some (.ref k1), some (.int W0.1), none, none] [] W0.2), CW l yy_X5_addWorths 2 r S' 14 [some (.ref k0), some (.ref k1), some (.int a2), none, none] [] S := by
  intro N
  induction N with
  | zero =>
    intro a2 S W0 hf _
    cases hf
  | succ N ih =>
    intro a2 S W0 hf hk_1
    unfold fc_X5_addWorths_L14 at hf
    refine CW.run (blk := [(.iload_n 2, 0), (.aload_n 1, 0)]) (pc' := 16) (ls' := [some (.ref k0), some (.ref k1), some (.int a2), none, none]) (st' := [.ref k1, .int a2]) (by decide +kernel) rfl ?_
    refine CW.getf (v := .ref (k1 + 8)) hk1 (by decide) fl_RX5_61 (by decide +kernel) rfl ?_
    refine CW.getf (v := .int (S.1 (k1 + 8) 3)) (kk_2_6 hk1) (by decide) fl_RX5_65 (by decide +kernel) rfl ?_
    refine CW.icmp_ge (off := 79) (tgt := 101) (by decide +kernel) (by decide) (fun c22_4 => ?_) (fun c22_4 => ?_)
    · rw [if_pos c22_4] at hf
      have e9 := Option.some.inj hf
      subst e9
      exact hk_1
    · rw [if_neg c22_4] at hf
      refine CW.run (blk := [(.iload_n 2, 0), (.bipush 10, 10)]) (pc' := 28) (ls' := [some (.ref k0), some (.ref k1), some (.int a2), none, none]) (st' := [.int 10, .int a2]) (by decide +kernel) rfl ?_
      refine CW.icmp_ge (off := 73) (tgt := 101) (by decide +kernel) (by decide) (fun c28_5 => ?_) (fun c28_5 => ?_)
      · rw [if_pos c28_5] at hf
        have e9 := Option.some.inj hf
        subst e9
        exact hk_1
      · rw [if_neg c28_5] at hf
        refine CW.run (blk := [(.iconst 1, 1), (.iload_n 2, 0), (.ishl, 0), (.istore_n 3, 0), (.iconst 0, 0), (.istore 4, 0)]) (pc' := 38) (ls' := [some (.ref k0), some (.ref k1), some (.int a2), some (.int ((1 : Int32) <<< (a2 &&& 31))), some (.int 0)]) (st' := []) (by decide +kernel) rfl ?_
        obtain ⟨w11, hw11, hf⟩ := bd_some hf
        refine xc_X5_addWorths_L38 k0 k1 a2 ((1 : Int32) <<< (a2 &&& 31)) hk0 hk1 FU _ _ _ hw11 ?_
        refine CW.run (blk := [(.aload_n 0, 0), (.iconst 1, 1), (.iconst 2, 2), (.iload_n 3, 0), (.imul, 0), (.bipush 64, 64)]) (pc' := 83) (ls' := [some (.ref k0), some (.ref k1), some (.int a2), some (.int ((1 : Int32) <<< (a2 &&& 31))), some (.int w11.1)]) (st' := [.int 64, .int (2 * ((1 : Int32) <<< (a2 &&& 31))), .int 1, .ref k0]) (by decide +kernel) rfl ?_
        obtain ⟨hn12, hf⟩ := nz_some hf
        refine CW.idiv hn12 (by decide +kernel) ?_
        refine CW.run (blk := [(.bipush 16, 16)]) (pc' := 86) (ls' := [some (.ref k0), some (.ref k1), some (.int a2), some (.int ((1 : Int32) <<< (a2 &&& 31))), some (.int w11.1)]) (st' := [.int 16, .int ((2 * ((1 : Int32) <<< (a2 &&& 31))) / 64), .int 1, .ref k0]) (by decide +kernel) rfl ?_
        refine CW.mmin (idx := 22) (tb_in 898 (by decide +kernel) (by decide +kernel)) (by decide +kernel) (by decide) (Nat.le_of_ble_eq_true rfl) ?_
        refine CW.mmax (idx := 28) (tb_in 899 (by decide +kernel) (by decide +kernel)) (by decide +kernel) (by decide) (Nat.le_of_ble_eq_true rfl) ?_
        refine CW.putI hk0 (by decide) fp_RX5_58 (by decide +kernel) (fun _ _ _ => Nat.le_of_ble_eq_true rfl) rfl rfl (fun _ _ _ => rfl) ?_
        obtain ⟨S13, hS13, hf⟩ := letv_some hf
        rw [← hS13]
        refine CW.run (blk := [(.iinc 2 1, 1), (.goto (-84), 0)]) (pc' := 14) (ls' := [some (.ref k0), some (.ref k1), some (.int (a2 + 1)), some (.int ((1 : Int32) <<< (a2 &&& 31))), some (.int w11.1)]) (st' := []) (by decide +kernel) rfl ?_
        refine CW.fgt (ls' := [some (.ref k0), some (.ref k1), some (.int (a2 + 1)), none, none]) (by repeat' (first | exact trivial | refine ⟨rfl, ?_⟩)) ?_
        exact ih _ _ _ hf hk_1
theorem xc_X5_addWorths {l : Launch} {b : Nat} {p0 : Nat} {S : cT} {q : cT} (hb : cK b = 4) (h0 : cK p0 = 2) (hf : fc_X5_addWorths b p0 S = some q) : COk l yy_X5_addWorths 2 [.ref b, .ref p0] S none q := by
  refine COk.of (ls := [some (.ref b), some (.ref p0), none, none, none]) (by decide +kernel) (Nat.le_of_ble_eq_true rfl) rfl ?_
  unfold fc_X5_addWorths at hf
  refine CW.run (blk := [(.aload_n 0, 0)]) (pc' := 1) (ls' := [some (.ref b), some (.ref p0), none, none, none]) (st' := [.ref b]) (by decide +kernel) rfl ?_
  refine CW.getf (v := .ref (b + 2)) hb (by decide) fl_RX5_15 (by decide +kernel) rfl ?_
  refine CW.run (blk := [(.iconst 0, 0), (.iconst 0, 0)]) (pc' := 6) (ls' := [some (.ref b), some (.ref p0), none, none, none]) (st' := [.int 0, .int 0, .ref (b + 2)]) (by decide +kernel) rfl ?_
  obtain ⟨hi1, hf⟩ := bi_some hf
  refine CW.iast (kk_4_1 hb) (kn_4_1 hb) (by decide +kernel) (inb_in hi1) ?_
  obtain ⟨S2, hS2, hf⟩ := letv_some hf
  rw [← hS2]
  refine CW.run (blk := [(.aload_n 0, 0), (.iconst 1, 1)]) (pc' := 9) (ls' := [some (.ref b), some (.ref p0), none, none, none]) (st' := [.int 1, .ref b]) (by decide +kernel) rfl ?_
  refine CW.putI hb (by decide) fp_RX5_58 (by decide +kernel) (fun _ _ _ => Nat.le_of_ble_eq_true rfl) rfl rfl (fun _ _ _ => rfl) ?_
  obtain ⟨S3, hS3, hf⟩ := letv_some hf
  rw [← hS3]
  refine CW.run (blk := [(.iconst 0, 0), (.istore_n 2, 0)]) (pc' := 14) (ls' := [some (.ref b), some (.ref p0), some (.int 0), none, none]) (st' := []) (by decide +kernel) rfl ?_
  obtain ⟨w14, hw14, hf⟩ := bd_some hf
  refine xc_X5_addWorths_L14 b p0 hb h0 FU _ _ _ hw14 ?_
  have e9 := Option.some.inj hf
  subst e9
  exact CW.vret rfl (by decide +kernel)
def fc_X5_start (p0 : Int32) (p1 : Int32) (S : cT) : Option (Int32) := some ((mxI 0 (mnI ((p0 * 8) + p1) 127)) * 16)
theorem xc_X5_start {l : Launch} {p0 : Int32} {p1 : Int32} {S : cT} {q : Int32}  (hf : fc_X5_start p0 p1 S = some q) : COk l yy_X5_start 1 [.int p0, .int p1] S (some (.int q)) S := by
  refine COk.of (ls := [some (.int p0), some (.int p1), none]) (by decide +kernel) (Nat.le_of_ble_eq_true rfl) rfl ?_
  unfold fc_X5_start at hf
  refine CW.run (blk := [(.iload_n 0, 0), (.bipush 8, 8), (.imul, 0), (.iload_n 1, 0), (.iadd, 0), (.istore_n 2, 0), (.iconst 0, 0), (.iload_n 2, 0), (.bipush 127, 127)]) (pc' := 11) (ls' := [some (.int p0), some (.int p1), some (.int ((p0 * 8) + p1))]) (st' := [.int 127, .int ((p0 * 8) + p1), .int 0]) (by decide +kernel) rfl ?_
  refine CW.mmin (idx := 22) (tb_in 898 (by decide +kernel) (by decide +kernel)) (by decide +kernel) (by decide) (Nat.le_of_ble_eq_true rfl) ?_
  refine CW.mmax (idx := 28) (tb_in 899 (by decide +kernel) (by decide +kernel)) (by decide +kernel) (by decide) (Nat.le_of_ble_eq_true rfl) ?_
  refine CW.run (blk := [(.bipush 16, 16), (.imul, 0)]) (pc' := 20) (ls' := [some (.int p0), some (.int p1), some (.int ((p0 * 8) + p1))]) (st' := [.int ((mxI 0 (mnI ((p0 * 8) + p1) 127)) * 16)]) (by decide +kernel) rfl ?_
  have e9 := Option.some.inj hf
  subst e9
  exact CW.iret rfl (by decide +kernel)
def fc_X5_canGo (p0 : Nat) (p1 : Int32) (p2 : Int32) (S : cT) : Option (Bool) := if p1 = p2 then (some true) else ((fc_X2_hasBoat p0 p1 p2 S).bind fun q2 => if (b2i q2) = 0 then (some false) else (some true))
theorem xc_X5_canGo {l : Launch} {p0 : Nat} {p1 : Int32} {p2 : Int32} {S : cT} {q : Bool} (h0 : cK p0 = 2) (hf : fc_X5_canGo p0 p1 p2 S = some q) : COk l yy_X5_canGo 3 [.ref p0, .int p1, .int p2] S (some (.int (b2i q))) S := by
  refine COk.of (ls := [some (.ref p0), some (.int p1), some (.int p2)]) (by decide +kernel) (Nat.le_of_ble_eq_true rfl) rfl ?_
  unfold fc_X5_canGo at hf
  refine CW.run (blk := [(.iload_n 1, 0), (.iload_n 2, 0)]) (pc' := 2) (ls' := [some (.ref p0), some (.int p1), some (.int p2)]) (st' := [.int p2, .int p1]) (by decide +kernel) rfl ?_
  refine CW.icmp_eq (off := 12) (tgt := 14) (by decide +kernel) (by decide) (fun c2_1 => ?_) (fun c2_1 => ?_)
  · rw [if_pos c2_1] at hf
    refine CW.run (blk := [(.iconst 1, 1), (.goto 4, 0)]) (pc' := 19) (ls' := [some (.ref p0), some (.int p1), some (.int p2)]) (st' := [.int 1]) (by decide +kernel) rfl ?_
    have e9 := Option.some.inj hf
    subst e9
    exact CW.zret rfl (b2i_nar _) (by decide +kernel)
  · rw [if_neg c2_1] at hf
    refine CW.run (blk := [(.aload_n 0, 0), (.iload_n 1, 0), (.iload_n 2, 0)]) (pc' := 8) (ls' := [some (.ref p0), some (.int p1), some (.int p2)]) (st' := [.int p2, .int p1, .ref p0]) (by decide +kernel) rfl ?_
    obtain ⟨q2, hq2, hf⟩ := bd_some hf
    refine CW.callV (As := [.int p1, .int p2]) (st := []) lv_RX5_73 h0 (by decide) rfl rfl (by decide +kernel) (xc_X2_hasBoat h0 hq2) (by decide) (by decide) rfl (Nat.le_of_ble_eq_true rfl) rfl ?_
    show CW l yy_X5_canGo 3 _ _ 11 [some (.ref p0), some (.int p1), some (.int p2)] [.int (b2i q2)] S
    refine CW.if_eq (off := 7) (tgt := 18) (by decide +kernel) (by decide) (fun c11_3 => ?_) (fun c11_3 => ?_)
    · rw [if_pos c11_3] at hf
      refine CW.run (blk := [(.iconst 0, 0)]) (pc' := 19) (ls' := [some (.ref p0), some (.int p1), some (.int p2)]) (st' := [.int 0]) (by decide +kernel) rfl ?_
      have e9 := Option.some.inj hf
      subst e9
      exact CW.zret rfl (b2i_nar _) (by decide +kernel)
    · rw [if_neg c11_3] at hf
      refine CW.run (blk := [(.iconst 1, 1), (.goto 4, 0)]) (pc' := 19) (ls' := [some (.ref p0), some (.int p1), some (.int p2)]) (st' := [.int 1]) (by decide +kernel) rfl ?_
      have e9 := Option.some.inj hf
      subst e9
      exact CW.zret rfl (b2i_nar _) (by decide +kernel)
def fc_X5_gather_L10 (k0 : Nat) (k5 : Int32) : Nat → Int32 → cT → Option (Int32 × cT)
  | 0, _, _ => none
  | N + 1, a6, S => if (S.1 k0 3) ≤ a6 then (some (a6, S)) else (bif inb (k5 + a6) 2048 then (letv (cb S (k0 + 1) ((k5 + a6) : Int32).toNatClampNeg 0) fun S4 => fc_X5_gather_L10 k0 k5 N (a6 + 1) S4) else none)
def fc_X5_gather_L85 (k0 : Nat) (k5 : Int32) (k7 : Int32) : Nat → Int32 → cT → Option (Int32 × cT)
  | 0, _, _ => none
  | N + 1, a8, S => if (S.1 k0 3) ≤ a8 then (some (a8, S)) else (bif inb (k5 + a8) 2048 then (letv (S.2.1 (k0 + 1) ((k5 + a8) : Int32).toNatClampNeg) fun v12 => bif inb (k7 + a8) 2048 then (letv (S.2.1 (k0 + 1) ((k7 + a8) : Int32).toNatClampNeg) fun v13 => bif inb (k5 + a8) 2048 then (letv (cb S (k0 + 1) ((k5 + a8) : Int32).toNatClampNeg (v12 ||| v13)) fun S15 => fc_X5_gather_L85 k0 k5 k7 N (a8 + 1) S15) else none) else none) else none)
def fc_X5_gather_L53 (k0 : Nat) (k1 : Nat) (k2 : Int32) (k3 : Int32) (k5 : Int32) : Nat → Int32 → cT → Option (Int32 × cT)
  | 0, _, _ => none
  | N + 1, a6, S => if (S.1 k1 9) ≤ a6 then (some (a6, S)) else ((fc_X5_canGo k1 k3 a6 S).bind fun q8 => if (b2i q8) = 0 then (fc_X5_gather_L53 k0 k1 k2 k3 k5 N (a6 + 1) S) else ((fc_X5_start (k2 + 1) a6 S).bind fun q10 => (fc_X5_gather_L85 k0 k5 q10 FU 0 S).bind fun w16 => fc_X5_gather_L53 k0 k1 k2 k3 k5 N (a6 + 1) w16.2))
def fc_X5_gather (b : Nat) (p0 : Nat) (p1 : Int32) (p2 : Int32) (p3 : Int32) (S : cT) : Option (cT) := (fc_X5_start p1 p2 S).bind fun q1 => (fc_X5_gather_L10 b q1 FU 0 S).bind fun w5 => if p3 = 0 then ((fc_X5_gather_L53 b p0 p1 p2 q1 FU 0 w5.2).bind fun w17 => some w17.2) else (bif inb q1 2048 then (letv (cb w5.2 (b + 1) (q1 : Int32).toNatClampNeg 1) fun S19 => some S19) else none)
theorem xc_X5_gather_L10 {l : Launch} {r : Option Value} {S' : cT} (k0 : Nat) (k1 : Nat) (k2 : Int32) (k3 : Int32) (k4 : Int32) (k5 : Int32) (hk0 : cK k0 = 4) (hk1 : cK k1 = 2) : ∀ (N : Nat) (a6 : Int32) (S : cT) (W0 : Int32 × cT) (_ : fc_X5_gather_L10 k0 k5 N a6 S = some W0) (_ : CW l yy_X5_gather 4 r S' 36 [some (.ref k0), some (.ref k1), some (.int k2), some (.int k3), some (.int k4), some (.int k5), some (.int W0.1), none, none] [] W0.2), CW l yy_X5_gather 4 r S' 10 [some (.ref k0), some (.ref k1), some (.int k2), some (.int k3), some (.int k4), some (.int k5), some (.int a6), none, none] [] S := by
  intro N
  induction N with
  | zero =>
    intro a6 S W0 hf _
    cases hf
  | succ N ih =>
    intro a6 S W0 hf hk_1
    unfold fc_X5_gather_L10 at hf
    refine CW.run (blk := [(.iload 6, 0), (.aload_n 0, 0)]) (pc' := 13) (ls' := [some (.ref k0), some (.ref k1), some (.int k2), some (.int k3), some (.int k4), some (.int k5), some (.int a6), none, none]) (st' := [.ref k0, .int a6]) (by decide +kernel) rfl ?_
    refine CW.getf (v := .int (S.1 k0 3)) hk0 (by decide) fl_RX5_58 (by decide +kernel) rfl ?_
    refine CW.icmp_ge (off := 20) (tgt := 36) (by decide +kernel) (by decide) (fun c16_2 => ?_) (fun c16_2 => ?_)
    · rw [if_pos c16_2] at hf
      have e9 := Option.some.inj hf
      subst e9
      exact hk_1
    · rw [if_neg c16_2] at hf
      refine CW.run (blk := [(.aload_n 0, 0)]) (pc' := 20) (ls' := [some (.ref k0), some (.ref k1), some (.int k2), some (.int k3), some (.int k4), some (.int k5), some (.int a6), none, none]) (st' := [.ref k0]) (by decide +kernel) rfl ?_
      refine CW.getf (v := .ref (k0 + 1)) hk0 (by decide) fl_RX5_11 (by decide +kernel) rfl ?_
      refine CW.run (blk := [(.iload 5, 0), (.iload 6, 0), (.iadd, 0), (.lconst 0, 0)]) (pc' := 29) (ls' := [some (.ref k0), some (.ref k1), some (.int k2), some (.int k3), some (.int k4), some (.int k5), some (.int a6), none, none]) (st' := [.long 0, .int (k5 + a6), .ref (k0 + 1)]) (by decide +kernel) rfl ?_
      obtain ⟨hi3, hf⟩ := bi_some hf
      refine CW.last (kk_4_0 hk0) (kn_4_0 hk0) (by decide +kernel) (inb_in hi3) ?_
      obtain ⟨S4, hS4, hf⟩ := letv_some hf
      rw [← hS4]
      refine CW.run (blk := [(.iinc 6 1, 1), (.goto (-23), 0)]) (pc' := 10) (ls' := [some (.ref k0), some (.ref k1), some (.int k2), some (.int k3), some (.int k4), some (.int k5), some (.int (a6 + 1)), none, none]) (st' := []) (by decide +kernel) rfl ?_
      exact ih _ _ _ hf hk_1
theorem xc_X5_gather_L85 {l : Launch} {r : Option Value} {S' : cT} (k0 : Nat) (k1 : Nat) (k2 : Int32) (k3 : Int32) (k4 : Int32) (k5 : Int32) (k6 : Int32) (k7 : Int32) (hk0 : cK k0 = 4) (hk1 : cK k1 = 2) : ∀ (N : Nat) (a8 : Int32) (S : cT) (W0 : Int32 × cT) (_ : fc_X5_gather_L85 k0 k5 k7 N a8 S = some W0) (_ : CW l yy_X5_gather 4 r S' 123 [some (.ref k0), some (.ref k1), some (.int k2), some (.int k3), some (.int k4), some (.int k5), some (.int k6), some (.int k7), some (.int W0.1)] [] W0.2), CW l yy_X5_gather 4 r S' 85 [some (.ref k0), some (.ref k1), some (.int k2), some (.int k3), some (.int k4), some (.int k5), some (.int k6), some (.int k7), some (.int a8)] [] S := by
  intro N
  induction N with
  | zero =>
    intro a8 S W0 hf _
    cases hf
  | succ N ih =>
    intro a8 S W0 hf hk_1
    unfold fc_X5_gather_L85 at hf
    refine CW.run (blk := [(.iload 8, 0), (.aload_n 0, 0)]) (pc' := 88) (ls' := [some (.ref k0), some (.ref k1), some (.int k2), some (.int k3), some (.int k4), some (.int k5), some (.int k6), some (.int k7), some (.int a8)]) (st' := [.ref k0, .int a8]) (by decide +kernel) rfl ?_
    refine CW.getf (v := .int (S.1 k0 3)) hk0 (by decide) fl_RX5_58 (by decide +kernel) rfl ?_
    refine CW.icmp_ge (off := 32) (tgt := 123) (by decide +kernel) (by decide) (fun c91_11 => ?_) (fun c91_11 => ?_)
    · rw [if_pos c91_11] at hf
      have e9 := Option.some.inj hf
      subst e9
      exact hk_1
    · rw [if_neg c91_11] at hf
      refine CW.run (blk := [(.aload_n 0, 0)]) (pc' := 95) (ls' := [some (.ref k0), some (.ref k1), some (.int k2), some (.int k3), some (.int k4), some (.int k5), some (.int k6), some (.int k7), some (.int a8)]) (st' := [.ref k0]) (by decide +kernel) rfl ?_
      refine CW.getf (v := .ref (k0 + 1)) hk0 (by decide) fl_RX5_11 (by decide +kernel) rfl ?_
      refine CW.run (blk := [(.iload 5, 0), (.iload 8, 0), (.iadd, 0), (.dup2, 0)]) (pc' := 104) (ls' := [some (.ref k0), some (.ref k1), some (.int k2), some (.int k3), some (.int k4), some (.int k5), some (.int k6), some (.int k7), some (.int a8)]) (st' := [.int (k5 + a8), .ref (k0 + 1), .int (k5 + a8), .ref (k0 + 1)]) (by decide +kernel) rfl ?_
      obtain ⟨hi_v12, hf⟩ := bi_some hf
      obtain ⟨v12, hv12, hf⟩ := letv_some hf
      refine CW.lald (kk_4_0 hk0) (kn_4_0 hk0) (by decide +kernel) (inb_in hi_v12) ?_
      rw [← hv12]
      refine CW.run (blk := [(.aload_n 0, 0)]) (pc' := 106) (ls' := [some (.ref k0), some (.ref k1), some (.int k2), some (.int k3), some (.int k4), some (.int k5), some (.int k6), some (.int k7), some (.int a8)]) (st' := [.ref k0, .long v12, .int (k5 + a8), .ref (k0 + 1)]) (by decide +kernel) rfl ?_
      refine CW.getf (v := .ref (k0 + 1)) hk0 (by decide) fl_RX5_11 (by decide +kernel) rfl ?_
      refine CW.run (blk := [(.iload 7, 0), (.iload 8, 0), (.iadd, 0)]) (pc' := 114) (ls' := [some (.ref k0), some (.ref k1), some (.int k2), some (.int k3), some (.int k4), some (.int k5), some (.int k6), some (.int k7), some (.int a8)]) (st' := [.int (k7 + a8), .ref (k0 + 1), .long v12, .int (k5 + a8), .ref (k0 + 1)]) (by decide +kernel) rfl ?_
      obtain ⟨hi_v13, hf⟩ := bi_some hf
      obtain ⟨v13, hv13, hf⟩ := letv_some hf
      refine CW.lald (kk_4_0 hk0) (kn_4_0 hk0) (by decide +kernel) (inb_in hi_v13) ?_
      rw [← hv13]
      refine CW.run (blk := [(.lor, 0)]) (pc' := 116) (ls' := [some (.ref k0), some (.ref k1), some (.int k2), some (.int k3), some (.int k4), some (.int k5), some (.int k6), some (.int k7), some (.int a8)]) (st' := [.long (v12 ||| v13), .int (k5 + a8), .ref (k0 + 1)]) (by decide +kernel) rfl ?_
      obtain ⟨hi14, hf⟩ := bi_some hf
      refine CW.last (kk_4_0 hk0) (kn_4_0 hk0) (by decide +kernel) (inb_in hi14) ?_
      obtain ⟨S15, hS15, hf⟩ := letv_some hf
      rw [← hS15]
      refine CW.run (blk := [(.iinc 8 1, 1), (.goto (-35), 0)]) (pc' := 85) (ls' := [some (.ref k0), some (.ref k1), some (.int k2), some (.int k3), some (.int k4), some (.int k5), some (.int k6), some (.int k7), some (.int (a8 + 1))]) (st' := []) (by decide +kernel) rfl ?_
      exact ih _ _ _ hf hk_1
theorem xc_X5_gather_L53 {l : Launch} {r : Option Value} {S' : cT} (k0 : Nat) (k1 : Nat) (k2 : Int32) (k3 : Int32) (k4 : Int32) (k5 : Int32) (hk0 : cK k0 = 4) (hk1 : cK k1 = 2) : ∀ (N : Nat) (a6 : Int32) (S : cT) (W0 : Int32 × cT) (_ : fc_X5_gather_L53 k0 k1 k2 k3 k5 N a6 S = some W0) (_ : CW l yy_X5_gather 4 r S' 129 [some (.ref k0), some (.ref k1), some (.int k2), some (.int k3), some (.int k4), some (.int k5), some (.int W0.1), none, none] [] W0.2), CW l yy_X5_gather 4 r S' 53 [some (.ref k0), some (.ref k1), some (.int k2), some (.int k3), some (.int k4), some (.int k5), some (.int a6), none, none] [] S := by
  intro N
  induction N with
  | zero =>
    intro a6 S W0 hf _
    cases hf
  | succ N ih =>
    intro a6 S W0 hf hk_1
    unfold fc_X5_gather_L53 at hf
    refine CW.run (blk := [(.iload 6, 0), (.aload_n 1, 0)]) (pc' := 56) (ls' := [some (.ref k0), some (.ref k1), some (.int k2), some (.int k3), some (.int k4), some (.int k5), some (.int a6), none, none]) (st' := [.ref k1, .int a6]) (by decide +kernel) rfl ?_
    refine CW.getf (v := .int (S.1 k1 9)) hk1 (by decide) fl_RX5_35 (by decide +kernel) rfl ?_
    refine CW.icmp_ge (off := 70) (tgt := 129) (by decide +kernel) (by decide) (fun c59_7 => ?_) (fun c59_7 => ?_)
    · rw [if_pos c59_7] at hf
      have e9 := Option.some.inj hf
      subst e9
      exact hk_1
    · rw [if_neg c59_7] at hf
      refine CW.run (blk := [(.aload_n 1, 0), (.iload_n 3, 0), (.iload 6, 0)]) (pc' := 66) (ls' := [some (.ref k0), some (.ref k1), some (.int k2), some (.int k3), some (.int k4), some (.int k5), some (.int a6), none, none]) (st' := [.int a6, .int k3, .ref k1]) (by decide +kernel) rfl ?_
      obtain ⟨q8, hq8, hf⟩ := bd_some hf
      refine CW.callS (As := [.ref k1, .int k3, .int a6]) (st := []) lt_RX5_77 (by decide +kernel) (xc_X5_canGo hk1 hq8) (by decide) (by decide) rfl (Nat.le_of_ble_eq_true rfl) rfl ?_
      show CW l yy_X5_gather 4 _ _ 69 [some (.ref k0), some (.ref k1), some (.int k2), some (.int k3), some (.int k4), some (.int k5), some (.int a6), none, none] [.int (b2i q8)] S
      refine CW.if_eq (off := 54) (tgt := 123) (by decide +kernel) (by decide) (fun c69_9 => ?_) (fun c69_9 => ?_)
      · rw [if_pos c69_9] at hf
        refine CW.run (blk := [(.iinc 6 1, 1), (.goto (-73), 0)]) (pc' := 53) (ls' := [some (.ref k0), some (.ref k1), some (.int k2), some (.int k3), some (.int k4), some (.int k5), some (.int (a6 + 1)), none, none]) (st' := []) (by decide +kernel) rfl ?_
        exact ih _ _ _ hf hk_1
      · rw [if_neg c69_9] at hf
        refine CW.run (blk := [(.iload_n 2, 0), (.iconst 1, 1), (.iadd, 0), (.iload 6, 0)]) (pc' := 77) (ls' := [some (.ref k0), some (.ref k1), some (.int k2), some (.int k3), some (.int k4), some (.int k5), some (.int a6), none, none]) (st' := [.int a6, .int (k2 + 1)]) (by decide +kernel) rfl ?_
        obtain ⟨q10, hq10, hf⟩ := bd_some hf
        refine CW.callS (As := [.int (k2 + 1), .int a6]) (st := []) lt_RX5_43 (by decide +kernel) (xc_X5_start hq10) (by decide) (by decide) rfl (Nat.le_of_ble_eq_true rfl) rfl ?_
        show CW l yy_X5_gather 4 _ _ 80 [some (.ref k0), some (.ref k1), some (.int k2), some (.int k3), some (.int k4), some (.int k5), some (.int a6), none, none] [.int q10] S
        refine CW.run (blk := [(.istore 7, 0), (.iconst 0, 0), (.istore 8, 0)]) (pc' := 85) (ls' := [some (.ref k0), some (.ref k1), some (.int k2), some (.int k3), some (.int k4), some (.int k5), some (.int a6), some (.int q10), some (.int 0)]) (st' := []) (by decide +kernel) rfl ?_
        obtain ⟨w16, hw16, hf⟩ := bd_some hf
        refine xc_X5_gather_L85 k0 k1 k2 k3 k4 k5 a6 q10 hk0 hk1 FU _ _ _ hw16 ?_
        refine CW.run (blk := [(.iinc 6 1, 1), (.goto (-73), 0)]) (pc' := 53) (ls' := [some (.ref k0), some (.ref k1), some (.int k2), some (.int k3), some (.int k4), some (.int k5), some (.int (a6 + 1)), some (.int q10), some (.int w16.1)]) (st' := []) (by decide +kernel) rfl ?_
        refine CW.fgt (ls' := [some (.ref k0), some (.ref k1), some (.int k2), some (.int k3), some (.int k4), some (.int k5), some (.int (a6 + 1)), none, none]) (by repeat' (first | exact trivial | refine ⟨rfl, ?_⟩)) ?_
        exact ih _ _ _ hf hk_1
theorem xc_X5_gather {l : Launch} {b : Nat} {p0 : Nat} {p1 : Int32} {p2 : Int32} {p3 : Int32} {S : cT} {q : cT} (hb : cK b = 4) (h0 : cK p0 = 2) (hf : fc_X5_gather b p0 p1 p2 p3 S = some q) : COk l yy_X5_gather 4 [.ref b, .ref p0, .int p1, .int p2, .int p3] S none q := by
  refine COk.of (ls := [some (.ref b), some (.ref p0), some (.int p1), some (.int p2), some (.int p3), none, none, none, none]) (by decide +kernel) (Nat.le_of_ble_eq_true rfl) rfl ?_
  unfold fc_X5_gather at hf
  refine CW.run (blk := [(.iload_n 2, 0), (.iload_n 3, 0)]) (pc' := 2) (ls' := [some (.ref b), some (.ref p0), some (.int p1), some (.int p2), some (.int p3), none, none, none, none]) (st' := [.int p2, .int p1]) (by decide +kernel) rfl ?_
  obtain ⟨q1, hq1, hf⟩ := bd_some hf
  refine CW.callS (As := [.int p1, .int p2]) (st := []) lt_RX5_43 (by decide +kernel) (xc_X5_start hq1) (by decide) (by decide) rfl (Nat.le_of_ble_eq_true rfl) rfl ?_
  show CW l yy_X5_gather 4 _ _ 5 [some (.ref b), some (.ref p0), some (.int p1), some (.int p2), some (.int p3), none, none, none, none] [.int q1] S
  refine CW.run (blk := [(.istore 5, 0), (.iconst 0, 0), (.istore 6, 0)]) (pc' := 10) (ls' := [some (.ref b), some (.ref p0), some (.int p1), some (.int p2), some (.int p3), some (.int q1), some (.int 0), none, none]) (st' := []) (by decide +kernel) rfl ?_
  obtain ⟨w5, hw5, hf⟩ := bd_some hf
  refine xc_X5_gather_L10 b p0 p1 p2 p3 q1 hb h0 FU _ _ _ hw5 ?_
  refine CW.run (blk := [(.iload 4, 0)]) (pc' := 38) (ls' := [some (.ref b), some (.ref p0), some (.int p1), some (.int p2), some (.int p3), some (.int q1), some (.int w5.1), none, none]) (st' := [.int p3]) (by decide +kernel) rfl ?_
  refine CW.if_eq (off := 12) (tgt := 50) (by decide +kernel) (by decide) (fun c38_6 => ?_) (fun c38_6 => ?_)
  · rw [if_pos c38_6] at hf
    refine CW.run (blk := [(.iconst 0, 0), (.istore 6, 0)]) (pc' := 53) (ls' := [some (.ref b), some (.ref p0), some (.int p1), some (.int p2), some (.int p3), some (.int q1), some (.int 0), none, none]) (st' := []) (by decide +kernel) rfl ?_
    obtain ⟨w17, hw17, hf⟩ := bd_some hf
    refine xc_X5_gather_L53 b p0 p1 p2 p3 q1 hb h0 FU _ _ _ hw17 ?_
    have e9 := Option.some.inj hf
    subst e9
    exact CW.vret rfl (by decide +kernel)
  · rw [if_neg c38_6] at hf
    refine CW.run (blk := [(.aload_n 0, 0)]) (pc' := 42) (ls' := [some (.ref b), some (.ref p0), some (.int p1), some (.int p2), some (.int p3), some (.int q1), some (.int w5.1), none, none]) (st' := [.ref b]) (by decide +kernel) rfl ?_
    refine CW.getf (v := .ref (b + 1)) hb (by decide) fl_RX5_11 (by decide +kernel) rfl ?_
    refine CW.run (blk := [(.iload 5, 0), (.lconst 1, 0)]) (pc' := 48) (ls' := [some (.ref b), some (.ref p0), some (.int p1), some (.int p2), some (.int p3), some (.int q1), some (.int w5.1), none, none]) (st' := [.long 1, .int q1, .ref (b + 1)]) (by decide +kernel) rfl ?_
    obtain ⟨hi18, hf⟩ := bi_some hf
    refine CW.last (kk_4_0 hb) (kn_4_0 hb) (by decide +kernel) (inb_in hi18) ?_
    obtain ⟨S19, hS19, hf⟩ := letv_some hf
    rw [← hS19]
    have e9 := Option.some.inj hf
    subst e9
    exact CW.vret rfl (by decide +kernel)
def fc_X5_served_L5 (k0 : Nat) (k1 : Int32) (k2 : Int32) (S : cT) : Nat → Int32 → Int32 → Option (Int32 × Int32)
  | 0, _, _ => none
  | N + 1, a3, a4 => if (S.1 (k0 + 8) 3) ≤ a4 then (some (a3, a4)) else ((fc_X6_at (k0 + 8) a4 0 S).bind fun q2 => if q2 = k2 then ((fc_X6_at (k0 + 8) a4 1 S).bind fun q4 => if k1 < q4 then (fc_X5_served_L5 k0 k1 k2 S N a3 (a4 + 1)) else ((fc_X6_at (k0 + 8) a4 2 S).bind fun q6 => if q6 < k1 then (fc_X5_served_L5 k0 k1 k2 S N a3 (a4 + 1)) else (fc_X5_served_L5 k0 k1 k2 S N (a3 ||| ((1 : Int32) <<< (a4 &&& 31))) (a4 + 1)))) else (fc_X5_served_L5 k0 k1 k2 S N a3 (a4 + 1)))
def fc_X5_served (p0 : Nat) (p1 : Int32) (p2 : Int32) (S : cT) : Option (Int32) := (fc_X5_served_L5 p0 p1 p2 S FU 0 0).bind fun w8 => some w8.1
theorem xc_X5_served_L5 {l : Launch} {r : Option Value} {S' : cT} (k0 : Nat) (k1 : Int32) (k2 : Int32) (S : cT) (hk0 : cK k0 = 2) : ∀ (N : Nat) (a3 : Int32) (a4 : Int32) (W0 : Int32 × Int32) (_ : fc_X5_served_L5 k0 k1 k2 S N a3 a4 = some W0) (_ : CW l yy_X5_served 2 r S' 72 [some (.ref k0), some (.int k1), some (.int k2), some (.int W0.1), some (.int W0.2)] [] S), CW l yy_X5_served 2 r S' 5 [some (.ref k0), some (.int k1), some (.int k2), some (.int a3), some (.int a4)] [] S := by
  intro N
  induction N with
  | zero =>
    intro a3 a4 W0 hf _
    cases hf
  | succ N ih =>
    intro a3 a4 W0 hf hk_1
    unfold fc_X5_served_L5 at hf
    refine CW.run (blk := [(.iload 4, 0), (.aload_n 0, 0)]) (pc' := 8) (ls' := [some (.ref k0), some (.int k1), some (.int k2), some (.int a3), some (.int a4)]) (st' := [.ref k0, .int a4]) (by decide +kernel) rfl ?_
    refine CW.getf (v := .ref (k0 + 8)) hk0 (by decide) fl_RX5_61 (by decide +kernel) rfl ?_
    refine CW.getf (v := .int (S.1 (k0 + 8) 3)) (kk_2_6 hk0) (by decide) fl_RX5_65 (by decide +kernel) rfl ?_
    refine CW.icmp_ge (off := 58) (tgt := 72) (by decide +kernel) (by decide) (fun c14_1 => ?_) (fun c14_1 => ?_)
    · rw [if_pos c14_1] at hf
      have e9 := Option.some.inj hf
      subst e9
      exact hk_1
    · rw [if_neg c14_1] at hf
      refine CW.run (blk := [(.aload_n 0, 0)]) (pc' := 18) (ls' := [some (.ref k0), some (.int k1), some (.int k2), some (.int a3), some (.int a4)]) (st' := [.ref k0]) (by decide +kernel) rfl ?_
      refine CW.getf (v := .ref (k0 + 8)) hk0 (by decide) fl_RX5_61 (by decide +kernel) rfl ?_
      refine CW.run (blk := [(.iload 4, 0), (.iconst 0, 0)]) (pc' := 24) (ls' := [some (.ref k0), some (.int k1), some (.int k2), some (.int a3), some (.int a4)]) (st' := [.int 0, .int a4, .ref (k0 + 8)]) (by decide +kernel) rfl ?_
      obtain ⟨q2, hq2, hf⟩ := bd_some hf
      refine CW.callV (As := [.int a4, .int 0]) (st := []) lv_RX5_70 (kk_2_6 hk0) (by decide) rfl rfl (by decide +kernel) (xc_X6_at (kk_2_6 hk0) hq2) (by decide) (by decide) rfl (Nat.le_of_ble_eq_true rfl) rfl ?_
      show CW l yy_X5_served 2 _ _ 27 [some (.ref k0), some (.int k1), some (.int k2), some (.int a3), some (.int a4)] [.int q2] S
      refine CW.run (blk := [(.iload_n 2, 0)]) (pc' := 28) (ls' := [some (.ref k0), some (.int k1), some (.int k2), some (.int a3), some (.int a4)]) (st' := [.int k2, .int q2]) (by decide +kernel) rfl ?_
      refine CW.icmp_ne (off := 38) (tgt := 66) (by decide +kernel) (by decide) (fun c28_3 => ?_) (fun c28_3 => ?_)
      · rw [if_neg c28_3] at hf
        refine CW.run (blk := [(.iinc 4 1, 1), (.goto (-64), 0)]) (pc' := 5) (ls' := [some (.ref k0), some (.int k1), some (.int k2), some (.int a3), some (.int (a4 + 1))]) (st' := []) (by decide +kernel) rfl ?_
        exact ih _ _ _ hf hk_1
      · rw [if_pos c28_3] at hf
        refine CW.run (blk := [(.aload_n 0, 0)]) (pc' := 32) (ls' := [some (.ref k0), some (.int k1), some (.int k2), some (.int a3), some (.int a4)]) (st' := [.ref k0]) (by decide +kernel) rfl ?_
        refine CW.getf (v := .ref (k0 + 8)) hk0 (by decide) fl_RX5_61 (by decide +kernel) rfl ?_
        refine CW.run (blk := [(.iload 4, 0), (.iconst 1, 1)]) (pc' := 38) (ls' := [some (.ref k0), some (.int k1), some (.int k2), some (.int a3), some (.int a4)]) (st' := [.int 1, .int a4, .ref (k0 + 8)]) (by decide +kernel) rfl ?_
        obtain ⟨q4, hq4, hf⟩ := bd_some hf
        refine CW.callV (As := [.int a4, .int 1]) (st := []) lv_RX5_70 (kk_2_6 hk0) (by decide) rfl rfl (by decide +kernel) (xc_X6_at (kk_2_6 hk0) hq4) (by decide) (by decide) rfl (Nat.le_of_ble_eq_true rfl) rfl ?_
        show CW l yy_X5_served 2 _ _ 41 [some (.ref k0), some (.int k1), some (.int k2), some (.int a3), some (.int a4)] [.int q4] S
        refine CW.run (blk := [(.iload_n 1, 0)]) (pc' := 42) (ls' := [some (.ref k0), some (.int k1), some (.int k2), some (.int a3), some (.int a4)]) (st' := [.int k1, .int q4]) (by decide +kernel) rfl ?_
        refine CW.icmp_gt (off := 24) (tgt := 66) (by decide +kernel) (by decide) (fun c42_5 => ?_) (fun c42_5 => ?_)
        · rw [if_pos c42_5] at hf
          refine CW.run (blk := [(.iinc 4 1, 1), (.goto (-64), 0)]) (pc' := 5) (ls' := [some (.ref k0), some (.int k1), some (.int k2), some (.int a3), some (.int (a4 + 1))]) (st' := []) (by decide +kernel) rfl ?_
          exact ih _ _ _ hf hk_1
        · rw [if_neg c42_5] at hf
          refine CW.run (blk := [(.aload_n 0, 0)]) (pc' := 46) (ls' := [some (.ref k0), some (.int k1), some (.int k2), some (.int a3), some (.int a4)]) (st' := [.ref k0]) (by decide +kernel) rfl ?_
          refine CW.getf (v := .ref (k0 + 8)) hk0 (by decide) fl_RX5_61 (by decide +kernel) rfl ?_
          refine CW.run (blk := [(.iload 4, 0), (.iconst 2, 2)]) (pc' := 52) (ls' := [some (.ref k0), some (.int k1), some (.int k2), some (.int a3), some (.int a4)]) (st' := [.int 2, .int a4, .ref (k0 + 8)]) (by decide +kernel) rfl ?_
          obtain ⟨q6, hq6, hf⟩ := bd_some hf
          refine CW.callV (As := [.int a4, .int 2]) (st := []) lv_RX5_70 (kk_2_6 hk0) (by decide) rfl rfl (by decide +kernel) (xc_X6_at (kk_2_6 hk0) hq6) (by decide) (by decide) rfl (Nat.le_of_ble_eq_true rfl) rfl ?_
          show CW l yy_X5_served 2 _ _ 55 [some (.ref k0), some (.int k1), some (.int k2), some (.int a3), some (.int a4)] [.int q6] S
          refine CW.run (blk := [(.iload_n 1, 0)]) (pc' := 56) (ls' := [some (.ref k0), some (.int k1), some (.int k2), some (.int a3), some (.int a4)]) (st' := [.int k1, .int q6]) (by decide +kernel) rfl ?_
          refine CW.icmp_lt (off := 10) (tgt := 66) (by decide +kernel) (by decide) (fun c56_7 => ?_) (fun c56_7 => ?_)
          · rw [if_pos c56_7] at hf
            refine CW.run (blk := [(.iinc 4 1, 1), (.goto (-64), 0)]) (pc' := 5) (ls' := [some (.ref k0), some (.int k1), some (.int k2), some (.int a3), some (.int (a4 + 1))]) (st' := []) (by decide +kernel) rfl ?_
            exact ih _ _ _ hf hk_1
          · rw [if_neg c56_7] at hf
            refine CW.run (blk := [(.iload_n 3, 0), (.iconst 1, 1), (.iload 4, 0), (.ishl, 0), (.ior, 0), (.istore_n 3, 0), (.iinc 4 1, 1), (.goto (-64), 0)]) (pc' := 5) (ls' := [some (.ref k0), some (.int k1), some (.int k2), some (.int (a3 ||| ((1 : Int32) <<< (a4 &&& 31)))), some (.int (a4 + 1))]) (st' := []) (by decide +kernel) rfl ?_
            exact ih _ _ _ hf hk_1
theorem xc_X5_served {l : Launch} {p0 : Nat} {p1 : Int32} {p2 : Int32} {S : cT} {q : Int32} (h0 : cK p0 = 2) (hf : fc_X5_served p0 p1 p2 S = some q) : COk l yy_X5_served 2 [.ref p0, .int p1, .int p2] S (some (.int q)) S := by
  refine COk.of (ls := [some (.ref p0), some (.int p1), some (.int p2), none, none]) (by decide +kernel) (Nat.le_of_ble_eq_true rfl) rfl ?_
  unfold fc_X5_served at hf
  refine CW.run (blk := [(.iconst 0, 0), (.istore_n 3, 0), (.iconst 0, 0), (.istore 4, 0)]) (pc' := 5) (ls' := [some (.ref p0), some (.int p1), some (.int p2), some (.int 0), some (.int 0)]) (st' := []) (by decide +kernel) rfl ?_
  obtain ⟨w8, hw8, hf⟩ := bd_some hf
  refine xc_X5_served_L5 p0 p1 p2 S h0 FU _ _ _ hw8 ?_
  refine CW.run (blk := [(.iload_n 3, 0)]) (pc' := 73) (ls' := [some (.ref p0), some (.int p1), some (.int p2), some (.int w8.1), some (.int w8.2)]) (st' := [.int w8.1]) (by decide +kernel) rfl ?_
  have e9 := Option.some.inj hf
  subst e9
  exact CW.iret rfl (by decide +kernel)
def fc_X5_serveWithinWords_L2 (k0 : Nat) (k1 : Int32) (k2 : Int32) : Nat → Int32 → cT → Option (Int32 × cT)
  | 0, _, _ => none
  | N + 1, a3, S => if (S.1 k0 3) ≤ a3 then (some (a3, S)) else (bif inb (k1 + a3) 2048 then (letv (S.2.1 (k0 + 1) ((k1 + a3) : Int32).toNatClampNeg) fun v2 => bif inb k2 6 then (bif inb k2 6 then (bif inb (k1 + a3) 2048 then (letv (cb S (k0 + 1) ((k1 + a3) : Int32).toNatClampNeg ((v2 &&& ((wo (k2 : Int32).toNatClampNeg) ^^^ (-1))) ||| (((v2 &&& (wo (k2 : Int32).toNatClampNeg)) : Int64) <<< ((((1 : Int32) <<< (k2 &&& 31)) : Int32).toInt64 &&& 63)))) fun S6 => fc_X5_serveWithinWords_L2 k0 k1 k2 N (a3 + 1) S6) else none) else none) else none) else none)
def fc_X5_serveWithinWords (b : Nat) (p0 : Int32) (p1 : Int32) (S : cT) : Option (cT) := (fc_X5_serveWithinWords_L2 b p0 p1 FU 0 S).bind fun w7 => some w7.2
theorem xc_X5_serveWithinWords_L2 {l : Launch} {r : Option Value} {S' : cT} (k0 : Nat) (k1 : Int32) (k2 : Int32) (hk0 : cK k0 = 4) : ∀ (N : Nat) (a3 : Int32) (S : cT) (W0 : Int32 × cT) (_ : fc_X5_serveWithinWords_L2 k0 k1 k2 N a3 S = some W0) (_ : CW l yy_X5_serveWithinWords 0 r S' 59 [some (.ref k0), some (.int k1), some (.int k2), some (.int W0.1), none, none] [] W0.2), CW l yy_X5_serveWithinWords 0 r S' 2 [some (.ref k0), some (.int k1), some (.int k2), some (.int a3), none, none] [] S := by
  intro N
  induction N with
  | zero =>
    intro a3 S W0 hf _
    cases hf
  | succ N ih =>
    intro a3 S W0 hf hk_1
    unfold fc_X5_serveWithinWords_L2 at hf
    refine CW.run (blk := [(.iload_n 3, 0), (.aload_n 0, 0)]) (pc' := 4) (ls' := [some (.ref k0), some (.int k1), some (.int k2), some (.int a3), none, none]) (st' := [.ref k0, .int a3]) (by decide +kernel) rfl ?_
    refine CW.getf (v := .int (S.1 k0 3)) hk0 (by decide) fl_RX5_58 (by decide +kernel) rfl ?_
    refine CW.icmp_ge (off := 52) (tgt := 59) (by decide +kernel) (by decide) (fun c7_1 => ?_) (fun c7_1 => ?_)
    · rw [if_pos c7_1] at hf
      have e9 := Option.some.inj hf
      subst e9
      exact hk_1
    · rw [if_neg c7_1] at hf
      refine CW.run (blk := [(.aload_n 0, 0)]) (pc' := 11) (ls' := [some (.ref k0), some (.int k1), some (.int k2), some (.int a3), none, none]) (st' := [.ref k0]) (by decide +kernel) rfl ?_
      refine CW.getf (v := .ref (k0 + 1)) hk0 (by decide) fl_RX5_11 (by decide +kernel) rfl ?_
      refine CW.run (blk := [(.iload_n 1, 0), (.iload_n 3, 0), (.iadd, 0)]) (pc' := 17) (ls' := [some (.ref k0), some (.int k1), some (.int k2), some (.int a3), none, none]) (st' := [.int (k1 + a3), .ref (k0 + 1)]) (by decide +kernel) rfl ?_
      obtain ⟨hi_v2, hf⟩ := bi_some hf
      obtain ⟨v2, hv2, hf⟩ := letv_some hf
      refine CW.lald (kk_4_0 hk0) (kn_4_0 hk0) (by decide +kernel) (inb_in hi_v2) ?_
      rw [← hv2]
      refine CW.run (blk := [(.lstore 4, 0), (.aload_n 0, 0)]) (pc' := 21) (ls' := [some (.ref k0), some (.int k1), some (.int k2), some (.int a3), some (.long v2), none]) (st' := [.ref k0]) (by decide +kernel) rfl ?_
      refine CW.getf (v := .ref (k0 + 1)) hk0 (by decide) fl_RX5_11 (by decide +kernel) rfl ?_
      refine CW.run (blk := [(.iload_n 1, 0), (.iload_n 3, 0), (.iadd, 0), (.lload 4, 0)]) (pc' := 29) (ls' := [some (.ref k0), some (.int k1), some (.int k2), some (.int a3), some (.long v2), none]) (st' := [.long v2, .int (k1 + a3), .ref (k0 + 1)]) (by decide +kernel) rfl ?_
      refine CW.getW rfl (by decide +kernel) ?_
      refine CW.run (blk := [(.iload_n 2, 0)]) (pc' := 33) (ls' := [some (.ref k0), some (.int k1), some (.int k2), some (.int a3), some (.long v2), none]) (st' := [.int k2, .ref kW, .long v2, .int (k1 + a3), .ref (k0 + 1)]) (by decide +kernel) rfl ?_
      obtain ⟨hi3, hf⟩ := bi_some hf
      refine CW.lalW (by decide +kernel) (inb_in hi3) ?_
      refine CW.ldc2 (idx := 90) (v := (-1)) (tb_in 929 (by decide +kernel) (by decide +kernel)) (by decide +kernel) ?_
      refine CW.run (blk := [(.lxor, 0), (.land, 0), (.lload 4, 0)]) (pc' := 41) (ls' := [some (.ref k0), some (.int k1), some (.int k2), some (.int a3), some (.long v2), none]) (st' := [.long v2, .long (v2 &&& ((wo (k2 : Int32).toNatClampNeg) ^^^ (-1))), .int (k1 + a3), .ref (k0 + 1)]) (by decide +kernel) rfl ?_
      refine CW.getW rfl (by decide +kernel) ?_
      refine CW.run (blk := [(.iload_n 2, 0)]) (pc' := 45) (ls' := [some (.ref k0), some (.int k1), some (.int k2), some (.int a3), some (.long v2), none]) (st' := [.int k2, .ref kW, .long v2, .long (v2 &&& ((wo (k2 : Int32).toNatClampNeg) ^^^ (-1))), .int (k1 + a3), .ref (k0 + 1)]) (by decide +kernel) rfl ?_
      obtain ⟨hi4, hf⟩ := bi_some hf
      refine CW.lalW (by decide +kernel) (inb_in hi4) ?_
      refine CW.run (blk := [(.land, 0), (.iconst 1, 1), (.iload_n 2, 0), (.ishl, 0), (.lshl, 0), (.lor, 0)]) (pc' := 52) (ls' := [some (.ref k0), some (.int k1), some (.int k2), some (.int a3), some (.long v2), none]) (st' := [.long ((v2 &&& ((wo (k2 : Int32).toNatClampNeg) ^^^ (-1))) ||| (((v2 &&& (wo (k2 : Int32).toNatClampNeg)) : Int64) <<< ((((1 : Int32) <<< (k2 &&& 31)) : Int32).toInt64 &&& 63))), .int (k1 + a3), .ref (k0 + 1)]) (by decide +kernel) rfl ?_
      obtain ⟨hi5, hf⟩ := bi_some hf
      refine CW.last (kk_4_0 hk0) (kn_4_0 hk0) (by decide +kernel) (inb_in hi5) ?_
      obtain ⟨S6, hS6, hf⟩ := letv_some hf
      rw [← hS6]
      refine CW.run (blk := [(.iinc 3 1, 1), (.goto (-54), 0)]) (pc' := 2) (ls' := [some (.ref k0), some (.int k1), some (.int k2), some (.int (a3 + 1)), some (.long v2), none]) (st' := []) (by decide +kernel) rfl ?_
      refine CW.fgt (ls' := [some (.ref k0), some (.int k1), some (.int k2), some (.int (a3 + 1)), none, none]) (by repeat' (first | exact trivial | refine ⟨rfl, ?_⟩)) ?_
      exact ih _ _ _ hf hk_1
theorem xc_X5_serveWithinWords {l : Launch} {b : Nat} {p0 : Int32} {p1 : Int32} {S : cT} {q : cT} (hb : cK b = 4) (hf : fc_X5_serveWithinWords b p0 p1 S = some q) : COk l yy_X5_serveWithinWords 0 [.ref b, .int p0, .int p1] S none q := by
  refine COk.of (ls := [some (.ref b), some (.int p0), some (.int p1), none, none, none]) (by decide +kernel) (Nat.le_of_ble_eq_true rfl) rfl ?_
  unfold fc_X5_serveWithinWords at hf
  refine CW.run (blk := [(.iconst 0, 0), (.istore_n 3, 0)]) (pc' := 2) (ls' := [some (.ref b), some (.int p0), some (.int p1), some (.int 0), none, none]) (st' := []) (by decide +kernel) rfl ?_
  obtain ⟨w7, hw7, hf⟩ := bd_some hf
  refine xc_X5_serveWithinWords_L2 b p0 p1 hb FU _ _ _ hw7 ?_
  have e9 := Option.some.inj hf
  subst e9
  exact CW.vret rfl (by decide +kernel)
