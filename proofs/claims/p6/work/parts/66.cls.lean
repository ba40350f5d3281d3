/-! ===== the class, method by method (by program) 17 ===== -/
def fc_X11_peopleWhoKnow_L4 (k0 : Nat) (k1 : Nat) : Nat → Int32 → Int32 → cT → Option (Int32 × Int32 × cT)
  | 0, _, _, _ => none
  | N + 1, a2, a3, S => if (S.1 k1 9) ≤ a3 then (some (a2, a3, S)) else ((fc_X11_inForce k0 S).bind fun q2 => bif Nat.beq (cK q2) 6 then ((fc_X4_believed (k0 + 101) k1 q2 a3 S).bind fun q4 => (fc_X2_faceOf k1 a3 q4.2).bind fun q5 => if q4.1 = q5 then (fc_X11_peopleWhoKnow_L4 k0 k1 N (a2 + 1) (a3 + 1) q4.2) else (fc_X11_peopleWhoKnow_L4 k0 k1 N a2 (a3 + 1) q4.2)) else none)
def fc_X11_peopleWhoKnow (b : Nat) (p0 : Nat) (S : cT) : Option (Int32 × cT) := (fc_X11_peopleWhoKnow_L4 b p0 FU 0 0 S).bind fun w7 => some (w7.1, w7.2.2)
theorem xc_X11_peopleWhoKnow_L4 {l : Launch} {r : Option Value} {S' : cT} (k0 : Nat) (k1 : Nat) (hk0 : cK k0 = 9) (hk1 : cK k1 = 2) : ∀ (N : Nat) (a2 : Int32) (a3 : Int32) (S : cT) (W0 : Int32 × Int32 × cT) (_ : fc_X11_peopleWhoKnow_L4 k0 k1 N a2 a3 S = some W0) (_ : CW l yy_X11_peopleWhoKnow 6 r S' 42 [some (.ref k0), some (.ref k1), some (.int W0.1), some (.int W0.2.1)] [] W0.2.2), CW l yy_X11_peopleWhoKnow 6 r S' 4 [some (.ref k0), some (.ref k1), some (.int a2), some (.int a3)] [] S := by
  intro N
  induction N with
  | zero =>
    intro a2 a3 S W0 hf _
    cases hf
  | succ N ih =>
    intro a2 a3 S W0 hf hk_1
    unfold fc_X11_peopleWhoKnow_L4 at hf
    refine CW.run (blk := [(.iload_n 3, 0), (.aload_n 1, 0)]) (pc' := 6) (ls' := [some (.ref k0), some (.ref k1), some (.int a2), some (.int a3)]) (st' := [.ref k1, .int a3]) (by decide +kernel) rfl ?_
    refine CW.getf (v := .int (S.1 k1 9)) hk1 (by decide) fl_RX11_99 (by decide +kernel) rfl ?_
    refine CW.icmp_ge (off := 33) (tgt := 42) (by decide +kernel) (by decide) (fun c9_1 => ?_) (fun c9_1 => ?_)
    · rw [if_pos c9_1] at hf
      have e9 := Option.some.inj hf
      subst e9
      exact hk_1
    · rw [if_neg c9_1] at hf
      refine CW.run (blk := [(.aload_n 0, 0)]) (pc' := 13) (ls' := [some (.ref k0), some (.ref k1), some (.int a2), some (.int a3)]) (st' := [.ref k0]) (by decide +kernel) rfl ?_
      refine CW.getf (v := .ref (k0 + 101)) hk0 (by decide) fl_RX11_48 (by decide +kernel) rfl ?_
      refine CW.run (blk := [(.aload_n 1, 0), (.aload_n 0, 0)]) (pc' := 18) (ls' := [some (.ref k0), some (.ref k1), some (.int a2), some (.int a3)]) (st' := [.ref k0, .ref k1, .ref (k0 + 101)]) (by decide +kernel) rfl ?_
      obtain ⟨q2, hq2, hf⟩ := bd_some hf
      refine CW.callV (As := []) (st := [.ref k1, .ref (k0 + 101)]) lv_RX11_130 hk0 (by decide) rfl rfl (by decide +kernel) (xc_X11_inForce hk0 hq2) (by decide) (by decide) rfl (Nat.le_of_ble_eq_true rfl) rfl ?_
      show CW l yy_X11_peopleWhoKnow 6 _ _ 21 [some (.ref k0), some (.ref k1), some (.int a2), some (.int a3)] [.ref q2, .ref k1, .ref (k0 + 101)] S
      obtain ⟨hk3, hf⟩ := bi_some hf
      refine CW.run (blk := [(.iload_n 3, 0)]) (pc' := 22) (ls' := [some (.ref k0), some (.ref k1), some (.int a2), some (.int a3)]) (st' := [.int a3, .ref q2, .ref k1, .ref (k0 + 101)]) (by decide +kernel) rfl ?_
      obtain ⟨q4, hq4, hf⟩ := bd_some hf
      refine CW.callV (As := [.ref k1, .ref q2, .int a3]) (st := []) lv_RX11_133 (kk_9_6 hk0) (by decide) rfl rfl (by decide +kernel) (xc_X4_believed (kk_9_6 hk0) hk1 (Nat.eq_of_beq_eq_true hk3) hq4) (by decide) (by decide) rfl (Nat.le_of_ble_eq_true rfl) rfl ?_
      show CW l yy_X11_peopleWhoKnow 6 _ _ 25 [some (.ref k0), some (.ref k1), some (.int a2), some (.int a3)] [.int q4.1] q4.2
      refine CW.run (blk := [(.aload_n 1, 0), (.iload_n 3, 0)]) (pc' := 27) (ls' := [some (.ref k0), some (.ref k1), some (.int a2), some (.int a3)]) (st' := [.int a3, .ref k1, .int q4.1]) (by decide +kernel) rfl ?_
      obtain ⟨q5, hq5, hf⟩ := bd_some hf
      refine CW.callV (As := [.int a3]) (st := [.int q4.1]) lv_RX11_186 hk1 (by decide) rfl rfl (by decide +kernel) (xc_X2_faceOf hk1 hq5) (by decide) (by decide) rfl (Nat.le_of_ble_eq_true rfl) rfl ?_
      show CW l yy_X11_peopleWhoKnow 6 _ _ 30 [some (.ref k0), some (.ref k1), some (.int a2), some (.int a3)] [.int q5, .int q4.1] q4.2
      refine CW.icmp_ne (off := 6) (tgt := 36) (by decide +kernel) (by decide) (fun c30_6 => ?_) (fun c30_6 => ?_)
      · rw [if_neg c30_6] at hf
        refine CW.run (blk := [(.iinc 3 1, 1), (.goto (-35), 0)]) (pc' := 4) (ls' := [some (.ref k0), some (.ref k1), some (.int a2), some (.int (a3 + 1))]) (st' := []) (by decide +kernel) rfl ?_
        exact ih _ _ _ _ hf hk_1
      · rw [if_pos c30_6] at hf
        refine CW.run (blk := [(.iinc 2 1, 1), (.iinc 3 1, 1), (.goto (-35), 0)]) (pc' := 4) (ls' := [some (.ref k0), some (.ref k1), some (.int (a2 + 1)), some (.int (a3 + 1))]) (st' := []) (by decide +kernel) rfl ?_
        exact ih _ _ _ _ hf hk_1
theorem xc_X11_peopleWhoKnow {l : Launch} {b : Nat} {p0 : Nat} {S : cT} {q : Int32 × cT} (hb : cK b = 9) (h0 : cK p0 = 2) (hf : fc_X11_peopleWhoKnow b p0 S = some q) : COk l yy_X11_peopleWhoKnow 6 [.ref b, .ref p0] S (some (.int q.1)) q.2 := by
  refine COk.of (ls := [some (.ref b), some (.ref p0), none, none]) (by decide +kernel) (Nat.le_of_ble_eq_true rfl) rfl ?_
  unfold fc_X11_peopleWhoKnow at hf
  refine CW.run (blk := [(.iconst 0, 0), (.istore_n 2, 0), (.iconst 0, 0), (.istore_n 3, 0)]) (pc' := 4) (ls' := [some (.ref b), some (.ref p0), some (.int 0), some (.int 0)]) (st' := []) (by decide +kernel) rfl ?_
  obtain ⟨w7, hw7, hf⟩ := bd_some hf
  refine xc_X11_peopleWhoKnow_L4 b p0 hb h0 FU _ _ _ _ hw7 ?_
  refine CW.run (blk := [(.iload_n 2, 0)]) (pc' := 43) (ls' := [some (.ref b), some (.ref p0), some (.int w7.1), some (.int w7.2.1)]) (st' := [.int w7.1]) (by decide +kernel) rfl ?_
  have e9 := Option.some.inj hf
  subst e9
  exact CW.iret rfl (by decide +kernel)
def fc_X11_marksOpen_L4 (k0 : Nat) (k1 : Nat) : Nat → Int32 → Int32 → cT → Option (Int32 × Int32 × cT)
  | 0, _, _, _ => none
  | N + 1, a2, a3, S => if (S.1 k1 9) ≤ a3 then (some (a2, a3, S)) else ((fc_X11_inForce k0 S).bind fun q2 => bif Nat.beq (cK q2) 6 then ((fc_X4_open (k0 + 101) k1 q2 a3 S).bind fun q4 => (fc_J6_bitCount_0f7a4 q4.1).bind fun q5 => fc_X11_marksOpen_L4 k0 k1 N (a2 + q5) (a3 + 1) q4.2) else none)
def fc_X11_marksOpen (b : Nat) (p0 : Nat) (S : cT) : Option (Int32 × cT) := (fc_X11_marksOpen_L4 b p0 FU 0 0 S).bind fun w6 => some (w6.1, w6.2.2)
theorem xc_X11_marksOpen_L4 {l : Launch} {r : Option Value} {S' : cT} (k0 : Nat) (k1 : Nat) (hk0 : cK k0 = 9) (hk1 : cK k1 = 2) : ∀ (N : Nat) (a2 : Int32) (a3 : Int32) (S : cT) (W0 : Int32 × Int32 × cT) (_ : fc_X11_marksOpen_L4 k0 k1 N a2 a3 S = some W0) (_ : CW l yy_X11_marksOpen 6 r S' 37 [some (.ref k0), some (.ref k1), some (.int W0.1), some (.int W0.2.1)] [] W0.2.2), CW l yy_X11_marksOpen 6 r S' 4 [some (.ref k0), some (.ref k1), some (.int a2), some (.int a3)] [] S := by
  intro N
  induction N with
  | zero =>
    intro a2 a3 S W0 hf _
    cases hf
  | succ N ih =>
    intro a2 a3 S W0 hf hk_1
    unfold fc_X11_marksOpen_L4 at hf
    refine CW.run (blk := [(.iload_n 3, 0), (.aload_n 1, 0)]) (pc' := 6) (ls' := [some (.ref k0), some (.ref k1), some (.int a2), some (.int a3)]) (st' := [.ref k1, .int a3]) (by decide +kernel) rfl ?_
    refine CW.getf (v := .int (S.1 k1 9)) hk1 (by decide) fl_RX11_99 (by decide +kernel) rfl ?_
    refine CW.icmp_ge (off := 28) (tgt := 37) (by decide +kernel) (by decide) (fun c9_1 => ?_) (fun c9_1 => ?_)
    · rw [if_pos c9_1] at hf
      have e9 := Option.some.inj hf
      subst e9
      exact hk_1
    · rw [if_neg c9_1] at hf
      refine CW.run (blk := [(.iload_n 2, 0), (.aload_n 0, 0)]) (pc' := 14) (ls' := [some (.ref k0), some (.ref k1), some (.int a2), some (.int a3)]) (st' := [.ref k0, .int a2]) (by decide +kernel) rfl ?_
      refine CW.getf (v := .ref (k0 + 101)) hk0 (by decide) fl_RX11_48 (by decide +kernel) rfl ?_
      refine CW.run (blk := [(.aload_n 1, 0), (.aload_n 0, 0)]) (pc' := 19) (ls' := [some (.ref k0), some (.ref k1), some (.int a2), some (.int a3)]) (st' := [.ref k0, .ref k1, .ref (k0 + 101), .int a2]) (by decide +kernel) rfl ?_
      obtain ⟨q2, hq2, hf⟩ := bd_some hf
      refine CW.callV (As := []) (st := [.ref k1, .ref (k0 + 101), .int a2]) lv_RX11_130 hk0 (by decide) rfl rfl (by decide +kernel) (xc_X11_inForce hk0 hq2) (by decide) (by decide) rfl (Nat.le_of_ble_eq_true rfl) rfl ?_
      show CW l yy_X11_marksOpen 6 _ _ 22 [some (.ref k0), some (.ref k1), some (.int a2), some (.int a3)] [.ref q2, .ref k1, .ref (k0 + 101), .int a2] S
      obtain ⟨hk3, hf⟩ := bi_some hf
      refine CW.run (blk := [(.iload_n 3, 0)]) (pc' := 23) (ls' := [some (.ref k0), some (.ref k1), some (.int a2), some (.int a3)]) (st' := [.int a3, .ref q2, .ref k1, .ref (k0 + 101), .int a2]) (by decide +kernel) rfl ?_
      obtain ⟨q4, hq4, hf⟩ := bd_some hf
      refine CW.callV (As := [.ref k1, .ref q2, .int a3]) (st := [.int a2]) lv_RX11_137 (kk_9_6 hk0) (by decide) rfl rfl (by decide +kernel) (xc_X4_open (kk_9_6 hk0) hk1 (Nat.eq_of_beq_eq_true hk3) hq4) (by decide) (by decide) rfl (Nat.le_of_ble_eq_true rfl) rfl ?_
      show CW l yy_X11_marksOpen 6 _ _ 26 [some (.ref k0), some (.ref k1), some (.int a2), some (.int a3)] [.int q4.1, .int a2] q4.2
      obtain ⟨q5, hq5, hf⟩ := bd_some hf
      refine CW.callP (As := [.int q4.1]) (st := [.int a2]) lt_RX11_340 (by decide +kernel) (xc_J6_bitCount_0f7a4 hq5) (by decide) (by decide) rfl (Nat.le_of_ble_eq_true rfl) rfl ?_
      show CW l yy_X11_marksOpen 6 _ _ 29 [some (.ref k0), some (.ref k1), some (.int a2), some (.int a3)] [.int q5, .int a2] q4.2
      refine CW.run (blk := [(.iadd, 0), (.istore_n 2, 0), (.iinc 3 1, 1), (.goto (-30), 0)]) (pc' := 4) (ls' := [some (.ref k0), some (.ref k1), some (.int (a2 + q5)), some (.int (a3 + 1))]) (st' := []) (by decide +kernel) rfl ?_
      exact ih _ _ _ _ hf hk_1
theorem xc_X11_marksOpen {l : Launch} {b : Nat} {p0 : Nat} {S : cT} {q : Int32 × cT} (hb : cK b = 9) (h0 : cK p0 = 2) (hf : fc_X11_marksOpen b p0 S = some q) : COk l yy_X11_marksOpen 6 [.ref b, .ref p0] S (some (.int q.1)) q.2 := by
  refine COk.of (ls := [some (.ref b), some (.ref p0), none, none]) (by decide +kernel) (Nat.le_of_ble_eq_true rfl) rfl ?_
  unfold fc_X11_marksOpen at hf
  refine CW.run (blk := [(.iconst 0, 0), (.istore_n 2, 0), (.iconst 0, 0), (.istore_n 3, 0)]) (pc' := 4) (ls' := [some (.ref b), some (.ref p0), some (.int 0), some (.int 0)]) (st' := []) (by decide +kernel) rfl ?_
  obtain ⟨w6, hw6, hf⟩ := bd_some hf
  refine xc_X11_marksOpen_L4 b p0 hb h0 FU _ _ _ _ hw6 ?_
  refine CW.run (blk := [(.iload_n 2, 0)]) (pc' := 38) (ls' := [some (.ref b), some (.ref p0), some (.int w6.1), some (.int w6.2.1)]) (st' := [.int w6.1]) (by decide +kernel) rfl ?_
  have e9 := Option.some.inj hf
  subst e9
  exact CW.iret rfl (by decide +kernel)
def fc_X11_drawn_L127 (k0 : Nat) (k1 : Int32) (k3 : Int32) (k4 : Int32) : Nat → Int32 → cT → Option (Int32 × cT)
  | 0, _, _ => none
  | N + 1, a8, S => if k3 ≤ a8 then (some (a8, S)) else (bif Nat.beq (cK S.2.2.2) 2 then ((fc_X11_ruleAt k0 k1 S).bind fun q24 => bif Nat.beq (cK q24) 6 then ((fc_X11_drawHour k0 S.2.2.2 q24 k4 S).bind fun q26 => fc_X11_drawn_L127 k0 k1 k3 k4 N (a8 + 1) q26) else none) else none)
def fc_X11_drawn_L84 (k0 : Nat) (k1 : Int32) (k2 : Int32) (k3 : Int32) (k4 : Int32) (k5 : Int32) : Nat → Int32 → Int32 → cT → Option (Int32 × Int32 × cT)
  | 0, _, _, _ => none
  | N + 1, a6, a7, S => if k2 ≤ a7 then (some (a6, a7, S)) else (bif Nat.beq (cK S.2.2.2) 2 then (bif Nat.beq (cK S.2.2.1) 2 then (letv (ca S S.2.2.2 12 (S.1 S.2.2.1 12)) fun S18 => bif Nat.beq (cK S18.2.2.2) 2 then (bif Nat.beq (cK S18.2.2.1) 2 then ((fc_X6_cutTo (S18.2.2.2 + 6) (S18.1 (S18.2.2.1 + 6) 3) S18).bind fun q21 => (fc_X11_drawn_L127 k0 k1 k3 k4 FU 0 q21).bind fun w27 => if k5 = 0 then (bif Nat.beq (cK w27.2.2.2.2) 2 then ((fc_X11_peopleWhoKnow k0 w27.2.2.2.2 w27.2).bind fun q32 => fc_X11_drawn_L84 k0 k1 k2 k3 k4 k5 N (a6 + q32.1) (a7 + 1) q32.2) else none) else (bif Nat.beq (cK w27.2.2.2.2) 2 then ((fc_X11_marksOpen k0 w27.2.2.2.2 w27.2).bind fun q30 => fc_X11_drawn_L84 k0 k1 k2 k3 k4 k5 N (a6 + q30.1) (a7 + 1) q30.2) else none)) else none) else none) else none) else none)
def fc_X11_drawn (b : Nat) (p0 : Int32) (p1 : Int32) (p2 : Int32) (p3 : Int32) (p4 : Int32) (S : cT) : Option (Int32 × cT) := (fc_X11_isRuleOrNone b p0 S).bind fun q1 => if (b2i q1) = 0 then (some ((-1), S)) else (bif Nat.beq (cK S.2.2.1) 2 then (if (S.1 S.2.2.1 9) = 0 then (some ((-1), S)) else (if p4 < 0 then (some ((-1), S)) else (if p4 ≤ 1 then (if p1 < 1 then (some ((-1), S)) else (if 20 < p1 then (some ((-1), S)) else (if p2 < 1 then (some ((-1), S)) else (if 60 < p2 then (some ((-1), S)) else (if p3 < 0 then (some ((-1), S)) else (if p3 ≤ 100 then (bif Nat.beq (cK S.2.2.2) 2 then ((fc_X2_copyFrom S.2.2.2 S.2.2.1 S).bind fun q14 => (fc_X11_drawn_L84 b p0 p1 p2 p3 p4 FU 0 0 q14).bind fun w33 => some (w33.1, w33.2.2)) else none) else (some ((-1), S)))))))) else (some ((-1), S))))) else none)
theorem xc_X11_drawn_L127 {l : Launch} {r : Option Value} {S' : cT} (k0 : Nat) (k1 : Int32) (k2 : Int32) (k3 : Int32) (k4 : Int32) (k5 : Int32) (k6 : Int32) (k7 : Int32) (hk0 : cK k0 = 9) : ∀ (N : Nat) (a8 : Int32) (S : cT) (W0 : Int32 × cT) (_ : fc_X11_drawn_L127 k0 k1 k3 k4 N a8 S = some W0) (_ : CW l yy_X11_drawn 7 r S' 154 [some (.ref k0), some (.int k1), some (.int k2), some (.int k3), some (.int k4), some (.int k5), some (.int k6), some (.int k7), some (.int W0.1)] [] W0.2), CW l yy_X11_drawn 7 r S' 127 [some (.ref k0), some (.int k1), some (.int k2), some (.int k3), some (.int k4), some (.int k5), some (.int k6), some (.int k7), some (.int a8)] [] S := by
  intro N
  induction N with
  | zero =>
    intro a8 S W0 hf _
    cases hf
  | succ N ih =>
    intro a8 S W0 hf hk_1
    unfold fc_X11_drawn_L127 at hf
    refine CW.run (blk := [(.iload 8, 0), (.iload_n 3, 0)]) (pc' := 130) (ls' := [some (.ref k0), some (.int k1), some (.int k2), some (.int k3), some (.int k4), some (.int k5), some (.int k6), some (.int k7), some (.int a8)]) (st' := [.int k3, .int a8]) (by decide +kernel) rfl ?_
    refine CW.icmp_ge (off := 24) (tgt := 154) (by decide +kernel) (by decide) (fun c130_22 => ?_) (fun c130_22 => ?_)
    · rw [if_pos c130_22] at hf
      have e9 := Option.some.inj hf
      subst e9
      exact hk_1
    · rw [if_neg c130_22] at hf
      refine CW.run (blk := [(.aload_n 0, 0), (.aload_n 0, 0)]) (pc' := 135) (ls' := [some (.ref k0), some (.int k1), some (.int k2), some (.int k3), some (.int k4), some (.int k5), some (.int k6), some (.int k7), some (.int a8)]) (st' := [.ref k0, .ref k0]) (by decide +kernel) rfl ?_
      refine CW.getf (v := .ref S.2.2.2) hk0 (by decide) fl_RX11_70 (by decide +kernel) rfl ?_
      obtain ⟨hk23, hf⟩ := bi_some hf
      refine CW.run (blk := [(.aload_n 0, 0), (.iload_n 1, 0)]) (pc' := 140) (ls' := [some (.ref k0), some (.int k1), some (.int k2), some (.int k3), some (.int k4), some (.int k5), some (.int k6), some (.int k7), some (.int a8)]) (st' := [.int k1, .ref k0, .ref S.2.2.2, .ref k0]) (by decide +kernel) rfl ?_
      obtain ⟨q24, hq24, hf⟩ := bd_some hf
      refine CW.callV (As := [.int k1]) (st := [.ref S.2.2.2, .ref k0]) lv_RX11_189 hk0 (by decide) rfl rfl (by decide +kernel) (xc_X11_ruleAt hk0 hq24) (by decide) (by decide) rfl (Nat.le_of_ble_eq_true rfl) rfl ?_
      show CW l yy_X11_drawn 7 _ _ 143 [some (.ref k0), some (.int k1), some (.int k2), some (.int k3), some (.int k4), some (.int k5), some (.int k6), some (.int k7), some (.int a8)] [.ref q24, .ref S.2.2.2, .ref k0] S
      obtain ⟨hk25, hf⟩ := bi_some hf
      refine CW.run (blk := [(.iload 4, 0)]) (pc' := 145) (ls' := [some (.ref k0), some (.int k1), some (.int k2), some (.int k3), some (.int k4), some (.int k5), some (.int k6), some (.int k7), some (.int a8)]) (st' := [.int k4, .ref q24, .ref S.2.2.2, .ref k0]) (by decide +kernel) rfl ?_
      obtain ⟨q26, hq26, hf⟩ := bd_some hf
      refine CW.callV (As := [.ref S.2.2.2, .ref q24, .int k4]) (st := []) lv_RX11_309 hk0 (by decide) rfl rfl (by decide +kernel) (xc_X11_drawHour hk0 (Nat.eq_of_beq_eq_true hk23) (Nat.eq_of_beq_eq_true hk25) hq26) (by decide) (by decide) rfl (Nat.le_of_ble_eq_true rfl) rfl ?_
      show CW l yy_X11_drawn 7 _ _ 148 [some (.ref k0), some (.int k1), some (.int k2), some (.int k3), some (.int k4), some (.int k5), some (.int k6), some (.int k7), some (.int a8)] [] q26
      refine CW.run (blk := [(.iinc 8 1, 1), (.goto (-24), 0)]) (pc' := 127) (ls' := [some (.ref k0), some (.int k1), some (.int k2), some (.int k3), some (.int k4), some (.int k5), some (.int k6), some (.int k7), some (.int (a8 + 1))]) (st' := []) (by decide +kernel) rfl ?_
      exact ih _ _ _ hf hk_1
theorem xc_X11_drawn_L84 {l : Launch} {r : Option Value} {S' : cT} (k0 : Nat) (k1 : Int32) (k2 : Int32) (k3 : Int32) (k4 : Int32) (k5 : Int32) (hk0 : cK k0 = 9) : ∀ (N : Nat) (a6 : Int32) (a7 : Int32) (S : cT) (W0 : Int32 × Int32 × cT) (_ : fc_X11_drawn_L84 k0 k1 k2 k3 k4 k5 N a6 a7 S = some W0) (_ : CW l yy_X11_drawn 7 r S' 189 [some (.ref k0), some (.int k1), some (.int k2), some (.int k3), some (.int k4), some (.int k5), some (.int W0.1), some (.int W0.2.1), none] [] W0.2.2), CW l yy_X11_drawn 7 r S' 84 [some (.ref k0), some (.int k1), some (.int k2), some (.int k3), some (.int k4), some (.int k5), some (.int a6), some (.int a7), none] [] S := by
  intro N
  induction N with
  | zero =>
    intro a6 a7 S W0 hf _
    cases hf
  | succ N ih =>
    intro a6 a7 S W0 hf hk_1
    unfold fc_X11_drawn_L84 at hf
    refine CW.run (blk := [(.iload 7, 0), (.iload_n 2, 0)]) (pc' := 87) (ls' := [some (.ref k0), some (.int k1), some (.int k2), some (.int k3), some (.int k4), some (.int k5), some (.int a6), some (.int a7), none]) (st' := [.int k2, .int a7]) (by decide +kernel) rfl ?_
    refine CW.icmp_ge (off := 102) (tgt := 189) (by decide +kernel) (by decide) (fun c87_15 => ?_) (fun c87_15 => ?_)
    · rw [if_pos c87_15] at hf
      have e9 := Option.some.inj hf
      subst e9
      exact hk_1
    · rw [if_neg c87_15] at hf
      refine CW.run (blk := [(.aload_n 0, 0)]) (pc' := 91) (ls' := [some (.ref k0), some (.int k1), some (.int k2), some (.int k3), some (.int k4), some (.int k5), some (.int a6), some (.int a7), none]) (st' := [.ref k0]) (by decide +kernel) rfl ?_
      refine CW.getf (v := .ref S.2.2.2) hk0 (by decide) fl_RX11_70 (by decide +kernel) rfl ?_
      obtain ⟨hk16, hf⟩ := bi_some hf
      refine CW.run (blk := [(.aload_n 0, 0)]) (pc' := 95) (ls' := [some (.ref k0), some (.int k1), some (.int k2), some (.int k3), some (.int k4), some (.int k5), some (.int a6), some (.int a7), none]) (st' := [.ref k0, .ref S.2.2.2]) (by decide +kernel) rfl ?_
      refine CW.getf (v := .ref S.2.2.1) hk0 (by decide) fl_RX11_66 (by decide +kernel) rfl ?_
      obtain ⟨hk17, hf⟩ := bi_some hf
      refine CW.getf (v := .int (S.1 S.2.2.1 12)) (Nat.eq_of_beq_eq_true hk17) (by decide) fl_RX11_205 (by decide +kernel) rfl ?_
      refine CW.putI (Nat.eq_of_beq_eq_true hk16) (by decide) fp_RX11_205 (by decide +kernel) (fun _ _ _ => Nat.le_of_ble_eq_true rfl) rfl rfl (fun _ _ _ => rfl) ?_
      obtain ⟨S18, hS18, hf⟩ := letv_some hf
      rw [← hS18]
      refine CW.run (blk := [(.aload_n 0, 0)]) (pc' := 105) (ls' := [some (.ref k0), some (.int k1), some (.int k2), some (.int k3), some (.int k4), some (.int k5), some (.int a6), some (.int a7), none]) (st' := [.ref k0]) (by decide +kernel) rfl ?_
      refine CW.getf (v := .ref S18.2.2.2) hk0 (by decide) fl_RX11_70 (by decide +kernel) rfl ?_
      obtain ⟨hk19, hf⟩ := bi_some hf
      refine CW.getf (v := .ref (S18.2.2.2 + 6)) (Nat.eq_of_beq_eq_true hk19) (by decide) fl_RX11_169 (by decide +kernel) rfl ?_
      refine CW.run (blk := [(.aload_n 0, 0)]) (pc' := 112) (ls' := [some (.ref k0), some (.int k1), some (.int k2), some (.int k3), some (.int k4), some (.int k5), some (.int a6), some (.int a7), none]) (st' := [.ref k0, .ref (S18.2.2.2 + 6)]) (by decide +kernel) rfl ?_
      refine CW.getf (v := .ref S18.2.2.1) hk0 (by decide) fl_RX11_66 (by decide +kernel) rfl ?_
      obtain ⟨hk20, hf⟩ := bi_some hf
      refine CW.getf (v := .ref (S18.2.2.1 + 6)) (Nat.eq_of_beq_eq_true hk20) (by decide) fl_RX11_169 (by decide +kernel) rfl ?_
      refine CW.getf (v := .int (S18.1 (S18.2.2.1 + 6) 3)) (kk_2_5 (Nat.eq_of_beq_eq_true hk20)) (by decide) fl_RX11_208 (by decide +kernel) rfl ?_
      obtain ⟨q21, hq21, hf⟩ := bd_some hf
      refine CW.callV (As := [.int (S18.1 (S18.2.2.1 + 6) 3)]) (st := []) lv_RX11_268 (kk_2_5 (Nat.eq_of_beq_eq_true hk19)) (by decide) rfl rfl (by decide +kernel) (xc_X6_cutTo (kk_2_5 (Nat.eq_of_beq_eq_true hk19)) hq21) (by decide) (by decide) rfl (Nat.le_of_ble_eq_true rfl) rfl ?_
      show CW l yy_X11_drawn 7 _ _ 124 [some (.ref k0), some (.int k1), some (.int k2), some (.int k3), some (.int k4), some (.int k5), some (.int a6), some (.int a7), none] [] q21
      refine CW.run (blk := [(.iconst 0, 0), (.istore 8, 0)]) (pc' := 127) (ls' := [some (.ref k0), some (.int k1), some (.int k2), some (.int k3), some (.int k4), some (.int k5), some (.int a6), some (.int a7), some (.int 0)]) (st' := []) (by decide +kernel) rfl ?_
      obtain ⟨w27, hw27, hf⟩ := bd_some hf
      refine xc_X11_drawn_L127 k0 k1 k2 k3 k4 k5 a6 a7 hk0 FU _ _ _ hw27 ?_
      refine CW.run (blk := [(.iload 6, 0), (.iload 5, 0)]) (pc' := 158) (ls' := [some (.ref k0), some (.int k1), some (.int k2), some (.int k3), some (.int k4), some (.int k5), some (.int a6), some (.int a7), some (.int w27.1)]) (st' := [.int k5, .int a6]) (by decide +kernel) rfl ?_
      refine CW.if_ne (off := 14) (tgt := 172) (by decide +kernel) (by decide) (fun c158_28 => ?_) (fun c158_28 => ?_)
      · rw [if_neg c158_28] at hf
        refine CW.run (blk := [(.aload_n 0, 0), (.aload_n 0, 0)]) (pc' := 174) (ls' := [some (.ref k0), some (.int k1), some (.int k2), some (.int k3), some (.int k4), some (.int k5), some (.int a6), some (.int a7), some (.int w27.1)]) (st' := [.ref k0, .ref k0, .int a6]) (by decide +kernel) rfl ?_
        refine CW.getf (v := .ref w27.2.2.2.2) hk0 (by decide) fl_RX11_70 (by decide +kernel) rfl ?_
        obtain ⟨hk29, hf⟩ := bi_some hf
        obtain ⟨q30, hq30, hf⟩ := bd_some hf
        refine CW.callV (As := [.ref w27.2.2.2.2]) (st := [.int a6]) lv_RX11_315 hk0 (by decide) rfl rfl (by decide +kernel) (xc_X11_marksOpen hk0 (Nat.eq_of_beq_eq_true hk29) hq30) (by decide) (by decide) rfl (Nat.le_of_ble_eq_true rfl) rfl ?_
        show CW l yy_X11_drawn 7 _ _ 180 [some (.ref k0), some (.int k1), some (.int k2), some (.int k3), some (.int k4), some (.int k5), some (.int a6), some (.int a7), some (.int w27.1)] [.int q30.1, .int a6] q30.2
        refine CW.run (blk := [(.iadd, 0), (.istore 6, 0), (.iinc 7 1, 1), (.goto (-102), 0)]) (pc' := 84) (ls' := [some (.ref k0), some (.int k1), some (.int k2), some (.int k3), some (.int k4), some (.int k5), some (.int (a6 + q30.1)), some (.int (a7 + 1)), some (.int w27.1)]) (st' := []) (by decide +kernel) rfl ?_
        refine CW.fgt (ls' := [some (.ref k0), some (.int k1), some (.int k2), some (.int k3), some (.int k4), some (.int k5), some (.int (a6 + q30.1)), some (.int (a7 + 1)), none]) (by repeat' (first | exact trivial | refine ⟨rfl, ?_⟩)) ?_
        exact ih _ _ _ _ hf hk_1
      · rw [if_pos c158_28] at hf
        refine CW.run (blk := [(.aload_n 0, 0), (.aload_n 0, 0)]) (pc' := 163) (ls' := [some (.ref k0), some (.int k1), some (.int k2), some (.int k3), some (.int k4), some (.int k5), some (.int a6), some (.int a7), some (.int w27.1)]) (st' := [.ref k0, .ref k0, .int a6]) (by decide +kernel) rfl ?_
        refine CW.getf (v := .ref w27.2.2.2.2) hk0 (by decide) fl_RX11_70 (by decide +kernel) rfl ?_
        obtain ⟨hk31, hf⟩ := bi_some hf
        obtain ⟨q32, hq32, hf⟩ := bd_some hf
        refine CW.callV (As := [.ref w27.2.2.2.2]) (st := [.int a6]) lv_RX11_312 hk0 (by decide) rfl rfl (by decide +kernel) (xc_X11_peopleWhoKnow hk0 (Nat.eq_of_beq_eq_true hk31) hq32) (by decide) (by decide) rfl (Nat.le_of_ble_eq_true rfl) rfl ?_
        show CW l yy_X11_drawn 7 _ _ 169 [some (.ref k0), some (.int k1), some (.int k2), some (.int k3), some (.int k4), some (.int k5), some (.int a6), some (.int a7), some (.int w27.1)] [.int q32.1, .int a6] q32.2
        refine CW.run (blk := [(.goto 11, 0), (.iadd, 0), (.istore 6, 0), (.iinc 7 1, 1), (.goto (-102), 0)]) (pc' := 84) (ls' := [some (.ref k0), some (.int k1), some (.int k2), some (.int k3), some (.int k4), some (.int k5), some (.int (a6 + q32.1)), some (.int (a7 + 1)), some (.int w27.1)]) (st' := []) (by decide +kernel) rfl ?_
        refine CW.fgt (ls' := [some (.ref k0), some (.int k1), some (.int k2), some (.int k3), some (.int k4), some (.int k5), some (.int (a6 + q32.1)), some (.int (a7 + 1)), none]) (by repeat' (first | exact trivial | refine ⟨rfl, ?_⟩)) ?_
        exact ih _ _ _ _ hf hk_1
theorem xc_X11_drawn {l : Launch} {b : Nat} {p0 : Int32} {p1 : Int32} {p2 : Int32} {p3 : Int32} {p4 : Int32} {S : cT} {q : Int32 × cT} (hb : cK b = 9) (hf : fc_X11_drawn b p0 p1 p2 p3 p4 S = some q) : COk l yy_X11_drawn 7 [.ref b, .int p0, .int p1, .int p2, .int p3, .int p4] S (some (.int q.1)) q.2 := by
  refine COk.of (ls := [some (.ref b), some (.int p0), some (.int p1), some (.int p2), some (.int p3), some (.int p4), none, none, none]) (by decide +kernel) (Nat.le_of_ble_eq_true rfl) rfl ?_
  unfold fc_X11_drawn at hf
  refine CW.run (blk := [(.aload_n 0, 0), (.iload_n 1, 0)]) (pc' := 2) (ls' := [some (.ref b), some (.int p0), some (.int p1), some (.int p2), some (.int p3), some (.int p4), none, none, none]) (st' := [.int p0, .ref b]) (by decide +kernel) rfl ?_
  obtain ⟨q1, hq1, hf⟩ := bd_some hf
  refine CW.callV (As := [.int p0]) (st := []) lv_RX11_110 hb (by decide) rfl rfl (by decide +kernel) (xc_X11_isRuleOrNone hb hq1) (by decide) (by decide) rfl (Nat.le_of_ble_eq_true rfl) rfl ?_
  show CW l yy_X11_drawn 7 _ _ 5 [some (.ref b), some (.int p0), some (.int p1), some (.int p2), some (.int p3), some (.int p4), none, none, none] [.int (b2i q1)] S
  refine CW.if_eq (off := 24) (tgt := 29) (by decide +kernel) (by decide) (fun c5_2 => ?_) (fun c5_2 => ?_)
  · rw [if_pos c5_2] at hf
    refine CW.run (blk := [(.iconst (-1), (-1))]) (pc' := 30) (ls' := [some (.ref b), some (.int p0), some (.int p1), some (.int p2), some (.int p3), some (.int p4), none, none, none]) (st' := [.int (-1)]) (by decide +kernel) rfl ?_
    have e9 := Option.some.inj hf
    subst e9
    exact CW.iret rfl (by decide +kernel)
  · rw [if_neg c5_2] at hf
    refine CW.run (blk := [(.aload_n 0, 0)]) (pc' := 9) (ls' := [some (.ref b), some (.int p0), some (.int p1), some (.int p2), some (.int p3), some (.int p4), none, none, none]) (st' := [.ref b]) (by decide +kernel) rfl ?_
    refine CW.getf (v := .ref S.2.2.1) hb (by decide) fl_RX11_66 (by decide +kernel) rfl ?_
    obtain ⟨hk3, hf⟩ := bi_some hf
    refine CW.getf (v := .int (S.1 S.2.2.1 9)) (Nat.eq_of_beq_eq_true hk3) (by decide) fl_RX11_99 (by decide +kernel) rfl ?_
    refine CW.if_eq (off := 14) (tgt := 29) (by decide +kernel) (by decide) (fun c15_4 => ?_) (fun c15_4 => ?_)
    · rw [if_pos c15_4] at hf
      refine CW.run (blk := [(.iconst (-1), (-1))]) (pc' := 30) (ls' := [some (.ref b), some (.int p0), some (.int p1), some (.int p2), some (.int p3), some (.int p4), none, none, none]) (st' := [.int (-1)]) (by decide +kernel) rfl ?_
      have e9 := Option.some.inj hf
      subst e9
      exact CW.iret rfl (by decide +kernel)
    · rw [if_neg c15_4] at hf
      refine CW.run (blk := [(.iload 5, 0)]) (pc' := 20) (ls' := [some (.ref b), some (.int p0), some (.int p1), some (.int p2), some (.int p3), some (.int p4), none, none, none]) (st' := [.int p4]) (by decide +kernel) rfl ?_
      refine CW.if_lt (off := 9) (tgt := 29) (by decide +kernel) (by decide) (fun c20_5 => ?_) (fun c20_5 => ?_)
      · rw [if_pos c20_5] at hf
        refine CW.run (blk := [(.iconst (-1), (-1))]) (pc' := 30) (ls' := [some (.ref b), some (.int p0), some (.int p1), some (.int p2), some (.int p3), some (.int p4), none, none, none]) (st' := [.int (-1)]) (by decide +kernel) rfl ?_
        have e9 := Option.some.inj hf
        subst e9
        exact CW.iret rfl (by decide +kernel)
      · rw [if_neg c20_5] at hf
        refine CW.run (blk := [(.iload 5, 0), (.iconst 1, 1)]) (pc' := 26) (ls' := [some (.ref b), some (.int p0), some (.int p1), some (.int p2), some (.int p3), some (.int p4), none, none, none]) (st' := [.int 1, .int p4]) (by decide +kernel) rfl ?_
        refine CW.icmp_le (off := 5) (tgt := 31) (by decide +kernel) (by decide) (fun c26_6 => ?_) (fun c26_6 => ?_)
        · rw [if_pos c26_6] at hf
          refine CW.run (blk := [(.iload_n 2, 0), (.iconst 1, 1)]) (pc' := 33) (ls' := [some (.ref b), some (.int p0), some (.int p1), some (.int p2), some (.int p3), some (.int p4), none, none, none]) (st' := [.int 1, .int p1]) (by decide +kernel) rfl ?_
          refine CW.icmp_lt (off := 32) (tgt := 65) (by decide +kernel) (by decide) (fun c33_7 => ?_) (fun c33_7 => ?_)
          · rw [if_pos c33_7] at hf
            refine CW.run (blk := [(.iconst (-1), (-1))]) (pc' := 66) (ls' := [some (.ref b), some (.int p0), some (.int p1), some (.int p2), some (.int p3), some (.int p4), none, none, none]) (st' := [.int (-1)]) (by decide +kernel) rfl ?_
            have e9 := Option.some.inj hf
            subst e9
            exact CW.iret rfl (by decide +kernel)
          · rw [if_neg c33_7] at hf
            refine CW.run (blk := [(.iload_n 2, 0), (.bipush 20, 20)]) (pc' := 39) (ls' := [some (.ref b), some (.int p0), some (.int p1), some (.int p2), some (.int p3), some (.int p4), none, none, none]) (st' := [.int 20, .int p1]) (by decide +kernel) rfl ?_
            refine CW.icmp_gt (off := 26) (tgt := 65) (by decide +kernel) (by decide) (fun c39_8 => ?_) (fun c39_8 => ?_)
            · rw [if_pos c39_8] at hf
              refine CW.run (blk := [(.iconst (-1), (-1))]) (pc' := 66) (ls' := [some (.ref b), some (.int p0), some (.int p1), some (.int p2), some (.int p3), some (.int p4), none, none, none]) (st' := [.int (-1)]) (by decide +kernel) rfl ?_
              have e9 := Option.some.inj hf
              subst e9
              exact CW.iret rfl (by decide +kernel)
            · rw [if_neg c39_8] at hf
              refine CW.run (blk := [(.iload_n 3, 0), (.iconst 1, 1)]) (pc' := 44) (ls' := [some (.ref b), some (.int p0), some (.int p1), some (.int p2), some (.int p3), some (.int p4), none, none, none]) (st' := [.int 1, .int p2]) (by decide +kernel) rfl ?_
              refine CW.icmp_lt (off := 21) (tgt := 65) (by decide +kernel) (by decide) (fun c44_9 => ?_) (fun c44_9 => ?_)
              · rw [if_pos c44_9] at hf
                refine CW.run (blk := [(.iconst (-1), (-1))]) (pc' := 66) (ls' := [some (.ref b), some (.int p0), some (.int p1), some (.int p2), some (.int p3), some (.int p4), none, none, none]) (st' := [.int (-1)]) (by decide +kernel) rfl ?_
                have e9 := Option.some.inj hf
                subst e9
                exact CW.iret rfl (by decide +kernel)
              · rw [if_neg c44_9] at hf
                refine CW.run (blk := [(.iload_n 3, 0), (.bipush 60, 60)]) (pc' := 50) (ls' := [some (.ref b), some (.int p0), some (.int p1), some (.int p2), some (.int p3), some (.int p4), none, none, none]) (st' := [.int 60, .int p2]) (by decide +kernel) rfl ?_
                refine CW.icmp_gt (off := 15) (tgt := 65) (by decide +kernel) (by decide) (fun c50_10 => ?_) (fun c50_10 => ?_)
                · rw [if_pos c50_10] at hf
                  refine CW.run (blk := [(.iconst (-1), (-1))]) (pc' := 66) (ls' := [some (.ref b), some (.int p0), some (.int p1), some (.int p2), some (.int p3), some (.int p4), none, none, none]) (st' := [.int (-1)]) (by decide +kernel) rfl ?_
                  have e9 := Option.some.inj hf
                  subst e9
                  exact CW.iret rfl (by decide +kernel)
                · rw [if_neg c50_10] at hf
                  refine CW.run (blk := [(.iload 4, 0)]) (pc' := 55) (ls' := [some (.ref b), some (.int p0), some (.int p1), some (.int p2), some (.int p3), some (.int p4), none, none, none]) (st' := [.int p3]) (by decide +kernel) rfl ?_
                  refine CW.if_lt (off := 10) (tgt := 65) (by decide +kernel) (by decide) (fun c55_11 => ?_) (fun c55_11 => ?_)
                  · rw [if_pos c55_11] at hf
                    refine CW.run (blk := [(.iconst (-1), (-1))]) (pc' := 66) (ls' := [some (.ref b), some (.int p0), some (.int p1), some (.int p2), some (.int p3), some (.int p4), none, none, none]) (st' := [.int (-1)]) (by decide +kernel) rfl ?_
                    have e9 := Option.some.inj hf
                    subst e9
                    exact CW.iret rfl (by decide +kernel)
                  · rw [if_neg c55_11] at hf
                    refine CW.run (blk := [(.iload 4, 0), (.bipush 100, 100)]) (pc' := 62) (ls' := [some (.ref b), some (.int p0), some (.int p1), some (.int p2), some (.int p3), some (.int p4), none, none, none]) (st' := [.int 100, .int p3]) (by decide +kernel) rfl ?_
                    refine CW.icmp_le (off := 5) (tgt := 67) (by decide +kernel) (by decide) (fun c62_12 => ?_) (fun c62_12 => ?_)
                    · rw [if_pos c62_12] at hf
                      refine CW.run (blk := [(.iconst 0, 0), (.istore 6, 0), (.aload_n 0, 0)]) (pc' := 71) (ls' := [some (.ref b), some (.int p0), some (.int p1), some (.int p2), some (.int p3), some (.int p4), some (.int 0), none, none]) (st' := [.ref b]) (by decide +kernel) rfl ?_
                      refine CW.getf (v := .ref S.2.2.2) hb (by decide) fl_RX11_70 (by decide +kernel) rfl ?_
                      obtain ⟨hk13, hf⟩ := bi_some hf
                      refine CW.run (blk := [(.aload_n 0, 0)]) (pc' := 75) (ls' := [some (.ref b), some (.int p0), some (.int p1), some (.int p2), some (.int p3), some (.int p4), some (.int 0), none, none]) (st' := [.ref b, .ref S.2.2.2]) (by decide +kernel) rfl ?_
                      refine CW.getf (v := .ref S.2.2.1) hb (by decide) fl_RX11_66 (by decide +kernel) rfl ?_
                      obtain ⟨q14, hq14, hf⟩ := bd_some hf
                      refine CW.callV (As := [.ref S.2.2.1]) (st := []) lv_RX11_306 (Nat.eq_of_beq_eq_true hk13) (by decide) rfl rfl (by decide +kernel) (xc_X2_copyFrom (Nat.eq_of_beq_eq_true hk13) (Nat.eq_of_beq_eq_true hk3) hq14) (by decide) (by decide) rfl (Nat.le_of_ble_eq_true rfl) rfl ?_
                      show CW l yy_X11_drawn 7 _ _ 81 [some (.ref b), some (.int p0), some (.int p1), some (.int p2), some (.int p3), some (.int p4), some (.int 0), none, none] [] q14
                      refine CW.run (blk := [(.iconst 0, 0), (.istore 7, 0)]) (pc' := 84) (ls' := [some (.ref b), some (.int p0), some (.int p1), some (.int p2), some (.int p3), some (.int p4), some (.int 0), some (.int 0), none]) (st' := []) (by decide +kernel) rfl ?_
                      obtain ⟨w33, hw33, hf⟩ := bd_some hf
                      refine xc_X11_drawn_L84 b p0 p1 p2 p3 p4 hb FU _ _ _ _ hw33 ?_
                      refine CW.run (blk := [(.iload 6, 0)]) (pc' := 191) (ls' := [some (.ref b), some (.int p0), some (.int p1), some (.int p2), some (.int p3), some (.int p4), some (.int w33.1), some (.int w33.2.1), none]) (st' := [.int w33.1]) (by decide +kernel) rfl ?_
                      have e9 := Option.some.inj hf
                      subst e9
                      exact CW.iret rfl (by decide +kernel)
                    · rw [if_neg c62_12] at hf
                      refine CW.run (blk := [(.iconst (-1), (-1))]) (pc' := 66) (ls' := [some (.ref b), some (.int p0), some (.int p1), some (.int p2), some (.int p3), some (.int p4), none, none, none]) (st' := [.int (-1)]) (by decide +kernel) rfl ?_
                      have e9 := Option.some.inj hf
                      subst e9
                      exact CW.iret rfl (by decide +kernel)
        · rw [if_neg c26_6] at hf
          refine CW.run (blk := [(.iconst (-1), (-1))]) (pc' := 30) (ls' := [some (.ref b), some (.int p0), some (.int p1), some (.int p2), some (.int p3), some (.int p4), none, none, none]) (st' := [.int (-1)]) (by decide +kernel) rfl ?_
          have e9 := Option.some.inj hf
          subst e9
          exact CW.iret rfl (by decide +kernel)
def fc_X11_count (b : Nat) (p0 : Int32) (S : cT) : Option (Int32) := if p0 = 0 then (bif Nat.beq (cK S.2.2.1) 2 then (some (S.1 S.2.2.1 8)) else none) else (if p0 = 1 then (bif Nat.beq (cK S.2.2.1) 2 then (some (S.1 S.2.2.1 9)) else none) else (if p0 = 2 then (some (S.1 b 11)) else (if p0 = 3 then (bif Nat.beq (cK S.2.2.1) 2 then (some (S.1 S.2.2.1 13)) else none) else (if p0 = 4 then (bif Nat.beq (cK S.2.2.1) 2 then (some (S.1 S.2.2.1 12)) else none) else (if p0 = 5 then (bif Nat.beq (cK S.2.2.1) 2 then (if (S.1 S.2.2.1 9) = 0 then (some (-1)) else (some (S.1 S.2.2.1 10))) else none) else (if p0 = 6 then (bif Nat.beq (cK S.2.2.1) 2 then (some (S.1 (S.2.2.1 + 6) 3)) else none) else (if p0 = 7 then (bif Nat.beq (cK S.2.2.1) 2 then (some (S.1 (S.2.2.1 + 8) 3)) else none) else (if p0 = 8 then (bif Nat.beq (cK S.2.2.1) 2 then (some (S.1 (S.2.2.1 + 10) 3)) else none) else (if p0 = 9 then (some (S.1 (b + 99) 2)) else (if p0 = 10 then (bif Nat.beq (cK S.2.2.1) 2 then (some (S.1 S.2.2.1 14)) else none) else (if p0 = 11 then (some (S.1 (b + 1) 4)) else (some (-1)))))))))))))
theorem xc_X11_count {l : Launch} {b : Nat} {p0 : Int32} {S : cT} {q : Int32} (hb : cK b = 9) (hf : fc_X11_count b p0 S = some q) : COk l yy_X11_count 0 [.ref b, .int p0] S (some (.int q)) S := by
  refine COk.of (ls := [some (.ref b), some (.int p0)]) (by decide +kernel) (Nat.le_of_ble_eq_true rfl) rfl ?_
  unfold fc_X11_count at hf
  refine CW.run (blk := [(.iload_n 1, 0)]) (pc' := 1) (ls' := [some (.ref b), some (.int p0)]) (st' := [.int p0]) (by decide +kernel) rfl ?_
  by_cases c1_0_1 : p0 = 0
  · rw [if_pos c1_0_1] at hf
    refine CW.tableIn (dflt := 179) (lo := 0) (hi := 11) (offs := #[63, 71, 79, 84, 92, 100, 122, 133, 144, 155, 163, 171]) (len := 63) (off := 63) (tgt := 64) (by decide +kernel) (by rw [c1_0_1]; decide) (by rw [c1_0_1]; decide) (by rw [c1_0_1]; decide) (by decide) ?_
    refine CW.run (blk := [(.aload_n 0, 0)]) (pc' := 65) (ls' := [some (.ref b), some (.int p0)]) (st' := [.ref b]) (by decide +kernel) rfl ?_
    refine CW.getf (v := .ref S.2.2.1) hb (by decide) fl_RX11_66 (by decide +kernel) rfl ?_
    obtain ⟨hk2, hf⟩ := bi_some hf
    refine CW.getf (v := .int (S.1 S.2.2.1 8)) (Nat.eq_of_beq_eq_true hk2) (by decide) fl_RX11_318 (by decide +kernel) rfl ?_
    have e9 := Option.some.inj hf
    subst e9
    exact CW.iret rfl (by decide +kernel)
  rw [if_neg c1_0_1] at hf
  by_cases c1_1_3 : p0 = 1
  · rw [if_pos c1_1_3] at hf
    refine CW.tableIn (dflt := 179) (lo := 0) (hi := 11) (offs := #[63, 71, 79, 84, 92, 100, 122, 133, 144, 155, 163, 171]) (len := 63) (off := 71) (tgt := 72) (by decide +kernel) (by rw [c1_1_3]; decide) (by rw [c1_1_3]; decide) (by rw [c1_1_3]; decide) (by decide) ?_
    refine CW.run (blk := [(.aload_n 0, 0)]) (pc' := 73) (ls' := [some (.ref b), some (.int p0)]) (st' := [.ref b]) (by decide +kernel) rfl ?_
    refine CW.getf (v := .ref S.2.2.1) hb (by decide) fl_RX11_66 (by decide +kernel) rfl ?_
    obtain ⟨hk4, hf⟩ := bi_some hf
    refine CW.getf (v := .int (S.1 S.2.2.1 9)) (Nat.eq_of_beq_eq_true hk4) (by decide) fl_RX11_99 (by decide +kernel) rfl ?_
    have e9 := Option.some.inj hf
    subst e9
    exact CW.iret rfl (by decide +kernel)
  rw [if_neg c1_1_3] at hf
  by_cases c1_2_5 : p0 = 2
  · rw [if_pos c1_2_5] at hf
    refine CW.tableIn (dflt := 179) (lo := 0) (hi := 11) (offs := #[63, 71, 79, 84, 92, 100, 122, 133, 144, 155, 163, 171]) (len := 63) (off := 79) (tgt := 80) (by decide +kernel) (by rw [c1_2_5]; decide) (by rw [c1_2_5]; decide) (by rw [c1_2_5]; decide) (by decide) ?_
    refine CW.run (blk := [(.aload_n 0, 0)]) (pc' := 81) (ls' := [some (.ref b), some (.int p0)]) (st' := [.ref b]) (by decide +kernel) rfl ?_
    refine CW.getf (v := .int (S.1 b 11)) hb (by decide) fl_RX11_102 (by decide +kernel) rfl ?_
    have e9 := Option.some.inj hf
    subst e9
    exact CW.iret rfl (by decide +kernel)
  rw [if_neg c1_2_5] at hf
  by_cases c1_3_6 : p0 = 3
  · rw [if_pos c1_3_6] at hf
    refine CW.tableIn (dflt := 179) (lo := 0) (hi := 11) (offs := #[63, 71, 79, 84, 92, 100, 122, 133, 144, 155, 163, 171]) (len := 63) (off := 84) (tgt := 85) (by decide +kernel) (by rw [c1_3_6]; decide) (by rw [c1_3_6]; decide) (by rw [c1_3_6]; decide) (by decide) ?_
    refine CW.run (blk := [(.aload_n 0, 0)]) (pc' := 86) (ls' := [some (.ref b), some (.int p0)]) (st' := [.ref b]) (by decide +kernel) rfl ?_
    refine CW.getf (v := .ref S.2.2.1) hb (by decide) fl_RX11_66 (by decide +kernel) rfl ?_
    obtain ⟨hk7, hf⟩ := bi_some hf
    refine CW.getf (v := .int (S.1 S.2.2.1 13)) (Nat.eq_of_beq_eq_true hk7) (by decide) fl_RX11_90 (by decide +kernel) rfl ?_
    have e9 := Option.some.inj hf
    subst e9
    exact CW.iret rfl (by decide +kernel)
  rw [if_neg c1_3_6] at hf
  by_cases c1_4_8 : p0 = 4
  · rw [if_pos c1_4_8] at hf
    refine CW.tableIn (dflt := 179) (lo := 0) (hi := 11) (offs := #[63, 71, 79, 84, 92, 100, 122, 133, 144, 155, 163, 171]) (len := 63) (off := 92) (tgt := 93) (by decide +kernel) (by rw [c1_4_8]; decide) (by rw [c1_4_8]; decide) (by rw [c1_4_8]; decide) (by decide) ?_
    refine CW.run (blk := [(.aload_n 0, 0)]) (pc' := 94) (ls' := [some (.ref b), some (.int p0)]) (st' := [.ref b]) (by decide +kernel) rfl ?_
    refine CW.getf (v := .ref S.2.2.1) hb (by decide) fl_RX11_66 (by decide +kernel) rfl ?_
    obtain ⟨hk9, hf⟩ := bi_some hf
    refine CW.getf (v := .int (S.1 S.2.2.1 12)) (Nat.eq_of_beq_eq_true hk9) (by decide) fl_RX11_205 (by decide +kernel) rfl ?_
    have e9 := Option.some.inj hf
    subst e9
    exact CW.iret rfl (by decide +kernel)
  rw [if_neg c1_4_8] at hf
  by_cases c1_5_10 : p0 = 5
  · rw [if_pos c1_5_10] at hf
    refine CW.tableIn (dflt := 179) (lo := 0) (hi := 11) (offs := #[63, 71, 79, 84, 92, 100, 122, 133, 144, 155, 163, 171]) (len := 63) (off := 100) (tgt := 101) (by decide +kernel) (by rw [c1_5_10]; decide) (by rw [c1_5_10]; decide) (by rw [c1_5_10]; decide) (by decide) ?_
    refine CW.run (blk := [(.aload_n 0, 0)]) (pc' := 102) (ls' := [some (.ref b), some (.int p0)]) (st' := [.ref b]) (by decide +kernel) rfl ?_
    refine CW.getf (v := .ref S.2.2.1) hb (by decide) fl_RX11_66 (by decide +kernel) rfl ?_
    obtain ⟨hk11, hf⟩ := bi_some hf
    refine CW.getf (v := .int (S.1 S.2.2.1 9)) (Nat.eq_of_beq_eq_true hk11) (by decide) fl_RX11_99 (by decide +kernel) rfl ?_
    refine CW.if_ne (off := 7) (tgt := 115) (by decide +kernel) (by decide) (fun c108_12 => ?_) (fun c108_12 => ?_)
    · rw [if_neg c108_12] at hf
      refine CW.run (blk := [(.aload_n 0, 0)]) (pc' := 116) (ls' := [some (.ref b), some (.int p0)]) (st' := [.ref b]) (by decide +kernel) rfl ?_
      refine CW.getf (v := .ref S.2.2.1) hb (by decide) fl_RX11_66 (by decide +kernel) rfl ?_
      refine CW.getf (v := .int (S.1 S.2.2.1 10)) (Nat.eq_of_beq_eq_true hk11) (by decide) fl_RX11_144 (by decide +kernel) rfl ?_
      have e9 := Option.some.inj hf
      subst e9
      exact CW.iret rfl (by decide +kernel)
    · rw [if_pos c108_12] at hf
      refine CW.run (blk := [(.iconst (-1), (-1)), (.goto 10, 0)]) (pc' := 122) (ls' := [some (.ref b), some (.int p0)]) (st' := [.int (-1)]) (by decide +kernel) rfl ?_
      have e9 := Option.some.inj hf
      subst e9
      exact CW.iret rfl (by decide +kernel)
  rw [if_neg c1_5_10] at hf
  by_cases c1_6_13 : p0 = 6
  · rw [if_pos c1_6_13] at hf
    refine CW.tableIn (dflt := 179) (lo := 0) (hi := 11) (offs := #[63, 71, 79, 84, 92, 100, 122, 133, 144, 155, 163, 171]) (len := 63) (off := 122) (tgt := 123) (by decide +kernel) (by rw [c1_6_13]; decide) (by rw [c1_6_13]; decide) (by rw [c1_6_13]; decide) (by decide) ?_
    refine CW.run (blk := [(.aload_n 0, 0)]) (pc' := 124) (ls' := [some (.ref b), some (.int p0)]) (st' := [.ref b]) (by decide +kernel) rfl ?_
    refine CW.getf (v := .ref S.2.2.1) hb (by decide) fl_RX11_66 (by decide +kernel) rfl ?_
    obtain ⟨hk14, hf⟩ := bi_some hf
    refine CW.getf (v := .ref (S.2.2.1 + 6)) (Nat.eq_of_beq_eq_true hk14) (by decide) fl_RX11_169 (by decide +kernel) rfl ?_
    refine CW.getf (v := .int (S.1 (S.2.2.1 + 6) 3)) (kk_2_5 (Nat.eq_of_beq_eq_true hk14)) (by decide) fl_RX11_208 (by decide +kernel) rfl ?_
    have e9 := Option.some.inj hf
    subst e9
    exact CW.iret rfl (by decide +kernel)
  rw [if_neg c1_6_13] at hf
  by_cases c1_7_15 : p0 = 7
  · rw [if_pos c1_7_15] at hf
    refine CW.tableIn (dflt := 179) (lo := 0) (hi := 11) (offs := #[63, 71, 79, 84, 92, 100, 122, 133, 144, 155, 163, 171]) (len := 63) (off := 133) (tgt := 134) (by decide +kernel) (by rw [c1_7_15]; decide) (by rw [c1_7_15]; decide) (by rw [c1_7_15]; decide) (by decide) ?_
    refine CW.run (blk := [(.aload_n 0, 0)]) (pc' := 135) (ls' := [some (.ref b), some (.int p0)]) (st' := [.ref b]) (by decide +kernel) rfl ?_
    refine CW.getf (v := .ref S.2.2.1) hb (by decide) fl_RX11_66 (by decide +kernel) rfl ?_
    obtain ⟨hk16, hf⟩ := bi_some hf
    refine CW.getf (v := .ref (S.2.2.1 + 8)) (Nat.eq_of_beq_eq_true hk16) (by decide) fl_RX11_265 (by decide +kernel) rfl ?_
    refine CW.getf (v := .int (S.1 (S.2.2.1 + 8) 3)) (kk_2_6 (Nat.eq_of_beq_eq_true hk16)) (by decide) fl_RX11_208 (by decide +kernel) rfl ?_
    have e9 := Option.some.inj hf
    subst e9
    exact CW.iret rfl (by decide +kernel)
  rw [if_neg c1_7_15] at hf
  by_cases c1_8_17 : p0 = 8
  · rw [if_pos c1_8_17] at hf
    refine CW.tableIn (dflt := 179) (lo := 0) (hi := 11) (offs := #[63, 71, 79, 84, 92, 100, 122, 133, 144, 155, 163, 171]) (len := 63) (off := 144) (tgt := 145) (by decide +kernel) (by rw [c1_8_17]; decide) (by rw [c1_8_17]; decide) (by rw [c1_8_17]; decide) (by decide) ?_
    refine CW.run (blk := [(.aload_n 0, 0)]) (pc' := 146) (ls' := [some (.ref b), some (.int p0)]) (st' := [.ref b]) (by decide +kernel) rfl ?_
    refine CW.getf (v := .ref S.2.2.1) hb (by decide) fl_RX11_66 (by decide +kernel) rfl ?_
    obtain ⟨hk18, hf⟩ := bi_some hf
    refine CW.getf (v := .ref (S.2.2.1 + 10)) (Nat.eq_of_beq_eq_true hk18) (by decide) fl_RX11_287 (by decide +kernel) rfl ?_
    refine CW.getf (v := .int (S.1 (S.2.2.1 + 10) 3)) (kk_2_7 (Nat.eq_of_beq_eq_true hk18)) (by decide) fl_RX11_208 (by decide +kernel) rfl ?_
    have e9 := Option.some.inj hf
    subst e9
    exact CW.iret rfl (by decide +kernel)
  rw [if_neg c1_8_17] at hf
  by_cases c1_9_19 : p0 = 9
  · rw [if_pos c1_9_19] at hf
    refine CW.tableIn (dflt := 179) (lo := 0) (hi := 11) (offs := #[63, 71, 79, 84, 92, 100, 122, 133, 144, 155, 163, 171]) (len := 63) (off := 155) (tgt := 156) (by decide +kernel) (by rw [c1_9_19]; decide) (by rw [c1_9_19]; decide) (by rw [c1_9_19]; decide) (by decide) ?_
    refine CW.run (blk := [(.aload_n 0, 0)]) (pc' := 157) (ls' := [some (.ref b), some (.int p0)]) (st' := [.ref b]) (by decide +kernel) rfl ?_
    refine CW.getf (v := .ref (b + 99)) hb (by decide) fl_RX11_41 (by decide +kernel) rfl ?_
    refine CW.getf (v := .int (S.1 (b + 99) 2)) (kk_9_5 hb) (by decide) fl_RX11_223 (by decide +kernel) rfl ?_
    have e9 := Option.some.inj hf
    subst e9
    exact CW.iret rfl (by decide +kernel)
  rw [if_neg c1_9_19] at hf
  by_cases c1_10_20 : p0 = 10
  · rw [if_pos c1_10_20] at hf
    refine CW.tableIn (dflt := 179) (lo := 0) (hi := 11) (offs := #[63, 71, 79, 84, 92, 100, 122, 133, 144, 155, 163, 171]) (len := 63) (off := 163) (tgt := 164) (by decide +kernel) (by rw [c1_10_20]; decide) (by rw [c1_10_20]; decide) (by rw [c1_10_20]; decide) (by decide) ?_
    refine CW.run (blk := [(.aload_n 0, 0)]) (pc' := 165) (ls' := [some (.ref b), some (.int p0)]) (st' := [.ref b]) (by decide +kernel) rfl ?_
    refine CW.getf (v := .ref S.2.2.1) hb (by decide) fl_RX11_66 (by decide +kernel) rfl ?_
    obtain ⟨hk21, hf⟩ := bi_some hf
    refine CW.getf (v := .int (S.1 S.2.2.1 14)) (Nat.eq_of_beq_eq_true hk21) (by decide) fl_RX11_93 (by decide +kernel) rfl ?_
    have e9 := Option.some.inj hf
    subst e9
    exact CW.iret rfl (by decide +kernel)
  rw [if_neg c1_10_20] at hf
  by_cases c1_11_22 : p0 = 11
  · rw [if_pos c1_11_22] at hf
    refine CW.tableIn (dflt := 179) (lo := 0) (hi := 11) (offs := #[63, 71, 79, 84, 92, 100, 122, 133, 144, 155, 163, 171]) (len := 63) (off := 171) (tgt := 172) (by decide +kernel) (by rw [c1_11_22]; decide) (by rw [c1_11_22]; decide) (by rw [c1_11_22]; decide) (by decide) ?_
    refine CW.run (blk := [(.aload_n 0, 0)]) (pc' := 173) (ls' := [some (.ref b), some (.int p0)]) (st' := [.ref b]) (by decide +kernel) rfl ?_
    refine CW.getf (v := .ref (b + 1)) hb (by decide) fl_RX11_10 (by decide +kernel) rfl ?_
    refine CW.getf (v := .int (S.1 (b + 1) 4)) (kk_9_0 hb) (by decide) fl_RX11_73 (by decide +kernel) rfl ?_
    have e9 := Option.some.inj hf
    subst e9
    exact CW.iret rfl (by decide +kernel)
  rw [if_neg c1_11_22] at hf
  refine CW.tableOut (dflt := 179) (lo := 0) (hi := 11) (offs := #[63, 71, 79, 84, 92, 100, 122, 133, 144, 155, 163, 171]) (len := 63) (tgt := 180) (by decide +kernel) (by have := ne_toInt c1_0_1 (k := 0) rfl; have := ne_toInt c1_1_3 (k := 1) rfl; have := ne_toInt c1_2_5 (k := 2) rfl; have := ne_toInt c1_3_6 (k := 3) rfl; have := ne_toInt c1_4_8 (k := 4) rfl; have := ne_toInt c1_5_10 (k := 5) rfl; have := ne_toInt c1_6_13 (k := 6) rfl; have := ne_toInt c1_7_15 (k := 7) rfl; have := ne_toInt c1_8_17 (k := 8) rfl; have := ne_toInt c1_9_19 (k := 9) rfl; have := ne_toInt c1_10_20 (k := 10) rfl; have := ne_toInt c1_11_22 (k := 11) rfl; omega) (by decide) ?_
  refine CW.run (blk := [(.iconst (-1), (-1))]) (pc' := 181) (ls' := [some (.ref b), some (.int p0)]) (st' := [.int (-1)]) (by decide +kernel) rfl ?_
  have e9 := Option.some.inj hf
  subst e9
  exact CW.iret rfl (by decide +kernel)
def fc_X11_image (b : Nat) (p0 : Int32) (S : cT) : Option (Int32 × cT) := if p0 < 0 then (some ((-1), S)) else (if p0 < 4 then (bif inb p0 4 then (bif Nat.beq (cK S.2.2.1) 2 then ((fc_X2_copyFrom (50 + 12 * (p0 : Int32).toNatClampNeg) S.2.2.1 S).bind fun q5 => bif inb p0 4 then (letv (ca q5 (b + 98) (p0 : Int32).toNatClampNeg (vp_nar .boolean 1)) fun S7 => (fc_X1_forget (b + 99) S7).bind fun q8 => bif Nat.beq (cK q8.2.2.1) 2 then (some (q8.1 q8.2.2.1 12, q8)) else none) else none) else none) else none) else (some ((-1), S)))
theorem xc_X11_image {l : Launch} {b : Nat} {p0 : Int32} {S : cT} {q : Int32 × cT} (hb : cK b = 9) (hf : fc_X11_image b p0 S = some q) : COk l yy_X11_image 3 [.ref b, .int p0] S (some (.int q.1)) q.2 := by
  refine COk.of (ls := [some (.ref b), some (.int p0)]) (by decide +kernel) (Nat.le_of_ble_eq_true rfl) rfl ?_
  unfold fc_X11_image at hf
  refine CW.run (blk := [(.iload_n 1, 0)]) (pc' := 1) (ls' := [some (.ref b), some (.int p0)]) (st' := [.int p0]) (by decide +kernel) rfl ?_
  refine CW.if_lt (off := 8) (tgt := 9) (by decide +kernel) (by decide) (fun c1_1 => ?_) (fun c1_1 => ?_)
  · rw [if_pos c1_1] at hf
    refine CW.run (blk := [(.iconst (-1), (-1))]) (pc' := 10) (ls' := [some (.ref b), some (.int p0)]) (st' := [.int (-1)]) (by decide +kernel) rfl ?_
    have e9 := Option.some.inj hf
    subst e9
    exact CW.iret rfl (by decide +kernel)
  · rw [if_neg c1_1] at hf
    refine CW.run (blk := [(.iload_n 1, 0), (.iconst 4, 4)]) (pc' := 6) (ls' := [some (.ref b), some (.int p0)]) (st' := [.int 4, .int p0]) (by decide +kernel) rfl ?_
    refine CW.icmp_lt (off := 5) (tgt := 11) (by decide +kernel) (by decide) (fun c6_2 => ?_) (fun c6_2 => ?_)
    · rw [if_pos c6_2] at hf
      refine CW.run (blk := [(.aload_n 0, 0)]) (pc' := 12) (ls' := [some (.ref b), some (.int p0)]) (st' := [.ref b]) (by decide +kernel) rfl ?_
      refine CW.getf (v := .ref (b + 49)) hb (by decide) fl_RX11_29 (by decide +kernel) rfl ?_
      refine CW.run (blk := [(.iload_n 1, 0)]) (pc' := 16) (ls' := [some (.ref b), some (.int p0)]) (st' := [.int p0, .ref (b + 49)]) (by decide +kernel) rfl ?_
      obtain ⟨hi3, hf⟩ := bi_some hf
      refine CW.aald25 (kk_9_3 hb) (kn_9_3 hb) (by decide +kernel) (inb_in hi3) ?_
      refine CW.run (blk := [(.aload_n 0, 0)]) (pc' := 18) (ls' := [some (.ref b), some (.int p0)]) (st' := [.ref b, .ref (50 + 12 * (p0 : Int32).toNatClampNeg)]) (by decide +kernel) rfl ?_
      refine CW.getf (v := .ref S.2.2.1) hb (by decide) fl_RX11_66 (by decide +kernel) rfl ?_
      obtain ⟨hk4, hf⟩ := bi_some hf
      obtain ⟨q5, hq5, hf⟩ := bd_some hf
      refine CW.callV (As := [.ref S.2.2.1]) (st := []) lv_RX11_306 (ke_25 _ (inb_lt hi3)) (by decide) rfl rfl (by decide +kernel) (xc_X2_copyFrom (ke_25 _ (inb_lt hi3)) (Nat.eq_of_beq_eq_true hk4) hq5) (by decide) (by decide) rfl (Nat.le_of_ble_eq_true rfl) rfl ?_
      show CW l yy_X11_image 3 _ _ 24 [some (.ref b), some (.int p0)] [] q5
      refine CW.run (blk := [(.aload_n 0, 0)]) (pc' := 25) (ls' := [some (.ref b), some (.int p0)]) (st' := [.ref b]) (by decide +kernel) rfl ?_
      refine CW.getf (v := .ref (b + 98)) hb (by decide) fl_RX11_34 (by decide +kernel) rfl ?_
      refine CW.run (blk := [(.iload_n 1, 0), (.iconst 1, 1)]) (pc' := 30) (ls' := [some (.ref b), some (.int p0)]) (st' := [.int 1, .int p0, .ref (b + 98)]) (by decide +kernel) rfl ?_
      obtain ⟨hi6, hf⟩ := bi_some hf
      refine CW.zast (kk_9_4 hb) (kn_9_4 hb) (by decide +kernel) (inb_in hi6) ?_
      obtain ⟨S7, hS7, hf⟩ := letv_some hf
      rw [← hS7]
      refine CW.run (blk := [(.aload_n 0, 0)]) (pc' := 32) (ls' := [some (.ref b), some (.int p0)]) (st' := [.ref b]) (by decide +kernel) rfl ?_
      refine CW.getf (v := .ref (b + 99)) hb (by decide) fl_RX11_41 (by decide +kernel) rfl ?_
      obtain ⟨q8, hq8, hf⟩ := bd_some hf
      refine CW.callV (As := []) (st := []) lv_RX11_96 (kk_9_5 hb) (by decide) rfl rfl (by decide +kernel) (xc_X1_forget (kk_9_5 hb) hq8) (by decide) (by decide) rfl (Nat.le_of_ble_eq_true rfl) rfl ?_
      show CW l yy_X11_image 3 _ _ 38 [some (.ref b), some (.int p0)] [] q8
      refine CW.run (blk := [(.aload_n 0, 0)]) (pc' := 39) (ls' := [some (.ref b), some (.int p0)]) (st' := [.ref b]) (by decide +kernel) rfl ?_
      refine CW.getf (v := .ref q8.2.2.1) hb (by decide) fl_RX11_66 (by decide +kernel) rfl ?_
      obtain ⟨hk9, hf⟩ := bi_some hf
      refine CW.getf (v := .int (q8.1 q8.2.2.1 12)) (Nat.eq_of_beq_eq_true hk9) (by decide) fl_RX11_205 (by decide +kernel) rfl ?_
      have e9 := Option.some.inj hf
      subst e9
      exact CW.iret rfl (by decide +kernel)
    · rw [if_neg c6_2] at hf
      refine CW.run (blk := [(.iconst (-1), (-1))]) (pc' := 10) (ls' := [some (.ref b), some (.int p0)]) (st' := [.int (-1)]) (by decide +kernel) rfl ?_
      have e9 := Option.some.inj hf
      subst e9
      exact CW.iret rfl (by decide +kernel)
def fc_X11_back (b : Nat) (p0 : Int32) (S : cT) : Option (Int32 × cT) := if p0 < 0 then (some ((-1), S)) else (if 4 ≤ p0 then (some ((-1), S)) else (bif inb p0 4 then (letv (S.1 (b + 98) (p0 : Int32).toNatClampNeg) fun v3 => if v3 = 0 then (some ((-1), S)) else (bif Nat.beq (cK S.2.2.1) 2 then (bif inb p0 4 then ((fc_X2_copyFrom S.2.2.1 (50 + 12 * (p0 : Int32).toNatClampNeg) S).bind fun q7 => (fc_X1_forget (b + 99) q7).bind fun q8 => bif Nat.beq (cK q8.2.2.1) 2 then (some (q8.1 q8.2.2.1 12, q8)) else none) else none) else none)) else none))
theorem xc_X11_back {l : Launch} {b : Nat} {p0 : Int32} {S : cT} {q : Int32 × cT} (hb : cK b = 9) (hf : fc_X11_back b p0 S = some q) : COk l yy_X11_back 3 [.ref b, .int p0] S (some (.int q.1)) q.2 := by
  refine COk.of (ls := [some (.ref b), some (.int p0)]) (by decide +kernel) (Nat.le_of_ble_eq_true rfl) rfl ?_
  unfold fc_X11_back at hf
  refine CW.run (blk := [(.iload_n 1, 0)]) (pc' := 1) (ls' := [some (.ref b), some (.int p0)]) (st' := [.int p0]) (by decide +kernel) rfl ?_
  refine CW.if_lt (off := 17) (tgt := 18) (by decide +kernel) (by decide) (fun c1_1 => ?_) (fun c1_1 => ?_)
  · rw [if_pos c1_1] at hf
    refine CW.run (blk := [(.iconst (-1), (-1))]) (pc' := 19) (ls' := [some (.ref b), some (.int p0)]) (st' := [.int (-1)]) (by decide +kernel) rfl ?_
    have e9 := Option.some.inj hf
    subst e9
    exact CW.iret rfl (by decide +kernel)
  · rw [if_neg c1_1] at hf
    refine CW.run (blk := [(.iload_n 1, 0), (.iconst 4, 4)]) (pc' := 6) (ls' := [some (.ref b), some (.int p0)]) (st' := [.int 4, .int p0]) (by decide +kernel) rfl ?_
    refine CW.icmp_ge (off := 12) (tgt := 18) (by decide +kernel) (by decide) (fun c6_2 => ?_) (fun c6_2 => ?_)
    · rw [if_pos c6_2] at hf
      refine CW.run (blk := [(.iconst (-1), (-1))]) (pc' := 19) (ls' := [some (.ref b), some (.int p0)]) (st' := [.int (-1)]) (by decide +kernel) rfl ?_
      have e9 := Option.some.inj hf
      subst e9
      exact CW.iret rfl (by decide +kernel)
    · rw [if_neg c6_2] at hf
      refine CW.run (blk := [(.aload_n 0, 0)]) (pc' := 10) (ls' := [some (.ref b), some (.int p0)]) (st' := [.ref b]) (by decide +kernel) rfl ?_
      refine CW.getf (v := .ref (b + 98)) hb (by decide) fl_RX11_34 (by decide +kernel) rfl ?_
      refine CW.run (blk := [(.iload_n 1, 0)]) (pc' := 14) (ls' := [some (.ref b), some (.int p0)]) (st' := [.int p0, .ref (b + 98)]) (by decide +kernel) rfl ?_
      obtain ⟨hi_v3, hf⟩ := bi_some hf
      obtain ⟨v3, hv3, hf⟩ := letv_some hf
      refine CW.zald (kk_9_4 hb) (kn_9_4 hb) (by decide +kernel) (inb_in hi_v3) ?_
      rw [← hv3]
      refine CW.if_ne (off := 5) (tgt := 20) (by decide +kernel) (by decide) (fun c15_4 => ?_) (fun c15_4 => ?_)
      · rw [if_neg c15_4] at hf
        refine CW.run (blk := [(.aload_n 0, 0)]) (pc' := 21) (ls' := [some (.ref b), some (.int p0)]) (st' := [.ref b]) (by decide +kernel) rfl ?_
        refine CW.getf (v := .ref S.2.2.1) hb (by decide) fl_RX11_66 (by decide +kernel) rfl ?_
        obtain ⟨hk5, hf⟩ := bi_some hf
        refine CW.run (blk := [(.aload_n 0, 0)]) (pc' := 25) (ls' := [some (.ref b), some (.int p0)]) (st' := [.ref b, .ref S.2.2.1]) (by decide +kernel) rfl ?_
        refine CW.getf (v := .ref (b + 49)) hb (by decide) fl_RX11_29 (by decide +kernel) rfl ?_
        refine CW.run (blk := [(.iload_n 1, 0)]) (pc' := 29) (ls' := [some (.ref b), some (.int p0)]) (st' := [.int p0, .ref (b + 49), .ref S.2.2.1]) (by decide +kernel) rfl ?_
        obtain ⟨hi6, hf⟩ := bi_some hf
        refine CW.aald25 (kk_9_3 hb) (kn_9_3 hb) (by decide +kernel) (inb_in hi6) ?_
        obtain ⟨q7, hq7, hf⟩ := bd_some hf
        refine CW.callV (As := [.ref (50 + 12 * (p0 : Int32).toNatClampNeg)]) (st := []) lv_RX11_306 (Nat.eq_of_beq_eq_true hk5) (by decide) rfl rfl (by decide +kernel) (xc_X2_copyFrom (Nat.eq_of_beq_eq_true hk5) (ke_25 _ (inb_lt hi6)) hq7) (by decide) (by decide) rfl (Nat.le_of_ble_eq_true rfl) rfl ?_
        show CW l yy_X11_back 3 _ _ 33 [some (.ref b), some (.int p0)] [] q7
        refine CW.run (blk := [(.aload_n 0, 0)]) (pc' := 34) (ls' := [some (.ref b), some (.int p0)]) (st' := [.ref b]) (by decide +kernel) rfl ?_
        refine CW.getf (v := .ref (b + 99)) hb (by decide) fl_RX11_41 (by decide +kernel) rfl ?_
        obtain ⟨q8, hq8, hf⟩ := bd_some hf
        refine CW.callV (As := []) (st := []) lv_RX11_96 (kk_9_5 hb) (by decide) rfl rfl (by decide +kernel) (xc_X1_forget (kk_9_5 hb) hq8) (by decide) (by decide) rfl (Nat.le_of_ble_eq_true rfl) rfl ?_
        show CW l yy_X11_back 3 _ _ 40 [some (.ref b), some (.int p0)] [] q8
        refine CW.run (blk := [(.aload_n 0, 0)]) (pc' := 41) (ls' := [some (.ref b), some (.int p0)]) (st' := [.ref b]) (by decide +kernel) rfl ?_
        refine CW.getf (v := .ref q8.2.2.1) hb (by decide) fl_RX11_66 (by decide +kernel) rfl ?_
        obtain ⟨hk9, hf⟩ := bi_some hf
        refine CW.getf (v := .int (q8.1 q8.2.2.1 12)) (Nat.eq_of_beq_eq_true hk9) (by decide) fl_RX11_205 (by decide +kernel) rfl ?_
        have e9 := Option.some.inj hf
        subst e9
        exact CW.iret rfl (by decide +kernel)
      · rw [if_pos c15_4] at hf
        refine CW.run (blk := [(.iconst (-1), (-1))]) (pc' := 19) (ls' := [some (.ref b), some (.int p0)]) (st' := [.int (-1)]) (by decide +kernel) rfl ?_
        have e9 := Option.some.inj hf
        subst e9
        exact CW.iret rfl (by decide +kernel)
