/-! ===== the class, method by method (by program) 3 ===== -/
def fc_X2_addLook (b : Nat) (S : cT) : Option (cT) := (fc_X2_faceOf b (S.1 b 10) S).bind fun q1 => (fc_X2_addTelling b (S.1 b 10) (S.1 b 10) (S.1 b 10) q1 (-1) S).bind fun q2 => some q2
theorem xc_X2_addLook {l : Launch} {b : Nat} {S : cT} {q : cT} (hb : cK b = 2) (hf : fc_X2_addLook b S = some q) : COk l yy_X2_addLook 3 [.ref b] S none q := by
  refine COk.of (ls := [some (.ref b)]) (by decide +kernel) (Nat.le_of_ble_eq_true rfl) rfl ?_
  unfold fc_X2_addLook at hf
  refine CW.run (blk := [(.aload_n 0, 0), (.aload_n 0, 0)]) (pc' := 2) (ls' := [some (.ref b)]) (st' := [.ref b, .ref b]) (by decide +kernel) rfl ?_
  refine CW.getf (v := .int (S.1 b 10)) hb (by decide) fl_RX2_56 (by decide +kernel) rfl ?_
  refine CW.run (blk := [(.aload_n 0, 0)]) (pc' := 6) (ls' := [some (.ref b)]) (st' := [.ref b, .int (S.1 b 10), .ref b]) (by decide +kernel) rfl ?_
  refine CW.getf (v := .int (S.1 b 10)) hb (by decide) fl_RX2_56 (by decide +kernel) rfl ?_
  refine CW.run (blk := [(.aload_n 0, 0)]) (pc' := 10) (ls' := [some (.ref b)]) (st' := [.ref b, .int (S.1 b 10), .int (S.1 b 10), .ref b]) (by decide +kernel) rfl ?_
  refine CW.getf (v := .int (S.1 b 10)) hb (by decide) fl_RX2_56 (by decide +kernel) rfl ?_
  refine CW.run (blk := [(.aload_n 0, 0), (.aload_n 0, 0)]) (pc' := 15) (ls' := [some (.ref b)]) (st' := [.ref b, .ref b, .int (S.1 b 10), .int (S.1 b 10), .int (S.1 b 10), .ref b]) (by decide +kernel) rfl ?_
  refine CW.getf (v := .int (S.1 b 10)) hb (by decide) fl_RX2_56 (by decide +kernel) rfl ?_
  obtain ⟨q1, hq1, hf⟩ := bd_some hf
  refine CW.callV (As := [.int (S.1 b 10)]) (st := [.int (S.1 b 10), .int (S.1 b 10), .int (S.1 b 10), .ref b]) lv_RX2_111 hb (by decide) rfl rfl (by decide +kernel) (xc_X2_faceOf hb hq1) (by decide) (by decide) rfl (Nat.le_of_ble_eq_true rfl) rfl ?_
  show CW l yy_X2_addLook 3 _ _ 21 [some (.ref b)] [.int q1, .int (S.1 b 10), .int (S.1 b 10), .int (S.1 b 10), .ref b] S
  refine CW.run (blk := [(.iconst (-1), (-1))]) (pc' := 22) (ls' := [some (.ref b)]) (st' := [.int (-1), .int q1, .int (S.1 b 10), .int (S.1 b 10), .int (S.1 b 10), .ref b]) (by decide +kernel) rfl ?_
  obtain ⟨q2, hq2, hf⟩ := bd_some hf
  refine CW.callV (As := [.int (S.1 b 10), .int (S.1 b 10), .int (S.1 b 10), .int q1, .int (-1)]) (st := []) lv_RX2_115 hb (by decide) rfl rfl (by decide +kernel) (xc_X2_addTelling hb hq2) (by decide) (by decide) rfl (Nat.le_of_ble_eq_true rfl) rfl ?_
  show CW l yy_X2_addLook 3 _ _ 25 [some (.ref b)] [] q2
  have e9 := Option.some.inj hf
  subst e9
  exact CW.vret rfl (by decide +kernel)
def fc_X2_addWish (b : Nat) (p0 : Int32) (p1 : Int32) (p2 : Int32) (p3 : Int32) (S : cT) : Option (cT) := (fc_X6_addRow (b + 8) S).bind fun q1 => (fc_X6_put (b + 8) 0 p0 q1).bind fun q2 => (fc_X6_put (b + 8) 1 p1 q2).bind fun q3 => (fc_X6_put (b + 8) 2 p2 q3).bind fun q4 => (fc_X6_put (b + 8) 3 p3 q4).bind fun q5 => some q5
theorem xc_X2_addWish {l : Launch} {b : Nat} {p0 : Int32} {p1 : Int32} {p2 : Int32} {p3 : Int32} {S : cT} {q : cT} (hb : cK b = 2) (hf : fc_X2_addWish b p0 p1 p2 p3 S = some q) : COk l yy_X2_addWish 1 [.ref b, .int p0, .int p1, .int p2, .int p3] S none q := by
  refine COk.of (ls := [some (.ref b), some (.int p0), some (.int p1), some (.int p2), some (.int p3)]) (by decide +kernel) (Nat.le_of_ble_eq_true rfl) rfl ?_
  unfold fc_X2_addWish at hf
  refine CW.run (blk := [(.aload_n 0, 0)]) (pc' := 1) (ls' := [some (.ref b), some (.int p0), some (.int p1), some (.int p2), some (.int p3)]) (st' := [.ref b]) (by decide +kernel) rfl ?_
  refine CW.getf (v := .ref (b + 8)) hb (by decide) fl_RX2_36 (by decide +kernel) rfl ?_
  obtain ⟨q1, hq1, hf⟩ := bd_some hf
  refine CW.callV (As := []) (st := []) lv_RX2_105 (kk_2_6 hb) (by decide) rfl rfl (by decide +kernel) (xc_X6_addRow (kk_2_6 hb) hq1) (by decide) (by decide) rfl (Nat.le_of_ble_eq_true rfl) rfl ?_
  show CW l yy_X2_addWish 1 _ _ 7 [some (.ref b), some (.int p0), some (.int p1), some (.int p2), some (.int p3)] [] q1
  refine CW.run (blk := [(.aload_n 0, 0)]) (pc' := 8) (ls' := [some (.ref b), some (.int p0), some (.int p1), some (.int p2), some (.int p3)]) (st' := [.ref b]) (by decide +kernel) rfl ?_
  refine CW.getf (v := .ref (b + 8)) hb (by decide) fl_RX2_36 (by decide +kernel) rfl ?_
  refine CW.run (blk := [(.iconst 0, 0), (.iload_n 1, 0)]) (pc' := 13) (ls' := [some (.ref b), some (.int p0), some (.int p1), some (.int p2), some (.int p3)]) (st' := [.int p0, .int 0, .ref (b + 8)]) (by decide +kernel) rfl ?_
  obtain ⟨q2, hq2, hf⟩ := bd_some hf
  refine CW.callV (As := [.int 0, .int p0]) (st := []) lv_RX2_108 (kk_2_6 hb) (by decide) rfl rfl (by decide +kernel) (xc_X6_put (kk_2_6 hb) hq2) (by decide) (by decide) rfl (Nat.le_of_ble_eq_true rfl) rfl ?_
  show CW l yy_X2_addWish 1 _ _ 16 [some (.ref b), some (.int p0), some (.int p1), some (.int p2), some (.int p3)] [] q2
  refine CW.run (blk := [(.aload_n 0, 0)]) (pc' := 17) (ls' := [some (.ref b), some (.int p0), some (.int p1), some (.int p2), some (.int p3)]) (st' := [.ref b]) (by decide +kernel) rfl ?_
  refine CW.getf (v := .ref (b + 8)) hb (by decide) fl_RX2_36 (by decide +kernel) rfl ?_
  refine CW.run (blk := [(.iconst 1, 1), (.iload_n 2, 0)]) (pc' := 22) (ls' := [some (.ref b), some (.int p0), some (.int p1), some (.int p2), some (.int p3)]) (st' := [.int p1, .int 1, .ref (b + 8)]) (by decide +kernel) rfl ?_
  obtain ⟨q3, hq3, hf⟩ := bd_some hf
  refine CW.callV (As := [.int 1, .int p1]) (st := []) lv_RX2_108 (kk_2_6 hb) (by decide) rfl rfl (by decide +kernel) (xc_X6_put (kk_2_6 hb) hq3) (by decide) (by decide) rfl (Nat.le_of_ble_eq_true rfl) rfl ?_
  show CW l yy_X2_addWish 1 _ _ 25 [some (.ref b), some (.int p0), some (.int p1), some (.int p2), some (.int p3)] [] q3
  refine CW.run (blk := [(.aload_n 0, 0)]) (pc' := 26) (ls' := [some (.ref b), some (.int p0), some (.int p1), some (.int p2), some (.int p3)]) (st' := [.ref b]) (by decide +kernel) rfl ?_
  refine CW.getf (v := .ref (b + 8)) hb (by decide) fl_RX2_36 (by decide +kernel) rfl ?_
  refine CW.run (blk := [(.iconst 2, 2), (.iload_n 3, 0)]) (pc' := 31) (ls' := [some (.ref b), some (.int p0), some (.int p1), some (.int p2), some (.int p3)]) (st' := [.int p2, .int 2, .ref (b + 8)]) (by decide +kernel) rfl ?_
  obtain ⟨q4, hq4, hf⟩ := bd_some hf
  refine CW.callV (As := [.int 2, .int p2]) (st := []) lv_RX2_108 (kk_2_6 hb) (by decide) rfl rfl (by decide +kernel) (xc_X6_put (kk_2_6 hb) hq4) (by decide) (by decide) rfl (Nat.le_of_ble_eq_true rfl) rfl ?_
  show CW l yy_X2_addWish 1 _ _ 34 [some (.ref b), some (.int p0), some (.int p1), some (.int p2), some (.int p3)] [] q4
  refine CW.run (blk := [(.aload_n 0, 0)]) (pc' := 35) (ls' := [some (.ref b), some (.int p0), some (.int p1), some (.int p2), some (.int p3)]) (st' := [.ref b]) (by decide +kernel) rfl ?_
  refine CW.getf (v := .ref (b + 8)) hb (by decide) fl_RX2_36 (by decide +kernel) rfl ?_
  refine CW.run (blk := [(.iconst 3, 3), (.iload 4, 0)]) (pc' := 41) (ls' := [some (.ref b), some (.int p0), some (.int p1), some (.int p2), some (.int p3)]) (st' := [.int p3, .int 3, .ref (b + 8)]) (by decide +kernel) rfl ?_
  obtain ⟨q5, hq5, hf⟩ := bd_some hf
  refine CW.callV (As := [.int 3, .int p3]) (st := []) lv_RX2_108 (kk_2_6 hb) (by decide) rfl rfl (by decide +kernel) (xc_X6_put (kk_2_6 hb) hq5) (by decide) (by decide) rfl (Nat.le_of_ble_eq_true rfl) rfl ?_
  show CW l yy_X2_addWish 1 _ _ 44 [some (.ref b), some (.int p0), some (.int p1), some (.int p2), some (.int p3)] [] q5
  have e9 := Option.some.inj hf
  subst e9
  exact CW.vret rfl (by decide +kernel)
def fc_X2_addView (b : Nat) (p0 : Int32) (p1 : Int32) (S : cT) : Option (cT) := (fc_X6_addRow (b + 10) S).bind fun q1 => (fc_X6_put (b + 10) 0 p0 q1).bind fun q2 => (fc_X6_put (b + 10) 1 p1 q2).bind fun q3 => some q3
theorem xc_X2_addView {l : Launch} {b : Nat} {p0 : Int32} {p1 : Int32} {S : cT} {q : cT} (hb : cK b = 2) (hf : fc_X2_addView b p0 p1 S = some q) : COk l yy_X2_addView 1 [.ref b, .int p0, .int p1] S none q := by
  refine COk.of (ls := [some (.ref b), some (.int p0), some (.int p1)]) (by decide +kernel) (Nat.le_of_ble_eq_true rfl) rfl ?_
  unfold fc_X2_addView at hf
  refine CW.run (blk := [(.aload_n 0, 0)]) (pc' := 1) (ls' := [some (.ref b), some (.int p0), some (.int p1)]) (st' := [.ref b]) (by decide +kernel) rfl ?_
  refine CW.getf (v := .ref (b + 10)) hb (by decide) fl_RX2_39 (by decide +kernel) rfl ?_
  obtain ⟨q1, hq1, hf⟩ := bd_some hf
  refine CW.callV (As := []) (st := []) lv_RX2_105 (kk_2_7 hb) (by decide) rfl rfl (by decide +kernel) (xc_X6_addRow (kk_2_7 hb) hq1) (by decide) (by decide) rfl (Nat.le_of_ble_eq_true rfl) rfl ?_
  show CW l yy_X2_addView 1 _ _ 7 [some (.ref b), some (.int p0), some (.int p1)] [] q1
  refine CW.run (blk := [(.aload_n 0, 0)]) (pc' := 8) (ls' := [some (.ref b), some (.int p0), some (.int p1)]) (st' := [.ref b]) (by decide +kernel) rfl ?_
  refine CW.getf (v := .ref (b + 10)) hb (by decide) fl_RX2_39 (by decide +kernel) rfl ?_
  refine CW.run (blk := [(.iconst 0, 0), (.iload_n 1, 0)]) (pc' := 13) (ls' := [some (.ref b), some (.int p0), some (.int p1)]) (st' := [.int p0, .int 0, .ref (b + 10)]) (by decide +kernel) rfl ?_
  obtain ⟨q2, hq2, hf⟩ := bd_some hf
  refine CW.callV (As := [.int 0, .int p0]) (st := []) lv_RX2_108 (kk_2_7 hb) (by decide) rfl rfl (by decide +kernel) (xc_X6_put (kk_2_7 hb) hq2) (by decide) (by decide) rfl (Nat.le_of_ble_eq_true rfl) rfl ?_
  show CW l yy_X2_addView 1 _ _ 16 [some (.ref b), some (.int p0), some (.int p1)] [] q2
  refine CW.run (blk := [(.aload_n 0, 0)]) (pc' := 17) (ls' := [some (.ref b), some (.int p0), some (.int p1)]) (st' := [.ref b]) (by decide +kernel) rfl ?_
  refine CW.getf (v := .ref (b + 10)) hb (by decide) fl_RX2_39 (by decide +kernel) rfl ?_
  refine CW.run (blk := [(.iconst 1, 1), (.iload_n 2, 0)]) (pc' := 22) (ls' := [some (.ref b), some (.int p0), some (.int p1)]) (st' := [.int p1, .int 1, .ref (b + 10)]) (by decide +kernel) rfl ?_
  obtain ⟨q3, hq3, hf⟩ := bd_some hf
  refine CW.callV (As := [.int 1, .int p1]) (st := []) lv_RX2_108 (kk_2_7 hb) (by decide) rfl rfl (by decide +kernel) (xc_X6_put (kk_2_7 hb) hq3) (by decide) (by decide) rfl (Nat.le_of_ble_eq_true rfl) rfl ?_
  show CW l yy_X2_addView 1 _ _ 25 [some (.ref b), some (.int p0), some (.int p1)] [] q3
  have e9 := Option.some.inj hf
  subst e9
  exact CW.vret rfl (by decide +kernel)
def fc_X2_isLook (b : Nat) (p0 : Int32) (S : cT) : Option (Bool) := (fc_X6_at (b + 6) p0 0 S).bind fun q1 => (fc_X6_at (b + 6) p0 1 S).bind fun q2 => if q1 = q2 then (some true) else (some false)
theorem xc_X2_isLook {l : Launch} {b : Nat} {p0 : Int32} {S : cT} {q : Bool} (hb : cK b = 2) (hf : fc_X2_isLook b p0 S = some q) : COk l yy_X2_isLook 2 [.ref b, .int p0] S (some (.int (b2i q))) S := by
  refine COk.of (ls := [some (.ref b), some (.int p0)]) (by decide +kernel) (Nat.le_of_ble_eq_true rfl) rfl ?_
  unfold fc_X2_isLook at hf
  refine CW.run (blk := [(.aload_n 0, 0)]) (pc' := 1) (ls' := [some (.ref b), some (.int p0)]) (st' := [.ref b]) (by decide +kernel) rfl ?_
  refine CW.getf (v := .ref (b + 6)) hb (by decide) fl_RX2_32 (by decide +kernel) rfl ?_
  refine CW.run (blk := [(.iload_n 1, 0), (.iconst 0, 0)]) (pc' := 6) (ls' := [some (.ref b), some (.int p0)]) (st' := [.int 0, .int p0, .ref (b + 6)]) (by decide +kernel) rfl ?_
  obtain ⟨q1, hq1, hf⟩ := bd_some hf
  refine CW.callV (As := [.int p0, .int 0]) (st := []) lv_RX2_102 (kk_2_5 hb) (by decide) rfl rfl (by decide +kernel) (xc_X6_at (kk_2_5 hb) hq1) (by decide) (by decide) rfl (Nat.le_of_ble_eq_true rfl) rfl ?_
  show CW l yy_X2_isLook 2 _ _ 9 [some (.ref b), some (.int p0)] [.int q1] S
  refine CW.run (blk := [(.aload_n 0, 0)]) (pc' := 10) (ls' := [some (.ref b), some (.int p0)]) (st' := [.ref b, .int q1]) (by decide +kernel) rfl ?_
  refine CW.getf (v := .ref (b + 6)) hb (by decide) fl_RX2_32 (by decide +kernel) rfl ?_
  refine CW.run (blk := [(.iload_n 1, 0), (.iconst 1, 1)]) (pc' := 15) (ls' := [some (.ref b), some (.int p0)]) (st' := [.int 1, .int p0, .ref (b + 6), .int q1]) (by decide +kernel) rfl ?_
  obtain ⟨q2, hq2, hf⟩ := bd_some hf
  refine CW.callV (As := [.int p0, .int 1]) (st := [.int q1]) lv_RX2_102 (kk_2_5 hb) (by decide) rfl rfl (by decide +kernel) (xc_X6_at (kk_2_5 hb) hq2) (by decide) (by decide) rfl (Nat.le_of_ble_eq_true rfl) rfl ?_
  show CW l yy_X2_isLook 2 _ _ 18 [some (.ref b), some (.int p0)] [.int q2, .int q1] S
  refine CW.icmp_ne (off := 7) (tgt := 25) (by decide +kernel) (by decide) (fun c18_3 => ?_) (fun c18_3 => ?_)
  · rw [if_neg c18_3] at hf
    refine CW.run (blk := [(.iconst 0, 0)]) (pc' := 26) (ls' := [some (.ref b), some (.int p0)]) (st' := [.int 0]) (by decide +kernel) rfl ?_
    have e9 := Option.some.inj hf
    subst e9
    exact CW.zret rfl (b2i_nar _) (by decide +kernel)
  · rw [if_pos c18_3] at hf
    refine CW.run (blk := [(.iconst 1, 1), (.goto 4, 0)]) (pc' := 26) (ls' := [some (.ref b), some (.int p0)]) (st' := [.int 1]) (by decide +kernel) rfl ?_
    have e9 := Option.some.inj hf
    subst e9
    exact CW.zret rfl (b2i_nar _) (by decide +kernel)
def fc_X2_looksOf_L4 (k0 : Nat) (k1 : Int32) (S : cT) : Nat → Int32 → Int32 → Option (Int32 × Int32)
  | 0, _, _ => none
  | N + 1, a2, a3 => if (S.1 (k0 + 6) 3) ≤ a3 then (some (a2, a3)) else ((fc_X2_isLook k0 a3 S).bind fun q2 => if (b2i q2) = 0 then (fc_X2_looksOf_L4 k0 k1 S N a2 (a3 + 1)) else ((fc_X6_at (k0 + 6) a3 0 S).bind fun q4 => if q4 = k1 then (fc_X2_looksOf_L4 k0 k1 S N (a2 + 1) (a3 + 1)) else (fc_X2_looksOf_L4 k0 k1 S N a2 (a3 + 1))))
def fc_X2_looksOf (b : Nat) (p0 : Int32) (S : cT) : Option (Int32) := (fc_X2_looksOf_L4 b p0 S FU 0 0).bind fun w6 => some w6.1
theorem xc_X2_looksOf_L4 {l : Launch} {r : Option Value} {S' : cT} (k0 : Nat) (k1 : Int32) (S : cT) (hk0 : cK k0 = 2) : ∀ (N : Nat) (a2 : Int32) (a3 : Int32) (W0 : Int32 × Int32) (_ : fc_X2_looksOf_L4 k0 k1 S N a2 a3 = some W0) (_ : CW l yy_X2_looksOf 3 r S' 45 [some (.ref k0), some (.int k1), some (.int W0.1), some (.int W0.2)] [] S), CW l yy_X2_looksOf 3 r S' 4 [some (.ref k0), some (.int k1), some (.int a2), some (.int a3)] [] S := by
  intro N
  induction N with
  | zero =>
    intro a2 a3 W0 hf _
    cases hf
  | succ N ih =>
    intro a2 a3 W0 hf hk_1
    unfold fc_X2_looksOf_L4 at hf
    refine CW.run (blk := [(.iload_n 3, 0), (.aload_n 0, 0)]) (pc' := 6) (ls' := [some (.ref k0), some (.int k1), some (.int a2), some (.int a3)]) (st' := [.ref k0, .int a3]) (by decide +kernel) rfl ?_
    refine CW.getf (v := .ref (k0 + 6)) hk0 (by decide) fl_RX2_32 (by decide +kernel) rfl ?_
    refine CW.getf (v := .int (S.1 (k0 + 6) 3)) (kk_2_5 hk0) (by decide) fl_RX2_119 (by decide +kernel) rfl ?_
    refine CW.icmp_ge (off := 33) (tgt := 45) (by decide +kernel) (by decide) (fun c12_1 => ?_) (fun c12_1 => ?_)
    · rw [if_pos c12_1] at hf
      have e9 := Option.some.inj hf
      subst e9
      exact hk_1
    · rw [if_neg c12_1] at hf
      refine CW.run (blk := [(.aload_n 0, 0), (.iload_n 3, 0)]) (pc' := 17) (ls' := [some (.ref k0), some (.int k1), some (.int a2), some (.int a3)]) (st' := [.int a3, .ref k0]) (by decide +kernel) rfl ?_
      obtain ⟨q2, hq2, hf⟩ := bd_some hf
      refine CW.callV (As := [.int a3]) (st := []) lv_RX2_122 hk0 (by decide) rfl rfl (by decide +kernel) (xc_X2_isLook hk0 hq2) (by decide) (by decide) rfl (Nat.le_of_ble_eq_true rfl) rfl ?_
      show CW l yy_X2_looksOf 3 _ _ 20 [some (.ref k0), some (.int k1), some (.int a2), some (.int a3)] [.int (b2i q2)] S
      refine CW.if_eq (off := 19) (tgt := 39) (by decide +kernel) (by decide) (fun c20_3 => ?_) (fun c20_3 => ?_)
      · rw [if_pos c20_3] at hf
        refine CW.run (blk := [(.iinc 3 1, 1), (.goto (-38), 0)]) (pc' := 4) (ls' := [some (.ref k0), some (.int k1), some (.int a2), some (.int (a3 + 1))]) (st' := []) (by decide +kernel) rfl ?_
        exact ih _ _ _ hf hk_1
      · rw [if_neg c20_3] at hf
        refine CW.run (blk := [(.aload_n 0, 0)]) (pc' := 24) (ls' := [some (.ref k0), some (.int k1), some (.int a2), some (.int a3)]) (st' := [.ref k0]) (by decide +kernel) rfl ?_
        refine CW.getf (v := .ref (k0 + 6)) hk0 (by decide) fl_RX2_32 (by decide +kernel) rfl ?_
        refine CW.run (blk := [(.iload_n 3, 0), (.iconst 0, 0)]) (pc' := 29) (ls' := [some (.ref k0), some (.int k1), some (.int a2), some (.int a3)]) (st' := [.int 0, .int a3, .ref (k0 + 6)]) (by decide +kernel) rfl ?_
        obtain ⟨q4, hq4, hf⟩ := bd_some hf
        refine CW.callV (As := [.int a3, .int 0]) (st := []) lv_RX2_102 (kk_2_5 hk0) (by decide) rfl rfl (by decide +kernel) (xc_X6_at (kk_2_5 hk0) hq4) (by decide) (by decide) rfl (Nat.le_of_ble_eq_true rfl) rfl ?_
        show CW l yy_X2_looksOf 3 _ _ 32 [some (.ref k0), some (.int k1), some (.int a2), some (.int a3)] [.int q4] S
        refine CW.run (blk := [(.iload_n 1, 0)]) (pc' := 33) (ls' := [some (.ref k0), some (.int k1), some (.int a2), some (.int a3)]) (st' := [.int k1, .int q4]) (by decide +kernel) rfl ?_
        refine CW.icmp_ne (off := 6) (tgt := 39) (by decide +kernel) (by decide) (fun c33_5 => ?_) (fun c33_5 => ?_)
        · rw [if_neg c33_5] at hf
          refine CW.run (blk := [(.iinc 3 1, 1), (.goto (-38), 0)]) (pc' := 4) (ls' := [some (.ref k0), some (.int k1), some (.int a2), some (.int (a3 + 1))]) (st' := []) (by decide +kernel) rfl ?_
          exact ih _ _ _ hf hk_1
        · rw [if_pos c33_5] at hf
          refine CW.run (blk := [(.iinc 2 1, 1), (.iinc 3 1, 1), (.goto (-38), 0)]) (pc' := 4) (ls' := [some (.ref k0), some (.int k1), some (.int (a2 + 1)), some (.int (a3 + 1))]) (st' := []) (by decide +kernel) rfl ?_
          exact ih _ _ _ hf hk_1
theorem xc_X2_looksOf {l : Launch} {b : Nat} {p0 : Int32} {S : cT} {q : Int32} (hb : cK b = 2) (hf : fc_X2_looksOf b p0 S = some q) : COk l yy_X2_looksOf 3 [.ref b, .int p0] S (some (.int q)) S := by
  refine COk.of (ls := [some (.ref b), some (.int p0), none, none]) (by decide +kernel) (Nat.le_of_ble_eq_true rfl) rfl ?_
  unfold fc_X2_looksOf at hf
  refine CW.run (blk := [(.iconst 0, 0), (.istore_n 2, 0), (.iconst 0, 0), (.istore_n 3, 0)]) (pc' := 4) (ls' := [some (.ref b), some (.int p0), some (.int 0), some (.int 0)]) (st' := []) (by decide +kernel) rfl ?_
  obtain ⟨w6, hw6, hf⟩ := bd_some hf
  refine xc_X2_looksOf_L4 b p0 S hb FU _ _ _ hw6 ?_
  refine CW.run (blk := [(.iload_n 2, 0)]) (pc' := 46) (ls' := [some (.ref b), some (.int p0), some (.int w6.1), some (.int w6.2)]) (st' := [.int w6.1]) (by decide +kernel) rfl ?_
  have e9 := Option.some.inj hf
  subst e9
  exact CW.iret rfl (by decide +kernel)
def fc_X2_lookers_L4 (k0 : Nat) (S : cT) : Nat → Int32 → Int32 → Option (Int32 × Int32)
  | 0, _, _ => none
  | N + 1, a1, a2 => if (S.1 (k0 + 6) 3) ≤ a2 then (some (a1, a2)) else ((fc_X2_isLook k0 a2 S).bind fun q2 => if (b2i q2) = 0 then (fc_X2_lookers_L4 k0 S N a1 (a2 + 1)) else ((fc_X6_at (k0 + 6) a2 0 S).bind fun q4 => fc_X2_lookers_L4 k0 S N (a1 ||| ((1 : Int32) <<< (q4 &&& 31))) (a2 + 1)))
def fc_X2_lookers (b : Nat) (S : cT) : Option (Int32) := (fc_X2_lookers_L4 b S FU 0 0).bind fun w5 => some w5.1
theorem xc_X2_lookers_L4 {l : Launch} {r : Option Value} {S' : cT} (k0 : Nat) (S : cT) (hk0 : cK k0 = 2) : ∀ (N : Nat) (a1 : Int32) (a2 : Int32) (W0 : Int32 × Int32) (_ : fc_X2_lookers_L4 k0 S N a1 a2 = some W0) (_ : CW l yy_X2_lookers 3 r S' 43 [some (.ref k0), some (.int W0.1), some (.int W0.2)] [] S), CW l yy_X2_lookers 3 r S' 4 [some (.ref k0), some (.int a1), some (.int a2)] [] S := by
  intro N
  induction N with
  | zero =>
    intro a1 a2 W0 hf _
    cases hf
  | succ N ih =>
    intro a1 a2 W0 hf hk_1
    unfold fc_X2_lookers_L4 at hf
    refine CW.run (blk := [(.iload_n 2, 0), (.aload_n 0, 0)]) (pc' := 6) (ls' := [some (.ref k0), some (.int a1), some (.int a2)]) (st' := [.ref k0, .int a2]) (by decide +kernel) rfl ?_
    refine CW.getf (v := .ref (k0 + 6)) hk0 (by decide) fl_RX2_32 (by decide +kernel) rfl ?_
    refine CW.getf (v := .int (S.1 (k0 + 6) 3)) (kk_2_5 hk0) (by decide) fl_RX2_119 (by decide +kernel) rfl ?_
    refine CW.icmp_ge (off := 31) (tgt := 43) (by decide +kernel) (by decide) (fun c12_1 => ?_) (fun c12_1 => ?_)
    · rw [if_pos c12_1] at hf
      have e9 := Option.some.inj hf
      subst e9
      exact hk_1
    · rw [if_neg c12_1] at hf
      refine CW.run (blk := [(.aload_n 0, 0), (.iload_n 2, 0)]) (pc' := 17) (ls' := [some (.ref k0), some (.int a1), some (.int a2)]) (st' := [.int a2, .ref k0]) (by decide +kernel) rfl ?_
      obtain ⟨q2, hq2, hf⟩ := bd_some hf
      refine CW.callV (As := [.int a2]) (st := []) lv_RX2_122 hk0 (by decide) rfl rfl (by decide +kernel) (xc_X2_isLook hk0 hq2) (by decide) (by decide) rfl (Nat.le_of_ble_eq_true rfl) rfl ?_
      show CW l yy_X2_lookers 3 _ _ 20 [some (.ref k0), some (.int a1), some (.int a2)] [.int (b2i q2)] S
      refine CW.if_eq (off := 17) (tgt := 37) (by decide +kernel) (by decide) (fun c20_3 => ?_) (fun c20_3 => ?_)
      · rw [if_pos c20_3] at hf
        refine CW.run (blk := [(.iinc 2 1, 1), (.goto (-36), 0)]) (pc' := 4) (ls' := [some (.ref k0), some (.int a1), some (.int (a2 + 1))]) (st' := []) (by decide +kernel) rfl ?_
        exact ih _ _ _ hf hk_1
      · rw [if_neg c20_3] at hf
        refine CW.run (blk := [(.iload_n 1, 0), (.iconst 1, 1), (.aload_n 0, 0)]) (pc' := 26) (ls' := [some (.ref k0), some (.int a1), some (.int a2)]) (st' := [.ref k0, .int 1, .int a1]) (by decide +kernel) rfl ?_
        refine CW.getf (v := .ref (k0 + 6)) hk0 (by decide) fl_RX2_32 (by decide +kernel) rfl ?_
        refine CW.run (blk := [(.iload_n 2, 0), (.iconst 0, 0)]) (pc' := 31) (ls' := [some (.ref k0), some (.int a1), some (.int a2)]) (st' := [.int 0, .int a2, .ref (k0 + 6), .int 1, .int a1]) (by decide +kernel) rfl ?_
        obtain ⟨q4, hq4, hf⟩ := bd_some hf
        refine CW.callV (As := [.int a2, .int 0]) (st := [.int 1, .int a1]) lv_RX2_102 (kk_2_5 hk0) (by decide) rfl rfl (by decide +kernel) (xc_X6_at (kk_2_5 hk0) hq4) (by decide) (by decide) rfl (Nat.le_of_ble_eq_true rfl) rfl ?_
        show CW l yy_X2_lookers 3 _ _ 34 [some (.ref k0), some (.int a1), some (.int a2)] [.int q4, .int 1, .int a1] S
        refine CW.run (blk := [(.ishl, 0), (.ior, 0), (.istore_n 1, 0), (.iinc 2 1, 1), (.goto (-36), 0)]) (pc' := 4) (ls' := [some (.ref k0), some (.int (a1 ||| ((1 : Int32) <<< (q4 &&& 31)))), some (.int (a2 + 1))]) (st' := []) (by decide +kernel) rfl ?_
        exact ih _ _ _ hf hk_1
theorem xc_X2_lookers {l : Launch} {b : Nat} {S : cT} {q : Int32} (hb : cK b = 2) (hf : fc_X2_lookers b S = some q) : COk l yy_X2_lookers 3 [.ref b] S (some (.int q)) S := by
  refine COk.of (ls := [some (.ref b), none, none]) (by decide +kernel) (Nat.le_of_ble_eq_true rfl) rfl ?_
  unfold fc_X2_lookers at hf
  refine CW.run (blk := [(.iconst 0, 0), (.istore_n 1, 0), (.iconst 0, 0), (.istore_n 2, 0)]) (pc' := 4) (ls' := [some (.ref b), some (.int 0), some (.int 0)]) (st' := []) (by decide +kernel) rfl ?_
  obtain ⟨w5, hw5, hf⟩ := bd_some hf
  refine xc_X2_lookers_L4 b S hb FU _ _ _ hw5 ?_
  refine CW.run (blk := [(.iload_n 1, 0)]) (pc' := 44) (ls' := [some (.ref b), some (.int w5.1), some (.int w5.2)]) (st' := [.int w5.1]) (by decide +kernel) rfl ?_
  have e9 := Option.some.inj hf
  subst e9
  exact CW.iret rfl (by decide +kernel)
def fc_X2_nextToLook_L2 (k0 : Nat) (k1 : Int32) (S : cT) : Nat → Int32 → Option ((Int32) ⊕ (Int32))
  | 0, _ => none
  | N + 1, a2 => if (S.1 k0 9) ≤ a2 then (some (.inl (a2))) else ((fc_X2_hasBoat k0 (S.1 k0 10) a2 S).bind fun q2 => if (b2i q2) = 0 then (fc_X2_nextToLook_L2 k0 k1 S N (a2 + 1)) else (if (((k1 : Int32) >>> (a2 &&& 31)) &&& 1) = 0 then (some (.inr a2)) else (fc_X2_nextToLook_L2 k0 k1 S N (a2 + 1))))
def fc_X2_nextToLook (b : Nat) (p0 : Int32) (S : cT) : Option (Int32) := (fc_X2_nextToLook_L2 b p0 S FU 0).bind fun w5 => Sum.elim (fun w5a => some (-1)) (fun w5b => some w5b) w5
theorem xc_X2_nextToLook_L2 {l : Launch} {r : Option Value} {S' : cT} (k0 : Nat) (k1 : Int32) (S : cT) (hk0 : cK k0 = 2) : ∀ (N : Nat) (a2 : Int32) (W0 : (Int32) ⊕ (Int32)) (_ : fc_X2_nextToLook_L2 k0 k1 S N a2 = some W0) (_ : ∀ W, W0 = .inl W → CW l yy_X2_nextToLook 3 r S' 38 [some (.ref k0), some (.int k1), some (.int W)] [] S) (_ : ∀ Y, W0 = .inr Y → r = some (.int (Y)) ∧ S' = S), CW l yy_X2_nextToLook 3 r S' 2 [some (.ref k0), some (.int k1), some (.int a2)] [] S := by
  intro N
  induction N with
  | zero =>
    intro a2 W0 hf _ _
    cases hf
  | succ N ih =>
    intro a2 W0 hf hk_1 hk_2
    unfold fc_X2_nextToLook_L2 at hf
    refine CW.run (blk := [(.iload_n 2, 0), (.aload_n 0, 0)]) (pc' := 4) (ls' := [some (.ref k0), some (.int k1), some (.int a2)]) (st' := [.ref k0, .int a2]) (by decide +kernel) rfl ?_
    refine CW.getf (v := .int (S.1 k0 9)) hk0 (by decide) fl_RX2_53 (by decide +kernel) rfl ?_
    refine CW.icmp_ge (off := 31) (tgt := 38) (by decide +kernel) (by decide) (fun c7_1 => ?_) (fun c7_1 => ?_)
    · rw [if_pos c7_1] at hf
      have e9 := Option.some.inj hf
      subst e9
      exact hk_1 (a2) rfl
    · rw [if_neg c7_1] at hf
      refine CW.run (blk := [(.aload_n 0, 0), (.aload_n 0, 0)]) (pc' := 12) (ls' := [some (.ref k0), some (.int k1), some (.int a2)]) (st' := [.ref k0, .ref k0]) (by decide +kernel) rfl ?_
      refine CW.getf (v := .int (S.1 k0 10)) hk0 (by decide) fl_RX2_56 (by decide +kernel) rfl ?_
      refine CW.run (blk := [(.iload_n 2, 0)]) (pc' := 16) (ls' := [some (.ref k0), some (.int k1), some (.int a2)]) (st' := [.int a2, .int (S.1 k0 10), .ref k0]) (by decide +kernel) rfl ?_
      obtain ⟨q2, hq2, hf⟩ := bd_some hf
      refine CW.callV (As := [.int (S.1 k0 10), .int a2]) (st := []) lv_RX2_125 hk0 (by decide) rfl rfl (by decide +kernel) (xc_X2_hasBoat hk0 hq2) (by decide) (by decide) rfl (Nat.le_of_ble_eq_true rfl) rfl ?_
      show CW l yy_X2_nextToLook 3 _ _ 19 [some (.ref k0), some (.int k1), some (.int a2)] [.int (b2i q2)] S
      refine CW.if_eq (off := 13) (tgt := 32) (by decide +kernel) (by decide) (fun c19_3 => ?_) (fun c19_3 => ?_)
      · rw [if_pos c19_3] at hf
        refine CW.run (blk := [(.iinc 2 1, 1), (.goto (-33), 0)]) (pc' := 2) (ls' := [some (.ref k0), some (.int k1), some (.int (a2 + 1))]) (st' := []) (by decide +kernel) rfl ?_
        exact ih _ _ hf hk_1 hk_2
      · rw [if_neg c19_3] at hf
        refine CW.run (blk := [(.iload_n 1, 0), (.iload_n 2, 0), (.ishr, 0), (.iconst 1, 1), (.iand, 0)]) (pc' := 27) (ls' := [some (.ref k0), some (.int k1), some (.int a2)]) (st' := [.int (((k1 : Int32) >>> (a2 &&& 31)) &&& 1)]) (by decide +kernel) rfl ?_
        refine CW.if_ne (off := 5) (tgt := 32) (by decide +kernel) (by decide) (fun c27_4 => ?_) (fun c27_4 => ?_)
        · rw [if_neg c27_4] at hf
          refine CW.run (blk := [(.iinc 2 1, 1), (.goto (-33), 0)]) (pc' := 2) (ls' := [some (.ref k0), some (.int k1), some (.int (a2 + 1))]) (st' := []) (by decide +kernel) rfl ?_
          exact ih _ _ hf hk_1 hk_2
        · rw [if_pos c27_4] at hf
          refine CW.run (blk := [(.iload_n 2, 0)]) (pc' := 31) (ls' := [some (.ref k0), some (.int k1), some (.int a2)]) (st' := [.int a2]) (by decide +kernel) rfl ?_
          have e9 := Option.some.inj hf
          subst e9
          obtain ⟨e1, e2⟩ := (hk_2 _ rfl)
          subst e1
          subst e2
          exact CW.iret rfl (by decide +kernel)
theorem xc_X2_nextToLook {l : Launch} {b : Nat} {p0 : Int32} {S : cT} {q : Int32} (hb : cK b = 2) (hf : fc_X2_nextToLook b p0 S = some q) : COk l yy_X2_nextToLook 3 [.ref b, .int p0] S (some (.int q)) S := by
  refine COk.of (ls := [some (.ref b), some (.int p0), none]) (by decide +kernel) (Nat.le_of_ble_eq_true rfl) rfl ?_
  unfold fc_X2_nextToLook at hf
  refine CW.run (blk := [(.iconst 0, 0), (.istore_n 2, 0)]) (pc' := 2) (ls' := [some (.ref b), some (.int p0), some (.int 0)]) (st' := []) (by decide +kernel) rfl ?_
  obtain ⟨w5, hw5, hf⟩ := bd_some hf
  refine xc_X2_nextToLook_L2 b p0 S hb FU _ _ hw5 (fun w5a hsw5 => ?_) (fun w5b hsw5 => ?_)
  · subst hsw5
    simp only [Sum.elim_inl] at hf
    refine CW.run (blk := [(.iconst (-1), (-1))]) (pc' := 39) (ls' := [some (.ref b), some (.int p0), some (.int w5a)]) (st' := [.int (-1)]) (by decide +kernel) rfl ?_
    have e9 := Option.some.inj hf
    subst e9
    exact CW.iret rfl (by decide +kernel)
  · subst hsw5
    simp only [Sum.elim_inr] at hf
    have e9 := Option.some.inj hf
    subst e9
    exact ⟨rfl, rfl⟩
def fc_J6_bitCount_0f7a4 (p0 : Int32) : Option (Int32) := some ((((((((p0 - ((((p0 : Int32).toUInt32 >>> ((1 : Int32).toUInt32 &&& Int32.toUInt32 31)).toInt32) &&& 1431655765)) &&& 858993459) + (((((p0 - ((((p0 : Int32).toUInt32 >>> ((1 : Int32).toUInt32 &&& Int32.toUInt32 31)).toInt32) &&& 1431655765)) : Int32).toUInt32 >>> ((2 : Int32).toUInt32 &&& Int32.toUInt32 31)).toInt32) &&& 858993459)) + ((((((p0 - ((((p0 : Int32).toUInt32 >>> ((1 : Int32).toUInt32 &&& Int32.toUInt32 31)).toInt32) &&& 1431655765)) &&& 858993459) + (((((p0 - ((((p0 : Int32).toUInt32 >>> ((1 : Int32).toUInt32 &&& Int32.toUInt32 31)).toInt32) &&& 1431655765)) : Int32).toUInt32 >>> ((2 : Int32).toUInt32 &&& Int32.toUInt32 31)).toInt32) &&& 858993459)) : Int32).toUInt32 >>> ((4 : Int32).toUInt32 &&& Int32.toUInt32 31)).toInt32)) &&& 252645135) + ((((((((p0 - ((((p0 : Int32).toUInt32 >>> ((1 : Int32).toUInt32 &&& Int32.toUInt32 31)).toInt32) &&& 1431655765)) &&& 858993459) + (((((p0 - ((((p0 : Int32).toUInt32 >>> ((1 : Int32).toUInt32 &&& Int32.toUInt32 31)).toInt32) &&& 1431655765)) : Int32).toUInt32 >>> ((2 : Int32).toUInt32 &&& Int32.toUInt32 31)).toInt32) &&& 858993459)) + ((((((p0 - ((((p0 : Int32).toUInt32 >>> ((1 : Int32).toUInt32 &&& Int32.toUInt32 31)).toInt32) &&& 1431655765)) &&& 858993459) + (((((p0 - ((((p0 : Int32).toUInt32 >>> ((1 : Int32).toUInt32 &&& Int32.toUInt32 31)).toInt32) &&& 1431655765)) : Int32).toUInt32 >>> ((2 : Int32).toUInt32 &&& Int32.toUInt32 31)).toInt32) &&& 858993459)) : Int32).toUInt32 >>> ((4 : Int32).toUInt32 &&& Int32.toUInt32 31)).toInt32)) &&& 252645135) : Int32).toUInt32 >>> ((8 : Int32).toUInt32 &&& Int32.toUInt32 31)).toInt32)) + (((((((((p0 - ((((p0 : Int32).toUInt32 >>> ((1 : Int32).toUInt32 &&& Int32.toUInt32 31)).toInt32) &&& 1431655765)) &&& 858993459) + (((((p0 - ((((p0 : Int32).toUInt32 >>> ((1 : Int32).toUInt32 &&& Int32.toUInt32 31)).toInt32) &&& 1431655765)) : Int32).toUInt32 >>> ((2 : Int32).toUInt32 &&& Int32.toUInt32 31)).toInt32) &&& 858993459)) + ((((((p0 - ((((p0 : Int32).toUInt32 >>> ((1 : Int32).toUInt32 &&& Int32.toUInt32 31)).toInt32) &&& 1431655765)) &&& 858993459) + (((((p0 - ((((p0 : Int32).toUInt32 >>> ((1 : Int32).toUInt32 &&& Int32.toUInt32 31)).toInt32) &&& 1431655765)) : Int32).toUInt32 >>> ((2 : Int32).toUInt32 &&& Int32.toUInt32 31)).toInt32) &&& 858993459)) : Int32).toUInt32 >>> ((4 : Int32).toUInt32 &&& Int32.toUInt32 31)).toInt32)) &&& 252645135) + ((((((((p0 - ((((p0 : Int32).toUInt32 >>> ((1 : Int32).toUInt32 &&& Int32.toUInt32 31)).toInt32) &&& 1431655765)) &&& 858993459) + (((((p0 - ((((p0 : Int32).toUInt32 >>> ((1 : Int32).toUInt32 &&& Int32.toUInt32 31)).toInt32) &&& 1431655765)) : Int32).toUInt32 >>> ((2 : Int32).toUInt32 &&& Int32.toUInt32 31)).toInt32) &&& 858993459)) + ((((((p0 - ((((p0 : Int32).toUInt32 >>> ((1 : Int32).toUInt32 &&& Int32.toUInt32 31)).toInt32) &&& 1431655765)) &&& 858993459) + (((((p0 - ((((p0 : Int32).toUInt32 >>> ((1 : Int32).toUInt32 &&& Int32.toUInt32 31)).toInt32) &&& 1431655765)) : Int32).toUInt32 >>> ((2 : Int32).toUInt32 &&& Int32.toUInt32 31)).toInt32) &&& 858993459)) : Int32).toUInt32 >>> ((4 : Int32).toUInt32 &&& Int32.toUInt32 31)).toInt32)) &&& 252645135) : Int32).toUInt32 >>> ((8 : Int32).toUInt32 &&& Int32.toUInt32 31)).toInt32)) : Int32).toUInt32 >>> ((16 : Int32).toUInt32 &&& Int32.toUInt32 31)).toInt32)) &&& 63)
theorem xc_J6_bitCount_0f7a4 {l : Launch} {p0 : Int32} {q : Int32} (hf : fc_J6_bitCount_0f7a4 p0 = some q) : POk l yy_J6_bitCount_0f7a4 0 [.int p0] (some (.int q)) := by
  refine POk.of (ls := [some (.int p0)]) (by decide +kernel) (Nat.le_of_ble_eq_true rfl) rfl ?_
  unfold fc_J6_bitCount_0f7a4 at hf
  refine PW.run (blk := [(.iload_n 0, 0), (.iload_n 0, 0), (.iconst 1, 1), (.iushr, 0)]) (pc' := 4) (ls' := [some (.int p0)]) (st' := [.int (((p0 : Int32).toUInt32 >>> ((1 : Int32).toUInt32 &&& Int32.toUInt32 31)).toInt32), .int p0]) (by decide +kernel) rfl ?_
  refine PW.ldcw (idx := 265) (v := 1431655765) (tb_in 827 (by decide +kernel) (by decide +kernel)) (by decide +kernel) ?_
  refine PW.run (blk := [(.iand, 0), (.isub, 0), (.istore_n 0, 0), (.iload_n 0, 0)]) (pc' := 11) (ls' := [some (.int (p0 - ((((p0 : Int32).toUInt32 >>> ((1 : Int32).toUInt32 &&& Int32.toUInt32 31)).toInt32) &&& 1431655765)))]) (st' := [.int (p0 - ((((p0 : Int32).toUInt32 >>> ((1 : Int32).toUInt32 &&& Int32.toUInt32 31)).toInt32) &&& 1431655765))]) (by decide +kernel) rfl ?_
  refine PW.ldcw (idx := 266) (v := 858993459) (tb_in 828 (by decide +kernel) (by decide +kernel)) (by decide +kernel) ?_
  refine PW.run (blk := [(.iand, 0), (.iload_n 0, 0), (.iconst 2, 2), (.iushr, 0)]) (pc' := 18) (ls' := [some (.int (p0 - ((((p0 : Int32).toUInt32 >>> ((1 : Int32).toUInt32 &&& Int32.toUInt32 31)).toInt32) &&& 1431655765)))]) (st' := [.int ((((p0 - ((((p0 : Int32).toUInt32 >>> ((1 : Int32).toUInt32 &&& Int32.toUInt32 31)).toInt32) &&& 1431655765)) : Int32).toUInt32 >>> ((2 : Int32).toUInt32 &&& Int32.toUInt32 31)).toInt32), .int ((p0 - ((((p0 : Int32).toUInt32 >>> ((1 : Int32).toUInt32 &&& Int32.toUInt32 31)).toInt32) &&& 1431655765)) &&& 858993459)]) (by decide +kernel) rfl ?_
  refine PW.ldcw (idx := 266) (v := 858993459) (tb_in 828 (by decide +kernel) (by decide +kernel)) (by decide +kernel) ?_
  refine PW.run (blk := [(.iand, 0), (.iadd, 0), (.istore_n 0, 0), (.iload_n 0, 0), (.iload_n 0, 0), (.iconst 4, 4), (.iushr, 0), (.iadd, 0)]) (pc' := 29) (ls' := [some (.int (((p0 - ((((p0 : Int32).toUInt32 >>> ((1 : Int32).toUInt32 &&& Int32.toUInt32 31)).toInt32) &&& 1431655765)) &&& 858993459) + (((((p0 - ((((p0 : Int32).toUInt32 >>> ((1 : Int32).toUInt32 &&& Int32.toUInt32 31)).toInt32) &&& 1431655765)) : Int32).toUInt32 >>> ((2 : Int32).toUInt32 &&& Int32.toUInt32 31)).toInt32) &&& 858993459)))]) (st' := [.int ((((p0 - ((((p0 : Int32).toUInt32 >>> ((1 : Int32).toUInt32 &&& Int32.toUInt32 31)).toInt32) &&& 1431655765)) &&& 858993459) + (((((p0 - ((((p0 : Int32).toUInt32 >>> ((1 : Int32).toUInt32 &&& Int32.toUInt32 31)).toInt32) &&& 1431655765)) : Int32).toUInt32 >>> ((2 : Int32).toUInt32 &&& Int32.toUInt32 31)).toInt32) &&& 858993459)) + ((((((p0 - ((((p0 : Int32).toUInt32 >>> ((1 : Int32).toUInt32 &&& Int32.toUInt32 31)).toInt32) &&& 1431655765)) &&& 858993459) + (((((p0 - ((((p0 : Int32).toUInt32 >>> ((1 : Int32).toUInt32 &&& Int32.toUInt32 31)).toInt32) &&& 1431655765)) : Int32).toUInt32 >>> ((2 : Int32).toUInt32 &&& Int32.toUInt32 31)).toInt32) &&& 858993459)) : Int32).toUInt32 >>> ((4 : Int32).toUInt32 &&& Int32.toUInt32 31)).toInt32))]) (by decide +kernel) rfl ?_
  refine PW.ldcw (idx := 267) (v := 252645135) (tb_in 829 (by decide +kernel) (by decide +kernel)) (by decide +kernel) ?_
  refine PW.run (blk := [(.iand, 0), (.istore_n 0, 0), (.iload_n 0, 0), (.iload_n 0, 0), (.bipush 8, 8), (.iushr, 0), (.iadd, 0), (.istore_n 0, 0), (.iload_n 0, 0), (.iload_n 0, 0), (.bipush 16, 16), (.iushr, 0), (.iadd, 0), (.istore_n 0, 0), (.iload_n 0, 0), (.bipush 63, 63), (.iand, 0)]) (pc' := 52) (ls' := [some (.int (((((((p0 - ((((p0 : Int32).toUInt32 >>> ((1 : Int32).toUInt32 &&& Int32.toUInt32 31)).toInt32) &&& 1431655765)) &&& 858993459) + (((((p0 - ((((p0 : Int32).toUInt32 >>> ((1 : Int32).toUInt32 &&& Int32.toUInt32 31)).toInt32) &&& 1431655765)) : Int32).toUInt32 >>> ((2 : Int32).toUInt32 &&& Int32.toUInt32 31)).toInt32) &&& 858993459)) + ((((((p0 - ((((p0 : Int32).toUInt32 >>> ((1 : Int32).toUInt32 &&& Int32.toUInt32 31)).toInt32) &&& 1431655765)) &&& 858993459) + (((((p0 - ((((p0 : Int32).toUInt32 >>> ((1 : Int32).toUInt32 &&& Int32.toUInt32 31)).toInt32) &&& 1431655765)) : Int32).toUInt32 >>> ((2 : Int32).toUInt32 &&& Int32.toUInt32 31)).toInt32) &&& 858993459)) : Int32).toUInt32 >>> ((4 : Int32).toUInt32 &&& Int32.toUInt32 31)).toInt32)) &&& 252645135) + ((((((((p0 - ((((p0 : Int32).toUInt32 >>> ((1 : Int32).toUInt32 &&& Int32.toUInt32 31)).toInt32) &&& 1431655765)) &&& 858993459) + (((((p0 - ((((p0 : Int32).toUInt32 >>> ((1 : Int32).toUInt32 &&& Int32.toUInt32 31)).toInt32) &&& 1431655765)) : Int32).toUInt32 >>> ((2 : Int32).toUInt32 &&& Int32.toUInt32 31)).toInt32) &&& 858993459)) + ((((((p0 - ((((p0 : Int32).toUInt32 >>> ((1 : Int32).toUInt32 &&& Int32.toUInt32 31)).toInt32) &&& 1431655765)) &&& 858993459) + (((((p0 - ((((p0 : Int32).toUInt32 >>> ((1 : Int32).toUInt32 &&& Int32.toUInt32 31)).toInt32) &&& 1431655765)) : Int32).toUInt32 >>> ((2 : Int32).toUInt32 &&& Int32.toUInt32 31)).toInt32) &&& 858993459)) : Int32).toUInt32 >>> ((4 : Int32).toUInt32 &&& Int32.toUInt32 31)).toInt32)) &&& 252645135) : Int32).toUInt32 >>> ((8 : Int32).toUInt32 &&& Int32.toUInt32 31)).toInt32)) + (((((((((p0 - ((((p0 : Int32).toUInt32 >>> ((1 : Int32).toUInt32 &&& Int32.toUInt32 31)).toInt32) &&& 1431655765)) &&& 858993459) + (((((p0 - ((((p0 : Int32).toUInt32 >>> ((1 : Int32).toUInt32 &&& Int32.toUInt32 31)).toInt32) &&& 1431655765)) : Int32).toUInt32 >>> ((2 : Int32).toUInt32 &&& Int32.toUInt32 31)).toInt32) &&& 858993459)) + ((((((p0 - ((((p0 : Int32).toUInt32 >>> ((1 : Int32).toUInt32 &&& Int32.toUInt32 31)).toInt32) &&& 1431655765)) &&& 858993459) + (((((p0 - ((((p0 : Int32).toUInt32 >>> ((1 : Int32).toUInt32 &&& Int32.toUInt32 31)).toInt32) &&& 1431655765)) : Int32).toUInt32 >>> ((2 : Int32).toUInt32 &&& Int32.toUInt32 31)).toInt32) &&& 858993459)) : Int32).toUInt32 >>> ((4 : Int32).toUInt32 &&& Int32.toUInt32 31)).toInt32)) &&& 252645135) + ((((((((p0 - ((((p0 : Int32).toUInt32 >>> ((1 : Int32).toUInt32 &&& Int32.toUInt32 31)).toInt32) &&& 1431655765)) &&& 858993459) + (((((p0 - ((((p0 : Int32).toUInt32 >>> ((1 : Int32).toUInt32 &&& Int32.toUInt32 31)).toInt32) &&& 1431655765)) : Int32).toUInt32 >>> ((2 : Int32).toUInt32 &&& Int32.toUInt32 31)).toInt32) &&& 858993459)) + ((((((p0 - ((((p0 : Int32).toUInt32 >>> ((1 : Int32).toUInt32 &&& Int32.toUInt32 31)).toInt32) &&& 1431655765)) &&& 858993459) + (((((p0 - ((((p0 : Int32).toUInt32 >>> ((1 : Int32).toUInt32 &&& Int32.toUInt32 31)).toInt32) &&& 1431655765)) : Int32).toUInt32 >>> ((2 : Int32).toUInt32 &&& Int32.toUInt32 31)).toInt32) &&& 858993459)) : Int32).toUInt32 >>> ((4 : Int32).toUInt32 &&& Int32.toUInt32 31)).toInt32)) &&& 252645135) : Int32).toUInt32 >>> ((8 : Int32).toUInt32 &&& Int32.toUInt32 31)).toInt32)) : Int32).toUInt32 >>> ((16 : Int32).toUInt32 &&& Int32.toUInt32 31)).toInt32)))]) (st' := [.int ((((((((p0 - ((((p0 : Int32).toUInt32 >>> ((1 : Int32).toUInt32 &&& Int32.toUInt32 31)).toInt32) &&& 1431655765)) &&& 858993459) + (((((p0 - ((((p0 : Int32).toUInt32 >>> ((1 : Int32).toUInt32 &&& Int32.toUInt32 31)).toInt32) &&& 1431655765)) : Int32).toUInt32 >>> ((2 : Int32).toUInt32 &&& Int32.toUInt32 31)).toInt32) &&& 858993459)) + ((((((p0 - ((((p0 : Int32).toUInt32 >>> ((1 : Int32).toUInt32 &&& Int32.toUInt32 31)).toInt32) &&& 1431655765)) &&& 858993459) + (((((p0 - ((((p0 : Int32).toUInt32 >>> ((1 : Int32).toUInt32 &&& Int32.toUInt32 31)).toInt32) &&& 1431655765)) : Int32).toUInt32 >>> ((2 : Int32).toUInt32 &&& Int32.toUInt32 31)).toInt32) &&& 858993459)) : Int32).toUInt32 >>> ((4 : Int32).toUInt32 &&& Int32.toUInt32 31)).toInt32)) &&& 252645135) + ((((((((p0 - ((((p0 : Int32).toUInt32 >>> ((1 : Int32).toUInt32 &&& Int32.toUInt32 31)).toInt32) &&& 1431655765)) &&& 858993459) + (((((p0 - ((((p0 : Int32).toUInt32 >>> ((1 : Int32).toUInt32 &&& Int32.toUInt32 31)).toInt32) &&& 1431655765)) : Int32).toUInt32 >>> ((2 : Int32).toUInt32 &&& Int32.toUInt32 31)).toInt32) &&& 858993459)) + ((((((p0 - ((((p0 : Int32).toUInt32 >>> ((1 : Int32).toUInt32 &&& Int32.toUInt32 31)).toInt32) &&& 1431655765)) &&& 858993459) + (((((p0 - ((((p0 : Int32).toUInt32 >>> ((1 : Int32).toUInt32 &&& Int32.toUInt32 31)).toInt32) &&& 1431655765)) : Int32).toUInt32 >>> ((2 : Int32).toUInt32 &&& Int32.toUInt32 31)).toInt32) &&& 858993459)) : Int32).toUInt32 >>> ((4 : Int32).toUInt32 &&& Int32.toUInt32 31)).toInt32)) &&& 252645135) : Int32).toUInt32 >>> ((8 : Int32).toUInt32 &&& Int32.toUInt32 31)).toInt32)) + (((((((((p0 - ((((p0 : Int32).toUInt32 >>> ((1 : Int32).toUInt32 &&& Int32.toUInt32 31)).toInt32) &&& 1431655765)) &&& 858993459) + (((((p0 - ((((p0 : Int32).toUInt32 >>> ((1 : Int32).toUInt32 &&& Int32.toUInt32 31)).toInt32) &&& 1431655765)) : Int32).toUInt32 >>> ((2 : Int32).toUInt32 &&& Int32.toUInt32 31)).toInt32) &&& 858993459)) + ((((((p0 - ((((p0 : Int32).toUInt32 >>> ((1 : Int32).toUInt32 &&& Int32.toUInt32 31)).toInt32) &&& 1431655765)) &&& 858993459) + (((((p0 - ((((p0 : Int32).toUInt32 >>> ((1 : Int32).toUInt32 &&& Int32.toUInt32 31)).toInt32) &&& 1431655765)) : Int32).toUInt32 >>> ((2 : Int32).toUInt32 &&& Int32.toUInt32 31)).toInt32) &&& 858993459)) : Int32).toUInt32 >>> ((4 : Int32).toUInt32 &&& Int32.toUInt32 31)).toInt32)) &&& 252645135) + ((((((((p0 - ((((p0 : Int32).toUInt32 >>> ((1 : Int32).toUInt32 &&& Int32.toUInt32 31)).toInt32) &&& 1431655765)) &&& 858993459) + (((((p0 - ((((p0 : Int32).toUInt32 >>> ((1 : Int32).toUInt32 &&& Int32.toUInt32 31)).toInt32) &&& 1431655765)) : Int32).toUInt32 >>> ((2 : Int32).toUInt32 &&& Int32.toUInt32 31)).toInt32) &&& 858993459)) + ((((((p0 - ((((p0 : Int32).toUInt32 >>> ((1 : Int32).toUInt32 &&& Int32.toUInt32 31)).toInt32) &&& 1431655765)) &&& 858993459) + (((((p0 - ((((p0 : Int32).toUInt32 >>> ((1 : Int32).toUInt32 &&& Int32.toUInt32 31)).toInt32) &&& 1431655765)) : Int32).toUInt32 >>> ((2 : Int32).toUInt32 &&& Int32.toUInt32 31)).toInt32) &&& 858993459)) : Int32).toUInt32 >>> ((4 : Int32).toUInt32 &&& Int32.toUInt32 31)).toInt32)) &&& 252645135) : Int32).toUInt32 >>> ((8 : Int32).toUInt32 &&& Int32.toUInt32 31)).toInt32)) : Int32).toUInt32 >>> ((16 : Int32).toUInt32 &&& Int32.toUInt32 31)).toInt32)) &&& 63)]) (by decide +kernel) rfl ?_
  have e9 := Option.some.inj hf
  subst e9
  exact PW.iret rfl (by decide +kernel)
def fc_X2_leanOf_L4 (k0 : Nat) (k1 : Int32) (S : cT) : Nat → Int32 → Int32 → Option (Int32 × Int32)
  | 0, _, _ => none
  | N + 1, a2, a3 => if (S.1 (k0 + 6) 3) ≤ a3 then (some (a2, a3)) else ((fc_X6_at (k0 + 6) a3 2 S).bind fun q2 => (fc_X6_at (k0 + 6) a3 0 S).bind fun q3 => if q3 = k1 then (if q2 = k1 then (fc_X2_leanOf_L4 k0 k1 S N a2 (a3 + 1)) else ((fc_X6_at (k0 + 6) a3 3 S).bind fun q6 => (fc_X2_faceOf k0 q2 S).bind fun q7 => (fc_J6_bitCount_0f7a4 (q6 ^^^ q7)).bind fun q8 => fc_X2_leanOf_L4 k0 k1 S N (a2 + ((S.1 k0 8) - (2 * q8))) (a3 + 1))) else (fc_X2_leanOf_L4 k0 k1 S N a2 (a3 + 1)))
def fc_X2_leanOf (b : Nat) (p0 : Int32) (S : cT) : Option (Int32) := (fc_X2_leanOf_L4 b p0 S FU 0 0).bind fun w9 => some w9.1
theorem xc_X2_leanOf_L4 {l : Launch} {r : Option Value} {S' : cT} (k0 : Nat) (k1 : Int32) (S : cT) (hk0 : cK k0 = 2) : ∀ (N : Nat) (a2 : Int32) (a3 : Int32) (W0 : Int32 × Int32) (_ : fc_X2_leanOf_L4 k0 k1 S N a2 a3 = some W0) (_ : CW l yy_X2_leanOf 2 r S' 80 [some (.ref k0), some (.int k1), some (.int W0.1), some (.int W0.2), none] [] S), CW l yy_X2_leanOf 2 r S' 4 [some (.ref k0), some (.int k1), some (.int a2), some (.int a3), none] [] S := by
  intro N
  induction N with
  | zero =>
    intro a2 a3 W0 hf _
    cases hf
  | succ N ih =>
    intro a2 a3 W0 hf hk_1
    unfold fc_X2_leanOf_L4 at hf
    refine CW.run (blk := [(.iload_n 3, 0), (.aload_n 0, 0)]) (pc' := 6) (ls' := [some (.ref k0), some (.int k1), some (.int a2), some (.int a3), none]) (st' := [.ref k0, .int a3]) (by decide +kernel) rfl ?_
    refine CW.getf (v := .ref (k0 + 6)) hk0 (by decide) fl_RX2_32 (by decide +kernel) rfl ?_
    refine CW.getf (v := .int (S.1 (k0 + 6) 3)) (kk_2_5 hk0) (by decide) fl_RX2_119 (by decide +kernel) rfl ?_
    refine CW.icmp_ge (off := 68) (tgt := 80) (by decide +kernel) (by decide) (fun c12_1 => ?_) (fun c12_1 => ?_)
    · rw [if_pos c12_1] at hf
      have e9 := Option.some.inj hf
      subst e9
      exact hk_1
    · rw [if_neg c12_1] at hf
      refine CW.run (blk := [(.aload_n 0, 0)]) (pc' := 16) (ls' := [some (.ref k0), some (.int k1), some (.int a2), some (.int a3), none]) (st' := [.ref k0]) (by decide +kernel) rfl ?_
      refine CW.getf (v := .ref (k0 + 6)) hk0 (by decide) fl_RX2_32 (by decide +kernel) rfl ?_
      refine CW.run (blk := [(.iload_n 3, 0), (.iconst 2, 2)]) (pc' := 21) (ls' := [some (.ref k0), some (.int k1), some (.int a2), some (.int a3), none]) (st' := [.int 2, .int a3, .ref (k0 + 6)]) (by decide +kernel) rfl ?_
      obtain ⟨q2, hq2, hf⟩ := bd_some hf
      refine CW.callV (As := [.int a3, .int 2]) (st := []) lv_RX2_102 (kk_2_5 hk0) (by decide) rfl rfl (by decide +kernel) (xc_X6_at (kk_2_5 hk0) hq2) (by decide) (by decide) rfl (Nat.le_of_ble_eq_true rfl) rfl ?_
      show CW l yy_X2_leanOf 2 _ _ 24 [some (.ref k0), some (.int k1), some (.int a2), some (.int a3), none] [.int q2] S
      refine CW.run (blk := [(.istore 4, 0), (.aload_n 0, 0)]) (pc' := 27) (ls' := [some (.ref k0), some (.int k1), some (.int a2), some (.int a3), some (.int q2)]) (st' := [.ref k0]) (by decide +kernel) rfl ?_
      refine CW.getf (v := .ref (k0 + 6)) hk0 (by decide) fl_RX2_32 (by decide +kernel) rfl ?_
      refine CW.run (blk := [(.iload_n 3, 0), (.iconst 0, 0)]) (pc' := 32) (ls' := [some (.ref k0), some (.int k1), some (.int a2), some (.int a3), some (.int q2)]) (st' := [.int 0, .int a3, .ref (k0 + 6)]) (by decide +kernel) rfl ?_
      obtain ⟨q3, hq3, hf⟩ := bd_some hf
      refine CW.callV (As := [.int a3, .int 0]) (st := []) lv_RX2_102 (kk_2_5 hk0) (by decide) rfl rfl (by decide +kernel) (xc_X6_at (kk_2_5 hk0) hq3) (by decide) (by decide) rfl (Nat.le_of_ble_eq_true rfl) rfl ?_
      show CW l yy_X2_leanOf 2 _ _ 35 [some (.ref k0), some (.int k1), some (.int a2), some (.int a3), some (.int q2)] [.int q3] S
      refine CW.run (blk := [(.iload_n 1, 0)]) (pc' := 36) (ls' := [some (.ref k0), some (.int k1), some (.int a2), some (.int a3), some (.int q2)]) (st' := [.int k1, .int q3]) (by decide +kernel) rfl ?_
      refine CW.icmp_ne (off := 38) (tgt := 74) (by decide +kernel) (by decide) (fun c36_4 => ?_) (fun c36_4 => ?_)
      · rw [if_neg c36_4] at hf
        refine CW.run (blk := [(.iinc 3 1, 1), (.goto (-73), 0)]) (pc' := 4) (ls' := [some (.ref k0), some (.int k1), some (.int a2), some (.int (a3 + 1)), some (.int q2)]) (st' := []) (by decide +kernel) rfl ?_
        refine CW.fgt (ls' := [some (.ref k0), some (.int k1), some (.int a2), some (.int (a3 + 1)), none]) (by repeat' (first | exact trivial | refine ⟨rfl, ?_⟩)) ?_
        exact ih _ _ _ hf hk_1
      · rw [if_pos c36_4] at hf
        refine CW.run (blk := [(.iload 4, 0), (.iload_n 1, 0)]) (pc' := 42) (ls' := [some (.ref k0), some (.int k1), some (.int a2), some (.int a3), some (.int q2)]) (st' := [.int k1, .int q2]) (by decide +kernel) rfl ?_
        refine CW.icmp_eq (off := 32) (tgt := 74) (by decide +kernel) (by decide) (fun c42_5 => ?_) (fun c42_5 => ?_)
        · rw [if_pos c42_5] at hf
          refine CW.run (blk := [(.iinc 3 1, 1), (.goto (-73), 0)]) (pc' := 4) (ls' := [some (.ref k0), some (.int k1), some (.int a2), some (.int (a3 + 1)), some (.int q2)]) (st' := []) (by decide +kernel) rfl ?_
          refine CW.fgt (ls' := [some (.ref k0), some (.int k1), some (.int a2), some (.int (a3 + 1)), none]) (by repeat' (first | exact trivial | refine ⟨rfl, ?_⟩)) ?_
          exact ih _ _ _ hf hk_1
        · rw [if_neg c42_5] at hf
          refine CW.run (blk := [(.iload_n 2, 0), (.aload_n 0, 0)]) (pc' := 47) (ls' := [some (.ref k0), some (.int k1), some (.int a2), some (.int a3), some (.int q2)]) (st' := [.ref k0, .int a2]) (by decide +kernel) rfl ?_
          refine CW.getf (v := .int (S.1 k0 8)) hk0 (by decide) fl_RX2_50 (by decide +kernel) rfl ?_
          refine CW.run (blk := [(.iconst 2, 2), (.aload_n 0, 0)]) (pc' := 52) (ls' := [some (.ref k0), some (.int k1), some (.int a2), some (.int a3), some (.int q2)]) (st' := [.ref k0, .int 2, .int (S.1 k0 8), .int a2]) (by decide +kernel) rfl ?_
          refine CW.getf (v := .ref (k0 + 6)) hk0 (by decide) fl_RX2_32 (by decide +kernel) rfl ?_
          refine CW.run (blk := [(.iload_n 3, 0), (.iconst 3, 3)]) (pc' := 57) (ls' := [some (.ref k0), some (.int k1), some (.int a2), some (.int a3), some (.int q2)]) (st' := [.int 3, .int a3, .ref (k0 + 6), .int 2, .int (S.1 k0 8), .int a2]) (by decide +kernel) rfl ?_
          obtain ⟨q6, hq6, hf⟩ := bd_some hf
          refine CW.callV (As := [.int a3, .int 3]) (st := [.int 2, .int (S.1 k0 8), .int a2]) lv_RX2_102 (kk_2_5 hk0) (by decide) rfl rfl (by decide +kernel) (xc_X6_at (kk_2_5 hk0) hq6) (by decide) (by decide) rfl (Nat.le_of_ble_eq_true rfl) rfl ?_
          show CW l yy_X2_leanOf 2 _ _ 60 [some (.ref k0), some (.int k1), some (.int a2), some (.int a3), some (.int q2)] [.int q6, .int 2, .int (S.1 k0 8), .int a2] S
          refine CW.run (blk := [(.aload_n 0, 0), (.iload 4, 0)]) (pc' := 63) (ls' := [some (.ref k0), some (.int k1), some (.int a2), some (.int a3), some (.int q2)]) (st' := [.int q2, .ref k0, .int q6, .int 2, .int (S.1 k0 8), .int a2]) (by decide +kernel) rfl ?_
          obtain ⟨q7, hq7, hf⟩ := bd_some hf
          refine CW.callV (As := [.int q2]) (st := [.int q6, .int 2, .int (S.1 k0 8), .int a2]) lv_RX2_111 hk0 (by decide) rfl rfl (by decide +kernel) (xc_X2_faceOf hk0 hq7) (by decide) (by decide) rfl (Nat.le_of_ble_eq_true rfl) rfl ?_
          show CW l yy_X2_leanOf 2 _ _ 66 [some (.ref k0), some (.int k1), some (.int a2), some (.int a3), some (.int q2)] [.int q7, .int q6, .int 2, .int (S.1 k0 8), .int a2] S
          refine CW.run (blk := [(.ixor, 0)]) (pc' := 67) (ls' := [some (.ref k0), some (.int k1), some (.int a2), some (.int a3), some (.int q2)]) (st' := [.int (q6 ^^^ q7), .int 2, .int (S.1 k0 8), .int a2]) (by decide +kernel) rfl ?_
          obtain ⟨q8, hq8, hf⟩ := bd_some hf
          refine CW.callP (As := [.int (q6 ^^^ q7)]) (st := [.int 2, .int (S.1 k0 8), .int a2]) lt_RX2_128 (by decide +kernel) (xc_J6_bitCount_0f7a4 hq8) (by decide) (by decide) rfl (Nat.le_of_ble_eq_true rfl) rfl ?_
          show CW l yy_X2_leanOf 2 _ _ 70 [some (.ref k0), some (.int k1), some (.int a2), some (.int a3), some (.int q2)] [.int q8, .int 2, .int (S.1 k0 8), .int a2] S
          refine CW.run (blk := [(.imul, 0), (.isub, 0), (.iadd, 0), (.istore_n 2, 0), (.iinc 3 1, 1), (.goto (-73), 0)]) (pc' := 4) (ls' := [some (.ref k0), some (.int k1), some (.int (a2 + ((S.1 k0 8) - (2 * q8)))), some (.int (a3 + 1)), some (.int q2)]) (st' := []) (by decide +kernel) rfl ?_
          refine CW.fgt (ls' := [some (.ref k0), some (.int k1), some (.int (a2 + ((S.1 k0 8) - (2 * q8)))), some (.int (a3 + 1)), none]) (by repeat' (first | exact trivial | refine ⟨rfl, ?_⟩)) ?_
          exact ih _ _ _ hf hk_1
theorem xc_X2_leanOf {l : Launch} {b : Nat} {p0 : Int32} {S : cT} {q : Int32} (hb : cK b = 2) (hf : fc_X2_leanOf b p0 S = some q) : COk l yy_X2_leanOf 2 [.ref b, .int p0] S (some (.int q)) S := by
  refine COk.of (ls := [some (.ref b), some (.int p0), none, none, none]) (by decide +kernel) (Nat.le_of_ble_eq_true rfl) rfl ?_
  unfold fc_X2_leanOf at hf
  refine CW.run (blk := [(.iconst 0, 0), (.istore_n 2, 0), (.iconst 0, 0), (.istore_n 3, 0)]) (pc' := 4) (ls' := [some (.ref b), some (.int p0), some (.int 0), some (.int 0), none]) (st' := []) (by decide +kernel) rfl ?_
  obtain ⟨w9, hw9, hf⟩ := bd_some hf
  refine xc_X2_leanOf_L4 b p0 S hb FU _ _ _ hw9 ?_
  refine CW.run (blk := [(.iload_n 2, 0)]) (pc' := 81) (ls' := [some (.ref b), some (.int p0), some (.int w9.1), some (.int w9.2), none]) (st' := [.int w9.1]) (by decide +kernel) rfl ?_
  have e9 := Option.some.inj hf
  subst e9
  exact CW.iret rfl (by decide +kernel)
def fc_X2_flatteryOf_L4 (k0 : Nat) (k1 : Int32) (S : cT) : Nat → Int32 → Int32 → Option (Int32 × Int32)
  | 0, _, _ => none
  | N + 1, a2, a3 => if (S.1 (k0 + 6) 3) ≤ a3 then (some (a2, a3)) else ((fc_X6_at (k0 + 6) a3 2 S).bind fun q2 => (fc_X6_at (k0 + 6) a3 0 S).bind fun q3 => if q3 = k1 then ((fc_X6_at (k0 + 6) a3 1 S).bind fun q5 => if q5 = q2 then ((fc_X6_at (k0 + 6) a3 3 S).bind fun q7 => (fc_X2_faceOf k0 q2 S).bind fun q8 => (fc_J6_bitCount_0f7a4 (q7 &&& (q8 ^^^ (-1)))).bind fun q9 => (fc_J6_bitCount_0f7a4 (q8 &&& (q7 ^^^ (-1)))).bind fun q10 => fc_X2_flatteryOf_L4 k0 k1 S N (a2 + (q9 - q10)) (a3 + 1)) else (fc_X2_flatteryOf_L4 k0 k1 S N a2 (a3 + 1))) else (fc_X2_flatteryOf_L4 k0 k1 S N a2 (a3 + 1)))
def fc_X2_flatteryOf (b : Nat) (p0 : Int32) (S : cT) : Option (Int32) := (fc_X2_flatteryOf_L4 b p0 S FU 0 0).bind fun w11 => some w11.1
theorem xc_X2_flatteryOf_L4 {l : Launch} {r : Option Value} {S' : cT} (k0 : Nat) (k1 : Int32) (S : cT) (hk0 : cK k0 = 2) : ∀ (N : Nat) (a2 : Int32) (a3 : Int32) (W0 : Int32 × Int32) (_ : fc_X2_flatteryOf_L4 k0 k1 S N a2 a3 = some W0) (_ : CW l yy_X2_flatteryOf 2 r S' 102 [some (.ref k0), some (.int k1), some (.int W0.1), some (.int W0.2), none, none, none] [] S), CW l yy_X2_flatteryOf 2 r S' 4 [some (.ref k0), some (.int k1), some (.int a2), some (.int a3), none, none, none] [] S := by
  intro N
  induction N with
  | zero =>
    intro a2 a3 W0 hf _
    cases hf
  | succ N ih =>
    intro a2 a3 W0 hf hk_1
    unfold fc_X2_flatteryOf_L4 at hf
    refine CW.run (blk := [(.iload_n 3, 0), (.aload_n 0, 0)]) (pc' := 6) (ls' := [some (.ref k0), some (.int k1), some (.int a2), some (.int a3), none, none, none]) (st' := [.ref k0, .int a3]) (by decide +kernel) rfl ?_
    refine CW.getf (v := .ref (k0 + 6)) hk0 (by decide) fl_RX2_32 (by decide +kernel) rfl ?_
    refine CW.getf (v := .int (S.1 (k0 + 6) 3)) (kk_2_5 hk0) (by decide) fl_RX2_119 (by decide +kernel) rfl ?_
    refine CW.icmp_ge (off := 90) (tgt := 102) (by decide +kernel) (by decide) (fun c12_1 => ?_) (fun c12_1 => ?_)
    · rw [if_pos c12_1] at hf
      have e9 := Option.some.inj hf
      subst e9
      exact hk_1
    · rw [if_neg c12_1] at hf
      refine CW.run (blk := [(.aload_n 0, 0)]) (pc' := 16) (ls' := [some (.ref k0), some (.int k1), some (.int a2), some (.int a3), none, none, none]) (st' := [.ref k0]) (by decide +kernel) rfl ?_
      refine CW.getf (v := .ref (k0 + 6)) hk0 (by decide) fl_RX2_32 (by decide +kernel) rfl ?_
      refine CW.run (blk := [(.iload_n 3, 0), (.iconst 2, 2)]) (pc' := 21) (ls' := [some (.ref k0), some (.int k1), some (.int a2), some (.int a3), none, none, none]) (st' := [.int 2, .int a3, .ref (k0 + 6)]) (by decide +kernel) rfl ?_
      obtain ⟨q2, hq2, hf⟩ := bd_some hf
      refine CW.callV (As := [.int a3, .int 2]) (st := []) lv_RX2_102 (kk_2_5 hk0) (by decide) rfl rfl (by decide +kernel) (xc_X6_at (kk_2_5 hk0) hq2) (by decide) (by decide) rfl (Nat.le_of_ble_eq_true rfl) rfl ?_
      show CW l yy_X2_flatteryOf 2 _ _ 24 [some (.ref k0), some (.int k1), some (.int a2), some (.int a3), none, none, none] [.int q2] S
      refine CW.run (blk := [(.istore 4, 0), (.aload_n 0, 0)]) (pc' := 27) (ls' := [some (.ref k0), some (.int k1), some (.int a2), some (.int a3), some (.int q2), none, none]) (st' := [.ref k0]) (by decide +kernel) rfl ?_
      refine CW.getf (v := .ref (k0 + 6)) hk0 (by decide) fl_RX2_32 (by decide +kernel) rfl ?_
      refine CW.run (blk := [(.iload_n 3, 0), (.iconst 0, 0)]) (pc' := 32) (ls' := [some (.ref k0), some (.int k1), some (.int a2), some (.int a3), some (.int q2), none, none]) (st' := [.int 0, .int a3, .ref (k0 + 6)]) (by decide +kernel) rfl ?_
      obtain ⟨q3, hq3, hf⟩ := bd_some hf
      refine CW.callV (As := [.int a3, .int 0]) (st := []) lv_RX2_102 (kk_2_5 hk0) (by decide) rfl rfl (by decide +kernel) (xc_X6_at (kk_2_5 hk0) hq3) (by decide) (by decide) rfl (Nat.le_of_ble_eq_true rfl) rfl ?_
      show CW l yy_X2_flatteryOf 2 _ _ 35 [some (.ref k0), some (.int k1), some (.int a2), some (.int a3), some (.int q2), none, none] [.int q3] S
      refine CW.run (blk := [(.iload_n 1, 0)]) (pc' := 36) (ls' := [some (.ref k0), some (.int k1), some (.int a2), some (.int a3), some (.int q2), none, none]) (st' := [.int k1, .int q3]) (by decide +kernel) rfl ?_
      refine CW.icmp_ne (off := 60) (tgt := 96) (by decide +kernel) (by decide) (fun c36_4 => ?_) (fun c36_4 => ?_)
      · rw [if_neg c36_4] at hf
        refine CW.run (blk := [(.iinc 3 1, 1), (.goto (-95), 0)]) (pc' := 4) (ls' := [some (.ref k0), some (.int k1), some (.int a2), some (.int (a3 + 1)), some (.int q2), none, none]) (st' := []) (by decide +kernel) rfl ?_
        refine CW.fgt (ls' := [some (.ref k0), some (.int k1), some (.int a2), some (.int (a3 + 1)), none, none, none]) (by repeat' (first | exact trivial | refine ⟨rfl, ?_⟩)) ?_
        exact ih _ _ _ hf hk_1
      · rw [if_pos c36_4] at hf
        refine CW.run (blk := [(.aload_n 0, 0)]) (pc' := 40) (ls' := [some (.ref k0), some (.int k1), some (.int a2), some (.int a3), some (.int q2), none, none]) (st' := [.ref k0]) (by decide +kernel) rfl ?_
        refine CW.getf (v := .ref (k0 + 6)) hk0 (by decide) fl_RX2_32 (by decide +kernel) rfl ?_
        refine CW.run (blk := [(.iload_n 3, 0), (.iconst 1, 1)]) (pc' := 45) (ls' := [some (.ref k0), some (.int k1), some (.int a2), some (.int a3), some (.int q2), none, none]) (st' := [.int 1, .int a3, .ref (k0 + 6)]) (by decide +kernel) rfl ?_
        obtain ⟨q5, hq5, hf⟩ := bd_some hf
        refine CW.callV (As := [.int a3, .int 1]) (st := []) lv_RX2_102 (kk_2_5 hk0) (by decide) rfl rfl (by decide +kernel) (xc_X6_at (kk_2_5 hk0) hq5) (by decide) (by decide) rfl (Nat.le_of_ble_eq_true rfl) rfl ?_
        show CW l yy_X2_flatteryOf 2 _ _ 48 [some (.ref k0), some (.int k1), some (.int a2), some (.int a3), some (.int q2), none, none] [.int q5] S
        refine CW.run (blk := [(.iload 4, 0)]) (pc' := 50) (ls' := [some (.ref k0), some (.int k1), some (.int a2), some (.int a3), some (.int q2), none, none]) (st' := [.int q2, .int q5]) (by decide +kernel) rfl ?_
        refine CW.icmp_ne (off := 46) (tgt := 96) (by decide +kernel) (by decide) (fun c50_6 => ?_) (fun c50_6 => ?_)
        · rw [if_neg c50_6] at hf
          refine CW.run (blk := [(.iinc 3 1, 1), (.goto (-95), 0)]) (pc' := 4) (ls' := [some (.ref k0), some (.int k1), some (.int a2), some (.int (a3 + 1)), some (.int q2), none, none]) (st' := []) (by decide +kernel) rfl ?_
          refine CW.fgt (ls' := [some (.ref k0), some (.int k1), some (.int a2), some (.int (a3 + 1)), none, none, none]) (by repeat' (first | exact trivial | refine ⟨rfl, ?_⟩)) ?_
          exact ih _ _ _ hf hk_1
        · rw [if_pos c50_6] at hf
          refine CW.run (blk := [(.aload_n 0, 0)]) (pc' := 54) (ls' := [some (.ref k0), some (.int k1), some (.int a2), some (.int a3), some (.int q2), none, none]) (st' := [.ref k0]) (by decide +kernel) rfl ?_
          refine CW.getf (v := .ref (k0 + 6)) hk0 (by decide) fl_RX2_32 (by decide +kernel) rfl ?_
          refine CW.run (blk := [(.iload_n 3, 0), (.iconst 3, 3)]) (pc' := 59) (ls' := [some (.ref k0), some (.int k1), some (.int a2), some (.int a3), some (.int q2), none, none]) (st' := [.int 3, .int a3, .ref (k0 + 6)]) (by decide +kernel) rfl ?_
          obtain ⟨q7, hq7, hf⟩ := bd_some hf
          refine CW.callV (As := [.int a3, .int 3]) (st := []) lv_RX2_102 (kk_2_5 hk0) (by decide) rfl rfl (by decide +kernel) (xc_X6_at (kk_2_5 hk0) hq7) (by decide) (by decide) rfl (Nat.le_of_ble_eq_true rfl) rfl ?_
          show CW l yy_X2_flatteryOf 2 _ _ 62 [some (.ref k0), some (.int k1), some (.int a2), some (.int a3), some (.int q2), none, none] [.int q7] S
          refine CW.run (blk := [(.istore 5, 0), (.aload_n 0, 0), (.iload 4, 0)]) (pc' := 67) (ls' := [some (.ref k0), some (.int k1), some (.int a2), some (.int a3), some (.int q2), some (.int q7), none]) (st' := [.int q2, .ref k0]) (by decide +kernel) rfl ?_
          obtain ⟨q8, hq8, hf⟩ := bd_some hf
          refine CW.callV (As := [.int q2]) (st := []) lv_RX2_111 hk0 (by decide) rfl rfl (by decide +kernel) (xc_X2_faceOf hk0 hq8) (by decide) (by decide) rfl (Nat.le_of_ble_eq_true rfl) rfl ?_
          show CW l yy_X2_flatteryOf 2 _ _ 70 [some (.ref k0), some (.int k1), some (.int a2), some (.int a3), some (.int q2), some (.int q7), none] [.int q8] S
          refine CW.run (blk := [(.istore 6, 0), (.iload_n 2, 0), (.iload 5, 0), (.iload 6, 0), (.iconst (-1), (-1)), (.ixor, 0), (.iand, 0)]) (pc' := 80) (ls' := [some (.ref k0), some (.int k1), some (.int a2), some (.int a3), some (.int q2), some (.int q7), some (.int q8)]) (st' := [.int (q7 &&& (q8 ^^^ (-1))), .int a2]) (by decide +kernel) rfl ?_
          obtain ⟨q9, hq9, hf⟩ := bd_some hf
          refine CW.callP (As := [.int (q7 &&& (q8 ^^^ (-1)))]) (st := [.int a2]) lt_RX2_128 (by decide +kernel) (xc_J6_bitCount_0f7a4 hq9) (by decide) (by decide) rfl (Nat.le_of_ble_eq_true rfl) rfl ?_
          show CW l yy_X2_flatteryOf 2 _ _ 83 [some (.ref k0), some (.int k1), some (.int a2), some (.int a3), some (.int q2), some (.int q7), some (.int q8)] [.int q9, .int a2] S
          refine CW.run (blk := [(.iload 6, 0), (.iload 5, 0), (.iconst (-1), (-1)), (.ixor, 0), (.iand, 0)]) (pc' := 90) (ls' := [some (.ref k0), some (.int k1), some (.int a2), some (.int a3), some (.int q2), some (.int q7), some (.int q8)]) (st' := [.int (q8 &&& (q7 ^^^ (-1))), .int q9, .int a2]) (by decide +kernel) rfl ?_
          obtain ⟨q10, hq10, hf⟩ := bd_some hf
          refine CW.callP (As := [.int (q8 &&& (q7 ^^^ (-1)))]) (st := [.int q9, .int a2]) lt_RX2_128 (by decide +kernel) (xc_J6_bitCount_0f7a4 hq10) (by decide) (by decide) rfl (Nat.le_of_ble_eq_true rfl) rfl ?_
          show CW l yy_X2_flatteryOf 2 _ _ 93 [some (.ref k0), some (.int k1), some (.int a2), some (.int a3), some (.int q2), some (.int q7), some (.int q8)] [.int q10, .int q9, .int a2] S
          refine CW.run (blk := [(.isub, 0), (.iadd, 0), (.istore_n 2, 0), (.iinc 3 1, 1), (.goto (-95), 0)]) (pc' := 4) (ls' := [some (.ref k0), some (.int k1), some (.int (a2 + (q9 - q10))), some (.int (a3 + 1)), some (.int q2), some (.int q7), some (.int q8)]) (st' := []) (by decide +kernel) rfl ?_
          refine CW.fgt (ls' := [some (.ref k0), some (.int k1), some (.int (a2 + (q9 - q10))), some (.int (a3 + 1)), none, none, none]) (by repeat' (first | exact trivial | refine ⟨rfl, ?_⟩)) ?_
          exact ih _ _ _ hf hk_1
theorem xc_X2_flatteryOf {l : Launch} {b : Nat} {p0 : Int32} {S : cT} {q : Int32} (hb : cK b = 2) (hf : fc_X2_flatteryOf b p0 S = some q) : COk l yy_X2_flatteryOf 2 [.ref b, .int p0] S (some (.int q)) S := by
  refine COk.of (ls := [some (.ref b), some (.int p0), none, none, none, none, none]) (by decide +kernel) (Nat.le_of_ble_eq_true rfl) rfl ?_
  unfold fc_X2_flatteryOf at hf
  refine CW.run (blk := [(.iconst 0, 0), (.istore_n 2, 0), (.iconst 0, 0), (.istore_n 3, 0)]) (pc' := 4) (ls' := [some (.ref b), some (.int p0), some (.int 0), some (.int 0), none, none, none]) (st' := []) (by decide +kernel) rfl ?_
  obtain ⟨w11, hw11, hf⟩ := bd_some hf
  refine xc_X2_flatteryOf_L4 b p0 S hb FU _ _ _ hw11 ?_
  refine CW.run (blk := [(.iload_n 2, 0)]) (pc' := 103) (ls' := [some (.ref b), some (.int p0), some (.int w11.1), some (.int w11.2), none, none, none]) (st' := [.int w11.1]) (by decide +kernel) rfl ?_
  have e9 := Option.some.inj hf
  subst e9
  exact CW.iret rfl (by decide +kernel)
