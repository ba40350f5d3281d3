/-! ===== the class, method by method (by program) 1 ===== -/
/-! ===== what the walks of the class by program use ===== -/
theorem inb_lt {i : Int32} {n : Nat} (h : inb i n = true) : i.toNatClampNeg < n := Nat.not_le.mp (fun q => inb_in h (Or.inr q))
def isB (v : Int32) : Bool := decide (v = 0) || decide (v = 1)
theorem isB_or {v : Int32} (h : isB v = true) : v = 0 ∨ v = 1 := by
  rcases Bool.or_eq_true_iff.mp h with h | h
  · exact Or.inl (of_decide_eq_true h)
  · exact Or.inr (of_decide_eq_true h)
theorem isB_nar {v : Int32} (h : isB v = true) : narrow .boolean (.int v) = .int v := by rcases isB_or h with e | e <;> subst e <;> rfl
theorem isB_fit {v : Int32} (h : isB v = true) : fits .boolean (.int v) = true := by rcases isB_or h with e | e <;> subst e <;> rfl
theorem b2i_fit (b : Bool) : fits .boolean (.int (b2i b)) = true := by cases b <;> rfl

def fc_X2_lastFace (b : Nat) (S : cT) : Option (Int32) := some (((1 : Int32) <<< ((S.1 b 8) &&& 31)) - 1)
theorem xc_X2_lastFace {l : Launch} {b : Nat} {S : cT} {q : Int32} (hb : cK b = 2) (hf : fc_X2_lastFace b S = some q) : COk l yy_X2_lastFace 0 [.ref b] S (some (.int q)) S := by
  refine COk.of (ls := [some (.ref b)]) (by decide +kernel) (Nat.le_of_ble_eq_true rfl) rfl ?_
  unfold fc_X2_lastFace at hf
  refine CW.run (blk := [(.iconst 1, 1), (.aload_n 0, 0)]) (pc' := 2) (ls' := [some (.ref b)]) (st' := [.ref b, .int 1]) (by decide +kernel) rfl ?_
  refine CW.getf (v := .int (S.1 b 8)) hb (by decide) fl_RX2_50 (by decide +kernel) rfl ?_
  refine CW.run (blk := [(.ishl, 0), (.iconst 1, 1), (.isub, 0)]) (pc' := 8) (ls' := [some (.ref b)]) (st' := [.int (((1 : Int32) <<< ((S.1 b 8) &&& 31)) - 1)]) (by decide +kernel) rfl ?_
  have e9 := Option.some.inj hf
  subst e9
  exact CW.iret rfl (by decide +kernel)
def fc_X6_has (b : Nat) (p0 : Int32) (S : cT) : Option (Bool) := if p0 < 0 then (some false) else (if (S.1 b 3) ≤ p0 then (some false) else (if (S.1 b 2) ≤ p0 then (some false) else (some true)))
theorem xc_X6_has {l : Launch} {b : Nat} {p0 : Int32} {S : cT} {q : Bool} (hb : cK b = 5) (hf : fc_X6_has b p0 S = some q) : COk l yy_X6_has 0 [.ref b, .int p0] S (some (.int (b2i q))) S := by
  refine COk.of (ls := [some (.ref b), some (.int p0)]) (by decide +kernel) (Nat.le_of_ble_eq_true rfl) rfl ?_
  unfold fc_X6_has at hf
  refine CW.run (blk := [(.iload_n 1, 0)]) (pc' := 1) (ls' := [some (.ref b), some (.int p0)]) (st' := [.int p0]) (by decide +kernel) rfl ?_
  refine CW.if_lt (off := 23) (tgt := 24) (by decide +kernel) (by decide) (fun c1_1 => ?_) (fun c1_1 => ?_)
  · rw [if_pos c1_1] at hf
    refine CW.run (blk := [(.iconst 0, 0)]) (pc' := 25) (ls' := [some (.ref b), some (.int p0)]) (st' := [.int 0]) (by decide +kernel) rfl ?_
    have e9 := Option.some.inj hf
    subst e9
    exact CW.zret rfl (b2i_nar _) (by decide +kernel)
  · rw [if_neg c1_1] at hf
    refine CW.run (blk := [(.iload_n 1, 0), (.aload_n 0, 0)]) (pc' := 6) (ls' := [some (.ref b), some (.int p0)]) (st' := [.ref b, .int p0]) (by decide +kernel) rfl ?_
    refine CW.getf (v := .int (S.1 b 3)) hb (by decide) fl_RX6_22 (by decide +kernel) rfl ?_
    refine CW.icmp_ge (off := 15) (tgt := 24) (by decide +kernel) (by decide) (fun c9_2 => ?_) (fun c9_2 => ?_)
    · rw [if_pos c9_2] at hf
      refine CW.run (blk := [(.iconst 0, 0)]) (pc' := 25) (ls' := [some (.ref b), some (.int p0)]) (st' := [.int 0]) (by decide +kernel) rfl ?_
      have e9 := Option.some.inj hf
      subst e9
      exact CW.zret rfl (b2i_nar _) (by decide +kernel)
    · rw [if_neg c9_2] at hf
      refine CW.run (blk := [(.iload_n 1, 0), (.aload_n 0, 0)]) (pc' := 14) (ls' := [some (.ref b), some (.int p0)]) (st' := [.ref b, .int p0]) (by decide +kernel) rfl ?_
      refine CW.getf (v := .int (S.1 b 2)) hb (by decide) fl_RX6_9 (by decide +kernel) rfl ?_
      refine CW.icmp_ge (off := 7) (tgt := 24) (by decide +kernel) (by decide) (fun c17_3 => ?_) (fun c17_3 => ?_)
      · rw [if_pos c17_3] at hf
        refine CW.run (blk := [(.iconst 0, 0)]) (pc' := 25) (ls' := [some (.ref b), some (.int p0)]) (st' := [.int 0]) (by decide +kernel) rfl ?_
        have e9 := Option.some.inj hf
        subst e9
        exact CW.zret rfl (b2i_nar _) (by decide +kernel)
      · rw [if_neg c17_3] at hf
        refine CW.run (blk := [(.iconst 1, 1), (.goto 4, 0)]) (pc' := 25) (ls' := [some (.ref b), some (.int p0)]) (st' := [.int 1]) (by decide +kernel) rfl ?_
        have e9 := Option.some.inj hf
        subst e9
        exact CW.zret rfl (b2i_nar _) (by decide +kernel)
def fc_X6_at (b : Nat) (p0 : Int32) (p1 : Int32) (S : cT) : Option (Int32) := (fc_X6_has b p0 S).bind fun q1 => if (b2i q1) = 0 then (some (-1)) else (if p1 < 0 then (some (-1)) else (if (S.1 b 1) ≤ p1 then (some (-1)) else (bif inb ((p0 * (S.1 b 1)) + p1) (cN (b + 1)) then (letv (S.1 (b + 1) (((p0 * (S.1 b 1)) + p1) : Int32).toNatClampNeg) fun v5 => some v5) else none)))
theorem xc_X6_at {l : Launch} {b : Nat} {p0 : Int32} {p1 : Int32} {S : cT} {q : Int32} (hb : cK b = 5) (hf : fc_X6_at b p0 p1 S = some q) : COk l yy_X6_at 1 [.ref b, .int p0, .int p1] S (some (.int q)) S := by
  refine COk.of (ls := [some (.ref b), some (.int p0), some (.int p1)]) (by decide +kernel) (Nat.le_of_ble_eq_true rfl) rfl ?_
  unfold fc_X6_at at hf
  refine CW.run (blk := [(.aload_n 0, 0), (.iload_n 1, 0)]) (pc' := 2) (ls' := [some (.ref b), some (.int p0), some (.int p1)]) (st' := [.int p0, .ref b]) (by decide +kernel) rfl ?_
  obtain ⟨q1, hq1, hf⟩ := bd_some hf
  refine CW.callV (As := [.int p0]) (st := []) lv_RX6_25 hb (by decide) rfl rfl (by decide +kernel) (xc_X6_has hb hq1) (by decide) (by decide) rfl (Nat.le_of_ble_eq_true rfl) rfl ?_
  show CW l yy_X6_at 1 _ _ 5 [some (.ref b), some (.int p0), some (.int p1)] [.int (b2i q1)] S
  refine CW.if_eq (off := 31) (tgt := 36) (by decide +kernel) (by decide) (fun c5_2 => ?_) (fun c5_2 => ?_)
  · rw [if_pos c5_2] at hf
    refine CW.run (blk := [(.iconst (-1), (-1))]) (pc' := 37) (ls' := [some (.ref b), some (.int p0), some (.int p1)]) (st' := [.int (-1)]) (by decide +kernel) rfl ?_
    have e9 := Option.some.inj hf
    subst e9
    exact CW.iret rfl (by decide +kernel)
  · rw [if_neg c5_2] at hf
    refine CW.run (blk := [(.iload_n 2, 0)]) (pc' := 9) (ls' := [some (.ref b), some (.int p0), some (.int p1)]) (st' := [.int p1]) (by decide +kernel) rfl ?_
    refine CW.if_lt (off := 27) (tgt := 36) (by decide +kernel) (by decide) (fun c9_3 => ?_) (fun c9_3 => ?_)
    · rw [if_pos c9_3] at hf
      refine CW.run (blk := [(.iconst (-1), (-1))]) (pc' := 37) (ls' := [some (.ref b), some (.int p0), some (.int p1)]) (st' := [.int (-1)]) (by decide +kernel) rfl ?_
      have e9 := Option.some.inj hf
      subst e9
      exact CW.iret rfl (by decide +kernel)
    · rw [if_neg c9_3] at hf
      refine CW.run (blk := [(.iload_n 2, 0), (.aload_n 0, 0)]) (pc' := 14) (ls' := [some (.ref b), some (.int p0), some (.int p1)]) (st' := [.ref b, .int p1]) (by decide +kernel) rfl ?_
      refine CW.getf (v := .int (S.1 b 1)) hb (by decide) fl_RX6_15 (by decide +kernel) rfl ?_
      refine CW.icmp_ge (off := 19) (tgt := 36) (by decide +kernel) (by decide) (fun c17_4 => ?_) (fun c17_4 => ?_)
      · rw [if_pos c17_4] at hf
        refine CW.run (blk := [(.iconst (-1), (-1))]) (pc' := 37) (ls' := [some (.ref b), some (.int p0), some (.int p1)]) (st' := [.int (-1)]) (by decide +kernel) rfl ?_
        have e9 := Option.some.inj hf
        subst e9
        exact CW.iret rfl (by decide +kernel)
      · rw [if_neg c17_4] at hf
        refine CW.run (blk := [(.aload_n 0, 0)]) (pc' := 21) (ls' := [some (.ref b), some (.int p0), some (.int p1)]) (st' := [.ref b]) (by decide +kernel) rfl ?_
        refine CW.getf (v := .ref (b + 1)) hb (by decide) fl_RX6_18 (by decide +kernel) rfl ?_
        refine CW.run (blk := [(.iload_n 1, 0), (.aload_n 0, 0)]) (pc' := 26) (ls' := [some (.ref b), some (.int p0), some (.int p1)]) (st' := [.ref b, .int p0, .ref (b + 1)]) (by decide +kernel) rfl ?_
        refine CW.getf (v := .int (S.1 b 1)) hb (by decide) fl_RX6_15 (by decide +kernel) rfl ?_
        refine CW.run (blk := [(.imul, 0), (.iload_n 2, 0), (.iadd, 0)]) (pc' := 32) (ls' := [some (.ref b), some (.int p0), some (.int p1)]) (st' := [.int ((p0 * (S.1 b 1)) + p1), .ref (b + 1)]) (by decide +kernel) rfl ?_
        obtain ⟨hi_v5, hf⟩ := bi_some hf
        obtain ⟨v5, hv5, hf⟩ := letv_some hf
        refine CW.iald (kk_5_0 hb) rfl (by decide +kernel) (inb_in hi_v5) ?_
        rw [← hv5]
        refine CW.run (blk := [(.goto 4, 0)]) (pc' := 37) (ls' := [some (.ref b), some (.int p0), some (.int p1)]) (st' := [.int v5]) (by decide +kernel) rfl ?_
        have e9 := Option.some.inj hf
        subst e9
        exact CW.iret rfl (by decide +kernel)
def fc_X2_canBeOf (b : Nat) (p0 : Int32) (p1 : Int32) (S : cT) : Option (Bool) := (fc_X6_at (b + 10) p0 0 S).bind fun q1 => (fc_X6_at (b + 10) p0 1 S).bind fun q2 => if (p1 &&& q1) = q2 then (some true) else (some false)
theorem xc_X2_canBeOf {l : Launch} {b : Nat} {p0 : Int32} {p1 : Int32} {S : cT} {q : Bool} (hb : cK b = 2) (hf : fc_X2_canBeOf b p0 p1 S = some q) : COk l yy_X2_canBeOf 2 [.ref b, .int p0, .int p1] S (some (.int (b2i q))) S := by
  refine COk.of (ls := [some (.ref b), some (.int p0), some (.int p1)]) (by decide +kernel) (Nat.le_of_ble_eq_true rfl) rfl ?_
  unfold fc_X2_canBeOf at hf
  refine CW.run (blk := [(.iload_n 2, 0), (.aload_n 0, 0)]) (pc' := 2) (ls' := [some (.ref b), some (.int p0), some (.int p1)]) (st' := [.ref b, .int p1]) (by decide +kernel) rfl ?_
  refine CW.getf (v := .ref (b + 10)) hb (by decide) fl_RX2_39 (by decide +kernel) rfl ?_
  refine CW.run (blk := [(.iload_n 1, 0), (.iconst 0, 0)]) (pc' := 7) (ls' := [some (.ref b), some (.int p0), some (.int p1)]) (st' := [.int 0, .int p0, .ref (b + 10), .int p1]) (by decide +kernel) rfl ?_
  obtain ⟨q1, hq1, hf⟩ := bd_some hf
  refine CW.callV (As := [.int p0, .int 0]) (st := [.int p1]) lv_RX2_102 (kk_2_7 hb) (by decide) rfl rfl (by decide +kernel) (xc_X6_at (kk_2_7 hb) hq1) (by decide) (by decide) rfl (Nat.le_of_ble_eq_true rfl) rfl ?_
  show CW l yy_X2_canBeOf 2 _ _ 10 [some (.ref b), some (.int p0), some (.int p1)] [.int q1, .int p1] S
  refine CW.run (blk := [(.iand, 0), (.aload_n 0, 0)]) (pc' := 12) (ls' := [some (.ref b), some (.int p0), some (.int p1)]) (st' := [.ref b, .int (p1 &&& q1)]) (by decide +kernel) rfl ?_
  refine CW.getf (v := .ref (b + 10)) hb (by decide) fl_RX2_39 (by decide +kernel) rfl ?_
  refine CW.run (blk := [(.iload_n 1, 0), (.iconst 1, 1)]) (pc' := 17) (ls' := [some (.ref b), some (.int p0), some (.int p1)]) (st' := [.int 1, .int p0, .ref (b + 10), .int (p1 &&& q1)]) (by decide +kernel) rfl ?_
  obtain ⟨q2, hq2, hf⟩ := bd_some hf
  refine CW.callV (As := [.int p0, .int 1]) (st := [.int (p1 &&& q1)]) lv_RX2_102 (kk_2_7 hb) (by decide) rfl rfl (by decide +kernel) (xc_X6_at (kk_2_7 hb) hq2) (by decide) (by decide) rfl (Nat.le_of_ble_eq_true rfl) rfl ?_
  show CW l yy_X2_canBeOf 2 _ _ 20 [some (.ref b), some (.int p0), some (.int p1)] [.int q2, .int (p1 &&& q1)] S
  refine CW.icmp_ne (off := 7) (tgt := 27) (by decide +kernel) (by decide) (fun c20_3 => ?_) (fun c20_3 => ?_)
  · rw [if_neg c20_3] at hf
    refine CW.run (blk := [(.iconst 0, 0)]) (pc' := 28) (ls' := [some (.ref b), some (.int p0), some (.int p1)]) (st' := [.int 0]) (by decide +kernel) rfl ?_
    have e9 := Option.some.inj hf
    subst e9
    exact CW.zret rfl (b2i_nar _) (by decide +kernel)
  · rw [if_pos c20_3] at hf
    refine CW.run (blk := [(.iconst 1, 1), (.goto 4, 0)]) (pc' := 28) (ls' := [some (.ref b), some (.int p0), some (.int p1)]) (st' := [.int 1]) (by decide +kernel) rfl ?_
    have e9 := Option.some.inj hf
    subst e9
    exact CW.zret rfl (b2i_nar _) (by decide +kernel)
def fc_X2_viewsOf_L4 (k0 : Nat) (k1 : Int32) (S : cT) : Nat → Int32 → Int32 → Option (Int32 × Int32)
  | 0, _, _ => none
  | N + 1, a2, a3 => if (S.1 (k0 + 10) 3) ≤ a3 then (some (a2, a3)) else ((fc_X2_canBeOf k0 a3 k1 S).bind fun q2 => if (b2i q2) = 0 then (fc_X2_viewsOf_L4 k0 k1 S N a2 (a3 + 1)) else (fc_X2_viewsOf_L4 k0 k1 S N (a2 ||| ((1 : Int32) <<< (a3 &&& 31))) (a3 + 1)))
def fc_X2_viewsOf (b : Nat) (p0 : Int32) (S : cT) : Option (Int32) := (fc_X2_viewsOf_L4 b p0 S FU 0 0).bind fun w4 => some w4.1
theorem xc_X2_viewsOf_L4 {l : Launch} {r : Option Value} {S' : cT} (k0 : Nat) (k1 : Int32) (S : cT) (hk0 : cK k0 = 2) : ∀ (N : Nat) (a2 : Int32) (a3 : Int32) (W0 : Int32 × Int32) (_ : fc_X2_viewsOf_L4 k0 k1 S N a2 a3 = some W0) (_ : CW l yy_X2_viewsOf 3 r S' 36 [some (.ref k0), some (.int k1), some (.int W0.1), some (.int W0.2)] [] S), CW l yy_X2_viewsOf 3 r S' 4 [some (.ref k0), some (.int k1), some (.int a2), some (.int a3)] [] S := by
  intro N
  induction N with
  | zero =>
    intro a2 a3 W0 hf _
    cases hf
  | succ N ih =>
    intro a2 a3 W0 hf hk_1
    unfold fc_X2_viewsOf_L4 at hf
    refine CW.run (blk := [(.iload_n 3, 0), (.aload_n 0, 0)]) (pc' := 6) (ls' := [some (.ref k0), some (.int k1), some (.int a2), some (.int a3)]) (st' := [.ref k0, .int a3]) (by decide +kernel) rfl ?_
    refine CW.getf (v := .ref (k0 + 10)) hk0 (by decide) fl_RX2_39 (by decide +kernel) rfl ?_
    refine CW.getf (v := .int (S.1 (k0 + 10) 3)) (kk_2_7 hk0) (by decide) fl_RX2_119 (by decide +kernel) rfl ?_
    refine CW.icmp_ge (off := 24) (tgt := 36) (by decide +kernel) (by decide) (fun c12_1 => ?_) (fun c12_1 => ?_)
    · rw [if_pos c12_1] at hf
      have e9 := Option.some.inj hf
      subst e9
      exact hk_1
    · rw [if_neg c12_1] at hf
      refine CW.run (blk := [(.aload_n 0, 0), (.iload_n 3, 0), (.iload_n 1, 0)]) (pc' := 18) (ls' := [some (.ref k0), some (.int k1), some (.int a2), some (.int a3)]) (st' := [.int k1, .int a3, .ref k0]) (by decide +kernel) rfl ?_
      obtain ⟨q2, hq2, hf⟩ := bd_some hf
      refine CW.callV (As := [.int a3, .int k1]) (st := []) lv_RX2_136 hk0 (by decide) rfl rfl (by decide +kernel) (xc_X2_canBeOf hk0 hq2) (by decide) (by decide) rfl (Nat.le_of_ble_eq_true rfl) rfl ?_
      show CW l yy_X2_viewsOf 3 _ _ 21 [some (.ref k0), some (.int k1), some (.int a2), some (.int a3)] [.int (b2i q2)] S
      refine CW.if_eq (off := 9) (tgt := 30) (by decide +kernel) (by decide) (fun c21_3 => ?_) (fun c21_3 => ?_)
      · rw [if_pos c21_3] at hf
        refine CW.run (blk := [(.iinc 3 1, 1), (.goto (-29), 0)]) (pc' := 4) (ls' := [some (.ref k0), some (.int k1), some (.int a2), some (.int (a3 + 1))]) (st' := []) (by decide +kernel) rfl ?_
        exact ih _ _ _ hf hk_1
      · rw [if_neg c21_3] at hf
        refine CW.run (blk := [(.iload_n 2, 0), (.iconst 1, 1), (.iload_n 3, 0), (.ishl, 0), (.ior, 0), (.istore_n 2, 0), (.iinc 3 1, 1), (.goto (-29), 0)]) (pc' := 4) (ls' := [some (.ref k0), some (.int k1), some (.int (a2 ||| ((1 : Int32) <<< (a3 &&& 31)))), some (.int (a3 + 1))]) (st' := []) (by decide +kernel) rfl ?_
        exact ih _ _ _ hf hk_1
theorem xc_X2_viewsOf {l : Launch} {b : Nat} {p0 : Int32} {S : cT} {q : Int32} (hb : cK b = 2) (hf : fc_X2_viewsOf b p0 S = some q) : COk l yy_X2_viewsOf 3 [.ref b, .int p0] S (some (.int q)) S := by
  refine COk.of (ls := [some (.ref b), some (.int p0), none, none]) (by decide +kernel) (Nat.le_of_ble_eq_true rfl) rfl ?_
  unfold fc_X2_viewsOf at hf
  refine CW.run (blk := [(.iconst 0, 0), (.istore_n 2, 0), (.iconst 0, 0), (.istore_n 3, 0)]) (pc' := 4) (ls' := [some (.ref b), some (.int p0), some (.int 0), some (.int 0)]) (st' := []) (by decide +kernel) rfl ?_
  obtain ⟨w4, hw4, hf⟩ := bd_some hf
  refine xc_X2_viewsOf_L4 b p0 S hb FU _ _ _ hw4 ?_
  refine CW.run (blk := [(.iload_n 2, 0)]) (pc' := 37) (ls' := [some (.ref b), some (.int p0), some (.int w4.1), some (.int w4.2)]) (st' := [.int w4.1]) (by decide +kernel) rfl ?_
  have e9 := Option.some.inj hf
  subst e9
  exact CW.iret rfl (by decide +kernel)
def fc_X0_fewestOf_L12 (k0 : Nat) (k1 : Int32) (k2 : Int32) (k3 : Int32) (S : cT) : Nat → Int32 → Int32 → Option (Int32 × Int32)
  | 0, _, _ => none
  | N + 1, a4, a5 => if k2 ≤ a5 then (some (a4, a5)) else (if 64 ≤ a5 then (some (a4, a5)) else (bif inb a5 64 then (letv (S.1 (k0 + 1) (a5 : Int32).toNatClampNeg) fun v3 => if (v3 &&& k3) = 0 then (fc_X0_fewestOf_L12 k0 k1 k2 k3 S N a4 (a5 + 1)) else (bif inb a5 64 then (letv (S.1 (k0 + 1) (a5 : Int32).toNatClampNeg) fun v5 => bif inb ((k1 &&& (v5 ^^^ (-1))) &&& 255) 256 then (letv (S.1 (k0 + 2) (((k1 &&& (v5 ^^^ (-1))) &&& 255) : Int32).toNatClampNeg) fun v6 => fc_X0_fewestOf_L12 k0 k1 k2 k3 S N (mnI a4 (v6 + 1)) (a5 + 1)) else none) else none)) else none))
def fc_X0_fewestOf (b : Nat) (p0 : Int32) (p1 : Int32) (S : cT) : Option (Int32) := (fc_X0_fewestOf_L12 b p0 p1 (p0 &&& (-p0)) S FU 8 0).bind fun w7 => some w7.1
theorem xc_X0_fewestOf_L12 {l : Launch} {r : Option Value} {S' : cT} (k0 : Nat) (k1 : Int32) (k2 : Int32) (k3 : Int32) (S : cT) (hk0 : cK k0 = 0) : ∀ (N : Nat) (a4 : Int32) (a5 : Int32) (W0 : Int32 × Int32) (_ : fc_X0_fewestOf_L12 k0 k1 k2 k3 S N a4 a5 = some W0) (_ : CW l yy_X0_fewestOf 1 r S' 72 [some (.ref k0), some (.int k1), some (.int k2), some (.int k3), some (.int W0.1), some (.int W0.2)] [] S), CW l yy_X0_fewestOf 1 r S' 12 [some (.ref k0), some (.int k1), some (.int k2), some (.int k3), some (.int a4), some (.int a5)] [] S := by
  intro N
  induction N with
  | zero =>
    intro a4 a5 W0 hf _
    cases hf
  | succ N ih =>
    intro a4 a5 W0 hf hk_1
    unfold fc_X0_fewestOf_L12 at hf
    refine CW.run (blk := [(.iload 5, 0), (.iload_n 2, 0)]) (pc' := 15) (ls' := [some (.ref k0), some (.int k1), some (.int k2), some (.int k3), some (.int a4), some (.int a5)]) (st' := [.int k2, .int a5]) (by decide +kernel) rfl ?_
    refine CW.icmp_ge (off := 57) (tgt := 72) (by decide +kernel) (by decide) (fun c15_1 => ?_) (fun c15_1 => ?_)
    · rw [if_pos c15_1] at hf
      have e9 := Option.some.inj hf
      subst e9
      exact hk_1
    · rw [if_neg c15_1] at hf
      refine CW.run (blk := [(.iload 5, 0), (.bipush 64, 64)]) (pc' := 22) (ls' := [some (.ref k0), some (.int k1), some (.int k2), some (.int k3), some (.int a4), some (.int a5)]) (st' := [.int 64, .int a5]) (by decide +kernel) rfl ?_
      refine CW.icmp_ge (off := 50) (tgt := 72) (by decide +kernel) (by decide) (fun c22_2 => ?_) (fun c22_2 => ?_)
      · rw [if_pos c22_2] at hf
        have e9 := Option.some.inj hf
        subst e9
        exact hk_1
      · rw [if_neg c22_2] at hf
        refine CW.run (blk := [(.aload_n 0, 0)]) (pc' := 26) (ls' := [some (.ref k0), some (.int k1), some (.int k2), some (.int k3), some (.int a4), some (.int a5)]) (st' := [.ref k0]) (by decide +kernel) rfl ?_
        refine CW.getf (v := .ref (k0 + 1)) hk0 (by decide) fl_RX0_9 (by decide +kernel) rfl ?_
        refine CW.run (blk := [(.iload 5, 0)]) (pc' := 31) (ls' := [some (.ref k0), some (.int k1), some (.int k2), some (.int k3), some (.int a4), some (.int a5)]) (st' := [.int a5, .ref (k0 + 1)]) (by decide +kernel) rfl ?_
        obtain ⟨hi_v3, hf⟩ := bi_some hf
        obtain ⟨v3, hv3, hf⟩ := letv_some hf
        refine CW.iald (kk_0_0 hk0) (kn_0_0 hk0) (by decide +kernel) (inb_in hi_v3) ?_
        rw [← hv3]
        refine CW.run (blk := [(.iload_n 3, 0), (.iand, 0)]) (pc' := 34) (ls' := [some (.ref k0), some (.int k1), some (.int k2), some (.int k3), some (.int a4), some (.int a5)]) (st' := [.int (v3 &&& k3)]) (by decide +kernel) rfl ?_
        refine CW.if_eq (off := 32) (tgt := 66) (by decide +kernel) (by decide) (fun c34_4 => ?_) (fun c34_4 => ?_)
        · rw [if_pos c34_4] at hf
          refine CW.run (blk := [(.iinc 5 1, 1), (.goto (-57), 0)]) (pc' := 12) (ls' := [some (.ref k0), some (.int k1), some (.int k2), some (.int k3), some (.int a4), some (.int (a5 + 1))]) (st' := []) (by decide +kernel) rfl ?_
          exact ih _ _ _ hf hk_1
        · rw [if_neg c34_4] at hf
          refine CW.run (blk := [(.iload 4, 0), (.aload_n 0, 0)]) (pc' := 40) (ls' := [some (.ref k0), some (.int k1), some (.int k2), some (.int k3), some (.int a4), some (.int a5)]) (st' := [.ref k0, .int a4]) (by decide +kernel) rfl ?_
          refine CW.getf (v := .ref (k0 + 2)) hk0 (by decide) fl_RX0_13 (by decide +kernel) rfl ?_
          refine CW.run (blk := [(.iload_n 1, 0), (.aload_n 0, 0)]) (pc' := 45) (ls' := [some (.ref k0), some (.int k1), some (.int k2), some (.int k3), some (.int a4), some (.int a5)]) (st' := [.ref k0, .int k1, .ref (k0 + 2), .int a4]) (by decide +kernel) rfl ?_
          refine CW.getf (v := .ref (k0 + 1)) hk0 (by decide) fl_RX0_9 (by decide +kernel) rfl ?_
          refine CW.run (blk := [(.iload 5, 0)]) (pc' := 50) (ls' := [some (.ref k0), some (.int k1), some (.int k2), some (.int k3), some (.int a4), some (.int a5)]) (st' := [.int a5, .ref (k0 + 1), .int k1, .ref (k0 + 2), .int a4]) (by decide +kernel) rfl ?_
          obtain ⟨hi_v5, hf⟩ := bi_some hf
          obtain ⟨v5, hv5, hf⟩ := letv_some hf
          refine CW.iald (kk_0_0 hk0) (kn_0_0 hk0) (by decide +kernel) (inb_in hi_v5) ?_
          rw [← hv5]
          refine CW.run (blk := [(.iconst (-1), (-1)), (.ixor, 0), (.iand, 0), (.sipush 255, 255), (.iand, 0)]) (pc' := 58) (ls' := [some (.ref k0), some (.int k1), some (.int k2), some (.int k3), some (.int a4), some (.int a5)]) (st' := [.int ((k1 &&& (v5 ^^^ (-1))) &&& 255), .ref (k0 + 2), .int a4]) (by decide +kernel) rfl ?_
          obtain ⟨hi_v6, hf⟩ := bi_some hf
          obtain ⟨v6, hv6, hf⟩ := letv_some hf
          refine CW.iald (kk_0_1 hk0) (kn_0_1 hk0) (by decide +kernel) (inb_in hi_v6) ?_
          rw [← hv6]
          refine CW.run (blk := [(.iconst 1, 1), (.iadd, 0)]) (pc' := 61) (ls' := [some (.ref k0), some (.int k1), some (.int k2), some (.int k3), some (.int a4), some (.int a5)]) (st' := [.int (v6 + 1), .int a4]) (by decide +kernel) rfl ?_
          refine CW.mmin (idx := 22) (tb_in 971 (by decide +kernel) (by decide +kernel)) (by decide +kernel) (by decide) (Nat.le_of_ble_eq_true rfl) ?_
          refine CW.run (blk := [(.istore 4, 0), (.iinc 5 1, 1), (.goto (-57), 0)]) (pc' := 12) (ls' := [some (.ref k0), some (.int k1), some (.int k2), some (.int k3), some (.int (mnI a4 (v6 + 1))), some (.int (a5 + 1))]) (st' := []) (by decide +kernel) rfl ?_
          exact ih _ _ _ hf hk_1
theorem xc_X0_fewestOf {l : Launch} {b : Nat} {p0 : Int32} {p1 : Int32} {S : cT} {q : Int32} (hb : cK b = 0) (hf : fc_X0_fewestOf b p0 p1 S = some q) : COk l yy_X0_fewestOf 1 [.ref b, .int p0, .int p1] S (some (.int q)) S := by
  refine COk.of (ls := [some (.ref b), some (.int p0), some (.int p1), none, none, none]) (by decide +kernel) (Nat.le_of_ble_eq_true rfl) rfl ?_
  unfold fc_X0_fewestOf at hf
  refine CW.run (blk := [(.iload_n 1, 0), (.iload_n 1, 0), (.ineg, 0), (.iand, 0), (.istore_n 3, 0), (.bipush 8, 8), (.istore 4, 0), (.iconst 0, 0), (.istore 5, 0)]) (pc' := 12) (ls' := [some (.ref b), some (.int p0), some (.int p1), some (.int (p0 &&& (-p0))), some (.int 8), some (.int 0)]) (st' := []) (by decide +kernel) rfl ?_
  obtain ⟨w7, hw7, hf⟩ := bd_some hf
  refine xc_X0_fewestOf_L12 b p0 p1 (p0 &&& (-p0)) S hb FU _ _ _ hw7 ?_
  refine CW.run (blk := [(.iload 4, 0)]) (pc' := 74) (ls' := [some (.ref b), some (.int p0), some (.int p1), some (.int (p0 &&& (-p0))), some (.int w7.1), some (.int w7.2)]) (st' := [.int w7.1]) (by decide +kernel) rfl ?_
  have e9 := Option.some.inj hf
  subst e9
  exact CW.iret rfl (by decide +kernel)
def fc_X0_fewestFor_L14 (k0 : Nat) (k1 : Nat) (k2 : Int32) : Nat → Int32 → cT → Option (Int32 × cT)
  | 0, _, _ => none
  | N + 1, a3, S => if k2 ≤ a3 then (some (a3, S)) else ((fc_X2_viewsOf k1 a3 S).bind fun q3 => bif inb a3 64 then (letv (ca S (k0 + 1) (a3 : Int32).toNatClampNeg q3) fun S5 => fc_X0_fewestFor_L14 k0 k1 k2 N (a3 + 1) S5) else none)
def fc_X0_fewestFor_L58 (k0 : Nat) (k2 : Int32) (k3 : Int32) : Nat → Int32 → cT → Option (Int32 × cT)
  | 0, _, _ => none
  | N + 1, a4, S => if k3 < a4 then (some (a4, S)) else (if 256 ≤ a4 then (some (a4, S)) else ((fc_X0_fewestOf k0 a4 k2 S).bind fun q11 => bif inb a4 256 then (letv (ca S (k0 + 2) (a4 : Int32).toNatClampNeg q11) fun S13 => fc_X0_fewestFor_L58 k0 k2 k3 N (a4 + 1) S13) else none))
def fc_X0_fewestFor (b : Nat) (p0 : Nat) (S : cT) : Option (Int32 × cT) := (fc_X2_lastFace p0 S).bind fun q1 => (fc_X0_fewestFor_L14 b p0 (mnI (q1 + 1) 64) FU 0 S).bind fun w6 => bif inb 0 256 then (letv (ca w6.2 (b + 2) (0 : Int32).toNatClampNeg 0) fun S8 => (fc_X0_fewestFor_L58 b (mnI (q1 + 1) 64) (((1 : Int32) <<< ((w6.2.1 (p0 + 10) 3) &&& 31)) - 1) FU 1 S8).bind fun w14 => bif inb ((((1 : Int32) <<< ((w6.2.1 (p0 + 10) 3) &&& 31)) - 1) &&& 255) 256 then (letv (w14.2.1 (b + 2) (((((1 : Int32) <<< ((w6.2.1 (p0 + 10) 3) &&& 31)) - 1) &&& 255) : Int32).toNatClampNeg) fun v15 => some (v15, w14.2)) else none) else none
theorem xc_X0_fewestFor_L14 {l : Launch} {r : Option Value} {S' : cT} (k0 : Nat) (k1 : Nat) (k2 : Int32) (hk0 : cK k0 = 0) (hk1 : cK k1 = 2) : ∀ (N : Nat) (a3 : Int32) (S : cT) (W0 : Int32 × cT) (_ : fc_X0_fewestFor_L14 k0 k1 k2 N a3 S = some W0) (_ : CW l yy_X0_fewestFor 4 r S' 36 [some (.ref k0), some (.ref k1), some (.int k2), some (.int W0.1), none] [] W0.2), CW l yy_X0_fewestFor 4 r S' 14 [some (.ref k0), some (.ref k1), some (.int k2), some (.int a3), none] [] S := by
  intro N
  induction N with
  | zero =>
    intro a3 S W0 hf _
    cases hf
  | succ N ih =>
    intro a3 S W0 hf hk_1
    unfold fc_X0_fewestFor_L14 at hf
    refine CW.run (blk := [(.iload_n 3, 0), (.iload_n 2, 0)]) (pc' := 16) (ls' := [some (.ref k0), some (.ref k1), some (.int k2), some (.int a3), none]) (st' := [.int k2, .int a3]) (by decide +kernel) rfl ?_
    refine CW.icmp_ge (off := 20) (tgt := 36) (by decide +kernel) (by decide) (fun c16_2 => ?_) (fun c16_2 => ?_)
    · rw [if_pos c16_2] at hf
      have e9 := Option.some.inj hf
      subst e9
      exact hk_1
    · rw [if_neg c16_2] at hf
      refine CW.run (blk := [(.aload_n 0, 0)]) (pc' := 20) (ls' := [some (.ref k0), some (.ref k1), some (.int k2), some (.int a3), none]) (st' := [.ref k0]) (by decide +kernel) rfl ?_
      refine CW.getf (v := .ref (k0 + 1)) hk0 (by decide) fl_RX0_9 (by decide +kernel) rfl ?_
      refine CW.run (blk := [(.iload_n 3, 0), (.aload_n 1, 0), (.iload_n 3, 0)]) (pc' := 26) (ls' := [some (.ref k0), some (.ref k1), some (.int k2), some (.int a3), none]) (st' := [.int a3, .ref k1, .int a3, .ref (k0 + 1)]) (by decide +kernel) rfl ?_
      obtain ⟨q3, hq3, hf⟩ := bd_some hf
      refine CW.callV (As := [.int a3]) (st := [.int a3, .ref (k0 + 1)]) lv_RX0_28 hk1 (by decide) rfl rfl (by decide +kernel) (xc_X2_viewsOf hk1 hq3) (by decide) (by decide) rfl (Nat.le_of_ble_eq_true rfl) rfl ?_
      show CW l yy_X0_fewestFor 4 _ _ 29 [some (.ref k0), some (.ref k1), some (.int k2), some (.int a3), none] [.int q3, .int a3, .ref (k0 + 1)] S
      obtain ⟨hi4, hf⟩ := bi_some hf
      refine CW.iast (kk_0_0 hk0) (kn_0_0 hk0) (by decide +kernel) (inb_in hi4) ?_
      obtain ⟨S5, hS5, hf⟩ := letv_some hf
      rw [← hS5]
      refine CW.run (blk := [(.iinc 3 1, 1), (.goto (-19), 0)]) (pc' := 14) (ls' := [some (.ref k0), some (.ref k1), some (.int k2), some (.int (a3 + 1)), none]) (st' := []) (by decide +kernel) rfl ?_
      exact ih _ _ _ hf hk_1
theorem xc_X0_fewestFor_L58 {l : Launch} {r : Option Value} {S' : cT} (k0 : Nat) (k1 : Nat) (k2 : Int32) (k3 : Int32) (hk0 : cK k0 = 0) (hk1 : cK k1 = 2) : ∀ (N : Nat) (a4 : Int32) (S : cT) (W0 : Int32 × cT) (_ : fc_X0_fewestFor_L58 k0 k2 k3 N a4 S = some W0) (_ : CW l yy_X0_fewestFor 4 r S' 92 [some (.ref k0), some (.ref k1), some (.int k2), some (.int k3), some (.int W0.1)] [] W0.2), CW l yy_X0_fewestFor 4 r S' 58 [some (.ref k0), some (.ref k1), some (.int k2), some (.int k3), some (.int a4)] [] S := by
  intro N
  induction N with
  | zero =>
    intro a4 S W0 hf _
    cases hf
  | succ N ih =>
    intro a4 S W0 hf hk_1
    unfold fc_X0_fewestFor_L58 at hf
    refine CW.run (blk := [(.iload 4, 0), (.iload_n 3, 0)]) (pc' := 61) (ls' := [some (.ref k0), some (.ref k1), some (.int k2), some (.int k3), some (.int a4)]) (st' := [.int k3, .int a4]) (by decide +kernel) rfl ?_
    refine CW.icmp_gt (off := 31) (tgt := 92) (by decide +kernel) (by decide) (fun c61_9 => ?_) (fun c61_9 => ?_)
    · rw [if_pos c61_9] at hf
      have e9 := Option.some.inj hf
      subst e9
      exact hk_1
    · rw [if_neg c61_9] at hf
      refine CW.run (blk := [(.iload 4, 0), (.sipush 256, 256)]) (pc' := 69) (ls' := [some (.ref k0), some (.ref k1), some (.int k2), some (.int k3), some (.int a4)]) (st' := [.int 256, .int a4]) (by decide +kernel) rfl ?_
      refine CW.icmp_ge (off := 23) (tgt := 92) (by decide +kernel) (by decide) (fun c69_10 => ?_) (fun c69_10 => ?_)
      · rw [if_pos c69_10] at hf
        have e9 := Option.some.inj hf
        subst e9
        exact hk_1
      · rw [if_neg c69_10] at hf
        refine CW.run (blk := [(.aload_n 0, 0)]) (pc' := 73) (ls' := [some (.ref k0), some (.ref k1), some (.int k2), some (.int k3), some (.int a4)]) (st' := [.ref k0]) (by decide +kernel) rfl ?_
        refine CW.getf (v := .ref (k0 + 2)) hk0 (by decide) fl_RX0_13 (by decide +kernel) rfl ?_
        refine CW.run (blk := [(.iload 4, 0), (.aload_n 0, 0), (.iload 4, 0), (.iload_n 2, 0)]) (pc' := 82) (ls' := [some (.ref k0), some (.ref k1), some (.int k2), some (.int k3), some (.int a4)]) (st' := [.int k2, .int a4, .ref k0, .int a4, .ref (k0 + 2)]) (by decide +kernel) rfl ?_
        obtain ⟨q11, hq11, hf⟩ := bd_some hf
        refine CW.callV (As := [.int a4, .int k2]) (st := [.int a4, .ref (k0 + 2)]) lv_RX0_42 hk0 (by decide) rfl rfl (by decide +kernel) (xc_X0_fewestOf hk0 hq11) (by decide) (by decide) rfl (Nat.le_of_ble_eq_true rfl) rfl ?_
        show CW l yy_X0_fewestFor 4 _ _ 85 [some (.ref k0), some (.ref k1), some (.int k2), some (.int k3), some (.int a4)] [.int q11, .int a4, .ref (k0 + 2)] S
        obtain ⟨hi12, hf⟩ := bi_some hf
        refine CW.iast (kk_0_1 hk0) (kn_0_1 hk0) (by decide +kernel) (inb_in hi12) ?_
        obtain ⟨S13, hS13, hf⟩ := letv_some hf
        rw [← hS13]
        refine CW.run (blk := [(.iinc 4 1, 1), (.goto (-31), 0)]) (pc' := 58) (ls' := [some (.ref k0), some (.ref k1), some (.int k2), some (.int k3), some (.int (a4 + 1))]) (st' := []) (by decide +kernel) rfl ?_
        exact ih _ _ _ hf hk_1
theorem xc_X0_fewestFor {l : Launch} {b : Nat} {p0 : Nat} {S : cT} {q : Int32 × cT} (hb : cK b = 0) (h0 : cK p0 = 2) (hf : fc_X0_fewestFor b p0 S = some q) : COk l yy_X0_fewestFor 4 [.ref b, .ref p0] S (some (.int q.1)) q.2 := by
  refine COk.of (ls := [some (.ref b), some (.ref p0), none, none, none]) (by decide +kernel) (Nat.le_of_ble_eq_true rfl) rfl ?_
  unfold fc_X0_fewestFor at hf
  refine CW.run (blk := [(.aload_n 1, 0)]) (pc' := 1) (ls' := [some (.ref b), some (.ref p0), none, none, none]) (st' := [.ref p0]) (by decide +kernel) rfl ?_
  obtain ⟨q1, hq1, hf⟩ := bd_some hf
  refine CW.callV (As := []) (st := []) lv_RX0_16 h0 (by decide) rfl rfl (by decide +kernel) (xc_X2_lastFace h0 hq1) (by decide) (by decide) rfl (Nat.le_of_ble_eq_true rfl) rfl ?_
  show CW l yy_X0_fewestFor 4 _ _ 4 [some (.ref b), some (.ref p0), none, none, none] [.int q1] S
  refine CW.run (blk := [(.iconst 1, 1), (.iadd, 0), (.bipush 64, 64)]) (pc' := 8) (ls' := [some (.ref b), some (.ref p0), none, none, none]) (st' := [.int 64, .int (q1 + 1)]) (by decide +kernel) rfl ?_
  refine CW.mmin (idx := 22) (tb_in 971 (by decide +kernel) (by decide +kernel)) (by decide +kernel) (by decide) (Nat.le_of_ble_eq_true rfl) ?_
  refine CW.run (blk := [(.istore_n 2, 0), (.iconst 0, 0), (.istore_n 3, 0)]) (pc' := 14) (ls' := [some (.ref b), some (.ref p0), some (.int (mnI (q1 + 1) 64)), some (.int 0), none]) (st' := []) (by decide +kernel) rfl ?_
  obtain ⟨w6, hw6, hf⟩ := bd_some hf
  refine xc_X0_fewestFor_L14 b p0 (mnI (q1 + 1) 64) hb h0 FU _ _ _ hw6 ?_
  refine CW.run (blk := [(.iconst 1, 1), (.aload_n 1, 0)]) (pc' := 38) (ls' := [some (.ref b), some (.ref p0), some (.int (mnI (q1 + 1) 64)), some (.int w6.1), none]) (st' := [.ref p0, .int 1]) (by decide +kernel) rfl ?_
  refine CW.getf (v := .ref (p0 + 10)) h0 (by decide) fl_RX0_32 (by decide +kernel) rfl ?_
  refine CW.getf (v := .int (w6.2.1 (p0 + 10) 3)) (kk_2_7 h0) (by decide) fl_RX0_36 (by decide +kernel) rfl ?_
  refine CW.run (blk := [(.ishl, 0), (.iconst 1, 1), (.isub, 0), (.istore_n 3, 0), (.aload_n 0, 0)]) (pc' := 49) (ls' := [some (.ref b), some (.ref p0), some (.int (mnI (q1 + 1) 64)), some (.int (((1 : Int32) <<< ((w6.2.1 (p0 + 10) 3) &&& 31)) - 1)), none]) (st' := [.ref b]) (by decide +kernel) rfl ?_
  refine CW.getf (v := .ref (b + 2)) hb (by decide) fl_RX0_13 (by decide +kernel) rfl ?_
  refine CW.run (blk := [(.iconst 0, 0), (.iconst 0, 0)]) (pc' := 54) (ls' := [some (.ref b), some (.ref p0), some (.int (mnI (q1 + 1) 64)), some (.int (((1 : Int32) <<< ((w6.2.1 (p0 + 10) 3) &&& 31)) - 1)), none]) (st' := [.int 0, .int 0, .ref (b + 2)]) (by decide +kernel) rfl ?_
  obtain ⟨hi7, hf⟩ := bi_some hf
  refine CW.iast (kk_0_1 hb) (kn_0_1 hb) (by decide +kernel) (inb_in hi7) ?_
  obtain ⟨S8, hS8, hf⟩ := letv_some hf
  rw [← hS8]
  refine CW.run (blk := [(.iconst 1, 1), (.istore 4, 0)]) (pc' := 58) (ls' := [some (.ref b), some (.ref p0), some (.int (mnI (q1 + 1) 64)), some (.int (((1 : Int32) <<< ((w6.2.1 (p0 + 10) 3) &&& 31)) - 1)), some (.int 1)]) (st' := []) (by decide +kernel) rfl ?_
  obtain ⟨w14, hw14, hf⟩ := bd_some hf
  refine xc_X0_fewestFor_L58 b p0 (mnI (q1 + 1) 64) (((1 : Int32) <<< ((w6.2.1 (p0 + 10) 3) &&& 31)) - 1) hb h0 FU _ _ _ hw14 ?_
  refine CW.run (blk := [(.aload_n 0, 0)]) (pc' := 93) (ls' := [some (.ref b), some (.ref p0), some (.int (mnI (q1 + 1) 64)), some (.int (((1 : Int32) <<< ((w6.2.1 (p0 + 10) 3) &&& 31)) - 1)), some (.int w14.1)]) (st' := [.ref b]) (by decide +kernel) rfl ?_
  refine CW.getf (v := .ref (b + 2)) hb (by decide) fl_RX0_13 (by decide +kernel) rfl ?_
  refine CW.run (blk := [(.iload_n 3, 0), (.sipush 255, 255), (.iand, 0)]) (pc' := 101) (ls' := [some (.ref b), some (.ref p0), some (.int (mnI (q1 + 1) 64)), some (.int (((1 : Int32) <<< ((w6.2.1 (p0 + 10) 3) &&& 31)) - 1)), some (.int w14.1)]) (st' := [.int ((((1 : Int32) <<< ((w6.2.1 (p0 + 10) 3) &&& 31)) - 1) &&& 255), .ref (b + 2)]) (by decide +kernel) rfl ?_
  obtain ⟨hi_v15, hf⟩ := bi_some hf
  obtain ⟨v15, hv15, hf⟩ := letv_some hf
  refine CW.iald (kk_0_1 hb) (kn_0_1 hb) (by decide +kernel) (inb_in hi_v15) ?_
  rw [← hv15]
  have e9 := Option.some.inj hf
  subst e9
  exact CW.iret rfl (by decide +kernel)
def fc_X1_forget (b : Nat) (S : cT) : Option (cT) := letv (ca S b 2 0) fun S1 => some S1
theorem xc_X1_forget {l : Launch} {b : Nat} {S : cT} {q : cT} (hb : cK b = 1) (hf : fc_X1_forget b S = some q) : COk l yy_X1_forget 0 [.ref b] S none q := by
  refine COk.of (ls := [some (.ref b)]) (by decide +kernel) (Nat.le_of_ble_eq_true rfl) rfl ?_
  unfold fc_X1_forget at hf
  refine CW.run (blk := [(.aload_n 0, 0), (.iconst 0, 0)]) (pc' := 2) (ls' := [some (.ref b)]) (st' := [.int 0, .ref b]) (by decide +kernel) rfl ?_
  refine CW.putI hb (by decide) fp_RX1_13 (by decide +kernel) (fun _ _ _ => Nat.le_of_ble_eq_true rfl) rfl rfl (fun _ _ _ => rfl) ?_
  obtain ⟨S1, hS1, hf⟩ := letv_some hf
  rw [← hS1]
  have e9 := Option.some.inj hf
  subst e9
  exact CW.vret rfl (by decide +kernel)
def fc_X1_startOfNewest (b : Nat) (S : cT) : Option (Int32) := if (20 : Int32) = 0 then none else (some ((fmI (S.1 b 1) 20) * 20))
theorem xc_X1_startOfNewest {l : Launch} {b : Nat} {S : cT} {q : Int32} (hb : cK b = 1) (hf : fc_X1_startOfNewest b S = some q) : COk l yy_X1_startOfNewest 1 [.ref b] S (some (.int q)) S := by
  refine COk.of (ls := [some (.ref b)]) (by decide +kernel) (Nat.le_of_ble_eq_true rfl) rfl ?_
  unfold fc_X1_startOfNewest at hf
  refine CW.run (blk := [(.aload_n 0, 0)]) (pc' := 1) (ls' := [some (.ref b)]) (st' := [.ref b]) (by decide +kernel) rfl ?_
  refine CW.getf (v := .int (S.1 b 1)) hb (by decide) fl_RX1_17 (by decide +kernel) rfl ?_
  refine CW.run (blk := [(.bipush 20, 20)]) (pc' := 6) (ls' := [some (.ref b)]) (st' := [.int 20, .int (S.1 b 1)]) (by decide +kernel) rfl ?_
  obtain ⟨hn1, hf⟩ := nz_some hf
  refine CW.fmod (idx := 20) (tb_in 707 (by decide +kernel) (by decide +kernel)) hn1 (by decide +kernel) (by decide) (Nat.le_of_ble_eq_true rfl) ?_
  refine CW.run (blk := [(.bipush 20, 20), (.imul, 0)]) (pc' := 12) (ls' := [some (.ref b)]) (st' := [.int ((fmI (S.1 b 1) 20) * 20)]) (by decide +kernel) rfl ?_
  have e9 := Option.some.inj hf
  subst e9
  exact CW.iret rfl (by decide +kernel)
def fc_X1_remember (b : Nat) (p0 : Nat) (S : cT) : Option (cT) := if (20 : Int32) = 0 then none else (letv (ca S b 1 (fmI ((S.1 b 1) + 1) 20)) fun S2 => letv (ca S2 b 2 (mnI ((S2.1 b 2) + 1) 20)) fun S3 => (fc_X1_startOfNewest b S3).bind fun q4 => bif inb (q4 + 0) 400 then (letv (ca S3 (b + 1) ((q4 + 0) : Int32).toNatClampNeg (S3.1 p0 12)) fun S6 => bif inb (q4 + 1) 400 then (letv (ca S6 (b + 1) ((q4 + 1) : Int32).toNatClampNeg (S6.1 p0 10)) fun S8 => Option.bind (if (S8.1 p0 11) = 0 then (some (0)) else (some (1)) : Option (Int32)) fun w9 => bif inb (q4 + 2) 400 then (letv (ca S8 (b + 1) ((q4 + 2) : Int32).toNatClampNeg w9) fun S12 => bif inb (q4 + 3) 400 then (letv (ca S12 (b + 1) ((q4 + 3) : Int32).toNatClampNeg (S12.1 (p0 + 6) 3)) fun S14 => bif cpok 0 (q4 + 4) 8 8 400 then (letv (cf S14 (b + 1) (va_cpy (S14.1 (p0 + 2)) (S14.1 (b + 1)) (0 : Int32).toNatClampNeg ((q4 + 4) : Int32).toNatClampNeg (8 : Int32).toNatClampNeg)) fun S16 => bif cpok 0 (q4 + 12) 8 8 400 then (letv (cf S16 (b + 1) (va_cpy (S16.1 (p0 + 3)) (S16.1 (b + 1)) (0 : Int32).toNatClampNeg ((q4 + 12) : Int32).toNatClampNeg (8 : Int32).toNatClampNeg)) fun S18 => some S18) else none) else none) else none) else none) else none) else none)
theorem xc_X1_remember {l : Launch} {b : Nat} {p0 : Nat} {S : cT} {q : cT} (hb : cK b = 1) (h0 : cK p0 = 2) (hf : fc_X1_remember b p0 S = some q) : COk l yy_X1_remember 2 [.ref b, .ref p0] S none q := by
  refine COk.of (ls := [some (.ref b), some (.ref p0), none]) (by decide +kernel) (Nat.le_of_ble_eq_true rfl) rfl ?_
  unfold fc_X1_remember at hf
  refine CW.run (blk := [(.aload_n 0, 0), (.aload_n 0, 0)]) (pc' := 2) (ls' := [some (.ref b), some (.ref p0), none]) (st' := [.ref b, .ref b]) (by decide +kernel) rfl ?_
  refine CW.getf (v := .int (S.1 b 1)) hb (by decide) fl_RX1_17 (by decide +kernel) rfl ?_
  refine CW.run (blk := [(.iconst 1, 1), (.iadd, 0), (.bipush 20, 20)]) (pc' := 9) (ls' := [some (.ref b), some (.ref p0), none]) (st' := [.int 20, .int ((S.1 b 1) + 1), .ref b]) (by decide +kernel) rfl ?_
  obtain ⟨hn1, hf⟩ := nz_some hf
  refine CW.fmod (idx := 20) (tb_in 707 (by decide +kernel) (by decide +kernel)) hn1 (by decide +kernel) (by decide) (Nat.le_of_ble_eq_true rfl) ?_
  refine CW.putI hb (by decide) fp_RX1_17 (by decide +kernel) (fun _ _ _ => Nat.le_of_ble_eq_true rfl) rfl rfl (fun _ _ _ => rfl) ?_
  obtain ⟨S2, hS2, hf⟩ := letv_some hf
  rw [← hS2]
  refine CW.run (blk := [(.aload_n 0, 0), (.aload_n 0, 0)]) (pc' := 17) (ls' := [some (.ref b), some (.ref p0), none]) (st' := [.ref b, .ref b]) (by decide +kernel) rfl ?_
  refine CW.getf (v := .int (S2.1 b 2)) hb (by decide) fl_RX1_13 (by decide +kernel) rfl ?_
  refine CW.run (blk := [(.iconst 1, 1), (.iadd, 0), (.bipush 20, 20)]) (pc' := 24) (ls' := [some (.ref b), some (.ref p0), none]) (st' := [.int 20, .int ((S2.1 b 2) + 1), .ref b]) (by decide +kernel) rfl ?_
  refine CW.mmin (idx := 26) (tb_in 710 (by decide +kernel) (by decide +kernel)) (by decide +kernel) (by decide) (Nat.le_of_ble_eq_true rfl) ?_
  refine CW.putI hb (by decide) fp_RX1_13 (by decide +kernel) (fun _ _ _ => Nat.le_of_ble_eq_true rfl) rfl rfl (fun _ _ _ => rfl) ?_
  obtain ⟨S3, hS3, hf⟩ := letv_some hf
  rw [← hS3]
  refine CW.run (blk := [(.aload_n 0, 0)]) (pc' := 31) (ls' := [some (.ref b), some (.ref p0), none]) (st' := [.ref b]) (by decide +kernel) rfl ?_
  obtain ⟨q4, hq4, hf⟩ := bd_some hf
  refine CW.callV (As := []) (st := []) lv_RX1_29 hb (by decide) rfl rfl (by decide +kernel) (xc_X1_startOfNewest hb hq4) (by decide) (by decide) rfl (Nat.le_of_ble_eq_true rfl) rfl ?_
  show CW l yy_X1_remember 2 _ _ 34 [some (.ref b), some (.ref p0), none] [.int q4] S3
  refine CW.run (blk := [(.istore_n 2, 0), (.aload_n 0, 0)]) (pc' := 36) (ls' := [some (.ref b), some (.ref p0), some (.int q4)]) (st' := [.ref b]) (by decide +kernel) rfl ?_
  refine CW.getf (v := .ref (b + 1)) hb (by decide) fl_RX1_9 (by decide +kernel) rfl ?_
  refine CW.run (blk := [(.iload_n 2, 0), (.iconst 0, 0), (.iadd, 0), (.aload_n 1, 0)]) (pc' := 43) (ls' := [some (.ref b), some (.ref p0), some (.int q4)]) (st' := [.ref p0, .int (q4 + 0), .ref (b + 1)]) (by decide +kernel) rfl ?_
  refine CW.getf (v := .int (S3.1 p0 12)) h0 (by decide) fl_RX1_33 (by decide +kernel) rfl ?_
  obtain ⟨hi5, hf⟩ := bi_some hf
  refine CW.iast (kk_1_0 hb) (kn_1_0 hb) (by decide +kernel) (inb_in hi5) ?_
  obtain ⟨S6, hS6, hf⟩ := letv_some hf
  rw [← hS6]
  refine CW.run (blk := [(.aload_n 0, 0)]) (pc' := 48) (ls' := [some (.ref b), some (.ref p0), some (.int q4)]) (st' := [.ref b]) (by decide +kernel) rfl ?_
  refine CW.getf (v := .ref (b + 1)) hb (by decide) fl_RX1_9 (by decide +kernel) rfl ?_
  refine CW.run (blk := [(.iload_n 2, 0), (.iconst 1, 1), (.iadd, 0), (.aload_n 1, 0)]) (pc' := 55) (ls' := [some (.ref b), some (.ref p0), some (.int q4)]) (st' := [.ref p0, .int (q4 + 1), .ref (b + 1)]) (by decide +kernel) rfl ?_
  refine CW.getf (v := .int (S6.1 p0 10)) h0 (by decide) fl_RX1_38 (by decide +kernel) rfl ?_
  obtain ⟨hi7, hf⟩ := bi_some hf
  refine CW.iast (kk_1_0 hb) (kn_1_0 hb) (by decide +kernel) (inb_in hi7) ?_
  obtain ⟨S8, hS8, hf⟩ := letv_some hf
  rw [← hS8]
  refine CW.run (blk := [(.aload_n 0, 0)]) (pc' := 60) (ls' := [some (.ref b), some (.ref p0), some (.int q4)]) (st' := [.ref b]) (by decide +kernel) rfl ?_
  refine CW.getf (v := .ref (b + 1)) hb (by decide) fl_RX1_9 (by decide +kernel) rfl ?_
  refine CW.run (blk := [(.iload_n 2, 0), (.iconst 2, 2), (.iadd, 0), (.aload_n 1, 0)]) (pc' := 67) (ls' := [some (.ref b), some (.ref p0), some (.int q4)]) (st' := [.ref p0, .int (q4 + 2), .ref (b + 1)]) (by decide +kernel) rfl ?_
  refine CW.getf (v := .int (S8.1 p0 11)) h0 (by decide) fl_RX1_41 (by decide +kernel) rfl ?_
  obtain ⟨w9, hw9, hf⟩ := bd_some hf
  have hJ : CW l yy_X1_remember 2 none q 78 [some (.ref b), some (.ref p0), some (.int q4)] [.int w9, .int (q4 + 2), .ref (b + 1)] S8 := by
    obtain ⟨hi11, hf⟩ := bi_some hf
    refine CW.iast (kk_1_0 hb) (kn_1_0 hb) (by decide +kernel) (inb_in hi11) ?_
    obtain ⟨S12, hS12, hf⟩ := letv_some hf
    rw [← hS12]
    refine CW.run (blk := [(.aload_n 0, 0)]) (pc' := 80) (ls' := [some (.ref b), some (.ref p0), some (.int q4)]) (st' := [.ref b]) (by decide +kernel) rfl ?_
    refine CW.getf (v := .ref (b + 1)) hb (by decide) fl_RX1_9 (by decide +kernel) rfl ?_
    refine CW.run (blk := [(.iload_n 2, 0), (.iconst 3, 3), (.iadd, 0), (.aload_n 1, 0)]) (pc' := 87) (ls' := [some (.ref b), some (.ref p0), some (.int q4)]) (st' := [.ref p0, .int (q4 + 3), .ref (b + 1)]) (by decide +kernel) rfl ?_
    refine CW.getf (v := .ref (p0 + 6)) h0 (by decide) fl_RX1_45 (by decide +kernel) rfl ?_
    refine CW.getf (v := .int (S12.1 (p0 + 6) 3)) (kk_2_5 h0) (by decide) fl_RX1_49 (by decide +kernel) rfl ?_
    obtain ⟨hi13, hf⟩ := bi_some hf
    refine CW.iast (kk_1_0 hb) (kn_1_0 hb) (by decide +kernel) (inb_in hi13) ?_
    obtain ⟨S14, hS14, hf⟩ := letv_some hf
    rw [← hS14]
    refine CW.run (blk := [(.aload_n 1, 0)]) (pc' := 95) (ls' := [some (.ref b), some (.ref p0), some (.int q4)]) (st' := [.ref p0]) (by decide +kernel) rfl ?_
    refine CW.getf (v := .ref (p0 + 2)) h0 (by decide) fl_RX1_52 (by decide +kernel) rfl ?_
    refine CW.run (blk := [(.iconst 0, 0), (.aload_n 0, 0)]) (pc' := 100) (ls' := [some (.ref b), some (.ref p0), some (.int q4)]) (st' := [.ref b, .int 0, .ref (p0 + 2)]) (by decide +kernel) rfl ?_
    refine CW.getf (v := .ref (b + 1)) hb (by decide) fl_RX1_9 (by decide +kernel) rfl ?_
    refine CW.run (blk := [(.iload_n 2, 0), (.iconst 4, 4), (.iadd, 0), (.bipush 8, 8)]) (pc' := 108) (ls' := [some (.ref b), some (.ref p0), some (.int q4)]) (st' := [.int 8, .int (q4 + 4), .ref (b + 1), .int 0, .ref (p0 + 2)]) (by decide +kernel) rfl ?_
    obtain ⟨hc15, hf⟩ := bi_some hf
    refine CW.copyi (idx := 55) (tb_in 717 (by decide +kernel) (by decide +kernel)) (kk_2_1 h0) (kn_2_1 h0) (kk_1_0 hb) (kn_1_0 hb) (by decide +kernel) hc15 (by decide) (Nat.le_of_ble_eq_true rfl) ?_
    obtain ⟨S16, hS16, hf⟩ := letv_some hf
    rw [← hS16]
    refine CW.run (blk := [(.aload_n 1, 0)]) (pc' := 112) (ls' := [some (.ref b), some (.ref p0), some (.int q4)]) (st' := [.ref p0]) (by decide +kernel) rfl ?_
    refine CW.getf (v := .ref (p0 + 3)) h0 (by decide) fl_RX1_61 (by decide +kernel) rfl ?_
    refine CW.run (blk := [(.iconst 0, 0), (.aload_n 0, 0)]) (pc' := 117) (ls' := [some (.ref b), some (.ref p0), some (.int q4)]) (st' := [.ref b, .int 0, .ref (p0 + 3)]) (by decide +kernel) rfl ?_
    refine CW.getf (v := .ref (b + 1)) hb (by decide) fl_RX1_9 (by decide +kernel) rfl ?_
    refine CW.run (blk := [(.iload_n 2, 0), (.bipush 12, 12), (.iadd, 0), (.bipush 8, 8)]) (pc' := 126) (ls' := [some (.ref b), some (.ref p0), some (.int q4)]) (st' := [.int 8, .int (q4 + 12), .ref (b + 1), .int 0, .ref (p0 + 3)]) (by decide +kernel) rfl ?_
    obtain ⟨hc17, hf⟩ := bi_some hf
    refine CW.copyi (idx := 55) (tb_in 717 (by decide +kernel) (by decide +kernel)) (kk_2_2 h0) (kn_2_2 h0) (kk_1_0 hb) (kn_1_0 hb) (by decide +kernel) hc17 (by decide) (Nat.le_of_ble_eq_true rfl) ?_
    obtain ⟨S18, hS18, hf⟩ := letv_some hf
    rw [← hS18]
    have e9 := Option.some.inj hf
    subst e9
    exact CW.vret rfl (by decide +kernel)
  clear hf
  refine CW.if_eq (off := 7) (tgt := 77) (by decide +kernel) (by decide) (fun c70_10 => ?_) (fun c70_10 => ?_)
  · rw [if_pos c70_10] at hw9
    refine CW.run (blk := [(.iconst 0, 0)]) (pc' := 78) (ls' := [some (.ref b), some (.ref p0), some (.int q4)]) (st' := [.int 0, .int (q4 + 2), .ref (b + 1)]) (by decide +kernel) rfl ?_
    have e9 := Option.some.inj hw9
    subst e9
    exact hJ
  · rw [if_neg c70_10] at hw9
    refine CW.run (blk := [(.iconst 1, 1), (.goto 4, 0)]) (pc' := 78) (ls' := [some (.ref b), some (.ref p0), some (.int q4)]) (st' := [.int 1, .int (q4 + 2), .ref (b + 1)]) (by decide +kernel) rfl ?_
    have e9 := Option.some.inj hw9
    subst e9
    exact hJ
def fc_X6_cutTo (b : Nat) (p0 : Int32) (S : cT) : Option (cT) := if p0 < 0 then (some S) else (if (S.1 b 3) ≤ p0 then (some S) else (letv (ca S b 3 p0) fun S3 => some S3))
theorem xc_X6_cutTo {l : Launch} {b : Nat} {p0 : Int32} {S : cT} {q : cT} (hb : cK b = 5) (hf : fc_X6_cutTo b p0 S = some q) : COk l yy_X6_cutTo 0 [.ref b, .int p0] S none q := by
  refine COk.of (ls := [some (.ref b), some (.int p0)]) (by decide +kernel) (Nat.le_of_ble_eq_true rfl) rfl ?_
  unfold fc_X6_cutTo at hf
  refine CW.run (blk := [(.iload_n 1, 0)]) (pc' := 1) (ls' := [some (.ref b), some (.int p0)]) (st' := [.int p0]) (by decide +kernel) rfl ?_
  refine CW.if_lt (off := 16) (tgt := 17) (by decide +kernel) (by decide) (fun c1_1 => ?_) (fun c1_1 => ?_)
  · rw [if_pos c1_1] at hf
    have e9 := Option.some.inj hf
    subst e9
    exact CW.vret rfl (by decide +kernel)
  · rw [if_neg c1_1] at hf
    refine CW.run (blk := [(.iload_n 1, 0), (.aload_n 0, 0)]) (pc' := 6) (ls' := [some (.ref b), some (.int p0)]) (st' := [.ref b, .int p0]) (by decide +kernel) rfl ?_
    refine CW.getf (v := .int (S.1 b 3)) hb (by decide) fl_RX6_22 (by decide +kernel) rfl ?_
    refine CW.icmp_ge (off := 8) (tgt := 17) (by decide +kernel) (by decide) (fun c9_2 => ?_) (fun c9_2 => ?_)
    · rw [if_pos c9_2] at hf
      have e9 := Option.some.inj hf
      subst e9
      exact CW.vret rfl (by decide +kernel)
    · rw [if_neg c9_2] at hf
      refine CW.run (blk := [(.aload_n 0, 0), (.iload_n 1, 0)]) (pc' := 14) (ls' := [some (.ref b), some (.int p0)]) (st' := [.int p0, .ref b]) (by decide +kernel) rfl ?_
      refine CW.putI hb (by decide) fp_RX6_22 (by decide +kernel) (fun _ _ _ => Nat.le_of_ble_eq_true rfl) rfl rfl (fun _ _ _ => rfl) ?_
      obtain ⟨S3, hS3, hf⟩ := letv_some hf
      rw [← hS3]
      have e9 := Option.some.inj hf
      subst e9
      exact CW.vret rfl (by decide +kernel)
def fc_X1_restore (b : Nat) (p0 : Nat) (S : cT) : Option (cT) := (fc_X1_startOfNewest b S).bind fun q1 => bif inb (q1 + 0) 400 then (letv (S.1 (b + 1) ((q1 + 0) : Int32).toNatClampNeg) fun v2 => letv (ca S p0 12 v2) fun S3 => bif inb (q1 + 1) 400 then (letv (S3.1 (b + 1) ((q1 + 1) : Int32).toNatClampNeg) fun v4 => letv (ca S3 p0 10 v4) fun S5 => bif inb (q1 + 2) 400 then (letv (S5.1 (b + 1) ((q1 + 2) : Int32).toNatClampNeg) fun v6 => Option.bind (if v6 = 0 then (some (0)) else (some (1)) : Option (Int32)) fun w7 => bif isB w7 then (letv (ca S5 p0 11 w7) fun S10 => bif inb (q1 + 3) 400 then (letv (S10.1 (b + 1) ((q1 + 3) : Int32).toNatClampNeg) fun v11 => (fc_X6_cutTo (p0 + 6) v11 S10).bind fun q12 => bif cpok (q1 + 4) 0 8 400 8 then (letv (cf q12 (p0 + 2) (va_cpy (q12.1 (b + 1)) (q12.1 (p0 + 2)) ((q1 + 4) : Int32).toNatClampNeg (0 : Int32).toNatClampNeg (8 : Int32).toNatClampNeg)) fun S14 => bif cpok (q1 + 12) 0 8 400 8 then (letv (cf S14 (p0 + 3) (va_cpy (S14.1 (b + 1)) (S14.1 (p0 + 3)) ((q1 + 12) : Int32).toNatClampNeg (0 : Int32).toNatClampNeg (8 : Int32).toNatClampNeg)) fun S16 => if (20 : Int32) = 0 then none else (letv (ca S16 b 1 (fmI ((S16.1 b 1) - 1) 20)) fun S18 => letv (ca S18 b 2 (mxI ((S18.1 b 2) - 1) 0)) fun S19 => some S19)) else none) else none) else none) else none) else none) else none) else none
theorem xc_X1_restore {l : Launch} {b : Nat} {p0 : Nat} {S : cT} {q : cT} (hb : cK b = 1) (h0 : cK p0 = 2) (hf : fc_X1_restore b p0 S = some q) : COk l yy_X1_restore 2 [.ref b, .ref p0] S none q := by
  refine COk.of (ls := [some (.ref b), some (.ref p0), none]) (by decide +kernel) (Nat.le_of_ble_eq_true rfl) rfl ?_
  unfold fc_X1_restore at hf
  refine CW.run (blk := [(.aload_n 0, 0)]) (pc' := 1) (ls' := [some (.ref b), some (.ref p0), none]) (st' := [.ref b]) (by decide +kernel) rfl ?_
  obtain ⟨q1, hq1, hf⟩ := bd_some hf
  refine CW.callV (As := []) (st := []) lv_RX1_29 hb (by decide) rfl rfl (by decide +kernel) (xc_X1_startOfNewest hb hq1) (by decide) (by decide) rfl (Nat.le_of_ble_eq_true rfl) rfl ?_
  show CW l yy_X1_restore 2 _ _ 4 [some (.ref b), some (.ref p0), none] [.int q1] S
  refine CW.run (blk := [(.istore_n 2, 0), (.aload_n 1, 0), (.aload_n 0, 0)]) (pc' := 7) (ls' := [some (.ref b), some (.ref p0), some (.int q1)]) (st' := [.ref b, .ref p0]) (by decide +kernel) rfl ?_
  refine CW.getf (v := .ref (b + 1)) hb (by decide) fl_RX1_9 (by decide +kernel) rfl ?_
  refine CW.run (blk := [(.iload_n 2, 0), (.iconst 0, 0), (.iadd, 0)]) (pc' := 13) (ls' := [some (.ref b), some (.ref p0), some (.int q1)]) (st' := [.int (q1 + 0), .ref (b + 1), .ref p0]) (by decide +kernel) rfl ?_
  obtain ⟨hi_v2, hf⟩ := bi_some hf
  obtain ⟨v2, hv2, hf⟩ := letv_some hf
  refine CW.iald (kk_1_0 hb) (kn_1_0 hb) (by decide +kernel) (inb_in hi_v2) ?_
  rw [← hv2]
  refine CW.putI h0 (by decide) fp_RX1_33 (by decide +kernel) (fun _ _ _ => Nat.le_of_ble_eq_true rfl) rfl rfl (fun _ _ _ => rfl) ?_
  obtain ⟨S3, hS3, hf⟩ := letv_some hf
  rw [← hS3]
  refine CW.run (blk := [(.aload_n 1, 0), (.aload_n 0, 0)]) (pc' := 19) (ls' := [some (.ref b), some (.ref p0), some (.int q1)]) (st' := [.ref b, .ref p0]) (by decide +kernel) rfl ?_
  refine CW.getf (v := .ref (b + 1)) hb (by decide) fl_RX1_9 (by decide +kernel) rfl ?_
  refine CW.run (blk := [(.iload_n 2, 0), (.iconst 1, 1), (.iadd, 0)]) (pc' := 25) (ls' := [some (.ref b), some (.ref p0), some (.int q1)]) (st' := [.int (q1 + 1), .ref (b + 1), .ref p0]) (by decide +kernel) rfl ?_
  obtain ⟨hi_v4, hf⟩ := bi_some hf
  obtain ⟨v4, hv4, hf⟩ := letv_some hf
  refine CW.iald (kk_1_0 hb) (kn_1_0 hb) (by decide +kernel) (inb_in hi_v4) ?_
  rw [← hv4]
  refine CW.putI h0 (by decide) fp_RX1_38 (by decide +kernel) (fun _ _ _ => Nat.le_of_ble_eq_true rfl) rfl rfl (fun _ _ _ => rfl) ?_
  obtain ⟨S5, hS5, hf⟩ := letv_some hf
  rw [← hS5]
  refine CW.run (blk := [(.aload_n 1, 0), (.aload_n 0, 0)]) (pc' := 31) (ls' := [some (.ref b), some (.ref p0), some (.int q1)]) (st' := [.ref b, .ref p0]) (by decide +kernel) rfl ?_
  refine CW.getf (v := .ref (b + 1)) hb (by decide) fl_RX1_9 (by decide +kernel) rfl ?_
  refine CW.run (blk := [(.iload_n 2, 0), (.iconst 2, 2), (.iadd, 0)]) (pc' := 37) (ls' := [some (.ref b), some (.ref p0), some (.int q1)]) (st' := [.int (q1 + 2), .ref (b + 1), .ref p0]) (by decide +kernel) rfl ?_
  obtain ⟨hi_v6, hf⟩ := bi_some hf
  obtain ⟨v6, hv6, hf⟩ := letv_some hf
  refine CW.iald (kk_1_0 hb) (kn_1_0 hb) (by decide +kernel) (inb_in hi_v6) ?_
  rw [← hv6]
  obtain ⟨w7, hw7, hf⟩ := bd_some hf
  have hJ : CW l yy_X1_restore 2 none q 46 [some (.ref b), some (.ref p0), some (.int q1)] [.int w7, .ref p0] S5 := by
    obtain ⟨hz9, hf⟩ := bi_some hf
    refine CW.putI h0 (by decide) fp_RX1_41 (by decide +kernel) (fun _ _ _ => Nat.le_of_ble_eq_true rfl) (isB_nar hz9) (isB_fit hz9) (fun _ _ _ => rfl) ?_
    obtain ⟨S10, hS10, hf⟩ := letv_some hf
    rw [← hS10]
    refine CW.run (blk := [(.aload_n 1, 0)]) (pc' := 50) (ls' := [some (.ref b), some (.ref p0), some (.int q1)]) (st' := [.ref p0]) (by decide +kernel) rfl ?_
    refine CW.getf (v := .ref (p0 + 6)) h0 (by decide) fl_RX1_45 (by decide +kernel) rfl ?_
    refine CW.run (blk := [(.aload_n 0, 0)]) (pc' := 54) (ls' := [some (.ref b), some (.ref p0), some (.int q1)]) (st' := [.ref b, .ref (p0 + 6)]) (by decide +kernel) rfl ?_
    refine CW.getf (v := .ref (b + 1)) hb (by decide) fl_RX1_9 (by decide +kernel) rfl ?_
    refine CW.run (blk := [(.iload_n 2, 0), (.iconst 3, 3), (.iadd, 0)]) (pc' := 60) (ls' := [some (.ref b), some (.ref p0), some (.int q1)]) (st' := [.int (q1 + 3), .ref (b + 1), .ref (p0 + 6)]) (by decide +kernel) rfl ?_
    obtain ⟨hi_v11, hf⟩ := bi_some hf
    obtain ⟨v11, hv11, hf⟩ := letv_some hf
    refine CW.iald (kk_1_0 hb) (kn_1_0 hb) (by decide +kernel) (inb_in hi_v11) ?_
    rw [← hv11]
    obtain ⟨q12, hq12, hf⟩ := bd_some hf
    refine CW.callV (As := [.int v11]) (st := []) lv_RX1_64 (kk_2_5 h0) (by decide) rfl rfl (by decide +kernel) (xc_X6_cutTo (kk_2_5 h0) hq12) (by decide) (by decide) rfl (Nat.le_of_ble_eq_true rfl) rfl ?_
    show CW l yy_X1_restore 2 _ _ 64 [some (.ref b), some (.ref p0), some (.int q1)] [] q12
    refine CW.run (blk := [(.aload_n 0, 0)]) (pc' := 65) (ls' := [some (.ref b), some (.ref p0), some (.int q1)]) (st' := [.ref b]) (by decide +kernel) rfl ?_
    refine CW.getf (v := .ref (b + 1)) hb (by decide) fl_RX1_9 (by decide +kernel) rfl ?_
    refine CW.run (blk := [(.iload_n 2, 0), (.iconst 4, 4), (.iadd, 0), (.aload_n 1, 0)]) (pc' := 72) (ls' := [some (.ref b), some (.ref p0), some (.int q1)]) (st' := [.ref p0, .int (q1 + 4), .ref (b + 1)]) (by decide +kernel) rfl ?_
    refine CW.getf (v := .ref (p0 + 2)) h0 (by decide) fl_RX1_52 (by decide +kernel) rfl ?_
    refine CW.run (blk := [(.iconst 0, 0), (.bipush 8, 8)]) (pc' := 78) (ls' := [some (.ref b), some (.ref p0), some (.int q1)]) (st' := [.int 8, .int 0, .ref (p0 + 2), .int (q1 + 4), .ref (b + 1)]) (by decide +kernel) rfl ?_
    obtain ⟨hc13, hf⟩ := bi_some hf
    refine CW.copyi (idx := 55) (tb_in 717 (by decide +kernel) (by decide +kernel)) (kk_1_0 hb) (kn_1_0 hb) (kk_2_1 h0) (kn_2_1 h0) (by decide +kernel) hc13 (by decide) (Nat.le_of_ble_eq_true rfl) ?_
    obtain ⟨S14, hS14, hf⟩ := letv_some hf
    rw [← hS14]
    refine CW.run (blk := [(.aload_n 0, 0)]) (pc' := 82) (ls' := [some (.ref b), some (.ref p0), some (.int q1)]) (st' := [.ref b]) (by decide +kernel) rfl ?_
    refine CW.getf (v := .ref (b + 1)) hb (by decide) fl_RX1_9 (by decide +kernel) rfl ?_
    refine CW.run (blk := [(.iload_n 2, 0), (.bipush 12, 12), (.iadd, 0), (.aload_n 1, 0)]) (pc' := 90) (ls' := [some (.ref b), some (.ref p0), some (.int q1)]) (st' := [.ref p0, .int (q1 + 12), .ref (b + 1)]) (by decide +kernel) rfl ?_
    refine CW.getf (v := .ref (p0 + 3)) h0 (by decide) fl_RX1_61 (by decide +kernel) rfl ?_
    refine CW.run (blk := [(.iconst 0, 0), (.bipush 8, 8)]) (pc' := 96) (ls' := [some (.ref b), some (.ref p0), some (.int q1)]) (st' := [.int 8, .int 0, .ref (p0 + 3), .int (q1 + 12), .ref (b + 1)]) (by decide +kernel) rfl ?_
    obtain ⟨hc15, hf⟩ := bi_some hf
    refine CW.copyi (idx := 55) (tb_in 717 (by decide +kernel) (by decide +kernel)) (kk_1_0 hb) (kn_1_0 hb) (kk_2_2 h0) (kn_2_2 h0) (by decide +kernel) hc15 (by decide) (Nat.le_of_ble_eq_true rfl) ?_
    obtain ⟨S16, hS16, hf⟩ := letv_some hf
    rw [← hS16]
    refine CW.run (blk := [(.aload_n 0, 0), (.aload_n 0, 0)]) (pc' := 101) (ls' := [some (.ref b), some (.ref p0), some (.int q1)]) (st' := [.ref b, .ref b]) (by decide +kernel) rfl ?_
    refine CW.getf (v := .int (S16.1 b 1)) hb (by decide) fl_RX1_17 (by decide +kernel) rfl ?_
    refine CW.run (blk := [(.iconst 1, 1), (.isub, 0), (.bipush 20, 20)]) (pc' := 108) (ls' := [some (.ref b), some (.ref p0), some (.int q1)]) (st' := [.int 20, .int ((S16.1 b 1) - 1), .ref b]) (by decide +kernel) rfl ?_
    obtain ⟨hn17, hf⟩ := nz_some hf
    refine CW.fmod (idx := 20) (tb_in 707 (by decide +kernel) (by decide +kernel)) hn17 (by decide +kernel) (by decide) (Nat.le_of_ble_eq_true rfl) ?_
    refine CW.putI hb (by decide) fp_RX1_17 (by decide +kernel) (fun _ _ _ => Nat.le_of_ble_eq_true rfl) rfl rfl (fun _ _ _ => rfl) ?_
    obtain ⟨S18, hS18, hf⟩ := letv_some hf
    rw [← hS18]
    refine CW.run (blk := [(.aload_n 0, 0), (.aload_n 0, 0)]) (pc' := 116) (ls' := [some (.ref b), some (.ref p0), some (.int q1)]) (st' := [.ref b, .ref b]) (by decide +kernel) rfl ?_
    refine CW.getf (v := .int (S18.1 b 2)) hb (by decide) fl_RX1_13 (by decide +kernel) rfl ?_
    refine CW.run (blk := [(.iconst 1, 1), (.isub, 0), (.iconst 0, 0)]) (pc' := 122) (ls' := [some (.ref b), some (.ref p0), some (.int q1)]) (st' := [.int 0, .int ((S18.1 b 2) - 1), .ref b]) (by decide +kernel) rfl ?_
    refine CW.mmax (idx := 68) (tb_in 789 (by decide +kernel) (by decide +kernel)) (by decide +kernel) (by decide) (Nat.le_of_ble_eq_true rfl) ?_
    refine CW.putI hb (by decide) fp_RX1_13 (by decide +kernel) (fun _ _ _ => Nat.le_of_ble_eq_true rfl) rfl rfl (fun _ _ _ => rfl) ?_
    obtain ⟨S19, hS19, hf⟩ := letv_some hf
    rw [← hS19]
    have e9 := Option.some.inj hf
    subst e9
    exact CW.vret rfl (by decide +kernel)
  clear hf
  refine CW.if_eq (off := 7) (tgt := 45) (by decide +kernel) (by decide) (fun c38_8 => ?_) (fun c38_8 => ?_)
  · rw [if_pos c38_8] at hw7
    refine CW.run (blk := [(.iconst 0, 0)]) (pc' := 46) (ls' := [some (.ref b), some (.ref p0), some (.int q1)]) (st' := [.int 0, .ref p0]) (by decide +kernel) rfl ?_
    have e9 := Option.some.inj hw7
    subst e9
    exact hJ
  · rw [if_neg c38_8] at hw7
    refine CW.run (blk := [(.iconst 1, 1), (.goto 4, 0)]) (pc' := 46) (ls' := [some (.ref b), some (.ref p0), some (.int q1)]) (st' := [.int 1, .ref p0]) (by decide +kernel) rfl ?_
    have e9 := Option.some.inj hw7
    subst e9
    exact hJ
def fc_X2_clear_L2 (k0 : Nat) : Nat → Int32 → cT → Option (Int32 × cT)
  | 0, _, _ => none
  | N + 1, a1, S => if 8 ≤ a1 then (some (a1, S)) else (bif inb a1 8 then (letv (ca S (k0 + 1) (a1 : Int32).toNatClampNeg 0) fun S3 => bif inb a1 8 then (letv (ca S3 (k0 + 2) (a1 : Int32).toNatClampNeg 0) fun S5 => bif inb a1 8 then (letv (ca S5 (k0 + 3) (a1 : Int32).toNatClampNeg 0) fun S7 => bif inb a1 8 then (letv (ca S7 (k0 + 4) (a1 : Int32).toNatClampNeg 0) fun S9 => fc_X2_clear_L2 k0 N (a1 + 1) S9) else none) else none) else none) else none)
def fc_X2_clear_L44 (k0 : Nat) : Nat → Int32 → cT → Option (Int32 × cT)
  | 0, _, _ => none
  | N + 1, a1, S => if 64 ≤ a1 then (some (a1, S)) else (bif inb a1 64 then (letv (ca S (k0 + 5) (a1 : Int32).toNatClampNeg 0) fun S13 => fc_X2_clear_L44 k0 N (a1 + 1) S13) else none)
def fc_X2_clear (b : Nat) (S : cT) : Option (cT) := (fc_X2_clear_L2 b FU 0 S).bind fun w10 => (fc_X2_clear_L44 b FU 0 w10.2).bind fun w14 => (fc_X6_cutTo (b + 6) 0 w14.2).bind fun q15 => (fc_X6_cutTo (b + 8) 0 q15).bind fun q16 => (fc_X6_cutTo (b + 10) 0 q16).bind fun q17 => letv (ca q17 b 8 0) fun S18 => letv (ca S18 b 9 0) fun S19 => letv (ca S19 b 10 0) fun S20 => letv (ca S20 b 11 0) fun S21 => letv (ca S21 b 12 0) fun S22 => some S22
theorem xc_X2_clear_L2 {l : Launch} {r : Option Value} {S' : cT} (k0 : Nat) (hk0 : cK k0 = 2) : ∀ (N : Nat) (a1 : Int32) (S : cT) (W0 : Int32 × cT) (_ : fc_X2_clear_L2 k0 N a1 S = some W0) (_ : CW l yy_X2_clear 1 r S' 42 [some (.ref k0), some (.int W0.1)] [] W0.2), CW l yy_X2_clear 1 r S' 2 [some (.ref k0), some (.int a1)] [] S := by
  intro N
  induction N with
  | zero =>
    intro a1 S W0 hf _
    cases hf
  | succ N ih =>
    intro a1 S W0 hf hk_1
    unfold fc_X2_clear_L2 at hf
    refine CW.run (blk := [(.iload_n 1, 0), (.bipush 8, 8)]) (pc' := 5) (ls' := [some (.ref k0), some (.int a1)]) (st' := [.int 8, .int a1]) (by decide +kernel) rfl ?_
    refine CW.icmp_ge (off := 37) (tgt := 42) (by decide +kernel) (by decide) (fun c5_1 => ?_) (fun c5_1 => ?_)
    · rw [if_pos c5_1] at hf
      have e9 := Option.some.inj hf
      subst e9
      exact hk_1
    · rw [if_neg c5_1] at hf
      refine CW.run (blk := [(.aload_n 0, 0)]) (pc' := 9) (ls' := [some (.ref k0), some (.int a1)]) (st' := [.ref k0]) (by decide +kernel) rfl ?_
      refine CW.getf (v := .ref (k0 + 1)) hk0 (by decide) fl_RX2_11 (by decide +kernel) rfl ?_
      refine CW.run (blk := [(.iload_n 1, 0), (.iconst 0, 0)]) (pc' := 14) (ls' := [some (.ref k0), some (.int a1)]) (st' := [.int 0, .int a1, .ref (k0 + 1)]) (by decide +kernel) rfl ?_
      obtain ⟨hi2, hf⟩ := bi_some hf
      refine CW.iast (kk_2_0 hk0) (kn_2_0 hk0) (by decide +kernel) (inb_in hi2) ?_
      obtain ⟨S3, hS3, hf⟩ := letv_some hf
      rw [← hS3]
      refine CW.run (blk := [(.aload_n 0, 0)]) (pc' := 16) (ls' := [some (.ref k0), some (.int a1)]) (st' := [.ref k0]) (by decide +kernel) rfl ?_
      refine CW.getf (v := .ref (k0 + 2)) hk0 (by decide) fl_RX2_15 (by decide +kernel) rfl ?_
      refine CW.run (blk := [(.iload_n 1, 0), (.iconst 0, 0)]) (pc' := 21) (ls' := [some (.ref k0), some (.int a1)]) (st' := [.int 0, .int a1, .ref (k0 + 2)]) (by decide +kernel) rfl ?_
      obtain ⟨hi4, hf⟩ := bi_some hf
      refine CW.iast (kk_2_1 hk0) (kn_2_1 hk0) (by decide +kernel) (inb_in hi4) ?_
      obtain ⟨S5, hS5, hf⟩ := letv_some hf
      rw [← hS5]
      refine CW.run (blk := [(.aload_n 0, 0)]) (pc' := 23) (ls' := [some (.ref k0), some (.int a1)]) (st' := [.ref k0]) (by decide +kernel) rfl ?_
      refine CW.getf (v := .ref (k0 + 3)) hk0 (by decide) fl_RX2_18 (by decide +kernel) rfl ?_
      refine CW.run (blk := [(.iload_n 1, 0), (.iconst 0, 0)]) (pc' := 28) (ls' := [some (.ref k0), some (.int a1)]) (st' := [.int 0, .int a1, .ref (k0 + 3)]) (by decide +kernel) rfl ?_
      obtain ⟨hi6, hf⟩ := bi_some hf
      refine CW.iast (kk_2_2 hk0) (kn_2_2 hk0) (by decide +kernel) (inb_in hi6) ?_
      obtain ⟨S7, hS7, hf⟩ := letv_some hf
      rw [← hS7]
      refine CW.run (blk := [(.aload_n 0, 0)]) (pc' := 30) (ls' := [some (.ref k0), some (.int a1)]) (st' := [.ref k0]) (by decide +kernel) rfl ?_
      refine CW.getf (v := .ref (k0 + 4)) hk0 (by decide) fl_RX2_21 (by decide +kernel) rfl ?_
      refine CW.run (blk := [(.iload_n 1, 0), (.iconst 0, 0)]) (pc' := 35) (ls' := [some (.ref k0), some (.int a1)]) (st' := [.int 0, .int a1, .ref (k0 + 4)]) (by decide +kernel) rfl ?_
      obtain ⟨hi8, hf⟩ := bi_some hf
      refine CW.iast (kk_2_3 hk0) (kn_2_3 hk0) (by decide +kernel) (inb_in hi8) ?_
      obtain ⟨S9, hS9, hf⟩ := letv_some hf
      rw [← hS9]
      refine CW.run (blk := [(.iinc 1 1, 1), (.goto (-37), 0)]) (pc' := 2) (ls' := [some (.ref k0), some (.int (a1 + 1))]) (st' := []) (by decide +kernel) rfl ?_
      exact ih _ _ _ hf hk_1
theorem xc_X2_clear_L44 {l : Launch} {r : Option Value} {S' : cT} (k0 : Nat) (hk0 : cK k0 = 2) : ∀ (N : Nat) (a1 : Int32) (S : cT) (W0 : Int32 × cT) (_ : fc_X2_clear_L44 k0 N a1 S = some W0) (_ : CW l yy_X2_clear 1 r S' 63 [some (.ref k0), some (.int W0.1)] [] W0.2), CW l yy_X2_clear 1 r S' 44 [some (.ref k0), some (.int a1)] [] S := by
  intro N
  induction N with
  | zero =>
    intro a1 S W0 hf _
    cases hf
  | succ N ih =>
    intro a1 S W0 hf hk_1
    unfold fc_X2_clear_L44 at hf
    refine CW.run (blk := [(.iload_n 1, 0), (.bipush 64, 64)]) (pc' := 47) (ls' := [some (.ref k0), some (.int a1)]) (st' := [.int 64, .int a1]) (by decide +kernel) rfl ?_
    refine CW.icmp_ge (off := 16) (tgt := 63) (by decide +kernel) (by decide) (fun c47_11 => ?_) (fun c47_11 => ?_)
    · rw [if_pos c47_11] at hf
      have e9 := Option.some.inj hf
      subst e9
      exact hk_1
    · rw [if_neg c47_11] at hf
      refine CW.run (blk := [(.aload_n 0, 0)]) (pc' := 51) (ls' := [some (.ref k0), some (.int a1)]) (st' := [.ref k0]) (by decide +kernel) rfl ?_
      refine CW.getf (v := .ref (k0 + 5)) hk0 (by decide) fl_RX2_24 (by decide +kernel) rfl ?_
      refine CW.run (blk := [(.iload_n 1, 0), (.iconst 0, 0)]) (pc' := 56) (ls' := [some (.ref k0), some (.int a1)]) (st' := [.int 0, .int a1, .ref (k0 + 5)]) (by decide +kernel) rfl ?_
      obtain ⟨hi12, hf⟩ := bi_some hf
      refine CW.iast (kk_2_4 hk0) (kn_2_4 hk0) (by decide +kernel) (inb_in hi12) ?_
      obtain ⟨S13, hS13, hf⟩ := letv_some hf
      rw [← hS13]
      refine CW.run (blk := [(.iinc 1 1, 1), (.goto (-16), 0)]) (pc' := 44) (ls' := [some (.ref k0), some (.int (a1 + 1))]) (st' := []) (by decide +kernel) rfl ?_
      exact ih _ _ _ hf hk_1
theorem xc_X2_clear {l : Launch} {b : Nat} {S : cT} {q : cT} (hb : cK b = 2) (hf : fc_X2_clear b S = some q) : COk l yy_X2_clear 1 [.ref b] S none q := by
  refine COk.of (ls := [some (.ref b), none]) (by decide +kernel) (Nat.le_of_ble_eq_true rfl) rfl ?_
  unfold fc_X2_clear at hf
  refine CW.run (blk := [(.iconst 0, 0), (.istore_n 1, 0)]) (pc' := 2) (ls' := [some (.ref b), some (.int 0)]) (st' := []) (by decide +kernel) rfl ?_
  obtain ⟨w10, hw10, hf⟩ := bd_some hf
  refine xc_X2_clear_L2 b hb FU _ _ _ hw10 ?_
  refine CW.run (blk := [(.iconst 0, 0), (.istore_n 1, 0)]) (pc' := 44) (ls' := [some (.ref b), some (.int 0)]) (st' := []) (by decide +kernel) rfl ?_
  obtain ⟨w14, hw14, hf⟩ := bd_some hf
  refine xc_X2_clear_L44 b hb FU _ _ _ hw14 ?_
  refine CW.run (blk := [(.aload_n 0, 0)]) (pc' := 64) (ls' := [some (.ref b), some (.int w14.1)]) (st' := [.ref b]) (by decide +kernel) rfl ?_
  refine CW.getf (v := .ref (b + 6)) hb (by decide) fl_RX2_32 (by decide +kernel) rfl ?_
  refine CW.run (blk := [(.iconst 0, 0)]) (pc' := 68) (ls' := [some (.ref b), some (.int w14.1)]) (st' := [.int 0, .ref (b + 6)]) (by decide +kernel) rfl ?_
  obtain ⟨q15, hq15, hf⟩ := bd_some hf
  refine CW.callV (As := [.int 0]) (st := []) lv_RX2_46 (kk_2_5 hb) (by decide) rfl rfl (by decide +kernel) (xc_X6_cutTo (kk_2_5 hb) hq15) (by decide) (by decide) rfl (Nat.le_of_ble_eq_true rfl) rfl ?_
  show CW l yy_X2_clear 1 _ _ 71 [some (.ref b), some (.int w14.1)] [] q15
  refine CW.run (blk := [(.aload_n 0, 0)]) (pc' := 72) (ls' := [some (.ref b), some (.int w14.1)]) (st' := [.ref b]) (by decide +kernel) rfl ?_
  refine CW.getf (v := .ref (b + 8)) hb (by decide) fl_RX2_36 (by decide +kernel) rfl ?_
  refine CW.run (blk := [(.iconst 0, 0)]) (pc' := 76) (ls' := [some (.ref b), some (.int w14.1)]) (st' := [.int 0, .ref (b + 8)]) (by decide +kernel) rfl ?_
  obtain ⟨q16, hq16, hf⟩ := bd_some hf
  refine CW.callV (As := [.int 0]) (st := []) lv_RX2_46 (kk_2_6 hb) (by decide) rfl rfl (by decide +kernel) (xc_X6_cutTo (kk_2_6 hb) hq16) (by decide) (by decide) rfl (Nat.le_of_ble_eq_true rfl) rfl ?_
  show CW l yy_X2_clear 1 _ _ 79 [some (.ref b), some (.int w14.1)] [] q16
  refine CW.run (blk := [(.aload_n 0, 0)]) (pc' := 80) (ls' := [some (.ref b), some (.int w14.1)]) (st' := [.ref b]) (by decide +kernel) rfl ?_
  refine CW.getf (v := .ref (b + 10)) hb (by decide) fl_RX2_39 (by decide +kernel) rfl ?_
  refine CW.run (blk := [(.iconst 0, 0)]) (pc' := 84) (ls' := [some (.ref b), some (.int w14.1)]) (st' := [.int 0, .ref (b + 10)]) (by decide +kernel) rfl ?_
  obtain ⟨q17, hq17, hf⟩ := bd_some hf
  refine CW.callV (As := [.int 0]) (st := []) lv_RX2_46 (kk_2_7 hb) (by decide) rfl rfl (by decide +kernel) (xc_X6_cutTo (kk_2_7 hb) hq17) (by decide) (by decide) rfl (Nat.le_of_ble_eq_true rfl) rfl ?_
  show CW l yy_X2_clear 1 _ _ 87 [some (.ref b), some (.int w14.1)] [] q17
  refine CW.run (blk := [(.aload_n 0, 0), (.iconst 0, 0)]) (pc' := 89) (ls' := [some (.ref b), some (.int w14.1)]) (st' := [.int 0, .ref b]) (by decide +kernel) rfl ?_
  refine CW.putI hb (by decide) fp_RX2_50 (by decide +kernel) (fun _ _ _ => Nat.le_of_ble_eq_true rfl) rfl rfl (fun _ _ _ => rfl) ?_
  obtain ⟨S18, hS18, hf⟩ := letv_some hf
  rw [← hS18]
  refine CW.run (blk := [(.aload_n 0, 0), (.iconst 0, 0)]) (pc' := 94) (ls' := [some (.ref b), some (.int w14.1)]) (st' := [.int 0, .ref b]) (by decide +kernel) rfl ?_
  refine CW.putI hb (by decide) fp_RX2_53 (by decide +kernel) (fun _ _ _ => Nat.le_of_ble_eq_true rfl) rfl rfl (fun _ _ _ => rfl) ?_
  obtain ⟨S19, hS19, hf⟩ := letv_some hf
  rw [← hS19]
  refine CW.run (blk := [(.aload_n 0, 0), (.iconst 0, 0)]) (pc' := 99) (ls' := [some (.ref b), some (.int w14.1)]) (st' := [.int 0, .ref b]) (by decide +kernel) rfl ?_
  refine CW.putI hb (by decide) fp_RX2_56 (by decide +kernel) (fun _ _ _ => Nat.le_of_ble_eq_true rfl) rfl rfl (fun _ _ _ => rfl) ?_
  obtain ⟨S20, hS20, hf⟩ := letv_some hf
  rw [← hS20]
  refine CW.run (blk := [(.aload_n 0, 0), (.iconst 0, 0)]) (pc' := 104) (ls' := [some (.ref b), some (.int w14.1)]) (st' := [.int 0, .ref b]) (by decide +kernel) rfl ?_
  refine CW.putI hb (by decide) fp_RX2_59 (by decide +kernel) (fun _ _ _ => Nat.le_of_ble_eq_true rfl) rfl rfl (fun _ _ _ => rfl) ?_
  obtain ⟨S21, hS21, hf⟩ := letv_some hf
  rw [← hS21]
  refine CW.run (blk := [(.aload_n 0, 0), (.iconst 0, 0)]) (pc' := 109) (ls' := [some (.ref b), some (.int w14.1)]) (st' := [.int 0, .ref b]) (by decide +kernel) rfl ?_
  refine CW.putI hb (by decide) fp_RX2_63 (by decide +kernel) (fun _ _ _ => Nat.le_of_ble_eq_true rfl) rfl rfl (fun _ _ _ => rfl) ?_
  obtain ⟨S22, hS22, hf⟩ := letv_some hf
  rw [← hS22]
  have e9 := Option.some.inj hf
  subst e9
  exact CW.vret rfl (by decide +kernel)
