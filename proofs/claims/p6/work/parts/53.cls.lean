/-! ===== the class, method by method (by program) 4 ===== -/
def fc_X2_flatterer_L6 (k0 : Nat) (S : cT) : Nat → Int32 → Int32 → Int32 → Option (Int32 × Int32 × Int32)
  | 0, _, _, _ => none
  | N + 1, a1, a2, a3 => if (S.1 k0 9) ≤ a3 then (some (a1, a2, a3)) else ((fc_X2_flatteryOf k0 a3 S).bind fun q2 => if q2 ≤ a2 then (fc_X2_flatterer_L6 k0 S N a1 a2 (a3 + 1)) else (fc_X2_flatterer_L6 k0 S N a3 q2 (a3 + 1)))
def fc_X2_flatterer (b : Nat) (S : cT) : Option (Int32) := (fc_X2_flatterer_L6 b S FU (-1) 0 0).bind fun w4 => some w4.1
theorem xc_X2_flatterer_L6 {l : Launch} {r : Option Value} {S' : cT} (k0 : Nat) (S : cT) (hk0 : cK k0 = 2) : ∀ (N : Nat) (a1 : Int32) (a2 : Int32) (a3 : Int32) (W0 : Int32 × Int32 × Int32) (_ : fc_X2_flatterer_L6 k0 S N a1 a2 a3 = some W0) (_ : CW l yy_X2_flatterer 3 r S' 38 [some (.ref k0), some (.int W0.1), some (.int W0.2.1), some (.int W0.2.2), none] [] S), CW l yy_X2_flatterer 3 r S' 6 [some (.ref k0), some (.int a1), some (.int a2), some (.int a3), none] [] S := by
  intro N
  induction N with
  | zero =>
    intro a1 a2 a3 W0 hf _
    cases hf
  | succ N ih =>
    intro a1 a2 a3 W0 hf hk_1
    unfold fc_X2_flatterer_L6 at hf
    refine CW.run (blk := [(.iload_n 3, 0), (.aload_n 0, 0)]) (pc' := 8) (ls' := [some (.ref k0), some (.int a1), some (.int a2), some (.int a3), none]) (st' := [.ref k0, .int a3]) (by decide +kernel) rfl ?_
    refine CW.getf (v := .int (S.1 k0 9)) hk0 (by decide) fl_RX2_53 (by decide +kernel) rfl ?_
    refine CW.icmp_ge (off := 27) (tgt := 38) (by decide +kernel) (by decide) (fun c11_1 => ?_) (fun c11_1 => ?_)
    · rw [if_pos c11_1] at hf
      have e9 := Option.some.inj hf
      subst e9
      exact hk_1
    · rw [if_neg c11_1] at hf
      refine CW.run (blk := [(.aload_n 0, 0), (.iload_n 3, 0)]) (pc' := 16) (ls' := [some (.ref k0), some (.int a1), some (.int a2), some (.int a3), none]) (st' := [.int a3, .ref k0]) (by decide +kernel) rfl ?_
      obtain ⟨q2, hq2, hf⟩ := bd_some hf
      refine CW.callV (As := [.int a3]) (st := []) lv_RX2_133 hk0 (by decide) rfl rfl (by decide +kernel) (xc_X2_flatteryOf hk0 hq2) (by decide) (by decide) rfl (Nat.le_of_ble_eq_true rfl) rfl ?_
      show CW l yy_X2_flatterer 3 _ _ 19 [some (.ref k0), some (.int a1), some (.int a2), some (.int a3), none] [.int q2] S
      refine CW.run (blk := [(.istore 4, 0), (.iload 4, 0), (.iload_n 2, 0)]) (pc' := 24) (ls' := [some (.ref k0), some (.int a1), some (.int a2), some (.int a3), some (.int q2)]) (st' := [.int a2, .int q2]) (by decide +kernel) rfl ?_
      refine CW.icmp_le (off := 8) (tgt := 32) (by decide +kernel) (by decide) (fun c24_3 => ?_) (fun c24_3 => ?_)
      · rw [if_pos c24_3] at hf
        refine CW.run (blk := [(.iinc 3 1, 1), (.goto (-29), 0)]) (pc' := 6) (ls' := [some (.ref k0), some (.int a1), some (.int a2), some (.int (a3 + 1)), some (.int q2)]) (st' := []) (by decide +kernel) rfl ?_
        refine CW.fgt (ls' := [some (.ref k0), some (.int a1), some (.int a2), some (.int (a3 + 1)), none]) (by repeat' (first | exact trivial | refine ⟨rfl, ?_⟩)) ?_
        exact ih _ _ _ _ hf hk_1
      · rw [if_neg c24_3] at hf
        refine CW.run (blk := [(.iload_n 3, 0), (.istore_n 1, 0), (.iload 4, 0), (.istore_n 2, 0), (.iinc 3 1, 1), (.goto (-29), 0)]) (pc' := 6) (ls' := [some (.ref k0), some (.int a3), some (.int q2), some (.int (a3 + 1)), some (.int q2)]) (st' := []) (by decide +kernel) rfl ?_
        refine CW.fgt (ls' := [some (.ref k0), some (.int a3), some (.int q2), some (.int (a3 + 1)), none]) (by repeat' (first | exact trivial | refine ⟨rfl, ?_⟩)) ?_
        exact ih _ _ _ _ hf hk_1
theorem xc_X2_flatterer {l : Launch} {b : Nat} {S : cT} {q : Int32} (hb : cK b = 2) (hf : fc_X2_flatterer b S = some q) : COk l yy_X2_flatterer 3 [.ref b] S (some (.int q)) S := by
  refine COk.of (ls := [some (.ref b), none, none, none, none]) (by decide +kernel) (Nat.le_of_ble_eq_true rfl) rfl ?_
  unfold fc_X2_flatterer at hf
  refine CW.run (blk := [(.iconst (-1), (-1)), (.istore_n 1, 0), (.iconst 0, 0), (.istore_n 2, 0), (.iconst 0, 0), (.istore_n 3, 0)]) (pc' := 6) (ls' := [some (.ref b), some (.int (-1)), some (.int 0), some (.int 0), none]) (st' := []) (by decide +kernel) rfl ?_
  obtain ⟨w4, hw4, hf⟩ := bd_some hf
  refine xc_X2_flatterer_L6 b S hb FU _ _ _ _ hw4 ?_
  refine CW.run (blk := [(.iload_n 1, 0)]) (pc' := 39) (ls' := [some (.ref b), some (.int w4.1), some (.int w4.2.1), some (.int w4.2.2), none]) (st' := [.int w4.1]) (by decide +kernel) rfl ?_
  have e9 := Option.some.inj hf
  subst e9
  exact CW.iret rfl (by decide +kernel)
def fc_X2_firstOf_L4 (k0 : Nat) (S : cT) : Nat → Int32 → Int32 → Option (Int32 × Int32)
  | 0, _, _ => none
  | N + 1, a2, a3 => if 40 ≤ a3 then (some (a2, a3)) else ((fc_X6_at (k0 + 6) a2 5 S).bind fun q2 => if q2 = (-1) then (some (a2, a3)) else ((fc_X6_at (k0 + 6) a2 5 S).bind fun q4 => fc_X2_firstOf_L4 k0 S N q4 (a3 + 1)))
def fc_X2_firstOf (b : Nat) (p0 : Int32) (S : cT) : Option (Int32) := (fc_X2_firstOf_L4 b S FU p0 0).bind fun w5 => some w5.1
theorem xc_X2_firstOf_L4 {l : Launch} {r : Option Value} {S' : cT} (k0 : Nat) (k1 : Int32) (S : cT) (hk0 : cK k0 = 2) : ∀ (N : Nat) (a2 : Int32) (a3 : Int32) (W0 : Int32 × Int32) (_ : fc_X2_firstOf_L4 k0 S N a2 a3 = some W0) (_ : CW l yy_X2_firstOf 2 r S' 39 [some (.ref k0), some (.int k1), some (.int W0.1), some (.int W0.2)] [] S), CW l yy_X2_firstOf 2 r S' 4 [some (.ref k0), some (.int k1), some (.int a2), some (.int a3)] [] S := by
  intro N
  induction N with
  | zero =>
    intro a2 a3 W0 hf _
    cases hf
  | succ N ih =>
    intro a2 a3 W0 hf hk_1
    unfold fc_X2_firstOf_L4 at hf
    refine CW.run (blk := [(.iload_n 3, 0), (.bipush 40, 40)]) (pc' := 7) (ls' := [some (.ref k0), some (.int k1), some (.int a2), some (.int a3)]) (st' := [.int 40, .int a3]) (by decide +kernel) rfl ?_
    refine CW.icmp_ge (off := 32) (tgt := 39) (by decide +kernel) (by decide) (fun c7_1 => ?_) (fun c7_1 => ?_)
    · rw [if_pos c7_1] at hf
      have e9 := Option.some.inj hf
      subst e9
      exact hk_1
    · rw [if_neg c7_1] at hf
      refine CW.run (blk := [(.aload_n 0, 0)]) (pc' := 11) (ls' := [some (.ref k0), some (.int k1), some (.int a2), some (.int a3)]) (st' := [.ref k0]) (by decide +kernel) rfl ?_
      refine CW.getf (v := .ref (k0 + 6)) hk0 (by decide) fl_RX2_32 (by decide +kernel) rfl ?_
      refine CW.run (blk := [(.iload_n 2, 0), (.iconst 5, 5)]) (pc' := 16) (ls' := [some (.ref k0), some (.int k1), some (.int a2), some (.int a3)]) (st' := [.int 5, .int a2, .ref (k0 + 6)]) (by decide +kernel) rfl ?_
      obtain ⟨q2, hq2, hf⟩ := bd_some hf
      refine CW.callV (As := [.int a2, .int 5]) (st := []) lv_RX2_102 (kk_2_5 hk0) (by decide) rfl rfl (by decide +kernel) (xc_X6_at (kk_2_5 hk0) hq2) (by decide) (by decide) rfl (Nat.le_of_ble_eq_true rfl) rfl ?_
      show CW l yy_X2_firstOf 2 _ _ 19 [some (.ref k0), some (.int k1), some (.int a2), some (.int a3)] [.int q2] S
      refine CW.run (blk := [(.iconst (-1), (-1))]) (pc' := 20) (ls' := [some (.ref k0), some (.int k1), some (.int a2), some (.int a3)]) (st' := [.int (-1), .int q2]) (by decide +kernel) rfl ?_
      refine CW.icmp_eq (off := 19) (tgt := 39) (by decide +kernel) (by decide) (fun c20_3 => ?_) (fun c20_3 => ?_)
      · rw [if_pos c20_3] at hf
        have e9 := Option.some.inj hf
        subst e9
        exact hk_1
      · rw [if_neg c20_3] at hf
        refine CW.run (blk := [(.aload_n 0, 0)]) (pc' := 24) (ls' := [some (.ref k0), some (.int k1), some (.int a2), some (.int a3)]) (st' := [.ref k0]) (by decide +kernel) rfl ?_
        refine CW.getf (v := .ref (k0 + 6)) hk0 (by decide) fl_RX2_32 (by decide +kernel) rfl ?_
        refine CW.run (blk := [(.iload_n 2, 0), (.iconst 5, 5)]) (pc' := 29) (ls' := [some (.ref k0), some (.int k1), some (.int a2), some (.int a3)]) (st' := [.int 5, .int a2, .ref (k0 + 6)]) (by decide +kernel) rfl ?_
        obtain ⟨q4, hq4, hf⟩ := bd_some hf
        refine CW.callV (As := [.int a2, .int 5]) (st := []) lv_RX2_102 (kk_2_5 hk0) (by decide) rfl rfl (by decide +kernel) (xc_X6_at (kk_2_5 hk0) hq4) (by decide) (by decide) rfl (Nat.le_of_ble_eq_true rfl) rfl ?_
        show CW l yy_X2_firstOf 2 _ _ 32 [some (.ref k0), some (.int k1), some (.int a2), some (.int a3)] [.int q4] S
        refine CW.run (blk := [(.istore_n 2, 0), (.iinc 3 1, 1), (.goto (-32), 0)]) (pc' := 4) (ls' := [some (.ref k0), some (.int k1), some (.int q4), some (.int (a3 + 1))]) (st' := []) (by decide +kernel) rfl ?_
        exact ih _ _ _ hf hk_1
theorem xc_X2_firstOf {l : Launch} {b : Nat} {p0 : Int32} {S : cT} {q : Int32} (hb : cK b = 2) (hf : fc_X2_firstOf b p0 S = some q) : COk l yy_X2_firstOf 2 [.ref b, .int p0] S (some (.int q)) S := by
  refine COk.of (ls := [some (.ref b), some (.int p0), none, none]) (by decide +kernel) (Nat.le_of_ble_eq_true rfl) rfl ?_
  unfold fc_X2_firstOf at hf
  refine CW.run (blk := [(.iload_n 1, 0), (.istore_n 2, 0), (.iconst 0, 0), (.istore_n 3, 0)]) (pc' := 4) (ls' := [some (.ref b), some (.int p0), some (.int p0), some (.int 0)]) (st' := []) (by decide +kernel) rfl ?_
  obtain ⟨w5, hw5, hf⟩ := bd_some hf
  refine xc_X2_firstOf_L4 b p0 S hb FU _ _ _ hw5 ?_
  refine CW.run (blk := [(.iload_n 2, 0)]) (pc' := 40) (ls' := [some (.ref b), some (.int p0), some (.int w5.1), some (.int w5.2)]) (st' := [.int w5.1]) (by decide +kernel) rfl ?_
  have e9 := Option.some.inj hf
  subst e9
  exact CW.iret rfl (by decide +kernel)
def fc_X2_slippedAt_L8 (k0 : Nat) (k2 : Int32) (S : cT) : Nat → Int32 → Int32 → Int32 → Option (Int32 × Int32 × Int32)
  | 0, _, _, _ => none
  | N + 1, a3, a4, a5 => if 40 ≤ a5 then (some (a3, a4, a5)) else ((fc_X6_at (k0 + 6) a4 5 S).bind fun q2 => if q2 = (-1) then (some (a3, a4, a5)) else ((fc_X6_at (k0 + 6) a4 5 S).bind fun q4 => (fc_X6_at (k0 + 6) a4 3 S).bind fun q5 => (fc_X6_at (k0 + 6) q4 3 S).bind fun q6 => if ((((q5 ^^^ q6) : Int32) >>> (k2 &&& 31)) &&& 1) = 0 then (fc_X2_slippedAt_L8 k0 k2 S N a3 q4 (a5 + 1)) else (fc_X2_slippedAt_L8 k0 k2 S N a4 q4 (a5 + 1))))
def fc_X2_slippedAt (b : Nat) (p0 : Int32) (p1 : Int32) (S : cT) : Option (Int32) := (fc_X2_slippedAt_L8 b p1 S FU (-1) p0 0).bind fun w8 => some w8.1
theorem xc_X2_slippedAt_L8 {l : Launch} {r : Option Value} {S' : cT} (k0 : Nat) (k1 : Int32) (k2 : Int32) (S : cT) (hk0 : cK k0 = 2) : ∀ (N : Nat) (a3 : Int32) (a4 : Int32) (a5 : Int32) (W0 : Int32 × Int32 × Int32) (_ : fc_X2_slippedAt_L8 k0 k2 S N a3 a4 a5 = some W0) (_ : CW l yy_X2_slippedAt 2 r S' 82 [some (.ref k0), some (.int k1), some (.int k2), some (.int W0.1), some (.int W0.2.1), some (.int W0.2.2), none] [] S), CW l yy_X2_slippedAt 2 r S' 8 [some (.ref k0), some (.int k1), some (.int k2), some (.int a3), some (.int a4), some (.int a5), none] [] S := by
  intro N
  induction N with
  | zero =>
    intro a3 a4 a5 W0 hf _
    cases hf
  | succ N ih =>
    intro a3 a4 a5 W0 hf hk_1
    unfold fc_X2_slippedAt_L8 at hf
    refine CW.run (blk := [(.iload 5, 0), (.bipush 40, 40)]) (pc' := 12) (ls' := [some (.ref k0), some (.int k1), some (.int k2), some (.int a3), some (.int a4), some (.int a5), none]) (st' := [.int 40, .int a5]) (by decide +kernel) rfl ?_
    refine CW.icmp_ge (off := 70) (tgt := 82) (by decide +kernel) (by decide) (fun c12_1 => ?_) (fun c12_1 => ?_)
    · rw [if_pos c12_1] at hf
      have e9 := Option.some.inj hf
      subst e9
      exact hk_1
    · rw [if_neg c12_1] at hf
      refine CW.run (blk := [(.aload_n 0, 0)]) (pc' := 16) (ls' := [some (.ref k0), some (.int k1), some (.int k2), some (.int a3), some (.int a4), some (.int a5), none]) (st' := [.ref k0]) (by decide +kernel) rfl ?_
      refine CW.getf (v := .ref (k0 + 6)) hk0 (by decide) fl_RX2_32 (by decide +kernel) rfl ?_
      refine CW.run (blk := [(.iload 4, 0), (.iconst 5, 5)]) (pc' := 22) (ls' := [some (.ref k0), some (.int k1), some (.int k2), some (.int a3), some (.int a4), some (.int a5), none]) (st' := [.int 5, .int a4, .ref (k0 + 6)]) (by decide +kernel) rfl ?_
      obtain ⟨q2, hq2, hf⟩ := bd_some hf
      refine CW.callV (As := [.int a4, .int 5]) (st := []) lv_RX2_102 (kk_2_5 hk0) (by decide) rfl rfl (by decide +kernel) (xc_X6_at (kk_2_5 hk0) hq2) (by decide) (by decide) rfl (Nat.le_of_ble_eq_true rfl) rfl ?_
      show CW l yy_X2_slippedAt 2 _ _ 25 [some (.ref k0), some (.int k1), some (.int k2), some (.int a3), some (.int a4), some (.int a5), none] [.int q2] S
      refine CW.run (blk := [(.iconst (-1), (-1))]) (pc' := 26) (ls' := [some (.ref k0), some (.int k1), some (.int k2), some (.int a3), some (.int a4), some (.int a5), none]) (st' := [.int (-1), .int q2]) (by decide +kernel) rfl ?_
      refine CW.icmp_eq (off := 56) (tgt := 82) (by decide +kernel) (by decide) (fun c26_3 => ?_) (fun c26_3 => ?_)
      · rw [if_pos c26_3] at hf
        have e9 := Option.some.inj hf
        subst e9
        exact hk_1
      · rw [if_neg c26_3] at hf
        refine CW.run (blk := [(.aload_n 0, 0)]) (pc' := 30) (ls' := [some (.ref k0), some (.int k1), some (.int k2), some (.int a3), some (.int a4), some (.int a5), none]) (st' := [.ref k0]) (by decide +kernel) rfl ?_
        refine CW.getf (v := .ref (k0 + 6)) hk0 (by decide) fl_RX2_32 (by decide +kernel) rfl ?_
        refine CW.run (blk := [(.iload 4, 0), (.iconst 5, 5)]) (pc' := 36) (ls' := [some (.ref k0), some (.int k1), some (.int k2), some (.int a3), some (.int a4), some (.int a5), none]) (st' := [.int 5, .int a4, .ref (k0 + 6)]) (by decide +kernel) rfl ?_
        obtain ⟨q4, hq4, hf⟩ := bd_some hf
        refine CW.callV (As := [.int a4, .int 5]) (st := []) lv_RX2_102 (kk_2_5 hk0) (by decide) rfl rfl (by decide +kernel) (xc_X6_at (kk_2_5 hk0) hq4) (by decide) (by decide) rfl (Nat.le_of_ble_eq_true rfl) rfl ?_
        show CW l yy_X2_slippedAt 2 _ _ 39 [some (.ref k0), some (.int k1), some (.int k2), some (.int a3), some (.int a4), some (.int a5), none] [.int q4] S
        refine CW.run (blk := [(.istore 6, 0), (.aload_n 0, 0)]) (pc' := 42) (ls' := [some (.ref k0), some (.int k1), some (.int k2), some (.int a3), some (.int a4), some (.int a5), some (.int q4)]) (st' := [.ref k0]) (by decide +kernel) rfl ?_
        refine CW.getf (v := .ref (k0 + 6)) hk0 (by decide) fl_RX2_32 (by decide +kernel) rfl ?_
        refine CW.run (blk := [(.iload 4, 0), (.iconst 3, 3)]) (pc' := 48) (ls' := [some (.ref k0), some (.int k1), some (.int k2), some (.int a3), some (.int a4), some (.int a5), some (.int q4)]) (st' := [.int 3, .int a4, .ref (k0 + 6)]) (by decide +kernel) rfl ?_
        obtain ⟨q5, hq5, hf⟩ := bd_some hf
        refine CW.callV (As := [.int a4, .int 3]) (st := []) lv_RX2_102 (kk_2_5 hk0) (by decide) rfl rfl (by decide +kernel) (xc_X6_at (kk_2_5 hk0) hq5) (by decide) (by decide) rfl (Nat.le_of_ble_eq_true rfl) rfl ?_
        show CW l yy_X2_slippedAt 2 _ _ 51 [some (.ref k0), some (.int k1), some (.int k2), some (.int a3), some (.int a4), some (.int a5), some (.int q4)] [.int q5] S
        refine CW.run (blk := [(.aload_n 0, 0)]) (pc' := 52) (ls' := [some (.ref k0), some (.int k1), some (.int k2), some (.int a3), some (.int a4), some (.int a5), some (.int q4)]) (st' := [.ref k0, .int q5]) (by decide +kernel) rfl ?_
        refine CW.getf (v := .ref (k0 + 6)) hk0 (by decide) fl_RX2_32 (by decide +kernel) rfl ?_
        refine CW.run (blk := [(.iload 6, 0), (.iconst 3, 3)]) (pc' := 58) (ls' := [some (.ref k0), some (.int k1), some (.int k2), some (.int a3), some (.int a4), some (.int a5), some (.int q4)]) (st' := [.int 3, .int q4, .ref (k0 + 6), .int q5]) (by decide +kernel) rfl ?_
        obtain ⟨q6, hq6, hf⟩ := bd_some hf
        refine CW.callV (As := [.int q4, .int 3]) (st := [.int q5]) lv_RX2_102 (kk_2_5 hk0) (by decide) rfl rfl (by decide +kernel) (xc_X6_at (kk_2_5 hk0) hq6) (by decide) (by decide) rfl (Nat.le_of_ble_eq_true rfl) rfl ?_
        show CW l yy_X2_slippedAt 2 _ _ 61 [some (.ref k0), some (.int k1), some (.int k2), some (.int a3), some (.int a4), some (.int a5), some (.int q4)] [.int q6, .int q5] S
        refine CW.run (blk := [(.ixor, 0), (.iload_n 2, 0), (.ishr, 0), (.iconst 1, 1), (.iand, 0)]) (pc' := 66) (ls' := [some (.ref k0), some (.int k1), some (.int k2), some (.int a3), some (.int a4), some (.int a5), some (.int q4)]) (st' := [.int ((((q5 ^^^ q6) : Int32) >>> (k2 &&& 31)) &&& 1)]) (by decide +kernel) rfl ?_
        refine CW.if_eq (off := 6) (tgt := 72) (by decide +kernel) (by decide) (fun c66_7 => ?_) (fun c66_7 => ?_)
        · rw [if_pos c66_7] at hf
          refine CW.run (blk := [(.iload 6, 0), (.istore 4, 0), (.iinc 5 1, 1), (.goto (-71), 0)]) (pc' := 8) (ls' := [some (.ref k0), some (.int k1), some (.int k2), some (.int a3), some (.int q4), some (.int (a5 + 1)), some (.int q4)]) (st' := []) (by decide +kernel) rfl ?_
          refine CW.fgt (ls' := [some (.ref k0), some (.int k1), some (.int k2), some (.int a3), some (.int q4), some (.int (a5 + 1)), none]) (by repeat' (first | exact trivial | refine ⟨rfl, ?_⟩)) ?_
          exact ih _ _ _ _ hf hk_1
        · rw [if_neg c66_7] at hf
          refine CW.run (blk := [(.iload 4, 0), (.istore_n 3, 0), (.iload 6, 0), (.istore 4, 0), (.iinc 5 1, 1), (.goto (-71), 0)]) (pc' := 8) (ls' := [some (.ref k0), some (.int k1), some (.int k2), some (.int a4), some (.int q4), some (.int (a5 + 1)), some (.int q4)]) (st' := []) (by decide +kernel) rfl ?_
          refine CW.fgt (ls' := [some (.ref k0), some (.int k1), some (.int k2), some (.int a4), some (.int q4), some (.int (a5 + 1)), none]) (by repeat' (first | exact trivial | refine ⟨rfl, ?_⟩)) ?_
          exact ih _ _ _ _ hf hk_1
theorem xc_X2_slippedAt {l : Launch} {b : Nat} {p0 : Int32} {p1 : Int32} {S : cT} {q : Int32} (hb : cK b = 2) (hf : fc_X2_slippedAt b p0 p1 S = some q) : COk l yy_X2_slippedAt 2 [.ref b, .int p0, .int p1] S (some (.int q)) S := by
  refine COk.of (ls := [some (.ref b), some (.int p0), some (.int p1), none, none, none, none]) (by decide +kernel) (Nat.le_of_ble_eq_true rfl) rfl ?_
  unfold fc_X2_slippedAt at hf
  refine CW.run (blk := [(.iconst (-1), (-1)), (.istore_n 3, 0), (.iload_n 1, 0), (.istore 4, 0), (.iconst 0, 0), (.istore 5, 0)]) (pc' := 8) (ls' := [some (.ref b), some (.int p0), some (.int p1), some (.int (-1)), some (.int p0), some (.int 0), none]) (st' := []) (by decide +kernel) rfl ?_
  obtain ⟨w8, hw8, hf⟩ := bd_some hf
  refine xc_X2_slippedAt_L8 b p0 p1 S hb FU _ _ _ _ hw8 ?_
  refine CW.run (blk := [(.iload_n 3, 0)]) (pc' := 83) (ls' := [some (.ref b), some (.int p0), some (.int p1), some (.int w8.1), some (.int w8.2.1), some (.int w8.2.2), none]) (st' := [.int w8.1]) (by decide +kernel) rfl ?_
  have e9 := Option.some.inj hf
  subst e9
  exact CW.iret rfl (by decide +kernel)
def fc_X2_peopleFitting_L4 (k0 : Nat) (k1 : Int32) (S : cT) : Nat → Int32 → Int32 → Option (Int32 × Int32)
  | 0, _, _ => none
  | N + 1, a2, a3 => if (S.1 k0 9) ≤ a3 then (some (a2, a3)) else ((fc_X2_faceOf k0 a3 S).bind fun q2 => (fc_X2_canBeOf k0 k1 q2 S).bind fun q3 => if (b2i q3) = 0 then (fc_X2_peopleFitting_L4 k0 k1 S N a2 (a3 + 1)) else (fc_X2_peopleFitting_L4 k0 k1 S N (a2 ||| ((1 : Int32) <<< (a3 &&& 31))) (a3 + 1)))
def fc_X2_peopleFitting (b : Nat) (p0 : Int32) (S : cT) : Option (Int32) := (fc_X2_peopleFitting_L4 b p0 S FU 0 0).bind fun w5 => some w5.1
theorem xc_X2_peopleFitting_L4 {l : Launch} {r : Option Value} {S' : cT} (k0 : Nat) (k1 : Int32) (S : cT) (hk0 : cK k0 = 2) : ∀ (N : Nat) (a2 : Int32) (a3 : Int32) (W0 : Int32 × Int32) (_ : fc_X2_peopleFitting_L4 k0 k1 S N a2 a3 = some W0) (_ : CW l yy_X2_peopleFitting 3 r S' 37 [some (.ref k0), some (.int k1), some (.int W0.1), some (.int W0.2)] [] S), CW l yy_X2_peopleFitting 3 r S' 4 [some (.ref k0), some (.int k1), some (.int a2), some (.int a3)] [] S := by
  intro N
  induction N with
  | zero =>
    intro a2 a3 W0 hf _
    cases hf
  | succ N ih =>
    intro a2 a3 W0 hf hk_1
    unfold fc_X2_peopleFitting_L4 at hf
    refine CW.run (blk := [(.iload_n 3, 0), (.aload_n 0, 0)]) (pc' := 6) (ls' := [some (.ref k0), some (.int k1), some (.int a2), some (.int a3)]) (st' := [.ref k0, .int a3]) (by decide +kernel) rfl ?_
    refine CW.getf (v := .int (S.1 k0 9)) hk0 (by decide) fl_RX2_53 (by decide +kernel) rfl ?_
    refine CW.icmp_ge (off := 28) (tgt := 37) (by decide +kernel) (by decide) (fun c9_1 => ?_) (fun c9_1 => ?_)
    · rw [if_pos c9_1] at hf
      have e9 := Option.some.inj hf
      subst e9
      exact hk_1
    · rw [if_neg c9_1] at hf
      refine CW.run (blk := [(.aload_n 0, 0), (.iload_n 1, 0), (.aload_n 0, 0), (.iload_n 3, 0)]) (pc' := 16) (ls' := [some (.ref k0), some (.int k1), some (.int a2), some (.int a3)]) (st' := [.int a3, .ref k0, .int k1, .ref k0]) (by decide +kernel) rfl ?_
      obtain ⟨q2, hq2, hf⟩ := bd_some hf
      refine CW.callV (As := [.int a3]) (st := [.int k1, .ref k0]) lv_RX2_111 hk0 (by decide) rfl rfl (by decide +kernel) (xc_X2_faceOf hk0 hq2) (by decide) (by decide) rfl (Nat.le_of_ble_eq_true rfl) rfl ?_
      show CW l yy_X2_peopleFitting 3 _ _ 19 [some (.ref k0), some (.int k1), some (.int a2), some (.int a3)] [.int q2, .int k1, .ref k0] S
      obtain ⟨q3, hq3, hf⟩ := bd_some hf
      refine CW.callV (As := [.int k1, .int q2]) (st := []) lv_RX2_136 hk0 (by decide) rfl rfl (by decide +kernel) (xc_X2_canBeOf hk0 hq3) (by decide) (by decide) rfl (Nat.le_of_ble_eq_true rfl) rfl ?_
      show CW l yy_X2_peopleFitting 3 _ _ 22 [some (.ref k0), some (.int k1), some (.int a2), some (.int a3)] [.int (b2i q3)] S
      refine CW.if_eq (off := 9) (tgt := 31) (by decide +kernel) (by decide) (fun c22_4 => ?_) (fun c22_4 => ?_)
      · rw [if_pos c22_4] at hf
        refine CW.run (blk := [(.iinc 3 1, 1), (.goto (-30), 0)]) (pc' := 4) (ls' := [some (.ref k0), some (.int k1), some (.int a2), some (.int (a3 + 1))]) (st' := []) (by decide +kernel) rfl ?_
        exact ih _ _ _ hf hk_1
      · rw [if_neg c22_4] at hf
        refine CW.run (blk := [(.iload_n 2, 0), (.iconst 1, 1), (.iload_n 3, 0), (.ishl, 0), (.ior, 0), (.istore_n 2, 0), (.iinc 3 1, 1), (.goto (-30), 0)]) (pc' := 4) (ls' := [some (.ref k0), some (.int k1), some (.int (a2 ||| ((1 : Int32) <<< (a3 &&& 31)))), some (.int (a3 + 1))]) (st' := []) (by decide +kernel) rfl ?_
        exact ih _ _ _ hf hk_1
theorem xc_X2_peopleFitting {l : Launch} {b : Nat} {p0 : Int32} {S : cT} {q : Int32} (hb : cK b = 2) (hf : fc_X2_peopleFitting b p0 S = some q) : COk l yy_X2_peopleFitting 3 [.ref b, .int p0] S (some (.int q)) S := by
  refine COk.of (ls := [some (.ref b), some (.int p0), none, none]) (by decide +kernel) (Nat.le_of_ble_eq_true rfl) rfl ?_
  unfold fc_X2_peopleFitting at hf
  refine CW.run (blk := [(.iconst 0, 0), (.istore_n 2, 0), (.iconst 0, 0), (.istore_n 3, 0)]) (pc' := 4) (ls' := [some (.ref b), some (.int p0), some (.int 0), some (.int 0)]) (st' := []) (by decide +kernel) rfl ?_
  obtain ⟨w5, hw5, hf⟩ := bd_some hf
  refine xc_X2_peopleFitting_L4 b p0 S hb FU _ _ _ hw5 ?_
  refine CW.run (blk := [(.iload_n 2, 0)]) (pc' := 38) (ls' := [some (.ref b), some (.int p0), some (.int w5.1), some (.int w5.2)]) (st' := [.int w5.1]) (by decide +kernel) rfl ?_
  have e9 := Option.some.inj hf
  subst e9
  exact CW.iret rfl (by decide +kernel)
def fc_X2_mostViewsOfOne_L4 (k0 : Nat) (S : cT) : Nat → Int32 → Int32 → Option (Int32 × Int32)
  | 0, _, _ => none
  | N + 1, a1, a2 => if (S.1 k0 9) ≤ a2 then (some (a1, a2)) else ((fc_X2_faceOf k0 a2 S).bind fun q2 => (fc_X2_viewsOf k0 q2 S).bind fun q3 => (fc_J6_bitCount_0f7a4 q3).bind fun q4 => fc_X2_mostViewsOfOne_L4 k0 S N (mxI a1 q4) (a2 + 1))
def fc_X2_mostViewsOfOne (b : Nat) (S : cT) : Option (Int32) := (fc_X2_mostViewsOfOne_L4 b S FU 0 0).bind fun w5 => some w5.1
theorem xc_X2_mostViewsOfOne_L4 {l : Launch} {r : Option Value} {S' : cT} (k0 : Nat) (S : cT) (hk0 : cK k0 = 2) : ∀ (N : Nat) (a1 : Int32) (a2 : Int32) (W0 : Int32 × Int32) (_ : fc_X2_mostViewsOfOne_L4 k0 S N a1 a2 = some W0) (_ : CW l yy_X2_mostViewsOfOne 4 r S' 35 [some (.ref k0), some (.int W0.1), some (.int W0.2)] [] S), CW l yy_X2_mostViewsOfOne 4 r S' 4 [some (.ref k0), some (.int a1), some (.int a2)] [] S := by
  intro N
  induction N with
  | zero =>
    intro a1 a2 W0 hf _
    cases hf
  | succ N ih =>
    intro a1 a2 W0 hf hk_1
    unfold fc_X2_mostViewsOfOne_L4 at hf
    refine CW.run (blk := [(.iload_n 2, 0), (.aload_n 0, 0)]) (pc' := 6) (ls' := [some (.ref k0), some (.int a1), some (.int a2)]) (st' := [.ref k0, .int a2]) (by decide +kernel) rfl ?_
    refine CW.getf (v := .int (S.1 k0 9)) hk0 (by decide) fl_RX2_53 (by decide +kernel) rfl ?_
    refine CW.icmp_ge (off := 26) (tgt := 35) (by decide +kernel) (by decide) (fun c9_1 => ?_) (fun c9_1 => ?_)
    · rw [if_pos c9_1] at hf
      have e9 := Option.some.inj hf
      subst e9
      exact hk_1
    · rw [if_neg c9_1] at hf
      refine CW.run (blk := [(.iload_n 1, 0), (.aload_n 0, 0), (.aload_n 0, 0), (.iload_n 2, 0)]) (pc' := 16) (ls' := [some (.ref k0), some (.int a1), some (.int a2)]) (st' := [.int a2, .ref k0, .ref k0, .int a1]) (by decide +kernel) rfl ?_
      obtain ⟨q2, hq2, hf⟩ := bd_some hf
      refine CW.callV (As := [.int a2]) (st := [.ref k0, .int a1]) lv_RX2_111 hk0 (by decide) rfl rfl (by decide +kernel) (xc_X2_faceOf hk0 hq2) (by decide) (by decide) rfl (Nat.le_of_ble_eq_true rfl) rfl ?_
      show CW l yy_X2_mostViewsOfOne 4 _ _ 19 [some (.ref k0), some (.int a1), some (.int a2)] [.int q2, .ref k0, .int a1] S
      obtain ⟨q3, hq3, hf⟩ := bd_some hf
      refine CW.callV (As := [.int q2]) (st := [.int a1]) lv_RX2_139 hk0 (by decide) rfl rfl (by decide +kernel) (xc_X2_viewsOf hk0 hq3) (by decide) (by decide) rfl (Nat.le_of_ble_eq_true rfl) rfl ?_
      show CW l yy_X2_mostViewsOfOne 4 _ _ 22 [some (.ref k0), some (.int a1), some (.int a2)] [.int q3, .int a1] S
      obtain ⟨q4, hq4, hf⟩ := bd_some hf
      refine CW.callP (As := [.int q3]) (st := [.int a1]) lt_RX2_128 (by decide +kernel) (xc_J6_bitCount_0f7a4 hq4) (by decide) (by decide) rfl (Nat.le_of_ble_eq_true rfl) rfl ?_
      show CW l yy_X2_mostViewsOfOne 4 _ _ 25 [some (.ref k0), some (.int a1), some (.int a2)] [.int q4, .int a1] S
      refine CW.mmax (idx := 142) (tb_in 985 (by decide +kernel) (by decide +kernel)) (by decide +kernel) (by decide) (Nat.le_of_ble_eq_true rfl) ?_
      refine CW.run (blk := [(.istore_n 1, 0), (.iinc 2 1, 1), (.goto (-28), 0)]) (pc' := 4) (ls' := [some (.ref k0), some (.int (mxI a1 q4)), some (.int (a2 + 1))]) (st' := []) (by decide +kernel) rfl ?_
      exact ih _ _ _ hf hk_1
theorem xc_X2_mostViewsOfOne {l : Launch} {b : Nat} {S : cT} {q : Int32} (hb : cK b = 2) (hf : fc_X2_mostViewsOfOne b S = some q) : COk l yy_X2_mostViewsOfOne 4 [.ref b] S (some (.int q)) S := by
  refine COk.of (ls := [some (.ref b), none, none]) (by decide +kernel) (Nat.le_of_ble_eq_true rfl) rfl ?_
  unfold fc_X2_mostViewsOfOne at hf
  refine CW.run (blk := [(.iconst 0, 0), (.istore_n 1, 0), (.iconst 0, 0), (.istore_n 2, 0)]) (pc' := 4) (ls' := [some (.ref b), some (.int 0), some (.int 0)]) (st' := []) (by decide +kernel) rfl ?_
  obtain ⟨w5, hw5, hf⟩ := bd_some hf
  refine xc_X2_mostViewsOfOne_L4 b S hb FU _ _ _ hw5 ?_
  refine CW.run (blk := [(.iload_n 1, 0)]) (pc' := 36) (ls' := [some (.ref b), some (.int w5.1), some (.int w5.2)]) (st' := [.int w5.1]) (by decide +kernel) rfl ?_
  have e9 := Option.some.inj hf
  subst e9
  exact CW.iret rfl (by decide +kernel)
def fc_X2_sworn_L4 (k0 : Nat) (k1 : Int32) (S : cT) : Nat → Int32 → Int32 → Option (Int32 × Int32)
  | 0, _, _ => none
  | N + 1, a2, a3 => if (S.1 k0 9) ≤ a3 then (some (a2, a3)) else ((fc_X2_faceOf k0 a3 S).bind fun q2 => (fc_X2_viewsOf k0 q2 S).bind fun q3 => (fc_J6_bitCount_0f7a4 q3).bind fun q4 => if q4 = k1 then (fc_X2_sworn_L4 k0 k1 S N (a2 ||| ((1 : Int32) <<< (a3 &&& 31))) (a3 + 1)) else (fc_X2_sworn_L4 k0 k1 S N a2 (a3 + 1)))
def fc_X2_sworn (b : Nat) (p0 : Int32) (S : cT) : Option (Int32) := (fc_X2_sworn_L4 b p0 S FU 0 0).bind fun w6 => some w6.1
theorem xc_X2_sworn_L4 {l : Launch} {r : Option Value} {S' : cT} (k0 : Nat) (k1 : Int32) (S : cT) (hk0 : cK k0 = 2) : ∀ (N : Nat) (a2 : Int32) (a3 : Int32) (W0 : Int32 × Int32) (_ : fc_X2_sworn_L4 k0 k1 S N a2 a3 = some W0) (_ : CW l yy_X2_sworn 4 r S' 40 [some (.ref k0), some (.int k1), some (.int W0.1), some (.int W0.2)] [] S), CW l yy_X2_sworn 4 r S' 4 [some (.ref k0), some (.int k1), some (.int a2), some (.int a3)] [] S := by
  intro N
  induction N with
  | zero =>
    intro a2 a3 W0 hf _
    cases hf
  | succ N ih =>
    intro a2 a3 W0 hf hk_1
    unfold fc_X2_sworn_L4 at hf
    refine CW.run (blk := [(.iload_n 3, 0), (.aload_n 0, 0)]) (pc' := 6) (ls' := [some (.ref k0), some (.int k1), some (.int a2), some (.int a3)]) (st' := [.ref k0, .int a3]) (by decide +kernel) rfl ?_
    refine CW.getf (v := .int (S.1 k0 9)) hk0 (by decide) fl_RX2_53 (by decide +kernel) rfl ?_
    refine CW.icmp_ge (off := 31) (tgt := 40) (by decide +kernel) (by decide) (fun c9_1 => ?_) (fun c9_1 => ?_)
    · rw [if_pos c9_1] at hf
      have e9 := Option.some.inj hf
      subst e9
      exact hk_1
    · rw [if_neg c9_1] at hf
      refine CW.run (blk := [(.aload_n 0, 0), (.aload_n 0, 0), (.iload_n 3, 0)]) (pc' := 15) (ls' := [some (.ref k0), some (.int k1), some (.int a2), some (.int a3)]) (st' := [.int a3, .ref k0, .ref k0]) (by decide +kernel) rfl ?_
      obtain ⟨q2, hq2, hf⟩ := bd_some hf
      refine CW.callV (As := [.int a3]) (st := [.ref k0]) lv_RX2_111 hk0 (by decide) rfl rfl (by decide +kernel) (xc_X2_faceOf hk0 hq2) (by decide) (by decide) rfl (Nat.le_of_ble_eq_true rfl) rfl ?_
      show CW l yy_X2_sworn 4 _ _ 18 [some (.ref k0), some (.int k1), some (.int a2), some (.int a3)] [.int q2, .ref k0] S
      obtain ⟨q3, hq3, hf⟩ := bd_some hf
      refine CW.callV (As := [.int q2]) (st := []) lv_RX2_139 hk0 (by decide) rfl rfl (by decide +kernel) (xc_X2_viewsOf hk0 hq3) (by decide) (by decide) rfl (Nat.le_of_ble_eq_true rfl) rfl ?_
      show CW l yy_X2_sworn 4 _ _ 21 [some (.ref k0), some (.int k1), some (.int a2), some (.int a3)] [.int q3] S
      obtain ⟨q4, hq4, hf⟩ := bd_some hf
      refine CW.callP (As := [.int q3]) (st := []) lt_RX2_128 (by decide +kernel) (xc_J6_bitCount_0f7a4 hq4) (by decide) (by decide) rfl (Nat.le_of_ble_eq_true rfl) rfl ?_
      show CW l yy_X2_sworn 4 _ _ 24 [some (.ref k0), some (.int k1), some (.int a2), some (.int a3)] [.int q4] S
      refine CW.run (blk := [(.iload_n 1, 0)]) (pc' := 25) (ls' := [some (.ref k0), some (.int k1), some (.int a2), some (.int a3)]) (st' := [.int k1, .int q4]) (by decide +kernel) rfl ?_
      refine CW.icmp_ne (off := 9) (tgt := 34) (by decide +kernel) (by decide) (fun c25_5 => ?_) (fun c25_5 => ?_)
      · rw [if_neg c25_5] at hf
        refine CW.run (blk := [(.iinc 3 1, 1), (.goto (-33), 0)]) (pc' := 4) (ls' := [some (.ref k0), some (.int k1), some (.int a2), some (.int (a3 + 1))]) (st' := []) (by decide +kernel) rfl ?_
        exact ih _ _ _ hf hk_1
      · rw [if_pos c25_5] at hf
        refine CW.run (blk := [(.iload_n 2, 0), (.iconst 1, 1), (.iload_n 3, 0), (.ishl, 0), (.ior, 0), (.istore_n 2, 0), (.iinc 3 1, 1), (.goto (-33), 0)]) (pc' := 4) (ls' := [some (.ref k0), some (.int k1), some (.int (a2 ||| ((1 : Int32) <<< (a3 &&& 31)))), some (.int (a3 + 1))]) (st' := []) (by decide +kernel) rfl ?_
        exact ih _ _ _ hf hk_1
theorem xc_X2_sworn {l : Launch} {b : Nat} {p0 : Int32} {S : cT} {q : Int32} (hb : cK b = 2) (hf : fc_X2_sworn b p0 S = some q) : COk l yy_X2_sworn 4 [.ref b, .int p0] S (some (.int q)) S := by
  refine COk.of (ls := [some (.ref b), some (.int p0), none, none]) (by decide +kernel) (Nat.le_of_ble_eq_true rfl) rfl ?_
  unfold fc_X2_sworn at hf
  refine CW.run (blk := [(.iconst 0, 0), (.istore_n 2, 0), (.iconst 0, 0), (.istore_n 3, 0)]) (pc' := 4) (ls' := [some (.ref b), some (.int p0), some (.int 0), some (.int 0)]) (st' := []) (by decide +kernel) rfl ?_
  obtain ⟨w6, hw6, hf⟩ := bd_some hf
  refine xc_X2_sworn_L4 b p0 S hb FU _ _ _ hw6 ?_
  refine CW.run (blk := [(.iload_n 2, 0)]) (pc' := 41) (ls' := [some (.ref b), some (.int p0), some (.int w6.1), some (.int w6.2)]) (st' := [.int w6.1]) (by decide +kernel) rfl ?_
  have e9 := Option.some.inj hf
  subst e9
  exact CW.iret rfl (by decide +kernel)
def fc_X10_byteAt (b : Nat) (p0 : Int32) (S : cT) : Option (Int32) := if p0 < 0 then (some 0) else (if (S.1 b 4) ≤ p0 then (some 0) else (if 400 ≤ p0 then (some 0) else (bif inb p0 400 then (letv (S.1 (b + 1) (p0 : Int32).toNatClampNeg) fun v4 => some v4) else none)))
theorem xc_X10_byteAt {l : Launch} {b : Nat} {p0 : Int32} {S : cT} {q : Int32} (hb : cK b = 8) (hf : fc_X10_byteAt b p0 S = some q) : COk l yy_X10_byteAt 0 [.ref b, .int p0] S (some (.int q)) S := by
  refine COk.of (ls := [some (.ref b), some (.int p0)]) (by decide +kernel) (Nat.le_of_ble_eq_true rfl) rfl ?_
  unfold fc_X10_byteAt at hf
  refine CW.run (blk := [(.iload_n 1, 0)]) (pc' := 1) (ls' := [some (.ref b), some (.int p0)]) (st' := [.int p0]) (by decide +kernel) rfl ?_
  refine CW.if_lt (off := 27) (tgt := 28) (by decide +kernel) (by decide) (fun c1_1 => ?_) (fun c1_1 => ?_)
  · rw [if_pos c1_1] at hf
    refine CW.run (blk := [(.iconst 0, 0)]) (pc' := 29) (ls' := [some (.ref b), some (.int p0)]) (st' := [.int 0]) (by decide +kernel) rfl ?_
    have e9 := Option.some.inj hf
    subst e9
    exact CW.iret rfl (by decide +kernel)
  · rw [if_neg c1_1] at hf
    refine CW.run (blk := [(.iload_n 1, 0), (.aload_n 0, 0)]) (pc' := 6) (ls' := [some (.ref b), some (.int p0)]) (st' := [.ref b, .int p0]) (by decide +kernel) rfl ?_
    refine CW.getf (v := .int (S.1 b 4)) hb (by decide) fl_RX10_22 (by decide +kernel) rfl ?_
    refine CW.icmp_ge (off := 19) (tgt := 28) (by decide +kernel) (by decide) (fun c9_2 => ?_) (fun c9_2 => ?_)
    · rw [if_pos c9_2] at hf
      refine CW.run (blk := [(.iconst 0, 0)]) (pc' := 29) (ls' := [some (.ref b), some (.int p0)]) (st' := [.int 0]) (by decide +kernel) rfl ?_
      have e9 := Option.some.inj hf
      subst e9
      exact CW.iret rfl (by decide +kernel)
    · rw [if_neg c9_2] at hf
      refine CW.run (blk := [(.iload_n 1, 0), (.sipush 400, 400)]) (pc' := 16) (ls' := [some (.ref b), some (.int p0)]) (st' := [.int 400, .int p0]) (by decide +kernel) rfl ?_
      refine CW.icmp_ge (off := 12) (tgt := 28) (by decide +kernel) (by decide) (fun c16_3 => ?_) (fun c16_3 => ?_)
      · rw [if_pos c16_3] at hf
        refine CW.run (blk := [(.iconst 0, 0)]) (pc' := 29) (ls' := [some (.ref b), some (.int p0)]) (st' := [.int 0]) (by decide +kernel) rfl ?_
        have e9 := Option.some.inj hf
        subst e9
        exact CW.iret rfl (by decide +kernel)
      · rw [if_neg c16_3] at hf
        refine CW.run (blk := [(.aload_n 0, 0)]) (pc' := 20) (ls' := [some (.ref b), some (.int p0)]) (st' := [.ref b]) (by decide +kernel) rfl ?_
        refine CW.getf (v := .ref (b + 1)) hb (by decide) fl_RX10_9 (by decide +kernel) rfl ?_
        refine CW.run (blk := [(.iload_n 1, 0)]) (pc' := 24) (ls' := [some (.ref b), some (.int p0)]) (st' := [.int p0, .ref (b + 1)]) (by decide +kernel) rfl ?_
        obtain ⟨hi_v4, hf⟩ := bi_some hf
        obtain ⟨v4, hv4, hf⟩ := letv_some hf
        refine CW.iald (kk_8_0 hb) (kn_8_0 hb) (by decide +kernel) (inb_in hi_v4) ?_
        rw [← hv4]
        refine CW.run (blk := [(.goto 4, 0)]) (pc' := 29) (ls' := [some (.ref b), some (.int p0)]) (st' := [.int v4]) (by decide +kernel) rfl ?_
        have e9 := Option.some.inj hf
        subst e9
        exact CW.iret rfl (by decide +kernel)
def fc_X10_isDigit (p0 : Int32) : Option (Bool) := if p0 < 48 then (some false) else (if 57 < p0 then (some false) else (some true))
theorem xc_X10_isDigit {l : Launch} {p0 : Int32} {q : Bool} (hf : fc_X10_isDigit p0 = some q) : POk l yy_X10_isDigit 0 [.int p0] (some (.int (b2i q))) := by
  refine POk.of (ls := [some (.int p0)]) (by decide +kernel) (Nat.le_of_ble_eq_true rfl) rfl ?_
  unfold fc_X10_isDigit at hf
  refine PW.run (blk := [(.iload_n 0, 0), (.bipush 48, 48)]) (pc' := 3) (ls' := [some (.int p0)]) (st' := [.int 48, .int p0]) (by decide +kernel) rfl ?_
  refine PW.icmp_lt (off := 13) (tgt := 16) (by decide +kernel) (by decide) (fun c3_1 => ?_) (fun c3_1 => ?_)
  · rw [if_pos c3_1] at hf
    refine PW.run (blk := [(.iconst 0, 0)]) (pc' := 17) (ls' := [some (.int p0)]) (st' := [.int 0]) (by decide +kernel) rfl ?_
    have e9 := Option.some.inj hf
    subst e9
    exact PW.zret rfl (b2i_nar _) (by decide +kernel)
  · rw [if_neg c3_1] at hf
    refine PW.run (blk := [(.iload_n 0, 0), (.bipush 57, 57)]) (pc' := 9) (ls' := [some (.int p0)]) (st' := [.int 57, .int p0]) (by decide +kernel) rfl ?_
    refine PW.icmp_gt (off := 7) (tgt := 16) (by decide +kernel) (by decide) (fun c9_2 => ?_) (fun c9_2 => ?_)
    · rw [if_pos c9_2] at hf
      refine PW.run (blk := [(.iconst 0, 0)]) (pc' := 17) (ls' := [some (.int p0)]) (st' := [.int 0]) (by decide +kernel) rfl ?_
      have e9 := Option.some.inj hf
      subst e9
      exact PW.zret rfl (b2i_nar _) (by decide +kernel)
    · rw [if_neg c9_2] at hf
      refine PW.run (blk := [(.iconst 1, 1), (.goto 4, 0)]) (pc' := 17) (ls' := [some (.int p0)]) (st' := [.int 1]) (by decide +kernel) rfl ?_
      have e9 := Option.some.inj hf
      subst e9
      exact PW.zret rfl (b2i_nar _) (by decide +kernel)
def fc_X10_addToken (b : Nat) (p0 : Int32) (p1 : Int32) (p2 : Int32) (S : cT) : Option (cT) := if (S.1 b 5) < 0 then (some S) else (if 400 < (S.1 b 5) then (some S) else (bif inb (S.1 b 5) 401 then (letv (ca S (b + 2) ((S.1 b 5) : Int32).toNatClampNeg p0) fun S4 => bif inb (S4.1 b 5) 401 then (letv (ca S4 (b + 3) ((S4.1 b 5) : Int32).toNatClampNeg p1) fun S6 => bif inb (S6.1 b 5) 401 then (letv (ca S6 (b + 4) ((S6.1 b 5) : Int32).toNatClampNeg p2) fun S8 => letv (ca S8 b 5 ((S8.1 b 5) + 1)) fun S9 => some S9) else none) else none) else none))
theorem xc_X10_addToken {l : Launch} {b : Nat} {p0 : Int32} {p1 : Int32} {p2 : Int32} {S : cT} {q : cT} (hb : cK b = 8) (hf : fc_X10_addToken b p0 p1 p2 S = some q) : COk l yy_X10_addToken 0 [.ref b, .int p0, .int p1, .int p2] S none q := by
  refine COk.of (ls := [some (.ref b), some (.int p0), some (.int p1), some (.int p2)]) (by decide +kernel) (Nat.le_of_ble_eq_true rfl) rfl ?_
  unfold fc_X10_addToken at hf
  refine CW.run (blk := [(.aload_n 0, 0)]) (pc' := 1) (ls' := [some (.ref b), some (.int p0), some (.int p1), some (.int p2)]) (st' := [.ref b]) (by decide +kernel) rfl ?_
  refine CW.getf (v := .int (S.1 b 5)) hb (by decide) fl_RX10_26 (by decide +kernel) rfl ?_
  refine CW.if_lt (off := 53) (tgt := 57) (by decide +kernel) (by decide) (fun c4_1 => ?_) (fun c4_1 => ?_)
  · rw [if_pos c4_1] at hf
    have e9 := Option.some.inj hf
    subst e9
    exact CW.vret rfl (by decide +kernel)
  · rw [if_neg c4_1] at hf
    refine CW.run (blk := [(.aload_n 0, 0)]) (pc' := 8) (ls' := [some (.ref b), some (.int p0), some (.int p1), some (.int p2)]) (st' := [.ref b]) (by decide +kernel) rfl ?_
    refine CW.getf (v := .int (S.1 b 5)) hb (by decide) fl_RX10_26 (by decide +kernel) rfl ?_
    refine CW.run (blk := [(.sipush 400, 400)]) (pc' := 14) (ls' := [some (.ref b), some (.int p0), some (.int p1), some (.int p2)]) (st' := [.int 400, .int (S.1 b 5)]) (by decide +kernel) rfl ?_
    refine CW.icmp_gt (off := 43) (tgt := 57) (by decide +kernel) (by decide) (fun c14_2 => ?_) (fun c14_2 => ?_)
    · rw [if_pos c14_2] at hf
      have e9 := Option.some.inj hf
      subst e9
      exact CW.vret rfl (by decide +kernel)
    · rw [if_neg c14_2] at hf
      refine CW.run (blk := [(.aload_n 0, 0)]) (pc' := 18) (ls' := [some (.ref b), some (.int p0), some (.int p1), some (.int p2)]) (st' := [.ref b]) (by decide +kernel) rfl ?_
      refine CW.getf (v := .ref (b + 2)) hb (by decide) fl_RX10_13 (by decide +kernel) rfl ?_
      refine CW.run (blk := [(.aload_n 0, 0)]) (pc' := 22) (ls' := [some (.ref b), some (.int p0), some (.int p1), some (.int p2)]) (st' := [.ref b, .ref (b + 2)]) (by decide +kernel) rfl ?_
      refine CW.getf (v := .int (S.1 b 5)) hb (by decide) fl_RX10_26 (by decide +kernel) rfl ?_
      refine CW.run (blk := [(.iload_n 1, 0)]) (pc' := 26) (ls' := [some (.ref b), some (.int p0), some (.int p1), some (.int p2)]) (st' := [.int p0, .int (S.1 b 5), .ref (b + 2)]) (by decide +kernel) rfl ?_
      obtain ⟨hi3, hf⟩ := bi_some hf
      refine CW.iast (kk_8_1 hb) (kn_8_1 hb) (by decide +kernel) (inb_in hi3) ?_
      obtain ⟨S4, hS4, hf⟩ := letv_some hf
      rw [← hS4]
      refine CW.run (blk := [(.aload_n 0, 0)]) (pc' := 28) (ls' := [some (.ref b), some (.int p0), some (.int p1), some (.int p2)]) (st' := [.ref b]) (by decide +kernel) rfl ?_
      refine CW.getf (v := .ref (b + 3)) hb (by decide) fl_RX10_16 (by decide +kernel) rfl ?_
      refine CW.run (blk := [(.aload_n 0, 0)]) (pc' := 32) (ls' := [some (.ref b), some (.int p0), some (.int p1), some (.int p2)]) (st' := [.ref b, .ref (b + 3)]) (by decide +kernel) rfl ?_
      refine CW.getf (v := .int (S4.1 b 5)) hb (by decide) fl_RX10_26 (by decide +kernel) rfl ?_
      refine CW.run (blk := [(.iload_n 2, 0)]) (pc' := 36) (ls' := [some (.ref b), some (.int p0), some (.int p1), some (.int p2)]) (st' := [.int p1, .int (S4.1 b 5), .ref (b + 3)]) (by decide +kernel) rfl ?_
      obtain ⟨hi5, hf⟩ := bi_some hf
      refine CW.iast (kk_8_2 hb) (kn_8_2 hb) (by decide +kernel) (inb_in hi5) ?_
      obtain ⟨S6, hS6, hf⟩ := letv_some hf
      rw [← hS6]
      refine CW.run (blk := [(.aload_n 0, 0)]) (pc' := 38) (ls' := [some (.ref b), some (.int p0), some (.int p1), some (.int p2)]) (st' := [.ref b]) (by decide +kernel) rfl ?_
      refine CW.getf (v := .ref (b + 4)) hb (by decide) fl_RX10_19 (by decide +kernel) rfl ?_
      refine CW.run (blk := [(.aload_n 0, 0)]) (pc' := 42) (ls' := [some (.ref b), some (.int p0), some (.int p1), some (.int p2)]) (st' := [.ref b, .ref (b + 4)]) (by decide +kernel) rfl ?_
      refine CW.getf (v := .int (S6.1 b 5)) hb (by decide) fl_RX10_26 (by decide +kernel) rfl ?_
      refine CW.run (blk := [(.iload_n 3, 0)]) (pc' := 46) (ls' := [some (.ref b), some (.int p0), some (.int p1), some (.int p2)]) (st' := [.int p2, .int (S6.1 b 5), .ref (b + 4)]) (by decide +kernel) rfl ?_
      obtain ⟨hi7, hf⟩ := bi_some hf
      refine CW.iast (kk_8_3 hb) (kn_8_3 hb) (by decide +kernel) (inb_in hi7) ?_
      obtain ⟨S8, hS8, hf⟩ := letv_some hf
      rw [← hS8]
      refine CW.run (blk := [(.aload_n 0, 0), (.dup, 0)]) (pc' := 49) (ls' := [some (.ref b), some (.int p0), some (.int p1), some (.int p2)]) (st' := [.ref b, .ref b]) (by decide +kernel) rfl ?_
      refine CW.getf (v := .int (S8.1 b 5)) hb (by decide) fl_RX10_26 (by decide +kernel) rfl ?_
      refine CW.run (blk := [(.iconst 1, 1), (.iadd, 0)]) (pc' := 54) (ls' := [some (.ref b), some (.int p0), some (.int p1), some (.int p2)]) (st' := [.int ((S8.1 b 5) + 1), .ref b]) (by decide +kernel) rfl ?_
      refine CW.putI hb (by decide) fp_RX10_26 (by decide +kernel) (fun _ _ _ => Nat.le_of_ble_eq_true rfl) rfl rfl (fun _ _ _ => rfl) ?_
      obtain ⟨S9, hS9, hf⟩ := letv_some hf
      rw [← hS9]
      have e9 := Option.some.inj hf
      subst e9
      exact CW.vret rfl (by decide +kernel)
def fc_X10_scanNumber_L7 (k0 : Nat) (S : cT) : Nat → Int32 → Int32 → Int32 → Option (Int32 × Int32 × Int32)
  | 0, _, _, _ => none
  | N + 1, a2, a3, a4 => if 400 ≤ a4 then (some (a2, a3, a4)) else ((fc_X10_byteAt k0 a2 S).bind fun q2 => (fc_X10_isDigit q2).bind fun q3 => if (b2i q3) = 0 then (some (a2, a3, a4)) else (if 5 ≤ a4 then (fc_X10_scanNumber_L7 k0 S N (a2 + 1) a3 (a4 + 1)) else ((fc_X10_byteAt k0 a2 S).bind fun q6 => fc_X10_scanNumber_L7 k0 S N (a2 + 1) (((a3 * 10) + q6) - 48) (a4 + 1))))
def fc_X10_scanNumber (b : Nat) (p0 : Int32) (S : cT) : Option (Int32 × cT) := (fc_X10_scanNumber_L7 b S FU p0 0 0).bind fun w7 => if (w7.1 - p0) ≤ 5 then ((fc_X10_addToken b 258 p0 w7.2.1 S).bind fun q9 => some (w7.1, q9)) else ((fc_X10_addToken b 258 p0 (-1) S).bind fun q10 => some (w7.1, q10))
theorem xc_X10_scanNumber_L7 {l : Launch} {r : Option Value} {S' : cT} (k0 : Nat) (k1 : Int32) (S : cT) (hk0 : cK k0 = 8) : ∀ (N : Nat) (a2 : Int32) (a3 : Int32) (a4 : Int32) (W0 : Int32 × Int32 × Int32) (_ : fc_X10_scanNumber_L7 k0 S N a2 a3 a4 = some W0) (_ : CW l yy_X10_scanNumber 1 r S' 55 [some (.ref k0), some (.int k1), some (.int W0.1), some (.int W0.2.1), some (.int W0.2.2)] [] S), CW l yy_X10_scanNumber 1 r S' 7 [some (.ref k0), some (.int k1), some (.int a2), some (.int a3), some (.int a4)] [] S := by
  intro N
  induction N with
  | zero =>
    intro a2 a3 a4 W0 hf _
    cases hf
  | succ N ih =>
    intro a2 a3 a4 W0 hf hk_1
    unfold fc_X10_scanNumber_L7 at hf
    refine CW.run (blk := [(.iload 4, 0), (.sipush 400, 400)]) (pc' := 12) (ls' := [some (.ref k0), some (.int k1), some (.int a2), some (.int a3), some (.int a4)]) (st' := [.int 400, .int a4]) (by decide +kernel) rfl ?_
    refine CW.icmp_ge (off := 43) (tgt := 55) (by decide +kernel) (by decide) (fun c12_1 => ?_) (fun c12_1 => ?_)
    · rw [if_pos c12_1] at hf
      have e9 := Option.some.inj hf
      subst e9
      exact hk_1
    · rw [if_neg c12_1] at hf
      refine CW.run (blk := [(.aload_n 0, 0), (.iload_n 2, 0)]) (pc' := 17) (ls' := [some (.ref k0), some (.int k1), some (.int a2), some (.int a3), some (.int a4)]) (st' := [.int a2, .ref k0]) (by decide +kernel) rfl ?_
      obtain ⟨q2, hq2, hf⟩ := bd_some hf
      refine CW.callV (As := [.int a2]) (st := []) lv_RX10_49 hk0 (by decide) rfl rfl (by decide +kernel) (xc_X10_byteAt hk0 hq2) (by decide) (by decide) rfl (Nat.le_of_ble_eq_true rfl) rfl ?_
      show CW l yy_X10_scanNumber 1 _ _ 20 [some (.ref k0), some (.int k1), some (.int a2), some (.int a3), some (.int a4)] [.int q2] S
      obtain ⟨q3, hq3, hf⟩ := bd_some hf
      refine CW.callP (As := [.int q2]) (st := []) lt_RX10_52 (by decide +kernel) (xc_X10_isDigit hq3) (by decide) (by decide) rfl (Nat.le_of_ble_eq_true rfl) rfl ?_
      show CW l yy_X10_scanNumber 1 _ _ 23 [some (.ref k0), some (.int k1), some (.int a2), some (.int a3), some (.int a4)] [.int (b2i q3)] S
      refine CW.if_eq (off := 32) (tgt := 55) (by decide +kernel) (by decide) (fun c23_4 => ?_) (fun c23_4 => ?_)
      · rw [if_pos c23_4] at hf
        have e9 := Option.some.inj hf
        subst e9
        exact hk_1
      · rw [if_neg c23_4] at hf
        refine CW.run (blk := [(.iload 4, 0), (.iconst 5, 5)]) (pc' := 29) (ls' := [some (.ref k0), some (.int k1), some (.int a2), some (.int a3), some (.int a4)]) (st' := [.int 5, .int a4]) (by decide +kernel) rfl ?_
        refine CW.icmp_ge (off := 17) (tgt := 46) (by decide +kernel) (by decide) (fun c29_5 => ?_) (fun c29_5 => ?_)
        · rw [if_pos c29_5] at hf
          refine CW.run (blk := [(.iinc 2 1, 1), (.iinc 4 1, 1), (.goto (-45), 0)]) (pc' := 7) (ls' := [some (.ref k0), some (.int k1), some (.int (a2 + 1)), some (.int a3), some (.int (a4 + 1))]) (st' := []) (by decide +kernel) rfl ?_
          exact ih _ _ _ _ hf hk_1
        · rw [if_neg c29_5] at hf
          refine CW.run (blk := [(.iload_n 3, 0), (.bipush 10, 10), (.imul, 0), (.aload_n 0, 0), (.iload_n 2, 0)]) (pc' := 38) (ls' := [some (.ref k0), some (.int k1), some (.int a2), some (.int a3), some (.int a4)]) (st' := [.int a2, .ref k0, .int (a3 * 10)]) (by decide +kernel) rfl ?_
          obtain ⟨q6, hq6, hf⟩ := bd_some hf
          refine CW.callV (As := [.int a2]) (st := [.int (a3 * 10)]) lv_RX10_49 hk0 (by decide) rfl rfl (by decide +kernel) (xc_X10_byteAt hk0 hq6) (by decide) (by decide) rfl (Nat.le_of_ble_eq_true rfl) rfl ?_
          show CW l yy_X10_scanNumber 1 _ _ 41 [some (.ref k0), some (.int k1), some (.int a2), some (.int a3), some (.int a4)] [.int q6, .int (a3 * 10)] S
          refine CW.run (blk := [(.iadd, 0), (.bipush 48, 48), (.isub, 0), (.istore_n 3, 0), (.iinc 2 1, 1), (.iinc 4 1, 1), (.goto (-45), 0)]) (pc' := 7) (ls' := [some (.ref k0), some (.int k1), some (.int (a2 + 1)), some (.int (((a3 * 10) + q6) - 48)), some (.int (a4 + 1))]) (st' := []) (by decide +kernel) rfl ?_
          exact ih _ _ _ _ hf hk_1
theorem xc_X10_scanNumber {l : Launch} {b : Nat} {p0 : Int32} {S : cT} {q : Int32 × cT} (hb : cK b = 8) (hf : fc_X10_scanNumber b p0 S = some q) : COk l yy_X10_scanNumber 1 [.ref b, .int p0] S (some (.int q.1)) q.2 := by
  refine COk.of (ls := [some (.ref b), some (.int p0), none, none, none]) (by decide +kernel) (Nat.le_of_ble_eq_true rfl) rfl ?_
  unfold fc_X10_scanNumber at hf
  refine CW.run (blk := [(.iload_n 1, 0), (.istore_n 2, 0), (.iconst 0, 0), (.istore_n 3, 0), (.iconst 0, 0), (.istore 4, 0)]) (pc' := 7) (ls' := [some (.ref b), some (.int p0), some (.int p0), some (.int 0), some (.int 0)]) (st' := []) (by decide +kernel) rfl ?_
  obtain ⟨w7, hw7, hf⟩ := bd_some hf
  refine xc_X10_scanNumber_L7 b p0 S hb FU _ _ _ _ hw7 ?_
  refine CW.run (blk := [(.aload_n 0, 0), (.sipush 258, 258), (.iload_n 1, 0), (.iload_n 2, 0), (.iload_n 1, 0), (.isub, 0), (.iconst 5, 5)]) (pc' := 64) (ls' := [some (.ref b), some (.int p0), some (.int w7.1), some (.int w7.2.1), some (.int w7.2.2)]) (st' := [.int 5, .int (w7.1 - p0), .int p0, .int 258, .ref b]) (by decide +kernel) rfl ?_
  refine CW.icmp_le (off := 7) (tgt := 71) (by decide +kernel) (by decide) (fun c64_8 => ?_) (fun c64_8 => ?_)
  · rw [if_pos c64_8] at hf
    refine CW.run (blk := [(.iload_n 3, 0)]) (pc' := 72) (ls' := [some (.ref b), some (.int p0), some (.int w7.1), some (.int w7.2.1), some (.int w7.2.2)]) (st' := [.int w7.2.1, .int p0, .int 258, .ref b]) (by decide +kernel) rfl ?_
    obtain ⟨q9, hq9, hf⟩ := bd_some hf
    refine CW.callV (As := [.int 258, .int p0, .int w7.2.1]) (st := []) lv_RX10_39 hb (by decide) rfl rfl (by decide +kernel) (xc_X10_addToken hb hq9) (by decide) (by decide) rfl (Nat.le_of_ble_eq_true rfl) rfl ?_
    show CW l yy_X10_scanNumber 1 _ _ 75 [some (.ref b), some (.int p0), some (.int w7.1), some (.int w7.2.1), some (.int w7.2.2)] [] q9
    refine CW.run (blk := [(.iload_n 2, 0)]) (pc' := 76) (ls' := [some (.ref b), some (.int p0), some (.int w7.1), some (.int w7.2.1), some (.int w7.2.2)]) (st' := [.int w7.1]) (by decide +kernel) rfl ?_
    have e9 := Option.some.inj hf
    subst e9
    exact CW.iret rfl (by decide +kernel)
  · rw [if_neg c64_8] at hf
    refine CW.run (blk := [(.iconst (-1), (-1)), (.goto 4, 0)]) (pc' := 72) (ls' := [some (.ref b), some (.int p0), some (.int w7.1), some (.int w7.2.1), some (.int w7.2.2)]) (st' := [.int (-1), .int p0, .int 258, .ref b]) (by decide +kernel) rfl ?_
    obtain ⟨q10, hq10, hf⟩ := bd_some hf
    refine CW.callV (As := [.int 258, .int p0, .int (-1)]) (st := []) lv_RX10_39 hb (by decide) rfl rfl (by decide +kernel) (xc_X10_addToken hb hq10) (by decide) (by decide) rfl (Nat.le_of_ble_eq_true rfl) rfl ?_
    show CW l yy_X10_scanNumber 1 _ _ 75 [some (.ref b), some (.int p0), some (.int w7.1), some (.int w7.2.1), some (.int w7.2.2)] [] q10
    refine CW.run (blk := [(.iload_n 2, 0)]) (pc' := 76) (ls' := [some (.ref b), some (.int p0), some (.int w7.1), some (.int w7.2.1), some (.int w7.2.2)]) (st' := [.int w7.1]) (by decide +kernel) rfl ?_
    have e9 := Option.some.inj hf
    subst e9
    exact CW.iret rfl (by decide +kernel)
def fc_X10_isLetter (p0 : Int32) : Option (Bool) := if p0 < 97 then (some false) else (if 122 < p0 then (some false) else (some true))
theorem xc_X10_isLetter {l : Launch} {p0 : Int32} {q : Bool} (hf : fc_X10_isLetter p0 = some q) : POk l yy_X10_isLetter 0 [.int p0] (some (.int (b2i q))) := by
  refine POk.of (ls := [some (.int p0)]) (by decide +kernel) (Nat.le_of_ble_eq_true rfl) rfl ?_
  unfold fc_X10_isLetter at hf
  refine PW.run (blk := [(.iload_n 0, 0), (.bipush 97, 97)]) (pc' := 3) (ls' := [some (.int p0)]) (st' := [.int 97, .int p0]) (by decide +kernel) rfl ?_
  refine PW.icmp_lt (off := 13) (tgt := 16) (by decide +kernel) (by decide) (fun c3_1 => ?_) (fun c3_1 => ?_)
  · rw [if_pos c3_1] at hf
    refine PW.run (blk := [(.iconst 0, 0)]) (pc' := 17) (ls' := [some (.int p0)]) (st' := [.int 0]) (by decide +kernel) rfl ?_
    have e9 := Option.some.inj hf
    subst e9
    exact PW.zret rfl (b2i_nar _) (by decide +kernel)
  · rw [if_neg c3_1] at hf
    refine PW.run (blk := [(.iload_n 0, 0), (.bipush 122, 122)]) (pc' := 9) (ls' := [some (.int p0)]) (st' := [.int 122, .int p0]) (by decide +kernel) rfl ?_
    refine PW.icmp_gt (off := 7) (tgt := 16) (by decide +kernel) (by decide) (fun c9_2 => ?_) (fun c9_2 => ?_)
    · rw [if_pos c9_2] at hf
      refine PW.run (blk := [(.iconst 0, 0)]) (pc' := 17) (ls' := [some (.int p0)]) (st' := [.int 0]) (by decide +kernel) rfl ?_
      have e9 := Option.some.inj hf
      subst e9
      exact PW.zret rfl (b2i_nar _) (by decide +kernel)
    · rw [if_neg c9_2] at hf
      refine PW.run (blk := [(.iconst 1, 1), (.goto 4, 0)]) (pc' := 17) (ls' := [some (.int p0)]) (st' := [.int 1]) (by decide +kernel) rfl ?_
      have e9 := Option.some.inj hf
      subst e9
      exact PW.zret rfl (b2i_nar _) (by decide +kernel)
def fc_X10_isWordAt_L3 (k0 : Nat) (k1 : Int32) (k2 : Int32) (k3 : Int32) (S : cT) : Nat → Int32 → Option ((Int32) ⊕ (Bool))
  | 0, _ => none
  | N + 1, a4 => if k2 ≤ a4 then (some (.inl (a4))) else (if 93 ≤ a4 then (some (.inl (a4))) else (bif inb a4 93 then ((fc_X10_byteAt k0 ((k3 + a4) - k1) S).bind fun q4 => if (wby.getD (a4 : Int32).toNatClampNeg 0) = q4 then (fc_X10_isWordAt_L3 k0 k1 k2 k3 S N (a4 + 1)) else (some (.inr false))) else none))
def fc_X10_isWordAt (b : Nat) (p0 : Int32) (p1 : Int32) (p2 : Int32) (S : cT) : Option (Bool) := (fc_X10_isWordAt_L3 b p0 p1 p2 S FU p0).bind fun w6 => Sum.elim (fun w6a => some true) (fun w6b => some w6b) w6
theorem xc_X10_isWordAt_L3 {l : Launch} {r : Option Value} {S' : cT} (k0 : Nat) (k1 : Int32) (k2 : Int32) (k3 : Int32) (S : cT) (hk0 : cK k0 = 8) : ∀ (N : Nat) (a4 : Int32) (W0 : (Int32) ⊕ (Bool)) (_ : fc_X10_isWordAt_L3 k0 k1 k2 k3 S N a4 = some W0) (_ : ∀ W, W0 = .inl W → CW l yy_X10_isWordAt 6 r S' 47 [some (.ref k0), some (.int k1), some (.int k2), some (.int k3), some (.int W)] [] S) (_ : ∀ Y, W0 = .inr Y → r = some (.int (b2i (Y))) ∧ S' = S), CW l yy_X10_isWordAt 6 r S' 3 [some (.ref k0), some (.int k1), some (.int k2), some (.int k3), some (.int a4)] [] S := by
  intro N
  induction N with
  | zero =>
    intro a4 W0 hf _ _
    cases hf
  | succ N ih =>
    intro a4 W0 hf hk_1 hk_2
    unfold fc_X10_isWordAt_L3 at hf
    refine CW.run (blk := [(.iload 4, 0), (.iload_n 2, 0)]) (pc' := 6) (ls' := [some (.ref k0), some (.int k1), some (.int k2), some (.int k3), some (.int a4)]) (st' := [.int k2, .int a4]) (by decide +kernel) rfl ?_
    refine CW.icmp_ge (off := 41) (tgt := 47) (by decide +kernel) (by decide) (fun c6_1 => ?_) (fun c6_1 => ?_)
    · rw [if_pos c6_1] at hf
      have e9 := Option.some.inj hf
      subst e9
      exact hk_1 (a4) rfl
    · rw [if_neg c6_1] at hf
      refine CW.run (blk := [(.iload 4, 0)]) (pc' := 11) (ls' := [some (.ref k0), some (.int k1), some (.int k2), some (.int k3), some (.int a4)]) (st' := [.int a4]) (by decide +kernel) rfl ?_
      refine CW.ldcS rfl (by decide +kernel) ?_
      refine CW.strlen rfl (by decide +kernel) (by decide) (Nat.le_of_ble_eq_true rfl) ?_
      refine CW.icmp_ge (off := 31) (tgt := 47) (by decide +kernel) (by decide) (fun c16_2 => ?_) (fun c16_2 => ?_)
      · rw [if_pos c16_2] at hf
        have e9 := Option.some.inj hf
        subst e9
        exact hk_1 (a4) rfl
      · rw [if_neg c16_2] at hf
        refine CW.ldcS rfl (by decide +kernel) ?_
        refine CW.run (blk := [(.iload 4, 0)]) (pc' := 23) (ls' := [some (.ref k0), some (.int k1), some (.int k2), some (.int k3), some (.int a4)]) (st' := [.int a4, .ref kS]) (by decide +kernel) rfl ?_
        obtain ⟨hi3, hf⟩ := bi_some hf
        refine CW.charAt rfl (by decide +kernel) (inb_in hi3) (by decide) (Nat.le_of_ble_eq_true rfl) ?_
        refine CW.run (blk := [(.aload_n 0, 0), (.iload_n 3, 0), (.iload 4, 0), (.iadd, 0), (.iload_n 1, 0), (.isub, 0)]) (pc' := 33) (ls' := [some (.ref k0), some (.int k1), some (.int k2), some (.int k3), some (.int a4)]) (st' := [.int ((k3 + a4) - k1), .ref k0, .int (wby.getD (a4 : Int32).toNatClampNeg 0)]) (by decide +kernel) rfl ?_
        obtain ⟨q4, hq4, hf⟩ := bd_some hf
        refine CW.callV (As := [.int ((k3 + a4) - k1)]) (st := [.int (wby.getD (a4 : Int32).toNatClampNeg 0)]) lv_RX10_49 hk0 (by decide) rfl rfl (by decide +kernel) (xc_X10_byteAt hk0 hq4) (by decide) (by decide) rfl (Nat.le_of_ble_eq_true rfl) rfl ?_
        show CW l yy_X10_isWordAt 6 _ _ 36 [some (.ref k0), some (.int k1), some (.int k2), some (.int k3), some (.int a4)] [.int q4, .int (wby.getD (a4 : Int32).toNatClampNeg 0)] S
        refine CW.icmp_eq (off := 5) (tgt := 41) (by decide +kernel) (by decide) (fun c36_5 => ?_) (fun c36_5 => ?_)
        · rw [if_pos c36_5] at hf
          refine CW.run (blk := [(.iinc 4 1, 1), (.goto (-41), 0)]) (pc' := 3) (ls' := [some (.ref k0), some (.int k1), some (.int k2), some (.int k3), some (.int (a4 + 1))]) (st' := []) (by decide +kernel) rfl ?_
          exact ih _ _ hf hk_1 hk_2
        · rw [if_neg c36_5] at hf
          refine CW.run (blk := [(.iconst 0, 0)]) (pc' := 40) (ls' := [some (.ref k0), some (.int k1), some (.int k2), some (.int k3), some (.int a4)]) (st' := [.int 0]) (by decide +kernel) rfl ?_
          have e9 := Option.some.inj hf
          subst e9
          obtain ⟨e1, e2⟩ := (hk_2 _ rfl)
          subst e1
          subst e2
          exact CW.zret rfl (b2i_nar _) (by decide +kernel)
theorem xc_X10_isWordAt {l : Launch} {b : Nat} {p0 : Int32} {p1 : Int32} {p2 : Int32} {S : cT} {q : Bool} (hb : cK b = 8) (hf : fc_X10_isWordAt b p0 p1 p2 S = some q) : COk l yy_X10_isWordAt 6 [.ref b, .int p0, .int p1, .int p2] S (some (.int (b2i q))) S := by
  refine COk.of (ls := [some (.ref b), some (.int p0), some (.int p1), some (.int p2), none]) (by decide +kernel) (Nat.le_of_ble_eq_true rfl) rfl ?_
  unfold fc_X10_isWordAt at hf
  refine CW.run (blk := [(.iload_n 1, 0), (.istore 4, 0)]) (pc' := 3) (ls' := [some (.ref b), some (.int p0), some (.int p1), some (.int p2), some (.int p0)]) (st' := []) (by decide +kernel) rfl ?_
  obtain ⟨w6, hw6, hf⟩ := bd_some hf
  refine xc_X10_isWordAt_L3 b p0 p1 p2 S hb FU _ _ hw6 (fun w6a hsw6 => ?_) (fun w6b hsw6 => ?_)
  · subst hsw6
    simp only [Sum.elim_inl] at hf
    refine CW.run (blk := [(.iconst 1, 1)]) (pc' := 48) (ls' := [some (.ref b), some (.int p0), some (.int p1), some (.int p2), some (.int w6a)]) (st' := [.int 1]) (by decide +kernel) rfl ?_
    have e9 := Option.some.inj hf
    subst e9
    exact CW.zret rfl (b2i_nar _) (by decide +kernel)
  · subst hsw6
    simp only [Sum.elim_inr] at hf
    have e9 := Option.some.inj hf
    subst e9
    exact ⟨rfl, rfl⟩
def fc_X10_wordOf_L10 (k0 : Nat) (k1 : Int32) (k2 : Int32) (S : cT) : Nat → Int32 → Int32 → Int32 → Option ((Int32 × Int32 × Int32) ⊕ (Int32))
  | 0, _, _, _ => none
  | N + 1, a3, a4, a5 => if 93 ≤ a5 then (some (.inl (a3, a4, a5))) else (bif inb a5 93 then (if (wby.getD (a5 : Int32).toNatClampNeg 0) = 32 then (if (a5 - a4) = (k2 - k1) then ((fc_X10_isWordAt k0 a4 a5 k1 S).bind fun q5 => if (b2i q5) = 0 then (fc_X10_wordOf_L10 k0 k1 k2 S N (a3 + 1) (a5 + 1) (a5 + 1)) else (some (.inr a3))) else (fc_X10_wordOf_L10 k0 k1 k2 S N (a3 + 1) (a5 + 1) (a5 + 1))) else (fc_X10_wordOf_L10 k0 k1 k2 S N a3 a4 (a5 + 1))) else none)
def fc_X10_wordOf (b : Nat) (p0 : Int32) (p1 : Int32) (S : cT) : Option (Int32) := (fc_X10_wordOf_L10 b p0 p1 S FU 300 1 1).bind fun w7 => Sum.elim (fun w7a => some 259) (fun w7b => some w7b) w7
theorem xc_X10_wordOf_L10 {l : Launch} {r : Option Value} {S' : cT} (k0 : Nat) (k1 : Int32) (k2 : Int32) (S : cT) (hk0 : cK k0 = 8) : ∀ (N : Nat) (a3 : Int32) (a4 : Int32) (a5 : Int32) (W0 : (Int32 × Int32 × Int32) ⊕ (Int32)) (_ : fc_X10_wordOf_L10 k0 k1 k2 S N a3 a4 a5 = some W0) (_ : ∀ W, W0 = .inl W → CW l yy_X10_wordOf 7 r S' 72 [some (.ref k0), some (.int k1), some (.int k2), some (.int W.1), some (.int W.2.1), some (.int W.2.2)] [] S) (_ : ∀ Y, W0 = .inr Y → r = some (.int (Y)) ∧ S' = S), CW l yy_X10_wordOf 7 r S' 10 [some (.ref k0), some (.int k1), some (.int k2), some (.int a3), some (.int a4), some (.int a5)] [] S := by
  intro N
  induction N with
  | zero =>
    intro a3 a4 a5 W0 hf _ _
    cases hf
  | succ N ih =>
    intro a3 a4 a5 W0 hf hk_1 hk_2
    unfold fc_X10_wordOf_L10 at hf
    refine CW.run (blk := [(.iload 5, 0)]) (pc' := 12) (ls' := [some (.ref k0), some (.int k1), some (.int k2), some (.int a3), some (.int a4), some (.int a5)]) (st' := [.int a5]) (by decide +kernel) rfl ?_
    refine CW.ldcS rfl (by decide +kernel) ?_
    refine CW.strlen rfl (by decide +kernel) (by decide) (Nat.le_of_ble_eq_true rfl) ?_
    refine CW.icmp_ge (off := 55) (tgt := 72) (by decide +kernel) (by decide) (fun c17_1 => ?_) (fun c17_1 => ?_)
    · rw [if_pos c17_1] at hf
      have e9 := Option.some.inj hf
      subst e9
      exact hk_1 (a3, a4, a5) rfl
    · rw [if_neg c17_1] at hf
      refine CW.ldcS rfl (by decide +kernel) ?_
      refine CW.run (blk := [(.iload 5, 0)]) (pc' := 24) (ls' := [some (.ref k0), some (.int k1), some (.int k2), some (.int a3), some (.int a4), some (.int a5)]) (st' := [.int a5, .ref kS]) (by decide +kernel) rfl ?_
      obtain ⟨hi2, hf⟩ := bi_some hf
      refine CW.charAt rfl (by decide +kernel) (inb_in hi2) (by decide) (Nat.le_of_ble_eq_true rfl) ?_
      refine CW.run (blk := [(.bipush 32, 32)]) (pc' := 29) (ls' := [some (.ref k0), some (.int k1), some (.int k2), some (.int a3), some (.int a4), some (.int a5)]) (st' := [.int 32, .int (wby.getD (a5 : Int32).toNatClampNeg 0)]) (by decide +kernel) rfl ?_
      refine CW.icmp_ne (off := 37) (tgt := 66) (by decide +kernel) (by decide) (fun c29_3 => ?_) (fun c29_3 => ?_)
      · rw [if_neg c29_3] at hf
        refine CW.run (blk := [(.iinc 5 1, 1), (.goto (-59), 0)]) (pc' := 10) (ls' := [some (.ref k0), some (.int k1), some (.int k2), some (.int a3), some (.int a4), some (.int (a5 + 1))]) (st' := []) (by decide +kernel) rfl ?_
        exact ih _ _ _ _ hf hk_1 hk_2
      · rw [if_pos c29_3] at hf
        refine CW.run (blk := [(.iload 5, 0), (.iload 4, 0), (.isub, 0), (.iload_n 2, 0), (.iload_n 1, 0), (.isub, 0)]) (pc' := 40) (ls' := [some (.ref k0), some (.int k1), some (.int k2), some (.int a3), some (.int a4), some (.int a5)]) (st' := [.int (k2 - k1), .int (a5 - a4)]) (by decide +kernel) rfl ?_
        refine CW.icmp_ne (off := 17) (tgt := 57) (by decide +kernel) (by decide) (fun c40_4 => ?_) (fun c40_4 => ?_)
        · rw [if_neg c40_4] at hf
          refine CW.run (blk := [(.iinc 3 1, 1), (.iload 5, 0), (.iconst 1, 1), (.iadd, 0), (.istore 4, 0), (.iinc 5 1, 1), (.goto (-59), 0)]) (pc' := 10) (ls' := [some (.ref k0), some (.int k1), some (.int k2), some (.int (a3 + 1)), some (.int (a5 + 1)), some (.int (a5 + 1))]) (st' := []) (by decide +kernel) rfl ?_
          exact ih _ _ _ _ hf hk_1 hk_2
        · rw [if_pos c40_4] at hf
          refine CW.run (blk := [(.aload_n 0, 0), (.iload 4, 0), (.iload 5, 0), (.iload_n 1, 0)]) (pc' := 49) (ls' := [some (.ref k0), some (.int k1), some (.int k2), some (.int a3), some (.int a4), some (.int a5)]) (st' := [.int k1, .int a5, .int a4, .ref k0]) (by decide +kernel) rfl ?_
          obtain ⟨q5, hq5, hf⟩ := bd_some hf
          refine CW.callV (As := [.int a4, .int a5, .int k1]) (st := []) lv_RX10_81 hk0 (by decide) rfl rfl (by decide +kernel) (xc_X10_isWordAt hk0 hq5) (by decide) (by decide) rfl (Nat.le_of_ble_eq_true rfl) rfl ?_
          show CW l yy_X10_wordOf 7 _ _ 52 [some (.ref k0), some (.int k1), some (.int k2), some (.int a3), some (.int a4), some (.int a5)] [.int (b2i q5)] S
          refine CW.if_eq (off := 5) (tgt := 57) (by decide +kernel) (by decide) (fun c52_6 => ?_) (fun c52_6 => ?_)
          · rw [if_pos c52_6] at hf
            refine CW.run (blk := [(.iinc 3 1, 1), (.iload 5, 0), (.iconst 1, 1), (.iadd, 0), (.istore 4, 0), (.iinc 5 1, 1), (.goto (-59), 0)]) (pc' := 10) (ls' := [some (.ref k0), some (.int k1), some (.int k2), some (.int (a3 + 1)), some (.int (a5 + 1)), some (.int (a5 + 1))]) (st' := []) (by decide +kernel) rfl ?_
            exact ih _ _ _ _ hf hk_1 hk_2
          · rw [if_neg c52_6] at hf
            refine CW.run (blk := [(.iload_n 3, 0)]) (pc' := 56) (ls' := [some (.ref k0), some (.int k1), some (.int k2), some (.int a3), some (.int a4), some (.int a5)]) (st' := [.int a3]) (by decide +kernel) rfl ?_
            have e9 := Option.some.inj hf
            subst e9
            obtain ⟨e1, e2⟩ := (hk_2 _ rfl)
            subst e1
            subst e2
            exact CW.iret rfl (by decide +kernel)
theorem xc_X10_wordOf {l : Launch} {b : Nat} {p0 : Int32} {p1 : Int32} {S : cT} {q : Int32} (hb : cK b = 8) (hf : fc_X10_wordOf b p0 p1 S = some q) : COk l yy_X10_wordOf 7 [.ref b, .int p0, .int p1] S (some (.int q)) S := by
  refine COk.of (ls := [some (.ref b), some (.int p0), some (.int p1), none, none, none]) (by decide +kernel) (Nat.le_of_ble_eq_true rfl) rfl ?_
  unfold fc_X10_wordOf at hf
  refine CW.run (blk := [(.sipush 300, 300), (.istore_n 3, 0), (.iconst 1, 1), (.istore 4, 0), (.iconst 1, 1), (.istore 5, 0)]) (pc' := 10) (ls' := [some (.ref b), some (.int p0), some (.int p1), some (.int 300), some (.int 1), some (.int 1)]) (st' := []) (by decide +kernel) rfl ?_
  obtain ⟨w7, hw7, hf⟩ := bd_some hf
  refine xc_X10_wordOf_L10 b p0 p1 S hb FU _ _ _ _ hw7 (fun w7a hsw7 => ?_) (fun w7b hsw7 => ?_)
  · subst hsw7
    simp only [Sum.elim_inl] at hf
    refine CW.run (blk := [(.sipush 259, 259)]) (pc' := 75) (ls' := [some (.ref b), some (.int p0), some (.int p1), some (.int w7a.1), some (.int w7a.2.1), some (.int w7a.2.2)]) (st' := [.int 259]) (by decide +kernel) rfl ?_
    have e9 := Option.some.inj hf
    subst e9
    exact CW.iret rfl (by decide +kernel)
  · subst hsw7
    simp only [Sum.elim_inr] at hf
    have e9 := Option.some.inj hf
    subst e9
    exact ⟨rfl, rfl⟩
