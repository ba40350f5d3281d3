/-! ===== the reference, method by method (by program) 13 ===== -/
def fm_count (p0 : Int32) (T : mT) : Option (Int32) := if p0 = 0 then (bif inb p0 410 then (letv (T.1 10 (p0 : Int32).toNatClampNeg) fun v2 => some v2) else none) else (if p0 = 1 then (bif inb p0 410 then (letv (T.1 10 (p0 : Int32).toNatClampNeg) fun v4 => some v4) else none) else (if p0 = 2 then (some (T.1 0 2)) else (if p0 = 3 then (some (T.1 0 22)) else (if p0 = 4 then (bif inb 2 410 then (letv (T.1 10 (2 : Int32).toNatClampNeg) fun v8 => some v8) else none) else (if p0 = 5 then ((fm_isIsland T).bind fun q10 => if (b2i q10) = 0 then (some (-1)) else (bif inb 3 410 then (letv (T.1 10 (3 : Int32).toNatClampNeg) fun v12 => some v12) else none)) else (if p0 = 6 then (bif inb 5 410 then (letv (T.1 10 (5 : Int32).toNatClampNeg) fun v14 => some v14) else none) else (if p0 = 7 then (bif inb 408 410 then (letv (T.1 10 (408 : Int32).toNatClampNeg) fun v16 => some v16) else none) else (if p0 = 8 then (bif inb 409 410 then (letv (T.1 10 (409 : Int32).toNatClampNeg) fun v18 => some v18) else none) else (if p0 = 9 then (some (T.1 0 25)) else (if p0 = 10 then (some (T.1 0 23)) else (if p0 = 11 then (some (T.1 0 1)) else (some (-1)))))))))))))
theorem xm_count {l : Launch} {p0 : Int32} {T : mT} {q : Int32} (hf : fm_count p0 T = some q) : MOk l yy_X12_count 1 [.int p0] T (some (.int q)) T := by
  refine MOk.of (ls := [some (.ref 137), some (.int p0)]) (by decide +kernel) (Nat.le_of_ble_eq_true rfl) rfl ?_
  unfold fm_count at hf
  refine MW.run rfl [(.iload_n 1, 0)] (pc' := 1) (ls' := [some (.ref 137), some (.int p0)]) (st' := [.int p0]) (T1 := T) (by decide +kernel) rfl ?_
  by_cases c1_0_1 : p0 = 0
  · rw [if_pos c1_0_1] at hf
    refine MW.tableIn (dflt := 145) (lo := 0) (hi := 11) (offs := #[63, 63, 70, 75, 80, 87, 105, 112, 121, 130, 135, 140]) (len := 63) (off := 63) (tgt := 64) (by decide +kernel) (by rw [c1_0_1]; decide) (by rw [c1_0_1]; decide) (by rw [c1_0_1]; decide) (by decide) ?_
    refine MW.run rfl [(.aload_n 0, 0), (.getfield 39, 0), (.iload_n 1, 0)] (pc' := 69) (ls' := [some (.ref 137), some (.int p0)]) (st' := [.int p0, .ref 147]) (T1 := T) (by decide +kernel) rfl ?_
    obtain ⟨hi_v2, hf⟩ := bi_some hf
    obtain ⟨v2, hv2, hf⟩ := letv_some hf
    refine MW.iald 10 410 rfl (by decide) rfl (by decide +kernel) (inb_in hi_v2) ?_
    rw [← hv2]
    have e9 := Option.some.inj hf
    subst e9
    exact MW.iret rfl (by decide +kernel)
  rw [if_neg c1_0_1] at hf
  by_cases c1_1_3 : p0 = 1
  · rw [if_pos c1_1_3] at hf
    refine MW.tableIn (dflt := 145) (lo := 0) (hi := 11) (offs := #[63, 63, 70, 75, 80, 87, 105, 112, 121, 130, 135, 140]) (len := 63) (off := 63) (tgt := 64) (by decide +kernel) (by rw [c1_1_3]; decide) (by rw [c1_1_3]; decide) (by rw [c1_1_3]; decide) (by decide) ?_
    refine MW.run rfl [(.aload_n 0, 0), (.getfield 39, 0), (.iload_n 1, 0)] (pc' := 69) (ls' := [some (.ref 137), some (.int p0)]) (st' := [.int p0, .ref 147]) (T1 := T) (by decide +kernel) rfl ?_
    obtain ⟨hi_v4, hf⟩ := bi_some hf
    obtain ⟨v4, hv4, hf⟩ := letv_some hf
    refine MW.iald 10 410 rfl (by decide) rfl (by decide +kernel) (inb_in hi_v4) ?_
    rw [← hv4]
    have e9 := Option.some.inj hf
    subst e9
    exact MW.iret rfl (by decide +kernel)
  rw [if_neg c1_1_3] at hf
  by_cases c1_2_5 : p0 = 2
  · rw [if_pos c1_2_5] at hf
    refine MW.tableIn (dflt := 145) (lo := 0) (hi := 11) (offs := #[63, 63, 70, 75, 80, 87, 105, 112, 121, 130, 135, 140]) (len := 63) (off := 70) (tgt := 71) (by decide +kernel) (by rw [c1_2_5]; decide) (by rw [c1_2_5]; decide) (by rw [c1_2_5]; decide) (by decide) ?_
    refine MW.run rfl [(.aload_n 0, 0), (.getfield 254, 0)] (pc' := 75) (ls' := [some (.ref 137), some (.int p0)]) (st' := [.int (T.1 0 2)]) (T1 := T) (by decide +kernel) rfl ?_
    have e9 := Option.some.inj hf
    subst e9
    exact MW.iret rfl (by decide +kernel)
  rw [if_neg c1_2_5] at hf
  by_cases c1_3_6 : p0 = 3
  · rw [if_pos c1_3_6] at hf
    refine MW.tableIn (dflt := 145) (lo := 0) (hi := 11) (offs := #[63, 63, 70, 75, 80, 87, 105, 112, 121, 130, 135, 140]) (len := 63) (off := 75) (tgt := 76) (by decide +kernel) (by rw [c1_3_6]; decide) (by rw [c1_3_6]; decide) (by rw [c1_3_6]; decide) (by decide) ?_
    refine MW.run rfl [(.aload_n 0, 0), (.getfield 42, 0)] (pc' := 80) (ls' := [some (.ref 137), some (.int p0)]) (st' := [.int (T.1 0 22)]) (T1 := T) (by decide +kernel) rfl ?_
    have e9 := Option.some.inj hf
    subst e9
    exact MW.iret rfl (by decide +kernel)
  rw [if_neg c1_3_6] at hf
  by_cases c1_4_7 : p0 = 4
  · rw [if_pos c1_4_7] at hf
    refine MW.tableIn (dflt := 145) (lo := 0) (hi := 11) (offs := #[63, 63, 70, 75, 80, 87, 105, 112, 121, 130, 135, 140]) (len := 63) (off := 80) (tgt := 81) (by decide +kernel) (by rw [c1_4_7]; decide) (by rw [c1_4_7]; decide) (by rw [c1_4_7]; decide) (by decide) ?_
    refine MW.run rfl [(.aload_n 0, 0), (.getfield 39, 0), (.iconst 2, 2)] (pc' := 86) (ls' := [some (.ref 137), some (.int p0)]) (st' := [.int 2, .ref 147]) (T1 := T) (by decide +kernel) rfl ?_
    obtain ⟨hi_v8, hf⟩ := bi_some hf
    obtain ⟨v8, hv8, hf⟩ := letv_some hf
    refine MW.iald 10 410 rfl (by decide) rfl (by decide +kernel) (inb_in hi_v8) ?_
    rw [← hv8]
    have e9 := Option.some.inj hf
    subst e9
    exact MW.iret rfl (by decide +kernel)
  rw [if_neg c1_4_7] at hf
  by_cases c1_5_9 : p0 = 5
  · rw [if_pos c1_5_9] at hf
    refine MW.tableIn (dflt := 145) (lo := 0) (hi := 11) (offs := #[63, 63, 70, 75, 80, 87, 105, 112, 121, 130, 135, 140]) (len := 63) (off := 87) (tgt := 88) (by decide +kernel) (by rw [c1_5_9]; decide) (by rw [c1_5_9]; decide) (by rw [c1_5_9]; decide) (by decide) ?_
    refine MW.run rfl [(.aload_n 0, 0)] (pc' := 89) (ls' := [some (.ref 137), some (.int p0)]) (st' := [.ref 137]) (T1 := T) (by decide +kernel) rfl ?_
    obtain ⟨q10, hq10, hf⟩ := bd_some hf
    refine MW.callV (As := []) (st := []) lv_RX12_336 rfl (by decide +kernel) (xm_isIsland hq10) (by decide) (by decide) rfl (Nat.le_of_ble_eq_true rfl) rfl ?_
    show MW l yy_X12_count 1 _ _ 92 [some (.ref 137), some (.int p0)] [.int (b2i q10)] T
    refine MW.if_eq (off := 12) (tgt := 104) (by decide +kernel) (by decide) (fun c92_11 => ?_) (fun c92_11 => ?_)
    · rw [if_pos c92_11] at hf
      refine MW.run rfl [(.iconst (-1), (-1))] (pc' := 105) (ls' := [some (.ref 137), some (.int p0)]) (st' := [.int (-1)]) (T1 := T) (by decide +kernel) rfl ?_
      have e9 := Option.some.inj hf
      subst e9
      exact MW.iret rfl (by decide +kernel)
    · rw [if_neg c92_11] at hf
      refine MW.run rfl [(.aload_n 0, 0), (.getfield 39, 0), (.iconst 3, 3)] (pc' := 100) (ls' := [some (.ref 137), some (.int p0)]) (st' := [.int 3, .ref 147]) (T1 := T) (by decide +kernel) rfl ?_
      obtain ⟨hi_v12, hf⟩ := bi_some hf
      obtain ⟨v12, hv12, hf⟩ := letv_some hf
      refine MW.iald 10 410 rfl (by decide) rfl (by decide +kernel) (inb_in hi_v12) ?_
      rw [← hv12]
      refine MW.run rfl [(.goto 4, 0)] (pc' := 105) (ls' := [some (.ref 137), some (.int p0)]) (st' := [.int v12]) (T1 := T) (by decide +kernel) rfl ?_
      have e9 := Option.some.inj hf
      subst e9
      exact MW.iret rfl (by decide +kernel)
  rw [if_neg c1_5_9] at hf
  by_cases c1_6_13 : p0 = 6
  · rw [if_pos c1_6_13] at hf
    refine MW.tableIn (dflt := 145) (lo := 0) (hi := 11) (offs := #[63, 63, 70, 75, 80, 87, 105, 112, 121, 130, 135, 140]) (len := 63) (off := 105) (tgt := 106) (by decide +kernel) (by rw [c1_6_13]; decide) (by rw [c1_6_13]; decide) (by rw [c1_6_13]; decide) (by decide) ?_
    refine MW.run rfl [(.aload_n 0, 0), (.getfield 39, 0), (.iconst 5, 5)] (pc' := 111) (ls' := [some (.ref 137), some (.int p0)]) (st' := [.int 5, .ref 147]) (T1 := T) (by decide +kernel) rfl ?_
    obtain ⟨hi_v14, hf⟩ := bi_some hf
    obtain ⟨v14, hv14, hf⟩ := letv_some hf
    refine MW.iald 10 410 rfl (by decide) rfl (by decide +kernel) (inb_in hi_v14) ?_
    rw [← hv14]
    have e9 := Option.some.inj hf
    subst e9
    exact MW.iret rfl (by decide +kernel)
  rw [if_neg c1_6_13] at hf
  by_cases c1_7_15 : p0 = 7
  · rw [if_pos c1_7_15] at hf
    refine MW.tableIn (dflt := 145) (lo := 0) (hi := 11) (offs := #[63, 63, 70, 75, 80, 87, 105, 112, 121, 130, 135, 140]) (len := 63) (off := 112) (tgt := 113) (by decide +kernel) (by rw [c1_7_15]; decide) (by rw [c1_7_15]; decide) (by rw [c1_7_15]; decide) (by decide) ?_
    refine MW.run rfl [(.aload_n 0, 0), (.getfield 39, 0), (.sipush 408, 408)] (pc' := 120) (ls' := [some (.ref 137), some (.int p0)]) (st' := [.int 408, .ref 147]) (T1 := T) (by decide +kernel) rfl ?_
    obtain ⟨hi_v16, hf⟩ := bi_some hf
    obtain ⟨v16, hv16, hf⟩ := letv_some hf
    refine MW.iald 10 410 rfl (by decide) rfl (by decide +kernel) (inb_in hi_v16) ?_
    rw [← hv16]
    have e9 := Option.some.inj hf
    subst e9
    exact MW.iret rfl (by decide +kernel)
  rw [if_neg c1_7_15] at hf
  by_cases c1_8_17 : p0 = 8
  · rw [if_pos c1_8_17] at hf
    refine MW.tableIn (dflt := 145) (lo := 0) (hi := 11) (offs := #[63, 63, 70, 75, 80, 87, 105, 112, 121, 130, 135, 140]) (len := 63) (off := 121) (tgt := 122) (by decide +kernel) (by rw [c1_8_17]; decide) (by rw [c1_8_17]; decide) (by rw [c1_8_17]; decide) (by decide) ?_
    refine MW.run rfl [(.aload_n 0, 0), (.getfield 39, 0), (.sipush 409, 409)] (pc' := 129) (ls' := [some (.ref 137), some (.int p0)]) (st' := [.int 409, .ref 147]) (T1 := T) (by decide +kernel) rfl ?_
    obtain ⟨hi_v18, hf⟩ := bi_some hf
    obtain ⟨v18, hv18, hf⟩ := letv_some hf
    refine MW.iald 10 410 rfl (by decide) rfl (by decide +kernel) (inb_in hi_v18) ?_
    rw [← hv18]
    have e9 := Option.some.inj hf
    subst e9
    exact MW.iret rfl (by decide +kernel)
  rw [if_neg c1_8_17] at hf
  by_cases c1_9_19 : p0 = 9
  · rw [if_pos c1_9_19] at hf
    refine MW.tableIn (dflt := 145) (lo := 0) (hi := 11) (offs := #[63, 63, 70, 75, 80, 87, 105, 112, 121, 130, 135, 140]) (len := 63) (off := 130) (tgt := 131) (by decide +kernel) (by rw [c1_9_19]; decide) (by rw [c1_9_19]; decide) (by rw [c1_9_19]; decide) (by decide) ?_
    refine MW.run rfl [(.aload_n 0, 0), (.getfield 260, 0)] (pc' := 135) (ls' := [some (.ref 137), some (.int p0)]) (st' := [.int (T.1 0 25)]) (T1 := T) (by decide +kernel) rfl ?_
    have e9 := Option.some.inj hf
    subst e9
    exact MW.iret rfl (by decide +kernel)
  rw [if_neg c1_9_19] at hf
  by_cases c1_10_20 : p0 = 10
  · rw [if_pos c1_10_20] at hf
    refine MW.tableIn (dflt := 145) (lo := 0) (hi := 11) (offs := #[63, 63, 70, 75, 80, 87, 105, 112, 121, 130, 135, 140]) (len := 63) (off := 135) (tgt := 136) (by decide +kernel) (by rw [c1_10_20]; decide) (by rw [c1_10_20]; decide) (by rw [c1_10_20]; decide) (by decide) ?_
    refine MW.run rfl [(.aload_n 0, 0), (.getfield 419, 0)] (pc' := 140) (ls' := [some (.ref 137), some (.int p0)]) (st' := [.int (T.1 0 23)]) (T1 := T) (by decide +kernel) rfl ?_
    have e9 := Option.some.inj hf
    subst e9
    exact MW.iret rfl (by decide +kernel)
  rw [if_neg c1_10_20] at hf
  by_cases c1_11_21 : p0 = 11
  · rw [if_pos c1_11_21] at hf
    refine MW.tableIn (dflt := 145) (lo := 0) (hi := 11) (offs := #[63, 63, 70, 75, 80, 87, 105, 112, 121, 130, 135, 140]) (len := 63) (off := 140) (tgt := 141) (by decide +kernel) (by rw [c1_11_21]; decide) (by rw [c1_11_21]; decide) (by rw [c1_11_21]; decide) (by decide) ?_
    refine MW.run rfl [(.aload_n 0, 0), (.getfield 72, 0)] (pc' := 145) (ls' := [some (.ref 137), some (.int p0)]) (st' := [.int (T.1 0 1)]) (T1 := T) (by decide +kernel) rfl ?_
    have e9 := Option.some.inj hf
    subst e9
    exact MW.iret rfl (by decide +kernel)
  rw [if_neg c1_11_21] at hf
  refine MW.tableOut (dflt := 145) (lo := 0) (hi := 11) (offs := #[63, 63, 70, 75, 80, 87, 105, 112, 121, 130, 135, 140]) (len := 63) (tgt := 146) (by decide +kernel) (by have := ne_toInt c1_0_1 (k := 0) rfl; have := ne_toInt c1_1_3 (k := 1) rfl; have := ne_toInt c1_2_5 (k := 2) rfl; have := ne_toInt c1_3_6 (k := 3) rfl; have := ne_toInt c1_4_7 (k := 4) rfl; have := ne_toInt c1_5_9 (k := 5) rfl; have := ne_toInt c1_6_13 (k := 6) rfl; have := ne_toInt c1_7_15 (k := 7) rfl; have := ne_toInt c1_8_17 (k := 8) rfl; have := ne_toInt c1_9_19 (k := 9) rfl; have := ne_toInt c1_10_20 (k := 10) rfl; have := ne_toInt c1_11_21 (k := 11) rfl; omega) (by decide) ?_
  refine MW.run rfl [(.iconst (-1), (-1))] (pc' := 147) (ls' := [some (.ref 137), some (.int p0)]) (st' := [.int (-1)]) (T1 := T) (by decide +kernel) rfl ?_
  have e9 := Option.some.inj hf
  subst e9
  exact MW.iret rfl (by decide +kernel)
def fm_image_L43 (k1 : Int32) : Nat → Int32 → mT → Option (Int32 × mT)
  | 0, _, _ => none
  | N + 1, a2, T => if 410 ≤ a2 then (some (a2, T)) else (bif inb a2 410 then (letv (T.1 10 (a2 : Int32).toNatClampNeg) fun v7 => bif inb ((410 * k1) + a2) 1640 then (letv (ma T 15 (((410 * k1) + a2) : Int32).toNatClampNeg v7) fun T8 => fm_image_L43 k1 N (a2 + 1) T8) else none) else none)
def fm_image (p0 : Int32) (T : mT) : Option (Int32 × mT) := (fm_in ((p0 : Int32).toInt64) 0 3).bind fun q1 => if (b2i q1) = 0 then (some ((-1), T)) else (bif inb p0 4 then (letv (ma T 18 (p0 : Int32).toNatClampNeg (vp_nar .boolean 1)) fun T3 => bif inb p0 4 then (letv (ma T3 16 (p0 : Int32).toNatClampNeg (T3.1 0 22)) fun T4 => bif inb p0 4 then (letv (ma T4 17 (p0 : Int32).toNatClampNeg (T4.1 0 23)) fun T5 => (fm_image_L43 p0 FU 0 T5).bind fun w9 => bif inb 2 410 then (letv (w9.2.1 10 (2 : Int32).toNatClampNeg) fun v10 => some (v10, w9.2)) else none) else none) else none) else none)
theorem xm_image_L43 {l : Launch} {r : Option Value} {T' : mT} (k1 : Int32) : ∀ (N : Nat) (a2 : Int32) (T : mT) (W0 : Int32 × mT) (_ : fm_image_L43 k1 N a2 T = some W0) (_ : MW l yy_X12_image 1 r T' 74 [some (.ref 137), some (.int k1), some (.int W0.1)] [] W0.2), MW l yy_X12_image 1 r T' 43 [some (.ref 137), some (.int k1), some (.int a2)] [] T := by
  intro N
  induction N with
  | zero =>
    intro a2 T W0 hf _
    cases hf
  | succ N ih =>
    intro a2 T W0 hf hk1
    unfold fm_image_L43 at hf
    refine MW.run rfl [(.iload_n 2, 0), (.sipush 410, 410)] (pc' := 47) (ls' := [some (.ref 137), some (.int k1), some (.int a2)]) (st' := [.int 410, .int a2]) (T1 := T) (by decide +kernel) rfl ?_
    refine MW.icmp_ge (off := 27) (tgt := 74) (by decide +kernel) (by decide) (fun c47_6 => ?_) (fun c47_6 => ?_)
    · rw [if_pos c47_6] at hf
      have e9 := Option.some.inj hf
      subst e9
      exact hk1
    · rw [if_neg c47_6] at hf
      refine MW.run rfl [(.aload_n 0, 0), (.getfield 59, 0), (.sipush 410, 410), (.iload_n 1, 0), (.imul, 0), (.iload_n 2, 0), (.iadd, 0), (.aload_n 0, 0), (.getfield 39, 0), (.iload_n 2, 0)] (pc' := 66) (ls' := [some (.ref 137), some (.int k1), some (.int a2)]) (st' := [.int a2, .ref 147, .int ((410 * k1) + a2), .ref 152]) (T1 := T) (by decide +kernel) rfl ?_
      obtain ⟨hi_v7, hf⟩ := bi_some hf
      obtain ⟨v7, hv7, hf⟩ := letv_some hf
      refine MW.iald 10 410 rfl (by decide) rfl (by decide +kernel) (inb_in hi_v7) ?_
      rw [← hv7]
      obtain ⟨hi_T8, hf⟩ := bi_some hf
      obtain ⟨T8, hT8, hf⟩ := letv_some hf
      refine MW.iast 15 1640 rfl (by decide) (fun _ => rfl) (by decide +kernel) (inb_in hi_T8) ?_
      rw [← hT8]
      refine MW.run rfl [(.iinc 2 1, 1), (.goto (-28), 0)] (pc' := 43) (ls' := [some (.ref 137), some (.int k1), some (.int (a2 + 1))]) (st' := []) (T1 := T8) (by decide +kernel) rfl ?_
      exact ih _ _ _ hf hk1
theorem xm_image {l : Launch} {p0 : Int32} {T : mT} {q : Int32 × mT} (hf : fm_image p0 T = some q) : MOk l yy_X12_image 1 [.int p0] T (some (.int q.1)) q.2 := by
  refine MOk.of (ls := [some (.ref 137), some (.int p0), none]) (by decide +kernel) (Nat.le_of_ble_eq_true rfl) rfl ?_
  unfold fm_image at hf
  refine MW.run rfl [(.iload_n 1, 0), (.i2l, 0), (.lconst 0, 0)] (pc' := 3) (ls' := [some (.ref 137), some (.int p0), none]) (st' := [.long 0, .long ((p0 : Int32).toInt64)]) (T1 := T) (by decide +kernel) rfl ?_
  refine MW.ldc2 (idx := 444) (v := 3) (tb_in 1647 (by decide +kernel) (by decide +kernel)) (by decide +kernel) ?_
  obtain ⟨q1, hq1, hf⟩ := bd_some hf
  refine MW.callP (As := [.long ((p0 : Int32).toInt64), .long 0, .long 3]) (st := []) lt_RX12_110 (by decide +kernel) (xm_in hq1) (by decide) (by decide) rfl (Nat.le_of_ble_eq_true rfl) rfl ?_
  show MW l yy_X12_image 1 _ _ 9 [some (.ref 137), some (.int p0), none] [.int (b2i q1)] T
  refine MW.if_ne (off := 5) (tgt := 14) (by decide +kernel) (by decide) (fun c9_2 => ?_) (fun c9_2 => ?_)
  · rw [if_neg c9_2] at hf
    refine MW.run rfl [(.aload_n 0, 0), (.getfield 68, 0), (.iload_n 1, 0), (.iconst 1, 1)] (pc' := 20) (ls' := [some (.ref 137), some (.int p0), none]) (st' := [.int 1, .int p0, .ref 155]) (T1 := T) (by decide +kernel) rfl ?_
    obtain ⟨hi_T3, hf⟩ := bi_some hf
    obtain ⟨T3, hT3, hf⟩ := letv_some hf
    refine MW.zast 18 4 rfl (by decide) (fun _ => rfl) (by decide +kernel) (inb_in hi_T3) ?_
    rw [← hT3]
    refine MW.run rfl [(.aload_n 0, 0), (.getfield 62, 0), (.iload_n 1, 0), (.aload_n 0, 0), (.getfield 42, 0)] (pc' := 30) (ls' := [some (.ref 137), some (.int p0), none]) (st' := [.int (T3.1 0 22), .int p0, .ref 153]) (T1 := T3) (by decide +kernel) rfl ?_
    obtain ⟨hi_T4, hf⟩ := bi_some hf
    obtain ⟨T4, hT4, hf⟩ := letv_some hf
    refine MW.iast 16 4 rfl (by decide) (fun _ => rfl) (by decide +kernel) (inb_in hi_T4) ?_
    rw [← hT4]
    refine MW.run rfl [(.aload_n 0, 0), (.getfield 65, 0), (.iload_n 1, 0), (.aload_n 0, 0), (.getfield 419, 0)] (pc' := 40) (ls' := [some (.ref 137), some (.int p0), none]) (st' := [.int (T4.1 0 23), .int p0, .ref 154]) (T1 := T4) (by decide +kernel) rfl ?_
    obtain ⟨hi_T5, hf⟩ := bi_some hf
    obtain ⟨T5, hT5, hf⟩ := letv_some hf
    refine MW.iast 17 4 rfl (by decide) (fun _ => rfl) (by decide +kernel) (inb_in hi_T5) ?_
    rw [← hT5]
    refine MW.run rfl [(.iconst 0, 0), (.istore_n 2, 0)] (pc' := 43) (ls' := [some (.ref 137), some (.int p0), some (.int 0)]) (st' := []) (T1 := T5) (by decide +kernel) rfl ?_
    obtain ⟨w9, hw9, hf⟩ := bd_some hf
    refine xm_image_L43 p0 FU _ _ _ hw9 ?_
    refine MW.run rfl [(.aload_n 0, 0), (.getfield 39, 0), (.iconst 2, 2)] (pc' := 79) (ls' := [some (.ref 137), some (.int p0), some (.int w9.1)]) (st' := [.int 2, .ref 147]) (T1 := w9.2) (by decide +kernel) rfl ?_
    obtain ⟨hi_v10, hf⟩ := bi_some hf
    obtain ⟨v10, hv10, hf⟩ := letv_some hf
    refine MW.iald 10 410 rfl (by decide) rfl (by decide +kernel) (inb_in hi_v10) ?_
    rw [← hv10]
    have e9 := Option.some.inj hf
    subst e9
    exact MW.iret rfl (by decide +kernel)
  · rw [if_pos c9_2] at hf
    refine MW.run rfl [(.iconst (-1), (-1))] (pc' := 13) (ls' := [some (.ref 137), some (.int p0), none]) (st' := [.int (-1)]) (T1 := T) (by decide +kernel) rfl ?_
    have e9 := Option.some.inj hf
    subst e9
    exact MW.iret rfl (by decide +kernel)
def fm_back_L50 (k1 : Int32) : Nat → Int32 → mT → Option (Int32 × mT)
  | 0, _, _ => none
  | N + 1, a2, T => if 410 ≤ a2 then (some (a2, T)) else (bif inb ((410 * k1) + a2) 1640 then (letv (T.1 15 (((410 * k1) + a2) : Int32).toNatClampNeg) fun v11 => bif inb a2 410 then (letv (ma T 10 (a2 : Int32).toNatClampNeg v11) fun T12 => fm_back_L50 k1 N (a2 + 1) T12) else none) else none)
def fm_back (p0 : Int32) (T : mT) : Option (Int32 × mT) := (fm_in ((p0 : Int32).toInt64) 0 3).bind fun q1 => if (b2i q1) = 0 then (some ((-1), T)) else (bif inb p0 4 then (letv (T.1 18 (p0 : Int32).toNatClampNeg) fun v3 => if v3 = 0 then (some ((-1), T)) else (bif inb p0 4 then (letv (T.1 16 (p0 : Int32).toNatClampNeg) fun v5 => letv (mz T 22 v5) fun T6 => bif inb p0 4 then (letv (T6.1 17 (p0 : Int32).toNatClampNeg) fun v7 => letv (mz T6 23 v7) fun T8 => letv (mz T8 25 0) fun T9 => (fm_back_L50 p0 FU 0 T9).bind fun w13 => bif inb 2 410 then (letv (w13.2.1 10 (2 : Int32).toNatClampNeg) fun v14 => some (v14, w13.2)) else none) else none) else none)) else none)
theorem xm_back_L50 {l : Launch} {r : Option Value} {T' : mT} (k1 : Int32) : ∀ (N : Nat) (a2 : Int32) (T : mT) (W0 : Int32 × mT) (_ : fm_back_L50 k1 N a2 T = some W0) (_ : MW l yy_X12_back 1 r T' 81 [some (.ref 137), some (.int k1), some (.int W0.1)] [] W0.2), MW l yy_X12_back 1 r T' 50 [some (.ref 137), some (.int k1), some (.int a2)] [] T := by
  intro N
  induction N with
  | zero =>
    intro a2 T W0 hf _
    cases hf
  | succ N ih =>
    intro a2 T W0 hf hk1
    unfold fm_back_L50 at hf
    refine MW.run rfl [(.iload_n 2, 0), (.sipush 410, 410)] (pc' := 54) (ls' := [some (.ref 137), some (.int k1), some (.int a2)]) (st' := [.int 410, .int a2]) (T1 := T) (by decide +kernel) rfl ?_
    refine MW.icmp_ge (off := 27) (tgt := 81) (by decide +kernel) (by decide) (fun c54_10 => ?_) (fun c54_10 => ?_)
    · rw [if_pos c54_10] at hf
      have e9 := Option.some.inj hf
      subst e9
      exact hk1
    · rw [if_neg c54_10] at hf
      refine MW.run rfl [(.aload_n 0, 0), (.getfield 39, 0), (.iload_n 2, 0), (.aload_n 0, 0), (.getfield 59, 0), (.sipush 410, 410), (.iload_n 1, 0), (.imul, 0), (.iload_n 2, 0), (.iadd, 0)] (pc' := 73) (ls' := [some (.ref 137), some (.int k1), some (.int a2)]) (st' := [.int ((410 * k1) + a2), .ref 152, .int a2, .ref 147]) (T1 := T) (by decide +kernel) rfl ?_
      obtain ⟨hi_v11, hf⟩ := bi_some hf
      obtain ⟨v11, hv11, hf⟩ := letv_some hf
      refine MW.iald 15 1640 rfl (by decide) rfl (by decide +kernel) (inb_in hi_v11) ?_
      rw [← hv11]
      obtain ⟨hi_T12, hf⟩ := bi_some hf
      obtain ⟨T12, hT12, hf⟩ := letv_some hf
      refine MW.iast 10 410 rfl (by decide) (fun _ => rfl) (by decide +kernel) (inb_in hi_T12) ?_
      rw [← hT12]
      refine MW.run rfl [(.iinc 2 1, 1), (.goto (-28), 0)] (pc' := 50) (ls' := [some (.ref 137), some (.int k1), some (.int (a2 + 1))]) (st' := []) (T1 := T12) (by decide +kernel) rfl ?_
      exact ih _ _ _ hf hk1
theorem xm_back {l : Launch} {p0 : Int32} {T : mT} {q : Int32 × mT} (hf : fm_back p0 T = some q) : MOk l yy_X12_back 1 [.int p0] T (some (.int q.1)) q.2 := by
  refine MOk.of (ls := [some (.ref 137), some (.int p0), none]) (by decide +kernel) (Nat.le_of_ble_eq_true rfl) rfl ?_
  unfold fm_back at hf
  refine MW.run rfl [(.iload_n 1, 0), (.i2l, 0), (.lconst 0, 0)] (pc' := 3) (ls' := [some (.ref 137), some (.int p0), none]) (st' := [.long 0, .long ((p0 : Int32).toInt64)]) (T1 := T) (by decide +kernel) rfl ?_
  refine MW.ldc2 (idx := 444) (v := 3) (tb_in 1647 (by decide +kernel) (by decide +kernel)) (by decide +kernel) ?_
  obtain ⟨q1, hq1, hf⟩ := bd_some hf
  refine MW.callP (As := [.long ((p0 : Int32).toInt64), .long 0, .long 3]) (st := []) lt_RX12_110 (by decide +kernel) (xm_in hq1) (by decide) (by decide) rfl (Nat.le_of_ble_eq_true rfl) rfl ?_
  show MW l yy_X12_back 1 _ _ 9 [some (.ref 137), some (.int p0), none] [.int (b2i q1)] T
  refine MW.if_eq (off := 12) (tgt := 21) (by decide +kernel) (by decide) (fun c9_2 => ?_) (fun c9_2 => ?_)
  · rw [if_pos c9_2] at hf
    refine MW.run rfl [(.iconst (-1), (-1))] (pc' := 22) (ls' := [some (.ref 137), some (.int p0), none]) (st' := [.int (-1)]) (T1 := T) (by decide +kernel) rfl ?_
    have e9 := Option.some.inj hf
    subst e9
    exact MW.iret rfl (by decide +kernel)
  · rw [if_neg c9_2] at hf
    refine MW.run rfl [(.aload_n 0, 0), (.getfield 68, 0), (.iload_n 1, 0)] (pc' := 17) (ls' := [some (.ref 137), some (.int p0), none]) (st' := [.int p0, .ref 155]) (T1 := T) (by decide +kernel) rfl ?_
    obtain ⟨hi_v3, hf⟩ := bi_some hf
    obtain ⟨v3, hv3, hf⟩ := letv_some hf
    refine MW.zald 18 4 rfl (by decide) rfl (by decide +kernel) (inb_in hi_v3) ?_
    rw [← hv3]
    refine MW.if_ne (off := 5) (tgt := 23) (by decide +kernel) (by decide) (fun c18_4 => ?_) (fun c18_4 => ?_)
    · rw [if_neg c18_4] at hf
      refine MW.run rfl [(.aload_n 0, 0), (.aload_n 0, 0), (.getfield 62, 0), (.iload_n 1, 0)] (pc' := 29) (ls' := [some (.ref 137), some (.int p0), none]) (st' := [.int p0, .ref 153, .ref 137]) (T1 := T) (by decide +kernel) rfl ?_
      obtain ⟨hi_v5, hf⟩ := bi_some hf
      obtain ⟨v5, hv5, hf⟩ := letv_some hf
      refine MW.iald 16 4 rfl (by decide) rfl (by decide +kernel) (inb_in hi_v5) ?_
      rw [← hv5]
      refine MW.run rfl [(.putfield 42, 0)] (pc' := 33) (ls' := [some (.ref 137), some (.int p0), none]) (st' := []) (T1 := mz T 22 v5) (by decide +kernel) rfl ?_
      obtain ⟨T6, hT6, hf⟩ := letv_some hf
      rw [← hT6]
      refine MW.run rfl [(.aload_n 0, 0), (.aload_n 0, 0), (.getfield 65, 0), (.iload_n 1, 0)] (pc' := 39) (ls' := [some (.ref 137), some (.int p0), none]) (st' := [.int p0, .ref 154, .ref 137]) (T1 := T6) (by decide +kernel) rfl ?_
      obtain ⟨hi_v7, hf⟩ := bi_some hf
      obtain ⟨v7, hv7, hf⟩ := letv_some hf
      refine MW.iald 17 4 rfl (by decide) rfl (by decide +kernel) (inb_in hi_v7) ?_
      rw [← hv7]
      refine MW.run rfl [(.putfield 419, 0)] (pc' := 43) (ls' := [some (.ref 137), some (.int p0), none]) (st' := []) (T1 := mz T6 23 v7) (by decide +kernel) rfl ?_
      obtain ⟨T8, hT8, hf⟩ := letv_some hf
      rw [← hT8]
      refine MW.run rfl [(.aload_n 0, 0), (.iconst 0, 0), (.putfield 260, 0)] (pc' := 48) (ls' := [some (.ref 137), some (.int p0), none]) (st' := []) (T1 := mz T8 25 0) (by decide +kernel) rfl ?_
      obtain ⟨T9, hT9, hf⟩ := letv_some hf
      rw [← hT9]
      refine MW.run rfl [(.iconst 0, 0), (.istore_n 2, 0)] (pc' := 50) (ls' := [some (.ref 137), some (.int p0), some (.int 0)]) (st' := []) (T1 := T9) (by decide +kernel) rfl ?_
      obtain ⟨w13, hw13, hf⟩ := bd_some hf
      refine xm_back_L50 p0 FU _ _ _ hw13 ?_
      refine MW.run rfl [(.aload_n 0, 0), (.getfield 39, 0), (.iconst 2, 2)] (pc' := 86) (ls' := [some (.ref 137), some (.int p0), some (.int w13.1)]) (st' := [.int 2, .ref 147]) (T1 := w13.2) (by decide +kernel) rfl ?_
      obtain ⟨hi_v14, hf⟩ := bi_some hf
      obtain ⟨v14, hv14, hf⟩ := letv_some hf
      refine MW.iald 10 410 rfl (by decide) rfl (by decide +kernel) (inb_in hi_v14) ?_
      rw [← hv14]
      have e9 := Option.some.inj hf
      subst e9
      exact MW.iret rfl (by decide +kernel)
    · rw [if_pos c18_4] at hf
      refine MW.run rfl [(.iconst (-1), (-1))] (pc' := 22) (ls' := [some (.ref 137), some (.int p0), none]) (st' := [.int (-1)]) (T1 := T) (by decide +kernel) rfl ?_
      have e9 := Option.some.inj hf
      subst e9
      exact MW.iret rfl (by decide +kernel)
