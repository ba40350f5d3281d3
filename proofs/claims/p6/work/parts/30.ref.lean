/-! ===== the reference, method by method (by program) 11 ===== -/
def fm_worthOf_L4 (k1 : Int32) (T : mT) : Nat → Int32 → Int32 → Option (Int32 × Int32)
  | 0, _, _ => none
  | N + 1, a2, a3 => bif inb 408 410 then (letv (T.1 10 (408 : Int32).toNatClampNeg) fun v1 => if v1 ≤ a3 then (some (a2, a3)) else ((fm_isOf k1 a3).bind fun q3 => if (b2i q3) = 0 then (fm_worthOf_L4 k1 T N (a2 + 0) (a3 + 1)) else (bif inb ((352 + (4 * a3)) + 3) 410 then (letv (T.1 10 (((352 + (4 * a3)) + 3) : Int32).toNatClampNeg) fun v5 => fm_worthOf_L4 k1 T N (a2 + v5) (a3 + 1)) else none))) else none
def fm_worthOf (p0 : Int32) (T : mT) : Option (Int32) := (fm_worthOf_L4 p0 T FU 0 0).bind fun w6 => some w6.1
theorem xm_worthOf_L4 {l : Launch} {r : Option Value} {T' : mT} (k1 : Int32) (T : mT) : ∀ (N : Nat) (a2 : Int32) (a3 : Int32) (W0 : Int32 × Int32) (_ : fm_worthOf_L4 k1 T N a2 a3 = some W0) (_ : MW l yy_X12_worthOf 1 r T' 51 [some (.ref 137), some (.int k1), some (.int W0.1), some (.int W0.2)] [] T), MW l yy_X12_worthOf 1 r T' 4 [some (.ref 137), some (.int k1), some (.int a2), some (.int a3)] [] T := by
  intro N
  induction N with
  | zero =>
    intro a2 a3 W0 hf _
    cases hf
  | succ N ih =>
    intro a2 a3 W0 hf hk1
    unfold fm_worthOf_L4 at hf
    refine MW.run rfl [(.iload_n 3, 0), (.aload_n 0, 0), (.getfield 39, 0), (.sipush 408, 408)] (pc' := 12) (ls' := [some (.ref 137), some (.int k1), some (.int a2), some (.int a3)]) (st' := [.int 408, .ref 147, .int a3]) (T1 := T) (by decide +kernel) rfl ?_
    obtain ⟨hi_v1, hf⟩ := bi_some hf
    obtain ⟨v1, hv1, hf⟩ := letv_some hf
    refine MW.iald 10 410 rfl (by decide) rfl (by decide +kernel) (inb_in hi_v1) ?_
    rw [← hv1]
    refine MW.icmp_ge (off := 38) (tgt := 51) (by decide +kernel) (by decide) (fun c13_2 => ?_) (fun c13_2 => ?_)
    · rw [if_pos c13_2] at hf
      have e9 := Option.some.inj hf
      subst e9
      exact hk1
    · rw [if_neg c13_2] at hf
      refine MW.run rfl [(.iload_n 2, 0), (.iload_n 1, 0), (.iload_n 3, 0)] (pc' := 19) (ls' := [some (.ref 137), some (.int k1), some (.int a2), some (.int a3)]) (st' := [.int a3, .int k1, .int a2]) (T1 := T) (by decide +kernel) rfl ?_
      obtain ⟨q3, hq3, hf⟩ := bd_some hf
      refine MW.callP (As := [.int k1, .int a3]) (st := [.int a2]) lt_RX12_309 (by decide +kernel) (xm_isOf hq3) (by decide) (by decide) rfl (Nat.le_of_ble_eq_true rfl) rfl ?_
      show MW l yy_X12_worthOf 1 _ _ 22 [some (.ref 137), some (.int k1), some (.int a2), some (.int a3)] [.int (b2i q3), .int a2] T
      refine MW.if_eq (off := 20) (tgt := 42) (by decide +kernel) (by decide) (fun c22_4 => ?_) (fun c22_4 => ?_)
      · rw [if_pos c22_4] at hf
        refine MW.run rfl [(.iconst 0, 0), (.iadd, 0), (.istore_n 2, 0), (.iinc 3 1, 1), (.goto (-44), 0)] (pc' := 4) (ls' := [some (.ref 137), some (.int k1), some (.int (a2 + 0)), some (.int (a3 + 1))]) (st' := []) (T1 := T) (by decide +kernel) rfl ?_
        exact ih _ _ _ hf hk1
      · rw [if_neg c22_4] at hf
        refine MW.run rfl [(.aload_n 0, 0), (.getfield 39, 0), (.sipush 352, 352), (.iconst 4, 4), (.iload_n 3, 0), (.imul, 0), (.iadd, 0), (.iconst 3, 3), (.iadd, 0)] (pc' := 38) (ls' := [some (.ref 137), some (.int k1), some (.int a2), some (.int a3)]) (st' := [.int ((352 + (4 * a3)) + 3), .ref 147, .int a2]) (T1 := T) (by decide +kernel) rfl ?_
        obtain ⟨hi_v5, hf⟩ := bi_some hf
        obtain ⟨v5, hv5, hf⟩ := letv_some hf
        refine MW.iald 10 410 rfl (by decide) rfl (by decide +kernel) (inb_in hi_v5) ?_
        rw [← hv5]
        refine MW.run rfl [(.goto 4, 0), (.iadd, 0), (.istore_n 2, 0), (.iinc 3 1, 1), (.goto (-44), 0)] (pc' := 4) (ls' := [some (.ref 137), some (.int k1), some (.int (a2 + v5)), some (.int (a3 + 1))]) (st' := []) (T1 := T) (by decide +kernel) rfl ?_
        exact ih _ _ _ hf hk1
theorem xm_worthOf {l : Launch} {p0 : Int32} {T : mT} {q : Int32} (hf : fm_worthOf p0 T = some q) : MOk l yy_X12_worthOf 1 [.int p0] T (some (.int q)) T := by
  refine MOk.of (ls := [some (.ref 137), some (.int p0), none, none]) (by decide +kernel) (Nat.le_of_ble_eq_true rfl) rfl ?_
  unfold fm_worthOf at hf
  refine MW.run rfl [(.iconst 0, 0), (.istore_n 2, 0), (.iconst 0, 0), (.istore_n 3, 0)] (pc' := 4) (ls' := [some (.ref 137), some (.int p0), some (.int 0), some (.int 0)]) (st' := []) (T1 := T) (by decide +kernel) rfl ?_
  obtain ⟨w6, hw6, hf⟩ := bd_some hf
  refine xm_worthOf_L4 p0 T FU _ _ _ hw6 ?_
  refine MW.run rfl [(.iload_n 2, 0)] (pc' := 52) (ls' := [some (.ref 137), some (.int p0), some (.int w6.1), some (.int w6.2)]) (st' := [.int w6.1]) (T1 := T) (by decide +kernel) rfl ?_
  have e9 := Option.some.inj hf
  subst e9
  exact MW.iret rfl (by decide +kernel)
def fm_placeAt (p0 : Int32) (p1 : Int32) (p2 : Int32) : Option (Int32) := some ((((p0 * 8) + p1) * 1024) + p2)
theorem xm_placeAt {l : Launch} {p0 : Int32} {p1 : Int32} {p2 : Int32} {q : Int32} (hf : fm_placeAt p0 p1 p2 = some q) : POk l yy_X12_placeAt 0 [.int p0, .int p1, .int p2] (some (.int q)) := by
  refine POk.of (ls := [some (.int p0), some (.int p1), some (.int p2)]) (by decide +kernel) (Nat.le_of_ble_eq_true rfl) rfl ?_
  unfold fm_placeAt at hf
  refine PW.run (blk := [(.iload_n 0, 0), (.bipush 8, 8), (.imul, 0), (.iload_n 1, 0), (.iadd, 0), (.sipush 1024, 1024), (.imul, 0), (.iload_n 2, 0), (.iadd, 0)]) (pc' := 12) (ls' := [some (.int p0), some (.int p1), some (.int p2)]) (st' := [.int ((((p0 * 8) + p1) * 1024) + p2)]) (by decide +kernel) rfl ?_
  have e9 := Option.some.inj hf
  subst e9
  exact PW.iret rfl (by decide +kernel)
def fm_mostFrom_L30 (k1 : Int32) (k2 : Int32) (k3 : Int32) (k4 : Int32) (k5 : Int32) (T : mT) : Nat → Int32 → Int32 → Option (Int32 × Int32)
  | 0, _, _ => none
  | N + 1, a6, a7 => bif inb 1 410 then (letv (T.1 10 (1 : Int32).toNatClampNeg) fun v3 => if v3 ≤ a7 then (some (a6, a7)) else (if a7 = k2 then ((fm_placeAt (k1 + 1) a7 k5).bind fun q6 => bif inb q6 131072 then (letv (T.1 12 (q6 : Int32).toNatClampNeg) fun v7 => if v7 ≤ a6 then (fm_mostFrom_L30 k1 k2 k3 k4 k5 T N a6 (a7 + 1)) else (fm_mostFrom_L30 k1 k2 k3 k4 k5 T N v7 (a7 + 1))) else none) else (bif inb (104 + k2) 410 then (letv (T.1 10 ((104 + k2) : Int32).toNatClampNeg) fun v9 => (fm_isOf v9 a7).bind fun q10 => if (b2i q10) = 0 then (fm_mostFrom_L30 k1 k2 k3 k4 k5 T N a6 (a7 + 1)) else ((fm_placeAt (k1 + 1) a7 k5).bind fun q12 => bif inb q12 131072 then (letv (T.1 12 (q12 : Int32).toNatClampNeg) fun v13 => if v13 ≤ a6 then (fm_mostFrom_L30 k1 k2 k3 k4 k5 T N a6 (a7 + 1)) else (fm_mostFrom_L30 k1 k2 k3 k4 k5 T N v13 (a7 + 1))) else none)) else none))) else none
def fm_mostFrom (p0 : Int32) (p1 : Int32) (p2 : Int32) (p3 : Int32) (T : mT) : Option (Int32) := (fm_servedAt p0 p1 p2 T).bind fun q1 => if p0 = (p3 - 1) then ((fm_worthOf q1 T).bind fun q16 => some q16) else ((fm_mostFrom_L30 p0 p1 p2 p3 q1 T FU 0 0).bind fun w15 => some w15.1)
theorem xm_mostFrom_L30 {l : Launch} {r : Option Value} {T' : mT} (k1 : Int32) (k2 : Int32) (k3 : Int32) (k4 : Int32) (k5 : Int32) (T : mT) : ∀ (N : Nat) (a6 : Int32) (a7 : Int32) (W0 : Int32 × Int32) (_ : fm_mostFrom_L30 k1 k2 k3 k4 k5 T N a6 a7 = some W0) (_ : MW l yy_X12_mostFrom 2 r T' 106 [some (.ref 137), some (.int k1), some (.int k2), some (.int k3), some (.int k4), some (.int k5), some (.int W0.1), some (.int W0.2), none] [] T), MW l yy_X12_mostFrom 2 r T' 30 [some (.ref 137), some (.int k1), some (.int k2), some (.int k3), some (.int k4), some (.int k5), some (.int a6), some (.int a7), none] [] T := by
  intro N
  induction N with
  | zero =>
    intro a6 a7 W0 hf _
    cases hf
  | succ N ih =>
    intro a6 a7 W0 hf hk1
    unfold fm_mostFrom_L30 at hf
    refine MW.run rfl [(.iload 7, 0), (.aload_n 0, 0), (.getfield 39, 0), (.iconst 1, 1)] (pc' := 37) (ls' := [some (.ref 137), some (.int k1), some (.int k2), some (.int k3), some (.int k4), some (.int k5), some (.int a6), some (.int a7), none]) (st' := [.int 1, .ref 147, .int a7]) (T1 := T) (by decide +kernel) rfl ?_
    obtain ⟨hi_v3, hf⟩ := bi_some hf
    obtain ⟨v3, hv3, hf⟩ := letv_some hf
    refine MW.iald 10 410 rfl (by decide) rfl (by decide +kernel) (inb_in hi_v3) ?_
    rw [← hv3]
    refine MW.icmp_ge (off := 68) (tgt := 106) (by decide +kernel) (by decide) (fun c38_4 => ?_) (fun c38_4 => ?_)
    · rw [if_pos c38_4] at hf
      have e9 := Option.some.inj hf
      subst e9
      exact hk1
    · rw [if_neg c38_4] at hf
      refine MW.run rfl [(.iload 7, 0), (.iload_n 2, 0)] (pc' := 44) (ls' := [some (.ref 137), some (.int k1), some (.int k2), some (.int k3), some (.int k4), some (.int k5), some (.int a6), some (.int a7), none]) (st' := [.int k2, .int a7]) (T1 := T) (by decide +kernel) rfl ?_
      refine MW.icmp_eq (off := 23) (tgt := 67) (by decide +kernel) (by decide) (fun c44_5 => ?_) (fun c44_5 => ?_)
      · rw [if_pos c44_5] at hf
        refine MW.run rfl [(.aload_n 0, 0), (.getfield 50, 0), (.iload_n 1, 0), (.iconst 1, 1), (.iadd, 0), (.iload 7, 0), (.iload 5, 0)] (pc' := 78) (ls' := [some (.ref 137), some (.int k1), some (.int k2), some (.int k3), some (.int k4), some (.int k5), some (.int a6), some (.int a7), none]) (st' := [.int k5, .int a7, .int (k1 + 1), .ref 149]) (T1 := T) (by decide +kernel) rfl ?_
        obtain ⟨q6, hq6, hf⟩ := bd_some hf
        refine MW.callP (As := [.int (k1 + 1), .int a7, .int k5]) (st := [.ref 149]) lt_RX12_400 (by decide +kernel) (xm_placeAt hq6) (by decide) (by decide) rfl (Nat.le_of_ble_eq_true rfl) rfl ?_
        show MW l yy_X12_mostFrom 2 _ _ 81 [some (.ref 137), some (.int k1), some (.int k2), some (.int k3), some (.int k4), some (.int k5), some (.int a6), some (.int a7), none] [.int q6, .ref 149] T
        obtain ⟨hi_v7, hf⟩ := bi_some hf
        obtain ⟨v7, hv7, hf⟩ := letv_some hf
        refine MW.iald 12 131072 rfl (by decide) rfl (by decide +kernel) (inb_in hi_v7) ?_
        rw [← hv7]
        refine MW.run rfl [(.istore 8, 0), (.iload 8, 0), (.iload 6, 0)] (pc' := 88) (ls' := [some (.ref 137), some (.int k1), some (.int k2), some (.int k3), some (.int k4), some (.int k5), some (.int a6), some (.int a7), some (.int v7)]) (st' := [.int a6, .int v7]) (T1 := T) (by decide +kernel) rfl ?_
        refine MW.icmp_le (off := 8) (tgt := 96) (by decide +kernel) (by decide) (fun c88_8 => ?_) (fun c88_8 => ?_)
        · rw [if_pos c88_8] at hf
          refine MW.run rfl [(.iload 6, 0), (.istore 6, 0), (.iinc 7 1, 1), (.goto (-73), 0)] (pc' := 30) (ls' := [some (.ref 137), some (.int k1), some (.int k2), some (.int k3), some (.int k4), some (.int k5), some (.int a6), some (.int (a7 + 1)), some (.int v7)]) (st' := []) (T1 := T) (by decide +kernel) rfl ?_
          refine MW.fgt (ls' := [some (.ref 137), some (.int k1), some (.int k2), some (.int k3), some (.int k4), some (.int k5), some (.int a6), some (.int (a7 + 1)), none]) (by repeat' (first | exact trivial | refine ⟨rfl, ?_⟩)) ?_
          exact ih _ _ _ hf hk1
        · rw [if_neg c88_8] at hf
          refine MW.run rfl [(.iload 8, 0), (.goto 5, 0), (.istore 6, 0), (.iinc 7 1, 1), (.goto (-73), 0)] (pc' := 30) (ls' := [some (.ref 137), some (.int k1), some (.int k2), some (.int k3), some (.int k4), some (.int k5), some (.int v7), some (.int (a7 + 1)), some (.int v7)]) (st' := []) (T1 := T) (by decide +kernel) rfl ?_
          refine MW.fgt (ls' := [some (.ref 137), some (.int k1), some (.int k2), some (.int k3), some (.int k4), some (.int k5), some (.int v7), some (.int (a7 + 1)), none]) (by repeat' (first | exact trivial | refine ⟨rfl, ?_⟩)) ?_
          exact ih _ _ _ hf hk1
      · rw [if_neg c44_5] at hf
        refine MW.run rfl [(.aload_n 0, 0), (.getfield 39, 0), (.bipush 104, 104), (.iload_n 2, 0), (.iadd, 0)] (pc' := 55) (ls' := [some (.ref 137), some (.int k1), some (.int k2), some (.int k3), some (.int k4), some (.int k5), some (.int a6), some (.int a7), none]) (st' := [.int (104 + k2), .ref 147]) (T1 := T) (by decide +kernel) rfl ?_
        obtain ⟨hi_v9, hf⟩ := bi_some hf
        obtain ⟨v9, hv9, hf⟩ := letv_some hf
        refine MW.iald 10 410 rfl (by decide) rfl (by decide +kernel) (inb_in hi_v9) ?_
        rw [← hv9]
        refine MW.run rfl [(.iload 7, 0)] (pc' := 58) (ls' := [some (.ref 137), some (.int k1), some (.int k2), some (.int k3), some (.int k4), some (.int k5), some (.int a6), some (.int a7), none]) (st' := [.int a7, .int v9]) (T1 := T) (by decide +kernel) rfl ?_
        obtain ⟨q10, hq10, hf⟩ := bd_some hf
        refine MW.callP (As := [.int v9, .int a7]) (st := []) lt_RX12_309 (by decide +kernel) (xm_isOf hq10) (by decide) (by decide) rfl (Nat.le_of_ble_eq_true rfl) rfl ?_
        show MW l yy_X12_mostFrom 2 _ _ 61 [some (.ref 137), some (.int k1), some (.int k2), some (.int k3), some (.int k4), some (.int k5), some (.int a6), some (.int a7), none] [.int (b2i q10)] T
        refine MW.if_ne (off := 6) (tgt := 67) (by decide +kernel) (by decide) (fun c61_11 => ?_) (fun c61_11 => ?_)
        · rw [if_neg c61_11] at hf
          refine MW.run rfl [(.aload_n 0, 0), (.getfield 50, 0), (.iload_n 1, 0), (.iconst 1, 1), (.iadd, 0), (.iload 7, 0), (.iload 5, 0)] (pc' := 78) (ls' := [some (.ref 137), some (.int k1), some (.int k2), some (.int k3), some (.int k4), some (.int k5), some (.int a6), some (.int a7), none]) (st' := [.int k5, .int a7, .int (k1 + 1), .ref 149]) (T1 := T) (by decide +kernel) rfl ?_
          obtain ⟨q12, hq12, hf⟩ := bd_some hf
          refine MW.callP (As := [.int (k1 + 1), .int a7, .int k5]) (st := [.ref 149]) lt_RX12_400 (by decide +kernel) (xm_placeAt hq12) (by decide) (by decide) rfl (Nat.le_of_ble_eq_true rfl) rfl ?_
          show MW l yy_X12_mostFrom 2 _ _ 81 [some (.ref 137), some (.int k1), some (.int k2), some (.int k3), some (.int k4), some (.int k5), some (.int a6), some (.int a7), none] [.int q12, .ref 149] T
          obtain ⟨hi_v13, hf⟩ := bi_some hf
          obtain ⟨v13, hv13, hf⟩ := letv_some hf
          refine MW.iald 12 131072 rfl (by decide) rfl (by decide +kernel) (inb_in hi_v13) ?_
          rw [← hv13]
          refine MW.run rfl [(.istore 8, 0), (.iload 8, 0), (.iload 6, 0)] (pc' := 88) (ls' := [some (.ref 137), some (.int k1), some (.int k2), some (.int k3), some (.int k4), some (.int k5), some (.int a6), some (.int a7), some (.int v13)]) (st' := [.int a6, .int v13]) (T1 := T) (by decide +kernel) rfl ?_
          refine MW.icmp_le (off := 8) (tgt := 96) (by decide +kernel) (by decide) (fun c88_14 => ?_) (fun c88_14 => ?_)
          · rw [if_pos c88_14] at hf
            refine MW.run rfl [(.iload 6, 0), (.istore 6, 0), (.iinc 7 1, 1), (.goto (-73), 0)] (pc' := 30) (ls' := [some (.ref 137), some (.int k1), some (.int k2), some (.int k3), some (.int k4), some (.int k5), some (.int a6), some (.int (a7 + 1)), some (.int v13)]) (st' := []) (T1 := T) (by decide +kernel) rfl ?_
            refine MW.fgt (ls' := [some (.ref 137), some (.int k1), some (.int k2), some (.int k3), some (.int k4), some (.int k5), some (.int a6), some (.int (a7 + 1)), none]) (by repeat' (first | exact trivial | refine ⟨rfl, ?_⟩)) ?_
            exact ih _ _ _ hf hk1
          · rw [if_neg c88_14] at hf
            refine MW.run rfl [(.iload 8, 0), (.goto 5, 0), (.istore 6, 0), (.iinc 7 1, 1), (.goto (-73), 0)] (pc' := 30) (ls' := [some (.ref 137), some (.int k1), some (.int k2), some (.int k3), some (.int k4), some (.int k5), some (.int v13), some (.int (a7 + 1)), some (.int v13)]) (st' := []) (T1 := T) (by decide +kernel) rfl ?_
            refine MW.fgt (ls' := [some (.ref 137), some (.int k1), some (.int k2), some (.int k3), some (.int k4), some (.int k5), some (.int v13), some (.int (a7 + 1)), none]) (by repeat' (first | exact trivial | refine ⟨rfl, ?_⟩)) ?_
            exact ih _ _ _ hf hk1
        · rw [if_pos c61_11] at hf
          refine MW.run rfl [(.goto 36, 0), (.iinc 7 1, 1), (.goto (-73), 0)] (pc' := 30) (ls' := [some (.ref 137), some (.int k1), some (.int k2), some (.int k3), some (.int k4), some (.int k5), some (.int a6), some (.int (a7 + 1)), none]) (st' := []) (T1 := T) (by decide +kernel) rfl ?_
          exact ih _ _ _ hf hk1
theorem xm_mostFrom {l : Launch} {p0 : Int32} {p1 : Int32} {p2 : Int32} {p3 : Int32} {T : mT} {q : Int32} (hf : fm_mostFrom p0 p1 p2 p3 T = some q) : MOk l yy_X12_mostFrom 2 [.int p0, .int p1, .int p2, .int p3] T (some (.int q)) T := by
  refine MOk.of (ls := [some (.ref 137), some (.int p0), some (.int p1), some (.int p2), some (.int p3), none, none, none, none]) (by decide +kernel) (Nat.le_of_ble_eq_true rfl) rfl ?_
  unfold fm_mostFrom at hf
  refine MW.run rfl [(.aload_n 0, 0), (.iload_n 1, 0), (.iload_n 2, 0), (.iload_n 3, 0)] (pc' := 4) (ls' := [some (.ref 137), some (.int p0), some (.int p1), some (.int p2), some (.int p3), none, none, none, none]) (st' := [.int p2, .int p1, .int p0, .ref 137]) (T1 := T) (by decide +kernel) rfl ?_
  obtain ⟨q1, hq1, hf⟩ := bd_some hf
  refine MW.callV (As := [.int p0, .int p1, .int p2]) (st := []) lv_RX12_394 rfl (by decide +kernel) (xm_servedAt hq1) (by decide) (by decide) rfl (Nat.le_of_ble_eq_true rfl) rfl ?_
  show MW l yy_X12_mostFrom 2 _ _ 7 [some (.ref 137), some (.int p0), some (.int p1), some (.int p2), some (.int p3), none, none, none, none] [.int q1] T
  refine MW.run rfl [(.istore 5, 0), (.iload_n 1, 0), (.iload 4, 0), (.iconst 1, 1), (.isub, 0)] (pc' := 14) (ls' := [some (.ref 137), some (.int p0), some (.int p1), some (.int p2), some (.int p3), some (.int q1), none, none, none]) (st' := [.int (p3 - 1), .int p0]) (T1 := T) (by decide +kernel) rfl ?_
  refine MW.icmp_ne (off := 10) (tgt := 24) (by decide +kernel) (by decide) (fun c14_2 => ?_) (fun c14_2 => ?_)
  · rw [if_neg c14_2] at hf
    refine MW.run rfl [(.iconst 0, 0), (.istore 6, 0), (.iconst 0, 0), (.istore 7, 0)] (pc' := 30) (ls' := [some (.ref 137), some (.int p0), some (.int p1), some (.int p2), some (.int p3), some (.int q1), some (.int 0), some (.int 0), none]) (st' := []) (T1 := T) (by decide +kernel) rfl ?_
    obtain ⟨w15, hw15, hf⟩ := bd_some hf
    refine xm_mostFrom_L30 p0 p1 p2 p3 q1 T FU _ _ _ hw15 ?_
    refine MW.run rfl [(.iload 6, 0)] (pc' := 108) (ls' := [some (.ref 137), some (.int p0), some (.int p1), some (.int p2), some (.int p3), some (.int q1), some (.int w15.1), some (.int w15.2), none]) (st' := [.int w15.1]) (T1 := T) (by decide +kernel) rfl ?_
    have e9 := Option.some.inj hf
    subst e9
    exact MW.iret rfl (by decide +kernel)
  · rw [if_pos c14_2] at hf
    refine MW.run rfl [(.aload_n 0, 0), (.iload 5, 0)] (pc' := 20) (ls' := [some (.ref 137), some (.int p0), some (.int p1), some (.int p2), some (.int p3), some (.int q1), none, none, none]) (st' := [.int q1, .ref 137]) (T1 := T) (by decide +kernel) rfl ?_
    obtain ⟨q16, hq16, hf⟩ := bd_some hf
    refine MW.callV (As := [.int q1]) (st := []) lv_RX12_397 rfl (by decide +kernel) (xm_worthOf hq16) (by decide) (by decide) rfl (Nat.le_of_ble_eq_true rfl) rfl ?_
    show MW l yy_X12_mostFrom 2 _ _ 23 [some (.ref 137), some (.int p0), some (.int p1), some (.int p2), some (.int p3), some (.int q1), none, none, none] [.int q16] T
    have e9 := Option.some.inj hf
    subst e9
    exact MW.iret rfl (by decide +kernel)
def fm_fillsRounds_L23 (k1 : Int32) (k2 : Int32) (k3 : Int32) : Nat → Int32 → mT → Option (Int32 × mT)
  | 0, _, _ => none
  | N + 1, a4, T => bif inb 408 410 then (letv (T.1 10 (408 : Int32).toNatClampNeg) fun v4 => if (1 <<< (v4 &&& 31)) ≤ a4 then (some (a4, T)) else ((fm_placeAt k2 k3 a4).bind fun q6 => (fm_mostFrom k2 k3 a4 k1 T).bind fun q7 => bif inb q6 131072 then (letv (ma T 12 (q6 : Int32).toNatClampNeg q7) fun T8 => fm_fillsRounds_L23 k1 k2 k3 N (a4 + 1) T8) else none)) else none
def fm_fillsRounds_L10 (k1 : Int32) (k2 : Int32) : Nat → Int32 → mT → Option (Int32 × mT)
  | 0, _, _ => none
  | N + 1, a3, T => bif inb 1 410 then (letv (T.1 10 (1 : Int32).toNatClampNeg) fun v2 => if v2 ≤ a3 then (some (a3, T)) else ((fm_fillsRounds_L23 k1 k2 a3 FU 0 T).bind fun w9 => fm_fillsRounds_L10 k1 k2 N (a3 + 1) w9.2)) else none
def fm_fillsRounds_L4 (k1 : Int32) : Nat → Int32 → mT → Option (Int32 × mT)
  | 0, _, _ => none
  | N + 1, a2, T => if a2 < 0 then (some (a2, T)) else ((fm_fillsRounds_L10 k1 a2 FU 0 T).bind fun w10 => fm_fillsRounds_L4 k1 N (a2 + (-1)) w10.2)
def fm_fillsRounds (p0 : Int32) (T : mT) : Option (mT) := (fm_fillsRounds_L4 p0 FU (p0 - 1) T).bind fun w11 => some w11.2
theorem xm_fillsRounds_L23 {l : Launch} {r : Option Value} {T' : mT} (k1 : Int32) (k2 : Int32) (k3 : Int32) : ∀ (N : Nat) (a4 : Int32) (T : mT) (W0 : Int32 × mT) (_ : fm_fillsRounds_L23 k1 k2 k3 N a4 T = some W0) (_ : MW l yy_X12_fillsRounds 3 r T' 65 [some (.ref 137), some (.int k1), some (.int k2), some (.int k3), some (.int W0.1)] [] W0.2), MW l yy_X12_fillsRounds 3 r T' 23 [some (.ref 137), some (.int k1), some (.int k2), some (.int k3), some (.int a4)] [] T := by
  intro N
  induction N with
  | zero =>
    intro a4 T W0 hf _
    cases hf
  | succ N ih =>
    intro a4 T W0 hf hk1
    unfold fm_fillsRounds_L23 at hf
    refine MW.run rfl [(.iload 4, 0), (.iconst 1, 1), (.aload_n 0, 0), (.getfield 39, 0), (.sipush 408, 408)] (pc' := 33) (ls' := [some (.ref 137), some (.int k1), some (.int k2), some (.int k3), some (.int a4)]) (st' := [.int 408, .ref 147, .int 1, .int a4]) (T1 := T) (by decide +kernel) rfl ?_
    obtain ⟨hi_v4, hf⟩ := bi_some hf
    obtain ⟨v4, hv4, hf⟩ := letv_some hf
    refine MW.iald 10 410 rfl (by decide) rfl (by decide +kernel) (inb_in hi_v4) ?_
    rw [← hv4]
    refine MW.run rfl [(.ishl, 0)] (pc' := 35) (ls' := [some (.ref 137), some (.int k1), some (.int k2), some (.int k3), some (.int a4)]) (st' := [.int (1 <<< (v4 &&& 31)), .int a4]) (T1 := T) (by decide +kernel) rfl ?_
    refine MW.icmp_ge (off := 30) (tgt := 65) (by decide +kernel) (by decide) (fun c35_5 => ?_) (fun c35_5 => ?_)
    · rw [if_pos c35_5] at hf
      have e9 := Option.some.inj hf
      subst e9
      exact hk1
    · rw [if_neg c35_5] at hf
      refine MW.run rfl [(.aload_n 0, 0), (.getfield 50, 0), (.iload_n 2, 0), (.iload_n 3, 0), (.iload 4, 0)] (pc' := 46) (ls' := [some (.ref 137), some (.int k1), some (.int k2), some (.int k3), some (.int a4)]) (st' := [.int a4, .int k3, .int k2, .ref 149]) (T1 := T) (by decide +kernel) rfl ?_
      obtain ⟨q6, hq6, hf⟩ := bd_some hf
      refine MW.callP (As := [.int k2, .int k3, .int a4]) (st := [.ref 149]) lt_RX12_400 (by decide +kernel) (xm_placeAt hq6) (by decide) (by decide) rfl (Nat.le_of_ble_eq_true rfl) rfl ?_
      show MW l yy_X12_fillsRounds 3 _ _ 49 [some (.ref 137), some (.int k1), some (.int k2), some (.int k3), some (.int a4)] [.int q6, .ref 149] T
      refine MW.run rfl [(.aload_n 0, 0), (.iload_n 2, 0), (.iload_n 3, 0), (.iload 4, 0), (.iload_n 1, 0)] (pc' := 55) (ls' := [some (.ref 137), some (.int k1), some (.int k2), some (.int k3), some (.int a4)]) (st' := [.int k1, .int a4, .int k3, .int k2, .ref 137, .int q6, .ref 149]) (T1 := T) (by decide +kernel) rfl ?_
      obtain ⟨q7, hq7, hf⟩ := bd_some hf
      refine MW.callV (As := [.int k2, .int k3, .int a4, .int k1]) (st := [.int q6, .ref 149]) lv_RX12_403 rfl (by decide +kernel) (xm_mostFrom hq7) (by decide) (by decide) rfl (Nat.le_of_ble_eq_true rfl) rfl ?_
      show MW l yy_X12_fillsRounds 3 _ _ 58 [some (.ref 137), some (.int k1), some (.int k2), some (.int k3), some (.int a4)] [.int q7, .int q6, .ref 149] T
      obtain ⟨hi_T8, hf⟩ := bi_some hf
      obtain ⟨T8, hT8, hf⟩ := letv_some hf
      refine MW.iast 12 131072 rfl (by decide) (fun _ => rfl) (by decide +kernel) (inb_in hi_T8) ?_
      rw [← hT8]
      refine MW.run rfl [(.iinc 4 1, 1), (.goto (-39), 0)] (pc' := 23) (ls' := [some (.ref 137), some (.int k1), some (.int k2), some (.int k3), some (.int (a4 + 1))]) (st' := []) (T1 := T8) (by decide +kernel) rfl ?_
      exact ih _ _ _ hf hk1
theorem xm_fillsRounds_L10 {l : Launch} {r : Option Value} {T' : mT} (k1 : Int32) (k2 : Int32) : ∀ (N : Nat) (a3 : Int32) (T : mT) (W0 : Int32 × mT) (_ : fm_fillsRounds_L10 k1 k2 N a3 T = some W0) (_ : MW l yy_X12_fillsRounds 3 r T' 71 [some (.ref 137), some (.int k1), some (.int k2), some (.int W0.1), none] [] W0.2), MW l yy_X12_fillsRounds 3 r T' 10 [some (.ref 137), some (.int k1), some (.int k2), some (.int a3), none] [] T := by
  intro N
  induction N with
  | zero =>
    intro a3 T W0 hf _
    cases hf
  | succ N ih =>
    intro a3 T W0 hf hk1
    unfold fm_fillsRounds_L10 at hf
    refine MW.run rfl [(.iload_n 3, 0), (.aload_n 0, 0), (.getfield 39, 0), (.iconst 1, 1)] (pc' := 16) (ls' := [some (.ref 137), some (.int k1), some (.int k2), some (.int a3), none]) (st' := [.int 1, .ref 147, .int a3]) (T1 := T) (by decide +kernel) rfl ?_
    obtain ⟨hi_v2, hf⟩ := bi_some hf
    obtain ⟨v2, hv2, hf⟩ := letv_some hf
    refine MW.iald 10 410 rfl (by decide) rfl (by decide +kernel) (inb_in hi_v2) ?_
    rw [← hv2]
    refine MW.icmp_ge (off := 54) (tgt := 71) (by decide +kernel) (by decide) (fun c17_3 => ?_) (fun c17_3 => ?_)
    · rw [if_pos c17_3] at hf
      have e9 := Option.some.inj hf
      subst e9
      exact hk1
    · rw [if_neg c17_3] at hf
      refine MW.run rfl [(.iconst 0, 0), (.istore 4, 0)] (pc' := 23) (ls' := [some (.ref 137), some (.int k1), some (.int k2), some (.int a3), some (.int 0)]) (st' := []) (T1 := T) (by decide +kernel) rfl ?_
      obtain ⟨w9, hw9, hf⟩ := bd_some hf
      refine xm_fillsRounds_L23 k1 k2 a3 FU _ _ _ hw9 ?_
      refine MW.run rfl [(.iinc 3 1, 1), (.goto (-58), 0)] (pc' := 10) (ls' := [some (.ref 137), some (.int k1), some (.int k2), some (.int (a3 + 1)), some (.int w9.1)]) (st' := []) (T1 := w9.2) (by decide +kernel) rfl ?_
      refine MW.fgt (ls' := [some (.ref 137), some (.int k1), some (.int k2), some (.int (a3 + 1)), none]) (by repeat' (first | exact trivial | refine ⟨rfl, ?_⟩)) ?_
      exact ih _ _ _ hf hk1
theorem xm_fillsRounds_L4 {l : Launch} {r : Option Value} {T' : mT} (k1 : Int32) : ∀ (N : Nat) (a2 : Int32) (T : mT) (W0 : Int32 × mT) (_ : fm_fillsRounds_L4 k1 N a2 T = some W0) (_ : MW l yy_X12_fillsRounds 3 r T' 77 [some (.ref 137), some (.int k1), some (.int W0.1), none, none] [] W0.2), MW l yy_X12_fillsRounds 3 r T' 4 [some (.ref 137), some (.int k1), some (.int a2), none, none] [] T := by
  intro N
  induction N with
  | zero =>
    intro a2 T W0 hf _
    cases hf
  | succ N ih =>
    intro a2 T W0 hf hk1
    unfold fm_fillsRounds_L4 at hf
    refine MW.run rfl [(.iload_n 2, 0)] (pc' := 5) (ls' := [some (.ref 137), some (.int k1), some (.int a2), none, none]) (st' := [.int a2]) (T1 := T) (by decide +kernel) rfl ?_
    refine MW.if_lt (off := 72) (tgt := 77) (by decide +kernel) (by decide) (fun c5_1 => ?_) (fun c5_1 => ?_)
    · rw [if_pos c5_1] at hf
      have e9 := Option.some.inj hf
      subst e9
      exact hk1
    · rw [if_neg c5_1] at hf
      refine MW.run rfl [(.iconst 0, 0), (.istore_n 3, 0)] (pc' := 10) (ls' := [some (.ref 137), some (.int k1), some (.int a2), some (.int 0), none]) (st' := []) (T1 := T) (by decide +kernel) rfl ?_
      obtain ⟨w10, hw10, hf⟩ := bd_some hf
      refine xm_fillsRounds_L10 k1 a2 FU _ _ _ hw10 ?_
      refine MW.run rfl [(.iinc 2 (-1), (-1)), (.goto (-70), 0)] (pc' := 4) (ls' := [some (.ref 137), some (.int k1), some (.int (a2 + (-1))), some (.int w10.1), none]) (st' := []) (T1 := w10.2) (by decide +kernel) rfl ?_
      refine MW.fgt (ls' := [some (.ref 137), some (.int k1), some (.int (a2 + (-1))), none, none]) (by repeat' (first | exact trivial | refine ⟨rfl, ?_⟩)) ?_
      exact ih _ _ _ hf hk1
theorem xm_fillsRounds {l : Launch} {p0 : Int32} {T : mT} {q : mT} (hf : fm_fillsRounds p0 T = some q) : MOk l yy_X12_fillsRounds 3 [.int p0] T none q := by
  refine MOk.of (ls := [some (.ref 137), some (.int p0), none, none, none]) (by decide +kernel) (Nat.le_of_ble_eq_true rfl) rfl ?_
  unfold fm_fillsRounds at hf
  refine MW.run rfl [(.iload_n 1, 0), (.iconst 1, 1), (.isub, 0), (.istore_n 2, 0)] (pc' := 4) (ls' := [some (.ref 137), some (.int p0), some (.int (p0 - 1)), none, none]) (st' := []) (T1 := T) (by decide +kernel) rfl ?_
  obtain ⟨w11, hw11, hf⟩ := bd_some hf
  refine xm_fillsRounds_L4 p0 FU _ _ _ hw11 ?_
  have e9 := Option.some.inj hf
  subst e9
  exact MW.vret rfl (by decide +kernel)
def fm_round_L98 (k1 : Int32) (k2 : Int32) (k3 : Int32) (k4 : Int32) (k5 : Int32) (k6 : Int32) (T : mT) : Nat → Int32 → Int32 → Option (Int32 × Int32)
  | 0, _, _ => none
  | N + 1, a7, a8 => if a8 < 0 then (some (a7, a8)) else (if a8 = k3 then ((fm_placeAt (k6 + 1) a8 k4).bind fun q16 => bif inb q16 131072 then (letv (T.1 12 (q16 : Int32).toNatClampNeg) fun v17 => if v17 = k5 then (fm_round_L98 k1 k2 k3 k4 k5 k6 T N a8 (a8 + (-1))) else (fm_round_L98 k1 k2 k3 k4 k5 k6 T N a7 (a8 + (-1)))) else none) else (bif inb (104 + k3) 410 then (letv (T.1 10 ((104 + k3) : Int32).toNatClampNeg) fun v19 => (fm_isOf v19 a8).bind fun q20 => if (b2i q20) = 0 then (fm_round_L98 k1 k2 k3 k4 k5 k6 T N a7 (a8 + (-1))) else ((fm_placeAt (k6 + 1) a8 k4).bind fun q22 => bif inb q22 131072 then (letv (T.1 12 (q22 : Int32).toNatClampNeg) fun v23 => if v23 = k5 then (fm_round_L98 k1 k2 k3 k4 k5 k6 T N a8 (a8 + (-1))) else (fm_round_L98 k1 k2 k3 k4 k5 k6 T N a7 (a8 + (-1)))) else none)) else none))
def fm_round_L68 (k1 : Int32) (k2 : Int32) (k5 : Int32) (T : mT) : Nat → Int32 → Int32 → Int32 → Option (Int32 × Int32 × Int32)
  | 0, _, _, _ => none
  | N + 1, a3, a4, a6 => if k2 ≤ a6 then (some (a3, a4, a6)) else ((fm_servedAt a6 a3 a4 T).bind fun q12 => bif inb 1 410 then (letv (T.1 10 (1 : Int32).toNatClampNeg) fun v13 => (fm_round_L98 k1 k2 a3 q12 k5 a6 T FU (-1) (v13 - 1)).bind fun w25 => fm_round_L68 k1 k2 k5 T N w25.1 q12 (a6 + 1)) else none)
def fm_round (p0 : Int32) (p1 : Int32) (T : mT) : Option (Int32 × mT) := (fm_isIsland T).bind fun q1 => if (b2i q1) = 0 then (some ((-2), T)) else ((fm_in ((p0 : Int32).toInt64) 1 16).bind fun q3 => if (b2i q3) = 0 then (some ((-2), T)) else ((fm_in ((p1 : Int32).toInt64) (-1) (((p0 - 1) : Int32).toInt64)).bind fun q5 => if (b2i q5) = 0 then (some ((-2), T)) else ((fm_fillsRounds p0 T).bind fun q7 => bif inb 3 410 then (letv (q7.1 10 (3 : Int32).toNatClampNeg) fun v8 => (fm_placeAt 0 v8 0).bind fun q9 => bif inb q9 131072 then (letv (q7.1 12 (q9 : Int32).toNatClampNeg) fun v10 => (fm_round_L68 p0 p1 v10 q7 FU v8 0 0).bind fun w26 => if p1 = (-1) then (some (v10, q7)) else (some (w26.1, q7))) else none) else none)))
theorem xm_round_L98 {l : Launch} {r : Option Value} {T' : mT} (k1 : Int32) (k2 : Int32) (k3 : Int32) (k4 : Int32) (k5 : Int32) (k6 : Int32) (T : mT) : ∀ (N : Nat) (a7 : Int32) (a8 : Int32) (W0 : Int32 × Int32) (_ : fm_round_L98 k1 k2 k3 k4 k5 k6 T N a7 a8 = some W0) (_ : MW l yy_X12_round 4 r T' 157 [some (.ref 137), some (.int k1), some (.int k2), some (.int k3), some (.int k4), some (.int k5), some (.int k6), some (.int W0.1), some (.int W0.2)] [] T), MW l yy_X12_round 4 r T' 98 [some (.ref 137), some (.int k1), some (.int k2), some (.int k3), some (.int k4), some (.int k5), some (.int k6), some (.int a7), some (.int a8)] [] T := by
  intro N
  induction N with
  | zero =>
    intro a7 a8 W0 hf _
    cases hf
  | succ N ih =>
    intro a7 a8 W0 hf hk1
    unfold fm_round_L98 at hf
    refine MW.run rfl [(.iload 8, 0)] (pc' := 100) (ls' := [some (.ref 137), some (.int k1), some (.int k2), some (.int k3), some (.int k4), some (.int k5), some (.int k6), some (.int a7), some (.int a8)]) (st' := [.int a8]) (T1 := T) (by decide +kernel) rfl ?_
    refine MW.if_lt (off := 57) (tgt := 157) (by decide +kernel) (by decide) (fun c100_14 => ?_) (fun c100_14 => ?_)
    · rw [if_pos c100_14] at hf
      have e9 := Option.some.inj hf
      subst e9
      exact hk1
    · rw [if_neg c100_14] at hf
      refine MW.run rfl [(.iload 8, 0), (.iload_n 3, 0)] (pc' := 106) (ls' := [some (.ref 137), some (.int k1), some (.int k2), some (.int k3), some (.int k4), some (.int k5), some (.int k6), some (.int a7), some (.int a8)]) (st' := [.int k3, .int a8]) (T1 := T) (by decide +kernel) rfl ?_
      refine MW.icmp_eq (off := 20) (tgt := 126) (by decide +kernel) (by decide) (fun c106_15 => ?_) (fun c106_15 => ?_)
      · rw [if_pos c106_15] at hf
        refine MW.run rfl [(.aload_n 0, 0), (.getfield 50, 0), (.iload 6, 0), (.iconst 1, 1), (.iadd, 0), (.iload 8, 0), (.iload 4, 0)] (pc' := 138) (ls' := [some (.ref 137), some (.int k1), some (.int k2), some (.int k3), some (.int k4), some (.int k5), some (.int k6), some (.int a7), some (.int a8)]) (st' := [.int k4, .int a8, .int (k6 + 1), .ref 149]) (T1 := T) (by decide +kernel) rfl ?_
        obtain ⟨q16, hq16, hf⟩ := bd_some hf
        refine MW.callP (As := [.int (k6 + 1), .int a8, .int k4]) (st := [.ref 149]) lt_RX12_400 (by decide +kernel) (xm_placeAt hq16) (by decide) (by decide) rfl (Nat.le_of_ble_eq_true rfl) rfl ?_
        show MW l yy_X12_round 4 _ _ 141 [some (.ref 137), some (.int k1), some (.int k2), some (.int k3), some (.int k4), some (.int k5), some (.int k6), some (.int a7), some (.int a8)] [.int q16, .ref 149] T
        obtain ⟨hi_v17, hf⟩ := bi_some hf
        obtain ⟨v17, hv17, hf⟩ := letv_some hf
        refine MW.iald 12 131072 rfl (by decide) rfl (by decide +kernel) (inb_in hi_v17) ?_
        rw [← hv17]
        refine MW.run rfl [(.iload 5, 0)] (pc' := 144) (ls' := [some (.ref 137), some (.int k1), some (.int k2), some (.int k3), some (.int k4), some (.int k5), some (.int k6), some (.int a7), some (.int a8)]) (st' := [.int k5, .int v17]) (T1 := T) (by decide +kernel) rfl ?_
        refine MW.icmp_ne (off := 7) (tgt := 151) (by decide +kernel) (by decide) (fun c144_18 => ?_) (fun c144_18 => ?_)
        · rw [if_neg c144_18] at hf
          refine MW.run rfl [(.iinc 8 (-1), (-1)), (.goto (-56), 0)] (pc' := 98) (ls' := [some (.ref 137), some (.int k1), some (.int k2), some (.int k3), some (.int k4), some (.int k5), some (.int k6), some (.int a7), some (.int (a8 + (-1)))]) (st' := []) (T1 := T) (by decide +kernel) rfl ?_
          exact ih _ _ _ hf hk1
        · rw [if_pos c144_18] at hf
          refine MW.run rfl [(.iload 8, 0), (.istore 7, 0), (.iinc 8 (-1), (-1)), (.goto (-56), 0)] (pc' := 98) (ls' := [some (.ref 137), some (.int k1), some (.int k2), some (.int k3), some (.int k4), some (.int k5), some (.int k6), some (.int a8), some (.int (a8 + (-1)))]) (st' := []) (T1 := T) (by decide +kernel) rfl ?_
          exact ih _ _ _ hf hk1
      · rw [if_neg c106_15] at hf
        refine MW.run rfl [(.aload_n 0, 0), (.getfield 39, 0), (.bipush 104, 104), (.iload_n 3, 0), (.iadd, 0)] (pc' := 117) (ls' := [some (.ref 137), some (.int k1), some (.int k2), some (.int k3), some (.int k4), some (.int k5), some (.int k6), some (.int a7), some (.int a8)]) (st' := [.int (104 + k3), .ref 147]) (T1 := T) (by decide +kernel) rfl ?_
        obtain ⟨hi_v19, hf⟩ := bi_some hf
        obtain ⟨v19, hv19, hf⟩ := letv_some hf
        refine MW.iald 10 410 rfl (by decide) rfl (by decide +kernel) (inb_in hi_v19) ?_
        rw [← hv19]
        refine MW.run rfl [(.iload 8, 0)] (pc' := 120) (ls' := [some (.ref 137), some (.int k1), some (.int k2), some (.int k3), some (.int k4), some (.int k5), some (.int k6), some (.int a7), some (.int a8)]) (st' := [.int a8, .int v19]) (T1 := T) (by decide +kernel) rfl ?_
        obtain ⟨q20, hq20, hf⟩ := bd_some hf
        refine MW.callP (As := [.int v19, .int a8]) (st := []) lt_RX12_309 (by decide +kernel) (xm_isOf hq20) (by decide) (by decide) rfl (Nat.le_of_ble_eq_true rfl) rfl ?_
        show MW l yy_X12_round 4 _ _ 123 [some (.ref 137), some (.int k1), some (.int k2), some (.int k3), some (.int k4), some (.int k5), some (.int k6), some (.int a7), some (.int a8)] [.int (b2i q20)] T
        refine MW.if_eq (off := 28) (tgt := 151) (by decide +kernel) (by decide) (fun c123_21 => ?_) (fun c123_21 => ?_)
        · rw [if_pos c123_21] at hf
          refine MW.run rfl [(.iinc 8 (-1), (-1)), (.goto (-56), 0)] (pc' := 98) (ls' := [some (.ref 137), some (.int k1), some (.int k2), some (.int k3), some (.int k4), some (.int k5), some (.int k6), some (.int a7), some (.int (a8 + (-1)))]) (st' := []) (T1 := T) (by decide +kernel) rfl ?_
          exact ih _ _ _ hf hk1
        · rw [if_neg c123_21] at hf
          refine MW.run rfl [(.aload_n 0, 0), (.getfield 50, 0), (.iload 6, 0), (.iconst 1, 1), (.iadd, 0), (.iload 8, 0), (.iload 4, 0)] (pc' := 138) (ls' := [some (.ref 137), some (.int k1), some (.int k2), some (.int k3), some (.int k4), some (.int k5), some (.int k6), some (.int a7), some (.int a8)]) (st' := [.int k4, .int a8, .int (k6 + 1), .ref 149]) (T1 := T) (by decide +kernel) rfl ?_
          obtain ⟨q22, hq22, hf⟩ := bd_some hf
          refine MW.callP (As := [.int (k6 + 1), .int a8, .int k4]) (st := [.ref 149]) lt_RX12_400 (by decide +kernel) (xm_placeAt hq22) (by decide) (by decide) rfl (Nat.le_of_ble_eq_true rfl) rfl ?_
          show MW l yy_X12_round 4 _ _ 141 [some (.ref 137), some (.int k1), some (.int k2), some (.int k3), some (.int k4), some (.int k5), some (.int k6), some (.int a7), some (.int a8)] [.int q22, .ref 149] T
          obtain ⟨hi_v23, hf⟩ := bi_some hf
          obtain ⟨v23, hv23, hf⟩ := letv_some hf
          refine MW.iald 12 131072 rfl (by decide) rfl (by decide +kernel) (inb_in hi_v23) ?_
          rw [← hv23]
          refine MW.run rfl [(.iload 5, 0)] (pc' := 144) (ls' := [some (.ref 137), some (.int k1), some (.int k2), some (.int k3), some (.int k4), some (.int k5), some (.int k6), some (.int a7), some (.int a8)]) (st' := [.int k5, .int v23]) (T1 := T) (by decide +kernel) rfl ?_
          refine MW.icmp_ne (off := 7) (tgt := 151) (by decide +kernel) (by decide) (fun c144_24 => ?_) (fun c144_24 => ?_)
          · rw [if_neg c144_24] at hf
            refine MW.run rfl [(.iinc 8 (-1), (-1)), (.goto (-56), 0)] (pc' := 98) (ls' := [some (.ref 137), some (.int k1), some (.int k2), some (.int k3), some (.int k4), some (.int k5), some (.int k6), some (.int a7), some (.int (a8 + (-1)))]) (st' := []) (T1 := T) (by decide +kernel) rfl ?_
            exact ih _ _ _ hf hk1
          · rw [if_pos c144_24] at hf
            refine MW.run rfl [(.iload 8, 0), (.istore 7, 0), (.iinc 8 (-1), (-1)), (.goto (-56), 0)] (pc' := 98) (ls' := [some (.ref 137), some (.int k1), some (.int k2), some (.int k3), some (.int k4), some (.int k5), some (.int k6), some (.int a8), some (.int (a8 + (-1)))]) (st' := []) (T1 := T) (by decide +kernel) rfl ?_
            exact ih _ _ _ hf hk1
theorem xm_round_L68 {l : Launch} {r : Option Value} {T' : mT} (k1 : Int32) (k2 : Int32) (k5 : Int32) (T : mT) : ∀ (N : Nat) (a3 : Int32) (a4 : Int32) (a6 : Int32) (W0 : Int32 × Int32 × Int32) (_ : fm_round_L68 k1 k2 k5 T N a3 a4 a6 = some W0) (_ : MW l yy_X12_round 4 r T' 166 [some (.ref 137), some (.int k1), some (.int k2), some (.int W0.1), some (.int W0.2.1), some (.int k5), some (.int W0.2.2), none, none] [] T), MW l yy_X12_round 4 r T' 68 [some (.ref 137), some (.int k1), some (.int k2), some (.int a3), some (.int a4), some (.int k5), some (.int a6), none, none] [] T := by
  intro N
  induction N with
  | zero =>
    intro a3 a4 a6 W0 hf _
    cases hf
  | succ N ih =>
    intro a3 a4 a6 W0 hf hk1
    unfold fm_round_L68 at hf
    refine MW.run rfl [(.iload 6, 0), (.iload_n 2, 0)] (pc' := 71) (ls' := [some (.ref 137), some (.int k1), some (.int k2), some (.int a3), some (.int a4), some (.int k5), some (.int a6), none, none]) (st' := [.int k2, .int a6]) (T1 := T) (by decide +kernel) rfl ?_
    refine MW.icmp_ge (off := 95) (tgt := 166) (by decide +kernel) (by decide) (fun c71_11 => ?_) (fun c71_11 => ?_)
    · rw [if_pos c71_11] at hf
      have e9 := Option.some.inj hf
      subst e9
      exact hk1
    · rw [if_neg c71_11] at hf
      refine MW.run rfl [(.aload_n 0, 0), (.iload 6, 0), (.iload_n 3, 0), (.iload 4, 0)] (pc' := 80) (ls' := [some (.ref 137), some (.int k1), some (.int k2), some (.int a3), some (.int a4), some (.int k5), some (.int a6), none, none]) (st' := [.int a4, .int a3, .int a6, .ref 137]) (T1 := T) (by decide +kernel) rfl ?_
      obtain ⟨q12, hq12, hf⟩ := bd_some hf
      refine MW.callV (As := [.int a6, .int a3, .int a4]) (st := []) lv_RX12_394 rfl (by decide +kernel) (xm_servedAt hq12) (by decide) (by decide) rfl (Nat.le_of_ble_eq_true rfl) rfl ?_
      show MW l yy_X12_round 4 _ _ 83 [some (.ref 137), some (.int k1), some (.int k2), some (.int a3), some (.int a4), some (.int k5), some (.int a6), none, none] [.int q12] T
      refine MW.run rfl [(.istore 4, 0), (.iconst (-1), (-1)), (.istore 7, 0), (.aload_n 0, 0), (.getfield 39, 0), (.iconst 1, 1)] (pc' := 93) (ls' := [some (.ref 137), some (.int k1), some (.int k2), some (.int a3), some (.int q12), some (.int k5), some (.int a6), some (.int (-1)), none]) (st' := [.int 1, .ref 147]) (T1 := T) (by decide +kernel) rfl ?_
      obtain ⟨hi_v13, hf⟩ := bi_some hf
      obtain ⟨v13, hv13, hf⟩ := letv_some hf
      refine MW.iald 10 410 rfl (by decide) rfl (by decide +kernel) (inb_in hi_v13) ?_
      rw [← hv13]
      refine MW.run rfl [(.iconst 1, 1), (.isub, 0), (.istore 8, 0)] (pc' := 98) (ls' := [some (.ref 137), some (.int k1), some (.int k2), some (.int a3), some (.int q12), some (.int k5), some (.int a6), some (.int (-1)), some (.int (v13 - 1))]) (st' := []) (T1 := T) (by decide +kernel) rfl ?_
      obtain ⟨w25, hw25, hf⟩ := bd_some hf
      refine xm_round_L98 k1 k2 a3 q12 k5 a6 T FU _ _ _ hw25 ?_
      refine MW.run rfl [(.iload 7, 0), (.istore_n 3, 0), (.iinc 6 1, 1), (.goto (-95), 0)] (pc' := 68) (ls' := [some (.ref 137), some (.int k1), some (.int k2), some (.int w25.1), some (.int q12), some (.int k5), some (.int (a6 + 1)), some (.int w25.1), some (.int w25.2)]) (st' := []) (T1 := T) (by decide +kernel) rfl ?_
      refine MW.fgt (ls' := [some (.ref 137), some (.int k1), some (.int k2), some (.int w25.1), some (.int q12), some (.int k5), some (.int (a6 + 1)), none, none]) (by repeat' (first | exact trivial | refine ⟨rfl, ?_⟩)) ?_
      exact ih _ _ _ _ hf hk1
theorem xm_round {l : Launch} {p0 : Int32} {p1 : Int32} {T : mT} {q : Int32 × mT} (hf : fm_round p0 p1 T = some q) : MOk l yy_X12_round 4 [.int p0, .int p1] T (some (.int q.1)) q.2 := by
  refine MOk.of (ls := [some (.ref 137), some (.int p0), some (.int p1), none, none, none, none, none, none]) (by decide +kernel) (Nat.le_of_ble_eq_true rfl) rfl ?_
  unfold fm_round at hf
  refine MW.run rfl [(.aload_n 0, 0)] (pc' := 1) (ls' := [some (.ref 137), some (.int p0), some (.int p1), none, none, none, none, none, none]) (st' := [.ref 137]) (T1 := T) (by decide +kernel) rfl ?_
  obtain ⟨q1, hq1, hf⟩ := bd_some hf
  refine MW.callV (As := []) (st := []) lv_RX12_336 rfl (by decide +kernel) (xm_isIsland hq1) (by decide) (by decide) rfl (Nat.le_of_ble_eq_true rfl) rfl ?_
  show MW l yy_X12_round 4 _ _ 4 [some (.ref 137), some (.int p0), some (.int p1), none, none, none, none, none, none] [.int (b2i q1)] T
  refine MW.if_eq (off := 30) (tgt := 34) (by decide +kernel) (by decide) (fun c4_2 => ?_) (fun c4_2 => ?_)
  · rw [if_pos c4_2] at hf
    refine MW.run rfl [(.bipush (-2), (-2))] (pc' := 36) (ls' := [some (.ref 137), some (.int p0), some (.int p1), none, none, none, none, none, none]) (st' := [.int (-2)]) (T1 := T) (by decide +kernel) rfl ?_
    have e9 := Option.some.inj hf
    subst e9
    exact MW.iret rfl (by decide +kernel)
  · rw [if_neg c4_2] at hf
    refine MW.run rfl [(.iload_n 1, 0), (.i2l, 0), (.lconst 1, 0)] (pc' := 10) (ls' := [some (.ref 137), some (.int p0), some (.int p1), none, none, none, none, none, none]) (st' := [.long 1, .long ((p0 : Int32).toInt64)]) (T1 := T) (by decide +kernel) rfl ?_
    refine MW.ldc2 (idx := 406) (v := 16) (tb_in 1576 (by decide +kernel) (by decide +kernel)) (by decide +kernel) ?_
    obtain ⟨q3, hq3, hf⟩ := bd_some hf
    refine MW.callP (As := [.long ((p0 : Int32).toInt64), .long 1, .long 16]) (st := []) lt_RX12_110 (by decide +kernel) (xm_in hq3) (by decide) (by decide) rfl (Nat.le_of_ble_eq_true rfl) rfl ?_
    show MW l yy_X12_round 4 _ _ 16 [some (.ref 137), some (.int p0), some (.int p1), none, none, none, none, none, none] [.int (b2i q3)] T
    refine MW.if_eq (off := 18) (tgt := 34) (by decide +kernel) (by decide) (fun c16_4 => ?_) (fun c16_4 => ?_)
    · rw [if_pos c16_4] at hf
      refine MW.run rfl [(.bipush (-2), (-2))] (pc' := 36) (ls' := [some (.ref 137), some (.int p0), some (.int p1), none, none, none, none, none, none]) (st' := [.int (-2)]) (T1 := T) (by decide +kernel) rfl ?_
      have e9 := Option.some.inj hf
      subst e9
      exact MW.iret rfl (by decide +kernel)
    · rw [if_neg c16_4] at hf
      refine MW.run rfl [(.iload_n 2, 0), (.i2l, 0)] (pc' := 21) (ls' := [some (.ref 137), some (.int p0), some (.int p1), none, none, none, none, none, none]) (st' := [.long ((p1 : Int32).toInt64)]) (T1 := T) (by decide +kernel) rfl ?_
      refine MW.ldc2 (idx := 408) (v := (-1)) (tb_in 1577 (by decide +kernel) (by decide +kernel)) (by decide +kernel) ?_
      refine MW.run rfl [(.iload_n 1, 0), (.iconst 1, 1), (.isub, 0), (.i2l, 0)] (pc' := 28) (ls' := [some (.ref 137), some (.int p0), some (.int p1), none, none, none, none, none, none]) (st' := [.long (((p0 - 1) : Int32).toInt64), .long (-1), .long ((p1 : Int32).toInt64)]) (T1 := T) (by decide +kernel) rfl ?_
      obtain ⟨q5, hq5, hf⟩ := bd_some hf
      refine MW.callP (As := [.long ((p1 : Int32).toInt64), .long (-1), .long (((p0 - 1) : Int32).toInt64)]) (st := []) lt_RX12_110 (by decide +kernel) (xm_in hq5) (by decide) (by decide) rfl (Nat.le_of_ble_eq_true rfl) rfl ?_
      show MW l yy_X12_round 4 _ _ 31 [some (.ref 137), some (.int p0), some (.int p1), none, none, none, none, none, none] [.int (b2i q5)] T
      refine MW.if_ne (off := 6) (tgt := 37) (by decide +kernel) (by decide) (fun c31_6 => ?_) (fun c31_6 => ?_)
      · rw [if_neg c31_6] at hf
        refine MW.run rfl [(.aload_n 0, 0), (.iload_n 1, 0)] (pc' := 39) (ls' := [some (.ref 137), some (.int p0), some (.int p1), none, none, none, none, none, none]) (st' := [.int p0, .ref 137]) (T1 := T) (by decide +kernel) rfl ?_
        obtain ⟨q7, hq7, hf⟩ := bd_some hf
        refine MW.callV (As := [.int p0]) (st := []) lv_RX12_410 rfl (by decide +kernel) (xm_fillsRounds hq7) (by decide) (by decide) rfl (Nat.le_of_ble_eq_true rfl) rfl ?_
        show MW l yy_X12_round 4 _ _ 42 [some (.ref 137), some (.int p0), some (.int p1), none, none, none, none, none, none] [] q7
        refine MW.run rfl [(.aload_n 0, 0), (.getfield 39, 0), (.iconst 3, 3)] (pc' := 47) (ls' := [some (.ref 137), some (.int p0), some (.int p1), none, none, none, none, none, none]) (st' := [.int 3, .ref 147]) (T1 := q7) (by decide +kernel) rfl ?_
        obtain ⟨hi_v8, hf⟩ := bi_some hf
        obtain ⟨v8, hv8, hf⟩ := letv_some hf
        refine MW.iald 10 410 rfl (by decide) rfl (by decide +kernel) (inb_in hi_v8) ?_
        rw [← hv8]
        refine MW.run rfl [(.istore_n 3, 0), (.iconst 0, 0), (.istore 4, 0), (.aload_n 0, 0), (.getfield 50, 0), (.iconst 0, 0), (.iload_n 3, 0), (.iconst 0, 0)] (pc' := 59) (ls' := [some (.ref 137), some (.int p0), some (.int p1), some (.int v8), some (.int 0), none, none, none, none]) (st' := [.int 0, .int v8, .int 0, .ref 149]) (T1 := q7) (by decide +kernel) rfl ?_
        obtain ⟨q9, hq9, hf⟩ := bd_some hf
        refine MW.callP (As := [.int 0, .int v8, .int 0]) (st := [.ref 149]) lt_RX12_400 (by decide +kernel) (xm_placeAt hq9) (by decide) (by decide) rfl (Nat.le_of_ble_eq_true rfl) rfl ?_
        show MW l yy_X12_round 4 _ _ 62 [some (.ref 137), some (.int p0), some (.int p1), some (.int v8), some (.int 0), none, none, none, none] [.int q9, .ref 149] q7
        obtain ⟨hi_v10, hf⟩ := bi_some hf
        obtain ⟨v10, hv10, hf⟩ := letv_some hf
        refine MW.iald 12 131072 rfl (by decide) rfl (by decide +kernel) (inb_in hi_v10) ?_
        rw [← hv10]
        refine MW.run rfl [(.istore 5, 0), (.iconst 0, 0), (.istore 6, 0)] (pc' := 68) (ls' := [some (.ref 137), some (.int p0), some (.int p1), some (.int v8), some (.int 0), some (.int v10), some (.int 0), none, none]) (st' := []) (T1 := q7) (by decide +kernel) rfl ?_
        obtain ⟨w26, hw26, hf⟩ := bd_some hf
        refine xm_round_L68 p0 p1 v10 q7 FU _ _ _ _ hw26 ?_
        refine MW.run rfl [(.iload_n 2, 0), (.iconst (-1), (-1))] (pc' := 168) (ls' := [some (.ref 137), some (.int p0), some (.int p1), some (.int w26.1), some (.int w26.2.1), some (.int v10), some (.int w26.2.2), none, none]) (st' := [.int (-1), .int p1]) (T1 := q7) (by decide +kernel) rfl ?_
        refine MW.icmp_ne (off := 8) (tgt := 176) (by decide +kernel) (by decide) (fun c168_27 => ?_) (fun c168_27 => ?_)
        · rw [if_neg c168_27] at hf
          refine MW.run rfl [(.iload_n 3, 0)] (pc' := 177) (ls' := [some (.ref 137), some (.int p0), some (.int p1), some (.int w26.1), some (.int w26.2.1), some (.int v10), some (.int w26.2.2), none, none]) (st' := [.int w26.1]) (T1 := q7) (by decide +kernel) rfl ?_
          have e9 := Option.some.inj hf
          subst e9
          exact MW.iret rfl (by decide +kernel)
        · rw [if_pos c168_27] at hf
          refine MW.run rfl [(.iload 5, 0), (.goto 4, 0)] (pc' := 177) (ls' := [some (.ref 137), some (.int p0), some (.int p1), some (.int w26.1), some (.int w26.2.1), some (.int v10), some (.int w26.2.2), none, none]) (st' := [.int v10]) (T1 := q7) (by decide +kernel) rfl ?_
          have e9 := Option.some.inj hf
          subst e9
          exact MW.iret rfl (by decide +kernel)
      · rw [if_pos c31_6] at hf
        refine MW.run rfl [(.bipush (-2), (-2))] (pc' := 36) (ls' := [some (.ref 137), some (.int p0), some (.int p1), none, none, none, none, none, none]) (st' := [.int (-2)]) (T1 := T) (by decide +kernel) rfl ?_
        have e9 := Option.some.inj hf
        subst e9
        exact MW.iret rfl (by decide +kernel)
def fm_view (p0 : Int32) (p1 : Int32) (T : mT) : Option (Int32 × mT) := if p0 = (-1) then (bif inb 409 410 then (letv (ma T 10 (409 : Int32).toNatClampNeg 0) fun T18 => some (0, T18)) else none) else ((fm_isIsland T).bind fun q2 => if (b2i q2) = 0 then (some ((-2), T)) else ((fm_allMarks T).bind fun q4 => (fm_in ((p0 : Int32).toInt64) 1 ((q4 : Int32).toInt64)).bind fun q5 => if (b2i q5) = 0 then (some ((-2), T)) else (if p1 < 0 then (some ((-2), T)) else (if (p1 &&& (p0 ^^^ (-1))) = 0 then (bif inb 409 410 then (letv (T.1 10 (409 : Int32).toNatClampNeg) fun v9 => if v9 = 8 then (some ((-2), T)) else (bif inb 409 410 then (letv (T.1 10 (409 : Int32).toNatClampNeg) fun v11 => bif inb (392 + (2 * v11)) 410 then (letv (ma T 10 ((392 + (2 * v11)) : Int32).toNatClampNeg p0) fun T12 => bif inb 409 410 then (letv (T12.1 10 (409 : Int32).toNatClampNeg) fun v13 => bif inb ((392 + (2 * v13)) + 1) 410 then (letv (ma T12 10 (((392 + (2 * v13)) + 1) : Int32).toNatClampNeg p1) fun T14 => bif inb 409 410 then (letv (T14.1 10 (409 : Int32).toNatClampNeg) fun v15 => bif inb 409 410 then (letv (ma T14 10 (409 : Int32).toNatClampNeg (v15 + 1)) fun T16 => bif inb 409 410 then (letv (T16.1 10 (409 : Int32).toNatClampNeg) fun v17 => some (v17, T16)) else none) else none) else none) else none) else none) else none) else none)) else none) else (some ((-2), T))))))
theorem xm_view {l : Launch} {p0 : Int32} {p1 : Int32} {T : mT} {q : Int32 × mT} (hf : fm_view p0 p1 T = some q) : MOk l yy_X12_view 1 [.int p0, .int p1] T (some (.int q.1)) q.2 := by
  refine MOk.of (ls := [some (.ref 137), some (.int p0), some (.int p1)]) (by decide +kernel) (Nat.le_of_ble_eq_true rfl) rfl ?_
  unfold fm_view at hf
  refine MW.run rfl [(.iload_n 1, 0), (.iconst (-1), (-1))] (pc' := 2) (ls' := [some (.ref 137), some (.int p0), some (.int p1)]) (st' := [.int (-1), .int p0]) (T1 := T) (by decide +kernel) rfl ?_
  refine MW.icmp_ne (off := 14) (tgt := 16) (by decide +kernel) (by decide) (fun c2_1 => ?_) (fun c2_1 => ?_)
  · rw [if_neg c2_1] at hf
    refine MW.run rfl [(.aload_n 0, 0)] (pc' := 17) (ls' := [some (.ref 137), some (.int p0), some (.int p1)]) (st' := [.ref 137]) (T1 := T) (by decide +kernel) rfl ?_
    obtain ⟨q2, hq2, hf⟩ := bd_some hf
    refine MW.callV (As := []) (st := []) lv_RX12_336 rfl (by decide +kernel) (xm_isIsland hq2) (by decide) (by decide) rfl (Nat.le_of_ble_eq_true rfl) rfl ?_
    show MW l yy_X12_view 1 _ _ 20 [some (.ref 137), some (.int p0), some (.int p1)] [.int (b2i q2)] T
    refine MW.if_eq (off := 42) (tgt := 62) (by decide +kernel) (by decide) (fun c20_3 => ?_) (fun c20_3 => ?_)
    · rw [if_pos c20_3] at hf
      refine MW.run rfl [(.bipush (-2), (-2))] (pc' := 64) (ls' := [some (.ref 137), some (.int p0), some (.int p1)]) (st' := [.int (-2)]) (T1 := T) (by decide +kernel) rfl ?_
      have e9 := Option.some.inj hf
      subst e9
      exact MW.iret rfl (by decide +kernel)
    · rw [if_neg c20_3] at hf
      refine MW.run rfl [(.iload_n 1, 0), (.i2l, 0), (.lconst 1, 0), (.aload_n 0, 0)] (pc' := 27) (ls' := [some (.ref 137), some (.int p0), some (.int p1)]) (st' := [.ref 137, .long 1, .long ((p0 : Int32).toInt64)]) (T1 := T) (by decide +kernel) rfl ?_
      obtain ⟨q4, hq4, hf⟩ := bd_some hf
      refine MW.callV (As := []) (st := [.long 1, .long ((p0 : Int32).toInt64)]) lv_RX12_339 rfl (by decide +kernel) (xm_allMarks hq4) (by decide) (by decide) rfl (Nat.le_of_ble_eq_true rfl) rfl ?_
      show MW l yy_X12_view 1 _ _ 30 [some (.ref 137), some (.int p0), some (.int p1)] [.int q4, .long 1, .long ((p0 : Int32).toInt64)] T
      refine MW.run rfl [(.i2l, 0)] (pc' := 31) (ls' := [some (.ref 137), some (.int p0), some (.int p1)]) (st' := [.long ((q4 : Int32).toInt64), .long 1, .long ((p0 : Int32).toInt64)]) (T1 := T) (by decide +kernel) rfl ?_
      obtain ⟨q5, hq5, hf⟩ := bd_some hf
      refine MW.callP (As := [.long ((p0 : Int32).toInt64), .long 1, .long ((q4 : Int32).toInt64)]) (st := []) lt_RX12_110 (by decide +kernel) (xm_in hq5) (by decide) (by decide) rfl (Nat.le_of_ble_eq_true rfl) rfl ?_
      show MW l yy_X12_view 1 _ _ 34 [some (.ref 137), some (.int p0), some (.int p1)] [.int (b2i q5)] T
      refine MW.if_eq (off := 28) (tgt := 62) (by decide +kernel) (by decide) (fun c34_6 => ?_) (fun c34_6 => ?_)
      · rw [if_pos c34_6] at hf
        refine MW.run rfl [(.bipush (-2), (-2))] (pc' := 64) (ls' := [some (.ref 137), some (.int p0), some (.int p1)]) (st' := [.int (-2)]) (T1 := T) (by decide +kernel) rfl ?_
        have e9 := Option.some.inj hf
        subst e9
        exact MW.iret rfl (by decide +kernel)
      · rw [if_neg c34_6] at hf
        refine MW.run rfl [(.iload_n 2, 0)] (pc' := 38) (ls' := [some (.ref 137), some (.int p0), some (.int p1)]) (st' := [.int p1]) (T1 := T) (by decide +kernel) rfl ?_
        refine MW.if_lt (off := 24) (tgt := 62) (by decide +kernel) (by decide) (fun c38_7 => ?_) (fun c38_7 => ?_)
        · rw [if_pos c38_7] at hf
          refine MW.run rfl [(.bipush (-2), (-2))] (pc' := 64) (ls' := [some (.ref 137), some (.int p0), some (.int p1)]) (st' := [.int (-2)]) (T1 := T) (by decide +kernel) rfl ?_
          have e9 := Option.some.inj hf
          subst e9
          exact MW.iret rfl (by decide +kernel)
        · rw [if_neg c38_7] at hf
          refine MW.run rfl [(.iload_n 2, 0), (.iload_n 1, 0), (.iconst (-1), (-1)), (.ixor, 0), (.iand, 0)] (pc' := 46) (ls' := [some (.ref 137), some (.int p0), some (.int p1)]) (st' := [.int (p1 &&& (p0 ^^^ (-1)))]) (T1 := T) (by decide +kernel) rfl ?_
          refine MW.if_ne (off := 16) (tgt := 62) (by decide +kernel) (by decide) (fun c46_8 => ?_) (fun c46_8 => ?_)
          · rw [if_neg c46_8] at hf
            refine MW.run rfl [(.bipush (-2), (-2))] (pc' := 64) (ls' := [some (.ref 137), some (.int p0), some (.int p1)]) (st' := [.int (-2)]) (T1 := T) (by decide +kernel) rfl ?_
            have e9 := Option.some.inj hf
            subst e9
            exact MW.iret rfl (by decide +kernel)
          · rw [if_pos c46_8] at hf
            refine MW.run rfl [(.aload_n 0, 0), (.getfield 39, 0), (.sipush 409, 409)] (pc' := 56) (ls' := [some (.ref 137), some (.int p0), some (.int p1)]) (st' := [.int 409, .ref 147]) (T1 := T) (by decide +kernel) rfl ?_
            obtain ⟨hi_v9, hf⟩ := bi_some hf
            obtain ⟨v9, hv9, hf⟩ := letv_some hf
            refine MW.iald 10 410 rfl (by decide) rfl (by decide +kernel) (inb_in hi_v9) ?_
            rw [← hv9]
            refine MW.run rfl [(.bipush 8, 8)] (pc' := 59) (ls' := [some (.ref 137), some (.int p0), some (.int p1)]) (st' := [.int 8, .int v9]) (T1 := T) (by decide +kernel) rfl ?_
            refine MW.icmp_ne (off := 6) (tgt := 65) (by decide +kernel) (by decide) (fun c59_10 => ?_) (fun c59_10 => ?_)
            · rw [if_neg c59_10] at hf
              refine MW.run rfl [(.aload_n 0, 0), (.getfield 39, 0), (.sipush 392, 392), (.iconst 2, 2), (.aload_n 0, 0), (.getfield 39, 0), (.sipush 409, 409)] (pc' := 80) (ls' := [some (.ref 137), some (.int p0), some (.int p1)]) (st' := [.int 409, .ref 147, .int 2, .int 392, .ref 147]) (T1 := T) (by decide +kernel) rfl ?_
              obtain ⟨hi_v11, hf⟩ := bi_some hf
              obtain ⟨v11, hv11, hf⟩ := letv_some hf
              refine MW.iald 10 410 rfl (by decide) rfl (by decide +kernel) (inb_in hi_v11) ?_
              rw [← hv11]
              refine MW.run rfl [(.imul, 0), (.iadd, 0), (.iload_n 1, 0)] (pc' := 84) (ls' := [some (.ref 137), some (.int p0), some (.int p1)]) (st' := [.int p0, .int (392 + (2 * v11)), .ref 147]) (T1 := T) (by decide +kernel) rfl ?_
              obtain ⟨hi_T12, hf⟩ := bi_some hf
              obtain ⟨T12, hT12, hf⟩ := letv_some hf
              refine MW.iast 10 410 rfl (by decide) (fun _ => rfl) (by decide +kernel) (inb_in hi_T12) ?_
              rw [← hT12]
              refine MW.run rfl [(.aload_n 0, 0), (.getfield 39, 0), (.sipush 392, 392), (.iconst 2, 2), (.aload_n 0, 0), (.getfield 39, 0), (.sipush 409, 409)] (pc' := 100) (ls' := [some (.ref 137), some (.int p0), some (.int p1)]) (st' := [.int 409, .ref 147, .int 2, .int 392, .ref 147]) (T1 := T12) (by decide +kernel) rfl ?_
              obtain ⟨hi_v13, hf⟩ := bi_some hf
              obtain ⟨v13, hv13, hf⟩ := letv_some hf
              refine MW.iald 10 410 rfl (by decide) rfl (by decide +kernel) (inb_in hi_v13) ?_
              rw [← hv13]
              refine MW.run rfl [(.imul, 0), (.iadd, 0), (.iconst 1, 1), (.iadd, 0), (.iload_n 2, 0)] (pc' := 106) (ls' := [some (.ref 137), some (.int p0), some (.int p1)]) (st' := [.int p1, .int ((392 + (2 * v13)) + 1), .ref 147]) (T1 := T12) (by decide +kernel) rfl ?_
              obtain ⟨hi_T14, hf⟩ := bi_some hf
              obtain ⟨T14, hT14, hf⟩ := letv_some hf
              refine MW.iast 10 410 rfl (by decide) (fun _ => rfl) (by decide +kernel) (inb_in hi_T14) ?_
              rw [← hT14]
              refine MW.run rfl [(.aload_n 0, 0), (.getfield 39, 0), (.sipush 409, 409), (.dup2, 0)] (pc' := 115) (ls' := [some (.ref 137), some (.int p0), some (.int p1)]) (st' := [.int 409, .ref 147, .int 409, .ref 147]) (T1 := T14) (by decide +kernel) rfl ?_
              obtain ⟨hi_v15, hf⟩ := bi_some hf
              obtain ⟨v15, hv15, hf⟩ := letv_some hf
              refine MW.iald 10 410 rfl (by decide) rfl (by decide +kernel) (inb_in hi_v15) ?_
              rw [← hv15]
              refine MW.run rfl [(.iconst 1, 1), (.iadd, 0)] (pc' := 118) (ls' := [some (.ref 137), some (.int p0), some (.int p1)]) (st' := [.int (v15 + 1), .int 409, .ref 147]) (T1 := T14) (by decide +kernel) rfl ?_
              obtain ⟨hi_T16, hf⟩ := bi_some hf
              obtain ⟨T16, hT16, hf⟩ := letv_some hf
              refine MW.iast 10 410 rfl (by decide) (fun _ => rfl) (by decide +kernel) (inb_in hi_T16) ?_
              rw [← hT16]
              refine MW.run rfl [(.aload_n 0, 0), (.getfield 39, 0), (.sipush 409, 409)] (pc' := 126) (ls' := [some (.ref 137), some (.int p0), some (.int p1)]) (st' := [.int 409, .ref 147]) (T1 := T16) (by decide +kernel) rfl ?_
              obtain ⟨hi_v17, hf⟩ := bi_some hf
              obtain ⟨v17, hv17, hf⟩ := letv_some hf
              refine MW.iald 10 410 rfl (by decide) rfl (by decide +kernel) (inb_in hi_v17) ?_
              rw [← hv17]
              have e9 := Option.some.inj hf
              subst e9
              exact MW.iret rfl (by decide +kernel)
            · rw [if_pos c59_10] at hf
              refine MW.run rfl [(.bipush (-2), (-2))] (pc' := 64) (ls' := [some (.ref 137), some (.int p0), some (.int p1)]) (st' := [.int (-2)]) (T1 := T) (by decide +kernel) rfl ?_
              have e9 := Option.some.inj hf
              subst e9
              exact MW.iret rfl (by decide +kernel)
  · rw [if_pos c2_1] at hf
    refine MW.run rfl [(.aload_n 0, 0), (.getfield 39, 0), (.sipush 409, 409), (.iconst 0, 0)] (pc' := 13) (ls' := [some (.ref 137), some (.int p0), some (.int p1)]) (st' := [.int 0, .int 409, .ref 147]) (T1 := T) (by decide +kernel) rfl ?_
    obtain ⟨hi_T18, hf⟩ := bi_some hf
    obtain ⟨T18, hT18, hf⟩ := letv_some hf
    refine MW.iast 10 410 rfl (by decide) (fun _ => rfl) (by decide +kernel) (inb_in hi_T18) ?_
    rw [← hT18]
    refine MW.run rfl [(.iconst 0, 0)] (pc' := 15) (ls' := [some (.ref 137), some (.int p0), some (.int p1)]) (st' := [.int 0]) (T1 := T18) (by decide +kernel) rfl ?_
    have e9 := Option.some.inj hf
    subst e9
    exact MW.iret rfl (by decide +kernel)
