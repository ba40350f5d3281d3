/-! ===== the reference, method by method (by program) 12 ===== -/
def fm_viewsOf_L4 (k1 : Int32) (T : mT) : Nat → Int32 → Int32 → Option (Int32 × Int32)
  | 0, _, _ => none
  | N + 1, a2, a3 => bif inb 409 410 then (letv (T.1 10 (409 : Int32).toNatClampNeg) fun v1 => if v1 ≤ a3 then (some (a2, a3)) else (bif inb (392 + (2 * a3)) 410 then (letv (T.1 10 ((392 + (2 * a3)) : Int32).toNatClampNeg) fun v3 => bif inb ((392 + (2 * a3)) + 1) 410 then (letv (T.1 10 (((392 + (2 * a3)) + 1) : Int32).toNatClampNeg) fun v4 => if (k1 &&& v3) = v4 then (fm_viewsOf_L4 k1 T N (a2 ||| (1 <<< (a3 &&& 31))) (a3 + 1)) else (fm_viewsOf_L4 k1 T N (a2 ||| 0) (a3 + 1))) else none) else none)) else none
def fm_viewsOf (p0 : Int32) (T : mT) : Option (Int32) := (fm_viewsOf_L4 p0 T FU 0 0).bind fun w6 => some w6.1
theorem xm_viewsOf_L4 {l : Launch} {r : Option Value} {T' : mT} (k1 : Int32) (T : mT) : ∀ (N : Nat) (a2 : Int32) (a3 : Int32) (W0 : Int32 × Int32) (_ : fm_viewsOf_L4 k1 T N a2 a3 = some W0) (_ : MW l yy_X12_viewsOf 0 r T' 63 [some (.ref 137), some (.int k1), some (.int W0.1), some (.int W0.2)] [] T), MW l yy_X12_viewsOf 0 r T' 4 [some (.ref 137), some (.int k1), some (.int a2), some (.int a3)] [] T := by
  intro N
  induction N with
  | zero =>
    intro a2 a3 W0 hf _
    cases hf
  | succ N ih =>
    intro a2 a3 W0 hf hk1
    unfold fm_viewsOf_L4 at hf
    refine MW.run rfl [(.iload_n 3, 0), (.aload_n 0, 0), (.getfield 39, 0), (.sipush 409, 409)] (pc' := 12) (ls' := [some (.ref 137), some (.int k1), some (.int a2), some (.int a3)]) (st' := [.int 409, .ref 147, .int a3]) (T1 := T) (by decide +kernel) rfl ?_
    obtain ⟨hi_v1, hf⟩ := bi_some hf
    obtain ⟨v1, hv1, hf⟩ := letv_some hf
    refine MW.iald 10 410 rfl (by decide) rfl (by decide +kernel) (inb_in hi_v1) ?_
    rw [← hv1]
    refine MW.icmp_ge (off := 50) (tgt := 63) (by decide +kernel) (by decide) (fun c13_2 => ?_) (fun c13_2 => ?_)
    · rw [if_pos c13_2] at hf
      have e9 := Option.some.inj hf
      subst e9
      exact hk1
    · rw [if_neg c13_2] at hf
      refine MW.run rfl [(.iload_n 2, 0), (.iload_n 1, 0), (.aload_n 0, 0), (.getfield 39, 0), (.sipush 392, 392), (.iconst 2, 2), (.iload_n 3, 0), (.imul, 0), (.iadd, 0)] (pc' := 29) (ls' := [some (.ref 137), some (.int k1), some (.int a2), some (.int a3)]) (st' := [.int (392 + (2 * a3)), .ref 147, .int k1, .int a2]) (T1 := T) (by decide +kernel) rfl ?_
      obtain ⟨hi_v3, hf⟩ := bi_some hf
      obtain ⟨v3, hv3, hf⟩ := letv_some hf
      refine MW.iald 10 410 rfl (by decide) rfl (by decide +kernel) (inb_in hi_v3) ?_
      rw [← hv3]
      refine MW.run rfl [(.iand, 0), (.aload_n 0, 0), (.getfield 39, 0), (.sipush 392, 392), (.iconst 2, 2), (.iload_n 3, 0), (.imul, 0), (.iadd, 0), (.iconst 1, 1), (.iadd, 0)] (pc' := 44) (ls' := [some (.ref 137), some (.int k1), some (.int a2), some (.int a3)]) (st' := [.int ((392 + (2 * a3)) + 1), .ref 147, .int (k1 &&& v3), .int a2]) (T1 := T) (by decide +kernel) rfl ?_
      obtain ⟨hi_v4, hf⟩ := bi_some hf
      obtain ⟨v4, hv4, hf⟩ := letv_some hf
      refine MW.iald 10 410 rfl (by decide) rfl (by decide +kernel) (inb_in hi_v4) ?_
      rw [← hv4]
      refine MW.icmp_ne (off := 9) (tgt := 54) (by decide +kernel) (by decide) (fun c45_5 => ?_) (fun c45_5 => ?_)
      · rw [if_neg c45_5] at hf
        refine MW.run rfl [(.iconst 0, 0), (.ior, 0), (.istore_n 2, 0), (.iinc 3 1, 1), (.goto (-56), 0)] (pc' := 4) (ls' := [some (.ref 137), some (.int k1), some (.int (a2 ||| 0)), some (.int (a3 + 1))]) (st' := []) (T1 := T) (by decide +kernel) rfl ?_
        exact ih _ _ _ hf hk1
      · rw [if_pos c45_5] at hf
        refine MW.run rfl [(.iconst 1, 1), (.iload_n 3, 0), (.ishl, 0), (.goto 4, 0), (.ior, 0), (.istore_n 2, 0), (.iinc 3 1, 1), (.goto (-56), 0)] (pc' := 4) (ls' := [some (.ref 137), some (.int k1), some (.int (a2 ||| (1 <<< (a3 &&& 31)))), some (.int (a3 + 1))]) (st' := []) (T1 := T) (by decide +kernel) rfl ?_
        exact ih _ _ _ hf hk1
theorem xm_viewsOf {l : Launch} {p0 : Int32} {T : mT} {q : Int32} (hf : fm_viewsOf p0 T = some q) : MOk l yy_X12_viewsOf 0 [.int p0] T (some (.int q)) T := by
  refine MOk.of (ls := [some (.ref 137), some (.int p0), none, none]) (by decide +kernel) (Nat.le_of_ble_eq_true rfl) rfl ?_
  unfold fm_viewsOf at hf
  refine MW.run rfl [(.iconst 0, 0), (.istore_n 2, 0), (.iconst 0, 0), (.istore_n 3, 0)] (pc' := 4) (ls' := [some (.ref 137), some (.int p0), some (.int 0), some (.int 0)]) (st' := []) (T1 := T) (by decide +kernel) rfl ?_
  obtain ⟨w6, hw6, hf⟩ := bd_some hf
  refine xm_viewsOf_L4 p0 T FU _ _ _ hw6 ?_
  refine MW.run rfl [(.iload_n 2, 0)] (pc' := 64) (ls' := [some (.ref 137), some (.int p0), some (.int w6.1), some (.int w6.2)]) (st' := [.int w6.1]) (T1 := T) (by decide +kernel) rfl ?_
  have e9 := Option.some.inj hf
  subst e9
  exact MW.iret rfl (by decide +kernel)
def fm_fits_L26 (k1 : Int32) (T : mT) : Nat → Int32 → Int32 → Option (Int32 × Int32)
  | 0, _, _ => none
  | N + 1, a2, a3 => bif inb 1 410 then (letv (T.1 10 (1 : Int32).toNatClampNeg) fun v4 => if v4 ≤ a3 then (some (a2, a3)) else ((fm_personOf a3 0 T).bind fun q6 => (fm_viewsOf q6 T).bind fun q7 => (fm_isOf q7 k1).bind fun q8 => if (b2i q8) = 0 then (fm_fits_L26 k1 T N (a2 ||| 0) (a3 + 1)) else (fm_fits_L26 k1 T N (a2 ||| (1 <<< (a3 &&& 31))) (a3 + 1)))) else none
def fm_fits (p0 : Int32) (T : mT) : Option (Int32) := bif inb 409 410 then (letv (T.1 10 (409 : Int32).toNatClampNeg) fun v1 => (fm_in ((p0 : Int32).toInt64) 0 (((v1 - 1) : Int32).toInt64)).bind fun q2 => if (b2i q2) = 0 then (some (-1)) else ((fm_fits_L26 p0 T FU 0 0).bind fun w10 => some w10.1)) else none
theorem xm_fits_L26 {l : Launch} {r : Option Value} {T' : mT} (k1 : Int32) (T : mT) : ∀ (N : Nat) (a2 : Int32) (a3 : Int32) (W0 : Int32 × Int32) (_ : fm_fits_L26 k1 T N a2 a3 = some W0) (_ : MW l yy_X12_fits 1 r T' 69 [some (.ref 137), some (.int k1), some (.int W0.1), some (.int W0.2)] [] T), MW l yy_X12_fits 1 r T' 26 [some (.ref 137), some (.int k1), some (.int a2), some (.int a3)] [] T := by
  intro N
  induction N with
  | zero =>
    intro a2 a3 W0 hf _
    cases hf
  | succ N ih =>
    intro a2 a3 W0 hf hk1
    unfold fm_fits_L26 at hf
    refine MW.run rfl [(.iload_n 3, 0), (.aload_n 0, 0), (.getfield 39, 0), (.iconst 1, 1)] (pc' := 32) (ls' := [some (.ref 137), some (.int k1), some (.int a2), some (.int a3)]) (st' := [.int 1, .ref 147, .int a3]) (T1 := T) (by decide +kernel) rfl ?_
    obtain ⟨hi_v4, hf⟩ := bi_some hf
    obtain ⟨v4, hv4, hf⟩ := letv_some hf
    refine MW.iald 10 410 rfl (by decide) rfl (by decide +kernel) (inb_in hi_v4) ?_
    rw [← hv4]
    refine MW.icmp_ge (off := 36) (tgt := 69) (by decide +kernel) (by decide) (fun c33_5 => ?_) (fun c33_5 => ?_)
    · rw [if_pos c33_5] at hf
      have e9 := Option.some.inj hf
      subst e9
      exact hk1
    · rw [if_neg c33_5] at hf
      refine MW.run rfl [(.iload_n 2, 0), (.aload_n 0, 0), (.aload_n 0, 0), (.iload_n 3, 0), (.iconst 0, 0)] (pc' := 41) (ls' := [some (.ref 137), some (.int k1), some (.int a2), some (.int a3)]) (st' := [.int 0, .int a3, .ref 137, .ref 137, .int a2]) (T1 := T) (by decide +kernel) rfl ?_
      obtain ⟨q6, hq6, hf⟩ := bd_some hf
      refine MW.callV (As := [.int a3, .int 0]) (st := [.ref 137, .int a2]) lv_RX12_321 rfl (by decide +kernel) (xm_personOf hq6) (by decide) (by decide) rfl (Nat.le_of_ble_eq_true rfl) rfl ?_
      show MW l yy_X12_fits 1 _ _ 44 [some (.ref 137), some (.int k1), some (.int a2), some (.int a3)] [.int q6, .ref 137, .int a2] T
      obtain ⟨q7, hq7, hf⟩ := bd_some hf
      refine MW.callV (As := [.int q6]) (st := [.int a2]) lv_RX12_413 rfl (by decide +kernel) (xm_viewsOf hq7) (by decide) (by decide) rfl (Nat.le_of_ble_eq_true rfl) rfl ?_
      show MW l yy_X12_fits 1 _ _ 47 [some (.ref 137), some (.int k1), some (.int a2), some (.int a3)] [.int q7, .int a2] T
      refine MW.run rfl [(.iload_n 1, 0)] (pc' := 48) (ls' := [some (.ref 137), some (.int k1), some (.int a2), some (.int a3)]) (st' := [.int k1, .int q7, .int a2]) (T1 := T) (by decide +kernel) rfl ?_
      obtain ⟨q8, hq8, hf⟩ := bd_some hf
      refine MW.callP (As := [.int q7, .int k1]) (st := [.int a2]) lt_RX12_309 (by decide +kernel) (xm_isOf hq8) (by decide) (by decide) rfl (Nat.le_of_ble_eq_true rfl) rfl ?_
      show MW l yy_X12_fits 1 _ _ 51 [some (.ref 137), some (.int k1), some (.int a2), some (.int a3)] [.int (b2i q8), .int a2] T
      refine MW.if_eq (off := 9) (tgt := 60) (by decide +kernel) (by decide) (fun c51_9 => ?_) (fun c51_9 => ?_)
      · rw [if_pos c51_9] at hf
        refine MW.run rfl [(.iconst 0, 0), (.ior, 0), (.istore_n 2, 0), (.iinc 3 1, 1), (.goto (-40), 0)] (pc' := 26) (ls' := [some (.ref 137), some (.int k1), some (.int (a2 ||| 0)), some (.int (a3 + 1))]) (st' := []) (T1 := T) (by decide +kernel) rfl ?_
        exact ih _ _ _ hf hk1
      · rw [if_neg c51_9] at hf
        refine MW.run rfl [(.iconst 1, 1), (.iload_n 3, 0), (.ishl, 0), (.goto 4, 0), (.ior, 0), (.istore_n 2, 0), (.iinc 3 1, 1), (.goto (-40), 0)] (pc' := 26) (ls' := [some (.ref 137), some (.int k1), some (.int (a2 ||| (1 <<< (a3 &&& 31)))), some (.int (a3 + 1))]) (st' := []) (T1 := T) (by decide +kernel) rfl ?_
        exact ih _ _ _ hf hk1
theorem xm_fits {l : Launch} {p0 : Int32} {T : mT} {q : Int32} (hf : fm_fits p0 T = some q) : MOk l yy_X12_fits 1 [.int p0] T (some (.int q)) T := by
  refine MOk.of (ls := [some (.ref 137), some (.int p0), none, none]) (by decide +kernel) (Nat.le_of_ble_eq_true rfl) rfl ?_
  unfold fm_fits at hf
  refine MW.run rfl [(.iload_n 1, 0), (.i2l, 0), (.lconst 0, 0), (.aload_n 0, 0), (.getfield 39, 0), (.sipush 409, 409)] (pc' := 10) (ls' := [some (.ref 137), some (.int p0), none, none]) (st' := [.int 409, .ref 147, .long 0, .long ((p0 : Int32).toInt64)]) (T1 := T) (by decide +kernel) rfl ?_
  obtain ⟨hi_v1, hf⟩ := bi_some hf
  obtain ⟨v1, hv1, hf⟩ := letv_some hf
  refine MW.iald 10 410 rfl (by decide) rfl (by decide +kernel) (inb_in hi_v1) ?_
  rw [← hv1]
  refine MW.run rfl [(.iconst 1, 1), (.isub, 0), (.i2l, 0)] (pc' := 14) (ls' := [some (.ref 137), some (.int p0), none, none]) (st' := [.long (((v1 - 1) : Int32).toInt64), .long 0, .long ((p0 : Int32).toInt64)]) (T1 := T) (by decide +kernel) rfl ?_
  obtain ⟨q2, hq2, hf⟩ := bd_some hf
  refine MW.callP (As := [.long ((p0 : Int32).toInt64), .long 0, .long (((v1 - 1) : Int32).toInt64)]) (st := []) lt_RX12_110 (by decide +kernel) (xm_in hq2) (by decide) (by decide) rfl (Nat.le_of_ble_eq_true rfl) rfl ?_
  show MW l yy_X12_fits 1 _ _ 17 [some (.ref 137), some (.int p0), none, none] [.int (b2i q2)] T
  refine MW.if_ne (off := 5) (tgt := 22) (by decide +kernel) (by decide) (fun c17_3 => ?_) (fun c17_3 => ?_)
  · rw [if_neg c17_3] at hf
    refine MW.run rfl [(.iconst 0, 0), (.istore_n 2, 0), (.iconst 0, 0), (.istore_n 3, 0)] (pc' := 26) (ls' := [some (.ref 137), some (.int p0), some (.int 0), some (.int 0)]) (st' := []) (T1 := T) (by decide +kernel) rfl ?_
    obtain ⟨w10, hw10, hf⟩ := bd_some hf
    refine xm_fits_L26 p0 T FU _ _ _ hw10 ?_
    refine MW.run rfl [(.iload_n 2, 0)] (pc' := 70) (ls' := [some (.ref 137), some (.int p0), some (.int w10.1), some (.int w10.2)]) (st' := [.int w10.1]) (T1 := T) (by decide +kernel) rfl ?_
    have e9 := Option.some.inj hf
    subst e9
    exact MW.iret rfl (by decide +kernel)
  · rw [if_pos c17_3] at hf
    refine MW.run rfl [(.iconst (-1), (-1))] (pc' := 21) (ls' := [some (.ref 137), some (.int p0), none, none]) (st' := [.int (-1)]) (T1 := T) (by decide +kernel) rfl ?_
    have e9 := Option.some.inj hf
    subst e9
    exact MW.iret rfl (by decide +kernel)
def fm_fewestFaces_L37 (k1 : Int32) (k2 : Int32) : Nat → Int32 → mT → Option (Int32 × mT)
  | 0, _, _ => none
  | N + 1, a3, T => (fm_allMarks T).bind fun q5 => if q5 < a3 then (some (a3, T)) else ((fm_viewsOf a3 T).bind fun q7 => if (k2 &&& (q7 ^^^ (-1))) = k2 then (fm_fewestFaces_L37 k1 k2 N (a3 + 1) T) else (bif inb (k2 &&& (q7 ^^^ (-1))) 256 then (letv (T.1 13 ((k2 &&& (q7 ^^^ (-1))) : Int32).toNatClampNeg) fun v9 => bif inb k2 256 then (letv (T.1 13 (k2 : Int32).toNatClampNeg) fun v10 => if v10 ≤ (v9 + 1) then (fm_fewestFaces_L37 k1 k2 N (a3 + 1) T) else (bif inb (k2 &&& (q7 ^^^ (-1))) 256 then (letv (T.1 13 ((k2 &&& (q7 ^^^ (-1))) : Int32).toNatClampNeg) fun v12 => bif inb k2 256 then (letv (ma T 13 (k2 : Int32).toNatClampNeg (v12 + 1)) fun T13 => fm_fewestFaces_L37 k1 k2 N (a3 + 1) T13) else none) else none)) else none) else none))
def fm_fewestFaces_L22 (k1 : Int32) : Nat → Int32 → mT → Option (Int32 × mT)
  | 0, _, _ => none
  | N + 1, a2, T => if k1 < a2 then (some (a2, T)) else (bif inb a2 256 then (letv (ma T 13 (a2 : Int32).toNatClampNeg 9) fun T4 => (fm_fewestFaces_L37 k1 a2 FU 0 T4).bind fun w14 => fm_fewestFaces_L22 k1 N (a2 + 1) w14.2) else none)
def fm_fewestFaces  (T : mT) : Option (Int32 × mT) := bif inb 409 410 then (letv (T.1 10 (409 : Int32).toNatClampNeg) fun v1 => bif inb 0 256 then (letv (ma T 13 (0 : Int32).toNatClampNeg 0) fun T2 => (fm_fewestFaces_L22 ((1 <<< (v1 &&& 31)) - 1) FU 1 T2).bind fun w15 => bif inb ((1 <<< (v1 &&& 31)) - 1) 256 then (letv (w15.2.1 13 (((1 <<< (v1 &&& 31)) - 1) : Int32).toNatClampNeg) fun v16 => some (v16, w15.2)) else none) else none) else none
theorem xm_fewestFaces_L37 {l : Launch} {r : Option Value} {T' : mT} (k1 : Int32) (k2 : Int32) : ∀ (N : Nat) (a3 : Int32) (T : mT) (W0 : Int32 × mT) (_ : fm_fewestFaces_L37 k1 k2 N a3 T = some W0) (_ : MW l yy_X12_fewestFaces 1 r T' 101 [some (.ref 137), some (.int k1), some (.int k2), some (.int W0.1), none] [] W0.2), MW l yy_X12_fewestFaces 1 r T' 37 [some (.ref 137), some (.int k1), some (.int k2), some (.int a3), none] [] T := by
  intro N
  induction N with
  | zero =>
    intro a3 T W0 hf _
    cases hf
  | succ N ih =>
    intro a3 T W0 hf hk1
    unfold fm_fewestFaces_L37 at hf
    refine MW.run rfl [(.iload_n 3, 0), (.aload_n 0, 0)] (pc' := 39) (ls' := [some (.ref 137), some (.int k1), some (.int k2), some (.int a3), none]) (st' := [.ref 137, .int a3]) (T1 := T) (by decide +kernel) rfl ?_
    obtain ⟨q5, hq5, hf⟩ := bd_some hf
    refine MW.callV (As := []) (st := [.int a3]) lv_RX12_339 rfl (by decide +kernel) (xm_allMarks hq5) (by decide) (by decide) rfl (Nat.le_of_ble_eq_true rfl) rfl ?_
    show MW l yy_X12_fewestFaces 1 _ _ 42 [some (.ref 137), some (.int k1), some (.int k2), some (.int a3), none] [.int q5, .int a3] T
    refine MW.icmp_gt (off := 59) (tgt := 101) (by decide +kernel) (by decide) (fun c42_6 => ?_) (fun c42_6 => ?_)
    · rw [if_pos c42_6] at hf
      have e9 := Option.some.inj hf
      subst e9
      exact hk1
    · rw [if_neg c42_6] at hf
      refine MW.run rfl [(.iload_n 2, 0), (.aload_n 0, 0), (.iload_n 3, 0)] (pc' := 48) (ls' := [some (.ref 137), some (.int k1), some (.int k2), some (.int a3), none]) (st' := [.int a3, .ref 137, .int k2]) (T1 := T) (by decide +kernel) rfl ?_
      obtain ⟨q7, hq7, hf⟩ := bd_some hf
      refine MW.callV (As := [.int a3]) (st := [.int k2]) lv_RX12_413 rfl (by decide +kernel) (xm_viewsOf hq7) (by decide) (by decide) rfl (Nat.le_of_ble_eq_true rfl) rfl ?_
      show MW l yy_X12_fewestFaces 1 _ _ 51 [some (.ref 137), some (.int k1), some (.int k2), some (.int a3), none] [.int q7, .int k2] T
      refine MW.run rfl [(.iconst (-1), (-1)), (.ixor, 0), (.iand, 0), (.istore 4, 0), (.iload 4, 0), (.iload_n 2, 0)] (pc' := 59) (ls' := [some (.ref 137), some (.int k1), some (.int k2), some (.int a3), some (.int (k2 &&& (q7 ^^^ (-1))))]) (st' := [.int k2, .int (k2 &&& (q7 ^^^ (-1)))]) (T1 := T) (by decide +kernel) rfl ?_
      refine MW.icmp_eq (off := 36) (tgt := 95) (by decide +kernel) (by decide) (fun c59_8 => ?_) (fun c59_8 => ?_)
      · rw [if_pos c59_8] at hf
        refine MW.run rfl [(.iinc 3 1, 1), (.goto (-61), 0)] (pc' := 37) (ls' := [some (.ref 137), some (.int k1), some (.int k2), some (.int (a3 + 1)), some (.int (k2 &&& (q7 ^^^ (-1))))]) (st' := []) (T1 := T) (by decide +kernel) rfl ?_
        refine MW.fgt (ls' := [some (.ref 137), some (.int k1), some (.int k2), some (.int (a3 + 1)), none]) (by repeat' (first | exact trivial | refine ⟨rfl, ?_⟩)) ?_
        exact ih _ _ _ hf hk1
      · rw [if_neg c59_8] at hf
        refine MW.run rfl [(.aload_n 0, 0), (.getfield 53, 0), (.iload 4, 0)] (pc' := 68) (ls' := [some (.ref 137), some (.int k1), some (.int k2), some (.int a3), some (.int (k2 &&& (q7 ^^^ (-1))))]) (st' := [.int (k2 &&& (q7 ^^^ (-1))), .ref 150]) (T1 := T) (by decide +kernel) rfl ?_
        obtain ⟨hi_v9, hf⟩ := bi_some hf
        obtain ⟨v9, hv9, hf⟩ := letv_some hf
        refine MW.iald 13 256 rfl (by decide) rfl (by decide +kernel) (inb_in hi_v9) ?_
        rw [← hv9]
        refine MW.run rfl [(.iconst 1, 1), (.iadd, 0), (.aload_n 0, 0), (.getfield 53, 0), (.iload_n 2, 0)] (pc' := 76) (ls' := [some (.ref 137), some (.int k1), some (.int k2), some (.int a3), some (.int (k2 &&& (q7 ^^^ (-1))))]) (st' := [.int k2, .ref 150, .int (v9 + 1)]) (T1 := T) (by decide +kernel) rfl ?_
        obtain ⟨hi_v10, hf⟩ := bi_some hf
        obtain ⟨v10, hv10, hf⟩ := letv_some hf
        refine MW.iald 13 256 rfl (by decide) rfl (by decide +kernel) (inb_in hi_v10) ?_
        rw [← hv10]
        refine MW.icmp_ge (off := 18) (tgt := 95) (by decide +kernel) (by decide) (fun c77_11 => ?_) (fun c77_11 => ?_)
        · rw [if_pos c77_11] at hf
          refine MW.run rfl [(.iinc 3 1, 1), (.goto (-61), 0)] (pc' := 37) (ls' := [some (.ref 137), some (.int k1), some (.int k2), some (.int (a3 + 1)), some (.int (k2 &&& (q7 ^^^ (-1))))]) (st' := []) (T1 := T) (by decide +kernel) rfl ?_
          refine MW.fgt (ls' := [some (.ref 137), some (.int k1), some (.int k2), some (.int (a3 + 1)), none]) (by repeat' (first | exact trivial | refine ⟨rfl, ?_⟩)) ?_
          exact ih _ _ _ hf hk1
        · rw [if_neg c77_11] at hf
          refine MW.run rfl [(.aload_n 0, 0), (.getfield 53, 0), (.iload_n 2, 0), (.aload_n 0, 0), (.getfield 53, 0), (.iload 4, 0)] (pc' := 91) (ls' := [some (.ref 137), some (.int k1), some (.int k2), some (.int a3), some (.int (k2 &&& (q7 ^^^ (-1))))]) (st' := [.int (k2 &&& (q7 ^^^ (-1))), .ref 150, .int k2, .ref 150]) (T1 := T) (by decide +kernel) rfl ?_
          obtain ⟨hi_v12, hf⟩ := bi_some hf
          obtain ⟨v12, hv12, hf⟩ := letv_some hf
          refine MW.iald 13 256 rfl (by decide) rfl (by decide +kernel) (inb_in hi_v12) ?_
          rw [← hv12]
          refine MW.run rfl [(.iconst 1, 1), (.iadd, 0)] (pc' := 94) (ls' := [some (.ref 137), some (.int k1), some (.int k2), some (.int a3), some (.int (k2 &&& (q7 ^^^ (-1))))]) (st' := [.int (v12 + 1), .int k2, .ref 150]) (T1 := T) (by decide +kernel) rfl ?_
          obtain ⟨hi_T13, hf⟩ := bi_some hf
          obtain ⟨T13, hT13, hf⟩ := letv_some hf
          refine MW.iast 13 256 rfl (by decide) (fun _ => rfl) (by decide +kernel) (inb_in hi_T13) ?_
          rw [← hT13]
          refine MW.run rfl [(.iinc 3 1, 1), (.goto (-61), 0)] (pc' := 37) (ls' := [some (.ref 137), some (.int k1), some (.int k2), some (.int (a3 + 1)), some (.int (k2 &&& (q7 ^^^ (-1))))]) (st' := []) (T1 := T13) (by decide +kernel) rfl ?_
          refine MW.fgt (ls' := [some (.ref 137), some (.int k1), some (.int k2), some (.int (a3 + 1)), none]) (by repeat' (first | exact trivial | refine ⟨rfl, ?_⟩)) ?_
          exact ih _ _ _ hf hk1
theorem xm_fewestFaces_L22 {l : Launch} {r : Option Value} {T' : mT} (k1 : Int32) : ∀ (N : Nat) (a2 : Int32) (T : mT) (W0 : Int32 × mT) (_ : fm_fewestFaces_L22 k1 N a2 T = some W0) (_ : MW l yy_X12_fewestFaces 1 r T' 107 [some (.ref 137), some (.int k1), some (.int W0.1), none, none] [] W0.2), MW l yy_X12_fewestFaces 1 r T' 22 [some (.ref 137), some (.int k1), some (.int a2), none, none] [] T := by
  intro N
  induction N with
  | zero =>
    intro a2 T W0 hf _
    cases hf
  | succ N ih =>
    intro a2 T W0 hf hk1
    unfold fm_fewestFaces_L22 at hf
    refine MW.run rfl [(.iload_n 2, 0), (.iload_n 1, 0)] (pc' := 24) (ls' := [some (.ref 137), some (.int k1), some (.int a2), none, none]) (st' := [.int k1, .int a2]) (T1 := T) (by decide +kernel) rfl ?_
    refine MW.icmp_gt (off := 83) (tgt := 107) (by decide +kernel) (by decide) (fun c24_3 => ?_) (fun c24_3 => ?_)
    · rw [if_pos c24_3] at hf
      have e9 := Option.some.inj hf
      subst e9
      exact hk1
    · rw [if_neg c24_3] at hf
      refine MW.run rfl [(.aload_n 0, 0), (.getfield 53, 0), (.iload_n 2, 0), (.bipush 9, 9)] (pc' := 34) (ls' := [some (.ref 137), some (.int k1), some (.int a2), none, none]) (st' := [.int 9, .int a2, .ref 150]) (T1 := T) (by decide +kernel) rfl ?_
      obtain ⟨hi_T4, hf⟩ := bi_some hf
      obtain ⟨T4, hT4, hf⟩ := letv_some hf
      refine MW.iast 13 256 rfl (by decide) (fun _ => rfl) (by decide +kernel) (inb_in hi_T4) ?_
      rw [← hT4]
      refine MW.run rfl [(.iconst 0, 0), (.istore_n 3, 0)] (pc' := 37) (ls' := [some (.ref 137), some (.int k1), some (.int a2), some (.int 0), none]) (st' := []) (T1 := T4) (by decide +kernel) rfl ?_
      obtain ⟨w14, hw14, hf⟩ := bd_some hf
      refine xm_fewestFaces_L37 k1 a2 FU _ _ _ hw14 ?_
      refine MW.run rfl [(.iinc 2 1, 1), (.goto (-82), 0)] (pc' := 22) (ls' := [some (.ref 137), some (.int k1), some (.int (a2 + 1)), some (.int w14.1), none]) (st' := []) (T1 := w14.2) (by decide +kernel) rfl ?_
      refine MW.fgt (ls' := [some (.ref 137), some (.int k1), some (.int (a2 + 1)), none, none]) (by repeat' (first | exact trivial | refine ⟨rfl, ?_⟩)) ?_
      exact ih _ _ _ hf hk1
theorem xm_fewestFaces {l : Launch}  {T : mT} {q : Int32 × mT} (hf : fm_fewestFaces  T = some q) : MOk l yy_X12_fewestFaces 1 [] T (some (.int q.1)) q.2 := by
  refine MOk.of (ls := [some (.ref 137), none, none, none, none]) (by decide +kernel) (Nat.le_of_ble_eq_true rfl) rfl ?_
  unfold fm_fewestFaces at hf
  refine MW.run rfl [(.iconst 1, 1), (.aload_n 0, 0), (.getfield 39, 0), (.sipush 409, 409)] (pc' := 8) (ls' := [some (.ref 137), none, none, none, none]) (st' := [.int 409, .ref 147, .int 1]) (T1 := T) (by decide +kernel) rfl ?_
  obtain ⟨hi_v1, hf⟩ := bi_some hf
  obtain ⟨v1, hv1, hf⟩ := letv_some hf
  refine MW.iald 10 410 rfl (by decide) rfl (by decide +kernel) (inb_in hi_v1) ?_
  rw [← hv1]
  refine MW.run rfl [(.ishl, 0), (.iconst 1, 1), (.isub, 0), (.istore_n 1, 0), (.aload_n 0, 0), (.getfield 53, 0), (.iconst 0, 0), (.iconst 0, 0)] (pc' := 19) (ls' := [some (.ref 137), some (.int ((1 <<< (v1 &&& 31)) - 1)), none, none, none]) (st' := [.int 0, .int 0, .ref 150]) (T1 := T) (by decide +kernel) rfl ?_
  obtain ⟨hi_T2, hf⟩ := bi_some hf
  obtain ⟨T2, hT2, hf⟩ := letv_some hf
  refine MW.iast 13 256 rfl (by decide) (fun _ => rfl) (by decide +kernel) (inb_in hi_T2) ?_
  rw [← hT2]
  refine MW.run rfl [(.iconst 1, 1), (.istore_n 2, 0)] (pc' := 22) (ls' := [some (.ref 137), some (.int ((1 <<< (v1 &&& 31)) - 1)), some (.int 1), none, none]) (st' := []) (T1 := T2) (by decide +kernel) rfl ?_
  obtain ⟨w15, hw15, hf⟩ := bd_some hf
  refine xm_fewestFaces_L22 ((1 <<< (v1 &&& 31)) - 1) FU _ _ _ hw15 ?_
  refine MW.run rfl [(.aload_n 0, 0), (.getfield 53, 0), (.iload_n 1, 0)] (pc' := 112) (ls' := [some (.ref 137), some (.int ((1 <<< (v1 &&& 31)) - 1)), some (.int w15.1), none, none]) (st' := [.int ((1 <<< (v1 &&& 31)) - 1), .ref 150]) (T1 := w15.2) (by decide +kernel) rfl ?_
  obtain ⟨hi_v16, hf⟩ := bi_some hf
  obtain ⟨v16, hv16, hf⟩ := letv_some hf
  refine MW.iald 13 256 rfl (by decide) rfl (by decide +kernel) (inb_in hi_v16) ?_
  rw [← hv16]
  have e9 := Option.some.inj hf
  subst e9
  exact MW.iret rfl (by decide +kernel)
def fm_views_L37 (k1 : Int32) (T : mT) : Nat → Int32 → Int32 → Int32 → Option (Int32 × Int32 × Int32)
  | 0, _, _, _ => none
  | N + 1, a2, a3, a4 => bif inb 1 410 then (letv (T.1 10 (1 : Int32).toNatClampNeg) fun v6 => if v6 ≤ a4 then (some (a2, a3, a4)) else ((fm_personOf a4 0 T).bind fun q8 => (fm_viewsOf q8 T).bind fun q9 => (fm_bits q9).bind fun q10 => Option.bind (if q10 ≤ a2 then (some (a3)) else (some (0)) : Option (Int32)) fun w11 => Option.bind (if q10 < a2 then (some (w11)) else (some (w11 ||| (1 <<< (a4 &&& 31)))) : Option (Int32)) fun w13 => if q10 ≤ a2 then (fm_views_L37 k1 T N a2 w13 (a4 + 1)) else (fm_views_L37 k1 T N q10 w13 (a4 + 1)))) else none
def fm_views (p0 : Int32) (T : mT) : Option (Int32 × mT) := (fm_isIsland T).bind fun q1 => if (b2i q1) = 0 then (some ((-1), T)) else ((fm_in ((p0 : Int32).toInt64) 0 2).bind fun q3 => if (b2i q3) = 0 then (some ((-1), T)) else (if p0 = 0 then ((fm_fewestFaces T).bind fun q18 => some (q18.1, q18.2)) else ((fm_views_L37 p0 T FU 0 0 0).bind fun w16 => if p0 = 1 then (some (w16.2.1, T)) else (some (w16.1, T)))))
theorem xm_views_L37 {l : Launch} {r : Option Value} {T' : mT} (k1 : Int32) (T : mT) : ∀ (N : Nat) (a2 : Int32) (a3 : Int32) (a4 : Int32) (W0 : Int32 × Int32 × Int32) (_ : fm_views_L37 k1 T N a2 a3 a4 = some W0) (_ : MW l yy_X12_views 2 r T' 104 [some (.ref 137), some (.int k1), some (.int W0.1), some (.int W0.2.1), some (.int W0.2.2), none] [] T), MW l yy_X12_views 2 r T' 37 [some (.ref 137), some (.int k1), some (.int a2), some (.int a3), some (.int a4), none] [] T := by
  intro N
  induction N with
  | zero =>
    intro a2 a3 a4 W0 hf _
    cases hf
  | succ N ih =>
    intro a2 a3 a4 W0 hf hk1
    unfold fm_views_L37 at hf
    refine MW.run rfl [(.iload 4, 0), (.aload_n 0, 0), (.getfield 39, 0), (.iconst 1, 1)] (pc' := 44) (ls' := [some (.ref 137), some (.int k1), some (.int a2), some (.int a3), some (.int a4), none]) (st' := [.int 1, .ref 147, .int a4]) (T1 := T) (by decide +kernel) rfl ?_
    obtain ⟨hi_v6, hf⟩ := bi_some hf
    obtain ⟨v6, hv6, hf⟩ := letv_some hf
    refine MW.iald 10 410 rfl (by decide) rfl (by decide +kernel) (inb_in hi_v6) ?_
    rw [← hv6]
    refine MW.icmp_ge (off := 59) (tgt := 104) (by decide +kernel) (by decide) (fun c45_7 => ?_) (fun c45_7 => ?_)
    · rw [if_pos c45_7] at hf
      have e9 := Option.some.inj hf
      subst e9
      exact hk1
    · rw [if_neg c45_7] at hf
      refine MW.run rfl [(.aload_n 0, 0), (.aload_n 0, 0), (.iload 4, 0), (.iconst 0, 0)] (pc' := 53) (ls' := [some (.ref 137), some (.int k1), some (.int a2), some (.int a3), some (.int a4), none]) (st' := [.int 0, .int a4, .ref 137, .ref 137]) (T1 := T) (by decide +kernel) rfl ?_
      obtain ⟨q8, hq8, hf⟩ := bd_some hf
      refine MW.callV (As := [.int a4, .int 0]) (st := [.ref 137]) lv_RX12_321 rfl (by decide +kernel) (xm_personOf hq8) (by decide) (by decide) rfl (Nat.le_of_ble_eq_true rfl) rfl ?_
      show MW l yy_X12_views 2 _ _ 56 [some (.ref 137), some (.int k1), some (.int a2), some (.int a3), some (.int a4), none] [.int q8, .ref 137] T
      obtain ⟨q9, hq9, hf⟩ := bd_some hf
      refine MW.callV (As := [.int q8]) (st := []) lv_RX12_413 rfl (by decide +kernel) (xm_viewsOf hq9) (by decide) (by decide) rfl (Nat.le_of_ble_eq_true rfl) rfl ?_
      show MW l yy_X12_views 2 _ _ 59 [some (.ref 137), some (.int k1), some (.int a2), some (.int a3), some (.int a4), none] [.int q9] T
      obtain ⟨q10, hq10, hf⟩ := bd_some hf
      refine MW.callP (As := [.int q9]) (st := []) lt_RX12_373 (by decide +kernel) (xm_bits hq10) (by decide) (by decide) rfl (Nat.le_of_ble_eq_true rfl) rfl ?_
      show MW l yy_X12_views 2 _ _ 62 [some (.ref 137), some (.int k1), some (.int a2), some (.int a3), some (.int a4), none] [.int q10] T
      refine MW.run rfl [(.istore 5, 0), (.iload 5, 0), (.iload_n 2, 0)] (pc' := 67) (ls' := [some (.ref 137), some (.int k1), some (.int a2), some (.int a3), some (.int a4), some (.int q10)]) (st' := [.int a2, .int q10]) (T1 := T) (by decide +kernel) rfl ?_
      obtain ⟨w11, hw11, hf⟩ := bd_some hf
      have hJ : MW l yy_X12_views 2 r T' 72 [some (.ref 137), some (.int k1), some (.int a2), some (.int w11), some (.int a4), some (.int q10)] [] T := by
        refine MW.run rfl [(.iload 5, 0), (.iload_n 2, 0)] (pc' := 75) (ls' := [some (.ref 137), some (.int k1), some (.int a2), some (.int w11), some (.int a4), some (.int q10)]) (st' := [.int a2, .int q10]) (T1 := T) (by decide +kernel) rfl ?_
        obtain ⟨w13, hw13, hf⟩ := bd_some hf
        have hJ : MW l yy_X12_views 2 r T' 85 [some (.ref 137), some (.int k1), some (.int a2), some (.int w13), some (.int a4), some (.int q10)] [] T := by
          refine MW.run rfl [(.iload 5, 0), (.iload_n 2, 0)] (pc' := 88) (ls' := [some (.ref 137), some (.int k1), some (.int a2), some (.int w13), some (.int a4), some (.int q10)]) (st' := [.int a2, .int q10]) (T1 := T) (by decide +kernel) rfl ?_
          refine MW.icmp_le (off := 8) (tgt := 96) (by decide +kernel) (by decide) (fun c88_15 => ?_) (fun c88_15 => ?_)
          · rw [if_pos c88_15] at hf
            refine MW.run rfl [(.iload_n 2, 0), (.istore_n 2, 0), (.iinc 4 1, 1), (.goto (-64), 0)] (pc' := 37) (ls' := [some (.ref 137), some (.int k1), some (.int a2), some (.int w13), some (.int (a4 + 1)), some (.int q10)]) (st' := []) (T1 := T) (by decide +kernel) rfl ?_
            refine MW.fgt (ls' := [some (.ref 137), some (.int k1), some (.int a2), some (.int w13), some (.int (a4 + 1)), none]) (by repeat' (first | exact trivial | refine ⟨rfl, ?_⟩)) ?_
            exact ih _ _ _ _ hf hk1
          · rw [if_neg c88_15] at hf
            refine MW.run rfl [(.iload 5, 0), (.goto 4, 0), (.istore_n 2, 0), (.iinc 4 1, 1), (.goto (-64), 0)] (pc' := 37) (ls' := [some (.ref 137), some (.int k1), some (.int q10), some (.int w13), some (.int (a4 + 1)), some (.int q10)]) (st' := []) (T1 := T) (by decide +kernel) rfl ?_
            refine MW.fgt (ls' := [some (.ref 137), some (.int k1), some (.int q10), some (.int w13), some (.int (a4 + 1)), none]) (by repeat' (first | exact trivial | refine ⟨rfl, ?_⟩)) ?_
            exact ih _ _ _ _ hf hk1
        clear hf
        refine MW.icmp_lt (off := 10) (tgt := 85) (by decide +kernel) (by decide) (fun c75_14 => ?_) (fun c75_14 => ?_)
        · rw [if_pos c75_14] at hw13
          have e9 := Option.some.inj hw13
          subst e9
          exact hJ
        · rw [if_neg c75_14] at hw13
          refine MW.run rfl [(.iload_n 3, 0), (.iconst 1, 1), (.iload 4, 0), (.ishl, 0), (.ior, 0), (.istore_n 3, 0)] (pc' := 85) (ls' := [some (.ref 137), some (.int k1), some (.int a2), some (.int (w11 ||| (1 <<< (a4 &&& 31)))), some (.int a4), some (.int q10)]) (st' := []) (T1 := T) (by decide +kernel) rfl ?_
          have e9 := Option.some.inj hw13
          subst e9
          exact hJ
      clear hf
      refine MW.icmp_le (off := 5) (tgt := 72) (by decide +kernel) (by decide) (fun c67_12 => ?_) (fun c67_12 => ?_)
      · rw [if_pos c67_12] at hw11
        have e9 := Option.some.inj hw11
        subst e9
        exact hJ
      · rw [if_neg c67_12] at hw11
        refine MW.run rfl [(.iconst 0, 0), (.istore_n 3, 0)] (pc' := 72) (ls' := [some (.ref 137), some (.int k1), some (.int a2), some (.int 0), some (.int a4), some (.int q10)]) (st' := []) (T1 := T) (by decide +kernel) rfl ?_
        have e9 := Option.some.inj hw11
        subst e9
        exact hJ
theorem xm_views {l : Launch} {p0 : Int32} {T : mT} {q : Int32 × mT} (hf : fm_views p0 T = some q) : MOk l yy_X12_views 2 [.int p0] T (some (.int q.1)) q.2 := by
  refine MOk.of (ls := [some (.ref 137), some (.int p0), none, none, none, none]) (by decide +kernel) (Nat.le_of_ble_eq_true rfl) rfl ?_
  unfold fm_views at hf
  refine MW.run rfl [(.aload_n 0, 0)] (pc' := 1) (ls' := [some (.ref 137), some (.int p0), none, none, none, none]) (st' := [.ref 137]) (T1 := T) (by decide +kernel) rfl ?_
  obtain ⟨q1, hq1, hf⟩ := bd_some hf
  refine MW.callV (As := []) (st := []) lv_RX12_336 rfl (by decide +kernel) (xm_isIsland hq1) (by decide) (by decide) rfl (Nat.le_of_ble_eq_true rfl) rfl ?_
  show MW l yy_X12_views 2 _ _ 4 [some (.ref 137), some (.int p0), none, none, none, none] [.int (b2i q1)] T
  refine MW.if_eq (off := 15) (tgt := 19) (by decide +kernel) (by decide) (fun c4_2 => ?_) (fun c4_2 => ?_)
  · rw [if_pos c4_2] at hf
    refine MW.run rfl [(.iconst (-1), (-1))] (pc' := 20) (ls' := [some (.ref 137), some (.int p0), none, none, none, none]) (st' := [.int (-1)]) (T1 := T) (by decide +kernel) rfl ?_
    have e9 := Option.some.inj hf
    subst e9
    exact MW.iret rfl (by decide +kernel)
  · rw [if_neg c4_2] at hf
    refine MW.run rfl [(.iload_n 1, 0), (.i2l, 0), (.lconst 0, 0)] (pc' := 10) (ls' := [some (.ref 137), some (.int p0), none, none, none, none]) (st' := [.long 0, .long ((p0 : Int32).toInt64)]) (T1 := T) (by decide +kernel) rfl ?_
    refine MW.ldc2 (idx := 388) (v := 2) (tb_in 1561 (by decide +kernel) (by decide +kernel)) (by decide +kernel) ?_
    obtain ⟨q3, hq3, hf⟩ := bd_some hf
    refine MW.callP (As := [.long ((p0 : Int32).toInt64), .long 0, .long 2]) (st := []) lt_RX12_110 (by decide +kernel) (xm_in hq3) (by decide) (by decide) rfl (Nat.le_of_ble_eq_true rfl) rfl ?_
    show MW l yy_X12_views 2 _ _ 16 [some (.ref 137), some (.int p0), none, none, none, none] [.int (b2i q3)] T
    refine MW.if_ne (off := 5) (tgt := 21) (by decide +kernel) (by decide) (fun c16_4 => ?_) (fun c16_4 => ?_)
    · rw [if_neg c16_4] at hf
      refine MW.run rfl [(.iload_n 1, 0)] (pc' := 22) (ls' := [some (.ref 137), some (.int p0), none, none, none, none]) (st' := [.int p0]) (T1 := T) (by decide +kernel) rfl ?_
      refine MW.if_ne (off := 8) (tgt := 30) (by decide +kernel) (by decide) (fun c22_5 => ?_) (fun c22_5 => ?_)
      · rw [if_neg c22_5] at hf
        refine MW.run rfl [(.iconst 0, 0), (.istore_n 2, 0), (.iconst 0, 0), (.istore_n 3, 0), (.iconst 0, 0), (.istore 4, 0)] (pc' := 37) (ls' := [some (.ref 137), some (.int p0), some (.int 0), some (.int 0), some (.int 0), none]) (st' := []) (T1 := T) (by decide +kernel) rfl ?_
        obtain ⟨w16, hw16, hf⟩ := bd_some hf
        refine xm_views_L37 p0 T FU _ _ _ _ hw16 ?_
        refine MW.run rfl [(.iload_n 1, 0), (.iconst 1, 1)] (pc' := 106) (ls' := [some (.ref 137), some (.int p0), some (.int w16.1), some (.int w16.2.1), some (.int w16.2.2), none]) (st' := [.int 1, .int p0]) (T1 := T) (by decide +kernel) rfl ?_
        refine MW.icmp_ne (off := 7) (tgt := 113) (by decide +kernel) (by decide) (fun c106_17 => ?_) (fun c106_17 => ?_)
        · rw [if_neg c106_17] at hf
          refine MW.run rfl [(.iload_n 2, 0)] (pc' := 114) (ls' := [some (.ref 137), some (.int p0), some (.int w16.1), some (.int w16.2.1), some (.int w16.2.2), none]) (st' := [.int w16.1]) (T1 := T) (by decide +kernel) rfl ?_
          have e9 := Option.some.inj hf
          subst e9
          exact MW.iret rfl (by decide +kernel)
        · rw [if_pos c106_17] at hf
          refine MW.run rfl [(.iload_n 3, 0), (.goto 4, 0)] (pc' := 114) (ls' := [some (.ref 137), some (.int p0), some (.int w16.1), some (.int w16.2.1), some (.int w16.2.2), none]) (st' := [.int w16.2.1]) (T1 := T) (by decide +kernel) rfl ?_
          have e9 := Option.some.inj hf
          subst e9
          exact MW.iret rfl (by decide +kernel)
      · rw [if_pos c22_5] at hf
        refine MW.run rfl [(.aload_n 0, 0)] (pc' := 26) (ls' := [some (.ref 137), some (.int p0), none, none, none, none]) (st' := [.ref 137]) (T1 := T) (by decide +kernel) rfl ?_
        obtain ⟨q18, hq18, hf⟩ := bd_some hf
        refine MW.callV (As := []) (st := []) lv_RX12_416 rfl (by decide +kernel) (xm_fewestFaces hq18) (by decide) (by decide) rfl (Nat.le_of_ble_eq_true rfl) rfl ?_
        show MW l yy_X12_views 2 _ _ 29 [some (.ref 137), some (.int p0), none, none, none, none] [.int q18.1] q18.2
        have e9 := Option.some.inj hf
        subst e9
        exact MW.iret rfl (by decide +kernel)
    · rw [if_pos c16_4] at hf
      refine MW.run rfl [(.iconst (-1), (-1))] (pc' := 20) (ls' := [some (.ref 137), some (.int p0), none, none, none, none]) (st' := [.int (-1)]) (T1 := T) (by decide +kernel) rfl ?_
      have e9 := Option.some.inj hf
      subst e9
      exact MW.iret rfl (by decide +kernel)
def fm_seed (p0 : Int32) (T : mT) : Option (Int32 × mT) := if 0 ≤ p0 then (letv (mz T 23 p0) fun T2 => some (T.1 0 23, T2)) else (some ((-1), T))
theorem xm_seed {l : Launch} {p0 : Int32} {T : mT} {q : Int32 × mT} (hf : fm_seed p0 T = some q) : MOk l yy_X12_seed 0 [.int p0] T (some (.int q.1)) q.2 := by
  refine MOk.of (ls := [some (.ref 137), some (.int p0), none]) (by decide +kernel) (Nat.le_of_ble_eq_true rfl) rfl ?_
  unfold fm_seed at hf
  refine MW.run rfl [(.iload_n 1, 0)] (pc' := 1) (ls' := [some (.ref 137), some (.int p0), none]) (st' := [.int p0]) (T1 := T) (by decide +kernel) rfl ?_
  refine MW.if_ge (off := 5) (tgt := 6) (by decide +kernel) (by decide) (fun c1_1 => ?_) (fun c1_1 => ?_)
  · rw [if_pos c1_1] at hf
    refine MW.run rfl [(.aload_n 0, 0), (.getfield 419, 0), (.istore_n 2, 0), (.aload_n 0, 0), (.iload_n 1, 0), (.putfield 419, 0)] (pc' := 16) (ls' := [some (.ref 137), some (.int p0), some (.int (T.1 0 23))]) (st' := []) (T1 := mz T 23 p0) (by decide +kernel) rfl ?_
    obtain ⟨T2, hT2, hf⟩ := letv_some hf
    rw [← hT2]
    refine MW.run rfl [(.iload_n 2, 0)] (pc' := 17) (ls' := [some (.ref 137), some (.int p0), some (.int (T.1 0 23))]) (st' := [.int (T.1 0 23)]) (T1 := T2) (by decide +kernel) rfl ?_
    have e9 := Option.some.inj hf
    subst e9
    exact MW.iret rfl (by decide +kernel)
  · rw [if_neg c1_1] at hf
    refine MW.run rfl [(.iconst (-1), (-1))] (pc' := 5) (ls' := [some (.ref 137), some (.int p0), none]) (st' := [.int (-1)]) (T1 := T) (by decide +kernel) rfl ?_
    have e9 := Option.some.inj hf
    subst e9
    exact MW.iret rfl (by decide +kernel)
def fm_draw (p0 : Int32) (T : mT) : Option (Int32 × mT) := if (2147483648 : Int64) = 0 then none else (letv (mw T 29 ((((T.2 0 29) * 1103515245) + 12345) - (((T.2 0 29) * 1103515245) + 12345) / 2147483648 * 2147483648)) fun T2 => if (65536 : Int64) = 0 then none else (if (((p0 : Int32).toInt64) : Int64) = 0 then none else (some (((((T2.2 0 29) / 65536) - ((T2.2 0 29) / 65536) / ((p0 : Int32).toInt64) * ((p0 : Int32).toInt64)) : Int64).toInt32, T2))))
theorem xm_draw {l : Launch} {p0 : Int32} {T : mT} {q : Int32 × mT} (hf : fm_draw p0 T = some q) : MOk l yy_X12_draw 0 [.int p0] T (some (.int q.1)) q.2 := by
  refine MOk.of (ls := [some (.ref 137), some (.int p0)]) (by decide +kernel) (Nat.le_of_ble_eq_true rfl) rfl ?_
  unfold fm_draw at hf
  refine MW.run rfl [(.aload_n 0, 0), (.aload_n 0, 0), (.getfield 422, 0)] (pc' := 5) (ls' := [some (.ref 137), some (.int p0)]) (st' := [.long (T.2 0 29), .ref 137]) (T1 := T) (by decide +kernel) rfl ?_
  refine MW.ldc2 (idx := 426) (v := 1103515245) (tb_in 1635 (by decide +kernel) (by decide +kernel)) (by decide +kernel) ?_
  refine MW.run rfl [(.lmul, 0)] (pc' := 9) (ls' := [some (.ref 137), some (.int p0)]) (st' := [.long ((T.2 0 29) * 1103515245), .ref 137]) (T1 := T) (by decide +kernel) rfl ?_
  refine MW.ldc2 (idx := 428) (v := 12345) (tb_in 1636 (by decide +kernel) (by decide +kernel)) (by decide +kernel) ?_
  refine MW.run rfl [(.ladd, 0)] (pc' := 13) (ls' := [some (.ref 137), some (.int p0)]) (st' := [.long (((T.2 0 29) * 1103515245) + 12345), .ref 137]) (T1 := T) (by decide +kernel) rfl ?_
  refine MW.ldc2 (idx := 430) (v := 2147483648) (tb_in 1637 (by decide +kernel) (by decide +kernel)) (by decide +kernel) ?_
  obtain ⟨hn1, hf⟩ := nz_some hf
  refine MW.lrem hn1 (by decide +kernel) ?_
  refine MW.putJ rfl (by decide +kernel) ?_
  obtain ⟨T2, hT2, hf⟩ := letv_some hf
  rw [← hT2]
  refine MW.run rfl [(.aload_n 0, 0), (.getfield 422, 0)] (pc' := 24) (ls' := [some (.ref 137), some (.int p0)]) (st' := [.long (T2.2 0 29)]) (T1 := T2) (by decide +kernel) rfl ?_
  refine MW.ldc2 (idx := 432) (v := 65536) (tb_in 1638 (by decide +kernel) (by decide +kernel)) (by decide +kernel) ?_
  obtain ⟨hn3, hf⟩ := nz_some hf
  refine MW.ldiv hn3 (by decide +kernel) ?_
  refine MW.run rfl [(.iload_n 1, 0), (.i2l, 0)] (pc' := 30) (ls' := [some (.ref 137), some (.int p0)]) (st' := [.long ((p0 : Int32).toInt64), .long ((T2.2 0 29) / 65536)]) (T1 := T2) (by decide +kernel) rfl ?_
  obtain ⟨hn4, hf⟩ := nz_some hf
  refine MW.lrem hn4 (by decide +kernel) ?_
  refine MW.run rfl [(.l2i, 0)] (pc' := 32) (ls' := [some (.ref 137), some (.int p0)]) (st' := [.int (((((T2.2 0 29) / 65536) - ((T2.2 0 29) / 65536) / ((p0 : Int32).toInt64) * ((p0 : Int32).toInt64)) : Int64).toInt32)]) (T1 := T2) (by decide +kernel) rfl ?_
  have e9 := Option.some.inj hf
  subst e9
  exact MW.iret rfl (by decide +kernel)
def fm_drawsHour_L55 (k1 : Int32) (k2 : Int32) (k3 : Int32) (k4 : Int32) : Nat → Int32 → Int32 → mT → Option (Int32 × Int32 × mT)
  | 0, _, _, _ => none
  | N + 1, a5, a6, T => bif inb 0 410 then (letv (T.1 10 (0 : Int32).toNatClampNeg) fun v20 => if v20 ≤ a6 then (some (a5, a6, T)) else ((fm_draw 100 T).bind fun q22 => if k2 ≤ q22.1 then (fm_drawsHour_L55 k1 k2 k3 k4 N (a5 ^^^ 0) (a6 + 1) q22.2) else (fm_drawsHour_L55 k1 k2 k3 k4 N (a5 ^^^ (1 <<< (a6 &&& 31))) (a6 + 1) q22.2))) else none
def fm_drawsHour (p0 : Int32) (p1 : Int32) (T : mT) : Option (mT) := bif inb 1 410 then (letv (T.1 10 (1 : Int32).toNatClampNeg) fun v1 => (fm_draw v1 T).bind fun q2 => bif inb 1 410 then (letv (q2.2.1 10 (1 : Int32).toNatClampNeg) fun v3 => (fm_draw v3 q2.2).bind fun q4 => bif inb 5 410 then (letv (q4.2.1 10 (5 : Int32).toNatClampNeg) fun v5 => Option.bind (if 40 ≤ v5 then (bif inb 5 410 then (letv (q4.2.1 10 (5 : Int32).toNatClampNeg) fun v8 => if 40 ≤ v8 then (some (q4.2)) else (bif inb 3 410 then (letv (q4.2.1 10 (3 : Int32).toNatClampNeg) fun v10 => if q2.1 = v10 then ((fm_looks q4.2).bind fun q12 => some (q12)) else (some (q4.2))) else none)) else none) else (if q2.1 = q4.1 then (bif inb 5 410 then (letv (q4.2.1 10 (5 : Int32).toNatClampNeg) fun v14 => if 40 ≤ v14 then (some (q4.2)) else (bif inb 3 410 then (letv (q4.2.1 10 (3 : Int32).toNatClampNeg) fun v16 => if q2.1 = v16 then ((fm_looks q4.2).bind fun q18 => some (q18)) else (some (q4.2))) else none)) else none) else ((fm_faceBy p0 q2.1 q4.1 q4.1 q4.2).bind fun q19 => (fm_drawsHour_L55 p0 p1 q2.1 q4.1 FU q19.1 0 q19.2).bind fun w24 => (fm_comes q2.1 q4.1 q4.1 w24.1 (-1) w24.2.2).bind fun q25 => some (q25))) : Option (mT)) fun w6 => bif inb 2 410 then (letv (w6.1 10 (2 : Int32).toNatClampNeg) fun v26 => bif inb 2 410 then (letv (ma w6 10 (2 : Int32).toNatClampNeg (v26 + 1)) fun T27 => some T27) else none) else none) else none) else none) else none
theorem xm_drawsHour_L55 {l : Launch} {r : Option Value} {T' : mT} (k1 : Int32) (k2 : Int32) (k3 : Int32) (k4 : Int32) : ∀ (N : Nat) (a5 : Int32) (a6 : Int32) (T : mT) (W0 : Int32 × Int32 × mT) (_ : fm_drawsHour_L55 k1 k2 k3 k4 N a5 a6 T = some W0) (_ : MW l yy_X12_drawsHour 7 r T' 95 [some (.ref 137), some (.int k1), some (.int k2), some (.int k3), some (.int k4), some (.int W0.1), some (.int W0.2.1)] [] W0.2.2), MW l yy_X12_drawsHour 7 r T' 55 [some (.ref 137), some (.int k1), some (.int k2), some (.int k3), some (.int k4), some (.int a5), some (.int a6)] [] T := by
  intro N
  induction N with
  | zero =>
    intro a5 a6 T W0 hf _
    cases hf
  | succ N ih =>
    intro a5 a6 T W0 hf hk1
    unfold fm_drawsHour_L55 at hf
    refine MW.run rfl [(.iload 6, 0), (.aload_n 0, 0), (.getfield 39, 0), (.iconst 0, 0)] (pc' := 62) (ls' := [some (.ref 137), some (.int k1), some (.int k2), some (.int k3), some (.int k4), some (.int a5), some (.int a6)]) (st' := [.int 0, .ref 147, .int a6]) (T1 := T) (by decide +kernel) rfl ?_
    obtain ⟨hi_v20, hf⟩ := bi_some hf
    obtain ⟨v20, hv20, hf⟩ := letv_some hf
    refine MW.iald 10 410 rfl (by decide) rfl (by decide +kernel) (inb_in hi_v20) ?_
    rw [← hv20]
    refine MW.icmp_ge (off := 32) (tgt := 95) (by decide +kernel) (by decide) (fun c63_21 => ?_) (fun c63_21 => ?_)
    · rw [if_pos c63_21] at hf
      have e9 := Option.some.inj hf
      subst e9
      exact hk1
    · rw [if_neg c63_21] at hf
      refine MW.run rfl [(.iload 5, 0), (.aload_n 0, 0), (.bipush 100, 100)] (pc' := 71) (ls' := [some (.ref 137), some (.int k1), some (.int k2), some (.int k3), some (.int k4), some (.int a5), some (.int a6)]) (st' := [.int 100, .ref 137, .int a5]) (T1 := T) (by decide +kernel) rfl ?_
      obtain ⟨q22, hq22, hf⟩ := bd_some hf
      refine MW.callV (As := [.int 100]) (st := [.int a5]) lv_RX12_434 rfl (by decide +kernel) (xm_draw hq22) (by decide) (by decide) rfl (Nat.le_of_ble_eq_true rfl) rfl ?_
      show MW l yy_X12_drawsHour 7 _ _ 74 [some (.ref 137), some (.int k1), some (.int k2), some (.int k3), some (.int k4), some (.int a5), some (.int a6)] [.int q22.1, .int a5] q22.2
      refine MW.run rfl [(.iload_n 2, 0)] (pc' := 75) (ls' := [some (.ref 137), some (.int k1), some (.int k2), some (.int k3), some (.int k4), some (.int a5), some (.int a6)]) (st' := [.int k2, .int q22.1, .int a5]) (T1 := q22.2) (by decide +kernel) rfl ?_
      refine MW.icmp_ge (off := 10) (tgt := 85) (by decide +kernel) (by decide) (fun c75_23 => ?_) (fun c75_23 => ?_)
      · rw [if_pos c75_23] at hf
        refine MW.run rfl [(.iconst 0, 0), (.ixor, 0), (.istore 5, 0), (.iinc 6 1, 1), (.goto (-37), 0)] (pc' := 55) (ls' := [some (.ref 137), some (.int k1), some (.int k2), some (.int k3), some (.int k4), some (.int (a5 ^^^ 0)), some (.int (a6 + 1))]) (st' := []) (T1 := q22.2) (by decide +kernel) rfl ?_
        exact ih _ _ _ _ hf hk1
      · rw [if_neg c75_23] at hf
        refine MW.run rfl [(.iconst 1, 1), (.iload 6, 0), (.ishl, 0), (.goto 4, 0), (.ixor, 0), (.istore 5, 0), (.iinc 6 1, 1), (.goto (-37), 0)] (pc' := 55) (ls' := [some (.ref 137), some (.int k1), some (.int k2), some (.int k3), some (.int k4), some (.int (a5 ^^^ (1 <<< (a6 &&& 31)))), some (.int (a6 + 1))]) (st' := []) (T1 := q22.2) (by decide +kernel) rfl ?_
        exact ih _ _ _ _ hf hk1
theorem xm_drawsHour {l : Launch} {p0 : Int32} {p1 : Int32} {T : mT} {q : mT} (hf : fm_drawsHour p0 p1 T = some q) : MOk l yy_X12_drawsHour 7 [.int p0, .int p1] T none q := by
  refine MOk.of (ls := [some (.ref 137), some (.int p0), some (.int p1), none, none, none, none]) (by decide +kernel) (Nat.le_of_ble_eq_true rfl) rfl ?_
  unfold fm_drawsHour at hf
  refine MW.run rfl [(.aload_n 0, 0), (.aload_n 0, 0), (.getfield 39, 0), (.iconst 1, 1)] (pc' := 6) (ls' := [some (.ref 137), some (.int p0), some (.int p1), none, none, none, none]) (st' := [.int 1, .ref 147, .ref 137]) (T1 := T) (by decide +kernel) rfl ?_
  obtain ⟨hi_v1, hf⟩ := bi_some hf
  obtain ⟨v1, hv1, hf⟩ := letv_some hf
  refine MW.iald 10 410 rfl (by decide) rfl (by decide +kernel) (inb_in hi_v1) ?_
  rw [← hv1]
  obtain ⟨q2, hq2, hf⟩ := bd_some hf
  refine MW.callV (As := [.int v1]) (st := []) lv_RX12_434 rfl (by decide +kernel) (xm_draw hq2) (by decide) (by decide) rfl (Nat.le_of_ble_eq_true rfl) rfl ?_
  show MW l yy_X12_drawsHour 7 _ _ 10 [some (.ref 137), some (.int p0), some (.int p1), none, none, none, none] [.int q2.1] q2.2
  refine MW.run rfl [(.istore_n 3, 0), (.aload_n 0, 0), (.aload_n 0, 0), (.getfield 39, 0), (.iconst 1, 1)] (pc' := 17) (ls' := [some (.ref 137), some (.int p0), some (.int p1), some (.int q2.1), none, none, none]) (st' := [.int 1, .ref 147, .ref 137]) (T1 := q2.2) (by decide +kernel) rfl ?_
  obtain ⟨hi_v3, hf⟩ := bi_some hf
  obtain ⟨v3, hv3, hf⟩ := letv_some hf
  refine MW.iald 10 410 rfl (by decide) rfl (by decide +kernel) (inb_in hi_v3) ?_
  rw [← hv3]
  obtain ⟨q4, hq4, hf⟩ := bd_some hf
  refine MW.callV (As := [.int v3]) (st := []) lv_RX12_434 rfl (by decide +kernel) (xm_draw hq4) (by decide) (by decide) rfl (Nat.le_of_ble_eq_true rfl) rfl ?_
  show MW l yy_X12_drawsHour 7 _ _ 21 [some (.ref 137), some (.int p0), some (.int p1), some (.int q2.1), none, none, none] [.int q4.1] q4.2
  refine MW.run rfl [(.istore 4, 0), (.aload_n 0, 0), (.getfield 39, 0), (.iconst 5, 5)] (pc' := 28) (ls' := [some (.ref 137), some (.int p0), some (.int p1), some (.int q2.1), some (.int q4.1), none, none]) (st' := [.int 5, .ref 147]) (T1 := q4.2) (by decide +kernel) rfl ?_
  obtain ⟨hi_v5, hf⟩ := bi_some hf
  obtain ⟨v5, hv5, hf⟩ := letv_some hf
  refine MW.iald 10 410 rfl (by decide) rfl (by decide +kernel) (inb_in hi_v5) ?_
  rw [← hv5]
  refine MW.run rfl [(.bipush 40, 40)] (pc' := 31) (ls' := [some (.ref 137), some (.int p0), some (.int p1), some (.int q2.1), some (.int q4.1), none, none]) (st' := [.int 40, .int v5]) (T1 := q4.2) (by decide +kernel) rfl ?_
  obtain ⟨w6, hw6, hf⟩ := bd_some hf
  have hJ : MW l yy_X12_drawsHour 7 none q 135 [some (.ref 137), some (.int p0), some (.int p1), some (.int q2.1), some (.int q4.1), none, none] [] w6 := by
    refine MW.run rfl [(.aload_n 0, 0), (.getfield 39, 0), (.iconst 2, 2), (.dup2, 0)] (pc' := 141) (ls' := [some (.ref 137), some (.int p0), some (.int p1), some (.int q2.1), some (.int q4.1), none, none]) (st' := [.int 2, .ref 147, .int 2, .ref 147]) (T1 := w6) (by decide +kernel) rfl ?_
    obtain ⟨hi_v26, hf⟩ := bi_some hf
    obtain ⟨v26, hv26, hf⟩ := letv_some hf
    refine MW.iald 10 410 rfl (by decide) rfl (by decide +kernel) (inb_in hi_v26) ?_
    rw [← hv26]
    refine MW.run rfl [(.iconst 1, 1), (.iadd, 0)] (pc' := 144) (ls' := [some (.ref 137), some (.int p0), some (.int p1), some (.int q2.1), some (.int q4.1), none, none]) (st' := [.int (v26 + 1), .int 2, .ref 147]) (T1 := w6) (by decide +kernel) rfl ?_
    obtain ⟨hi_T27, hf⟩ := bi_some hf
    obtain ⟨T27, hT27, hf⟩ := letv_some hf
    refine MW.iast 10 410 rfl (by decide) (fun _ => rfl) (by decide +kernel) (inb_in hi_T27) ?_
    rw [← hT27]
    have e9 := Option.some.inj hf
    subst e9
    exact MW.vret rfl (by decide +kernel)
  clear hf
  refine MW.icmp_ge (off := 79) (tgt := 110) (by decide +kernel) (by decide) (fun c31_7 => ?_) (fun c31_7 => ?_)
  · rw [if_pos c31_7] at hw6
    refine MW.run rfl [(.aload_n 0, 0), (.getfield 39, 0), (.iconst 5, 5)] (pc' := 115) (ls' := [some (.ref 137), some (.int p0), some (.int p1), some (.int q2.1), some (.int q4.1), none, none]) (st' := [.int 5, .ref 147]) (T1 := q4.2) (by decide +kernel) rfl ?_
    obtain ⟨hi_v8, hw6⟩ := bi_some hw6
    obtain ⟨v8, hv8, hw6⟩ := letv_some hw6
    refine MW.iald 10 410 rfl (by decide) rfl (by decide +kernel) (inb_in hi_v8) ?_
    rw [← hv8]
    refine MW.run rfl [(.bipush 40, 40)] (pc' := 118) (ls' := [some (.ref 137), some (.int p0), some (.int p1), some (.int q2.1), some (.int q4.1), none, none]) (st' := [.int 40, .int v8]) (T1 := q4.2) (by decide +kernel) rfl ?_
    refine MW.icmp_ge (off := 17) (tgt := 135) (by decide +kernel) (by decide) (fun c118_9 => ?_) (fun c118_9 => ?_)
    · rw [if_pos c118_9] at hw6
      have e9 := Option.some.inj hw6
      subst e9
      exact hJ
    · rw [if_neg c118_9] at hw6
      refine MW.run rfl [(.iload_n 3, 0), (.aload_n 0, 0), (.getfield 39, 0), (.iconst 3, 3)] (pc' := 127) (ls' := [some (.ref 137), some (.int p0), some (.int p1), some (.int q2.1), some (.int q4.1), none, none]) (st' := [.int 3, .ref 147, .int q2.1]) (T1 := q4.2) (by decide +kernel) rfl ?_
      obtain ⟨hi_v10, hw6⟩ := bi_some hw6
      obtain ⟨v10, hv10, hw6⟩ := letv_some hw6
      refine MW.iald 10 410 rfl (by decide) rfl (by decide +kernel) (inb_in hi_v10) ?_
      rw [← hv10]
      refine MW.icmp_ne (off := 7) (tgt := 135) (by decide +kernel) (by decide) (fun c128_11 => ?_) (fun c128_11 => ?_)
      · rw [if_neg c128_11] at hw6
        have e9 := Option.some.inj hw6
        subst e9
        exact hJ
      · rw [if_pos c128_11] at hw6
        refine MW.run rfl [(.aload_n 0, 0)] (pc' := 132) (ls' := [some (.ref 137), some (.int p0), some (.int p1), some (.int q2.1), some (.int q4.1), none, none]) (st' := [.ref 137]) (T1 := q4.2) (by decide +kernel) rfl ?_
        obtain ⟨q12, hq12, hw6⟩ := bd_some hw6
        refine MW.callV (As := []) (st := []) lv_RX12_359 rfl (by decide +kernel) (xm_looks hq12) (by decide) (by decide) rfl (Nat.le_of_ble_eq_true rfl) rfl ?_
        show MW l yy_X12_drawsHour 7 _ _ 135 [some (.ref 137), some (.int p0), some (.int p1), some (.int q2.1), some (.int q4.1), none, none] [] q12
        have e9 := Option.some.inj hw6
        subst e9
        exact hJ
  · rw [if_neg c31_7] at hw6
    refine MW.run rfl [(.iload_n 3, 0), (.iload 4, 0)] (pc' := 37) (ls' := [some (.ref 137), some (.int p0), some (.int p1), some (.int q2.1), some (.int q4.1), none, none]) (st' := [.int q4.1, .int q2.1]) (T1 := q4.2) (by decide +kernel) rfl ?_
    refine MW.icmp_eq (off := 73) (tgt := 110) (by decide +kernel) (by decide) (fun c37_13 => ?_) (fun c37_13 => ?_)
    · rw [if_pos c37_13] at hw6
      refine MW.run rfl [(.aload_n 0, 0), (.getfield 39, 0), (.iconst 5, 5)] (pc' := 115) (ls' := [some (.ref 137), some (.int p0), some (.int p1), some (.int q2.1), some (.int q4.1), none, none]) (st' := [.int 5, .ref 147]) (T1 := q4.2) (by decide +kernel) rfl ?_
      obtain ⟨hi_v14, hw6⟩ := bi_some hw6
      obtain ⟨v14, hv14, hw6⟩ := letv_some hw6
      refine MW.iald 10 410 rfl (by decide) rfl (by decide +kernel) (inb_in hi_v14) ?_
      rw [← hv14]
      refine MW.run rfl [(.bipush 40, 40)] (pc' := 118) (ls' := [some (.ref 137), some (.int p0), some (.int p1), some (.int q2.1), some (.int q4.1), none, none]) (st' := [.int 40, .int v14]) (T1 := q4.2) (by decide +kernel) rfl ?_
      refine MW.icmp_ge (off := 17) (tgt := 135) (by decide +kernel) (by decide) (fun c118_15 => ?_) (fun c118_15 => ?_)
      · rw [if_pos c118_15] at hw6
        have e9 := Option.some.inj hw6
        subst e9
        exact hJ
      · rw [if_neg c118_15] at hw6
        refine MW.run rfl [(.iload_n 3, 0), (.aload_n 0, 0), (.getfield 39, 0), (.iconst 3, 3)] (pc' := 127) (ls' := [some (.ref 137), some (.int p0), some (.int p1), some (.int q2.1), some (.int q4.1), none, none]) (st' := [.int 3, .ref 147, .int q2.1]) (T1 := q4.2) (by decide +kernel) rfl ?_
        obtain ⟨hi_v16, hw6⟩ := bi_some hw6
        obtain ⟨v16, hv16, hw6⟩ := letv_some hw6
        refine MW.iald 10 410 rfl (by decide) rfl (by decide +kernel) (inb_in hi_v16) ?_
        rw [← hv16]
        refine MW.icmp_ne (off := 7) (tgt := 135) (by decide +kernel) (by decide) (fun c128_17 => ?_) (fun c128_17 => ?_)
        · rw [if_neg c128_17] at hw6
          have e9 := Option.some.inj hw6
          subst e9
          exact hJ
        · rw [if_pos c128_17] at hw6
          refine MW.run rfl [(.aload_n 0, 0)] (pc' := 132) (ls' := [some (.ref 137), some (.int p0), some (.int p1), some (.int q2.1), some (.int q4.1), none, none]) (st' := [.ref 137]) (T1 := q4.2) (by decide +kernel) rfl ?_
          obtain ⟨q18, hq18, hw6⟩ := bd_some hw6
          refine MW.callV (As := []) (st := []) lv_RX12_359 rfl (by decide +kernel) (xm_looks hq18) (by decide) (by decide) rfl (Nat.le_of_ble_eq_true rfl) rfl ?_
          show MW l yy_X12_drawsHour 7 _ _ 135 [some (.ref 137), some (.int p0), some (.int p1), some (.int q2.1), some (.int q4.1), none, none] [] q18
          have e9 := Option.some.inj hw6
          subst e9
          exact hJ
    · rw [if_neg c37_13] at hw6
      refine MW.run rfl [(.aload_n 0, 0), (.iload_n 1, 0), (.iload_n 3, 0), (.iload 4, 0), (.iload 4, 0)] (pc' := 47) (ls' := [some (.ref 137), some (.int p0), some (.int p1), some (.int q2.1), some (.int q4.1), none, none]) (st' := [.int q4.1, .int q4.1, .int q2.1, .int p0, .ref 137]) (T1 := q4.2) (by decide +kernel) rfl ?_
      obtain ⟨q19, hq19, hw6⟩ := bd_some hw6
      refine MW.callV (As := [.int p0, .int q2.1, .int q4.1, .int q4.1]) (st := []) lv_RX12_351 rfl (by decide +kernel) (xm_faceBy hq19) (by decide) (by decide) rfl (Nat.le_of_ble_eq_true rfl) rfl ?_
      show MW l yy_X12_drawsHour 7 _ _ 50 [some (.ref 137), some (.int p0), some (.int p1), some (.int q2.1), some (.int q4.1), none, none] [.int q19.1] q19.2
      refine MW.run rfl [(.istore 5, 0), (.iconst 0, 0), (.istore 6, 0)] (pc' := 55) (ls' := [some (.ref 137), some (.int p0), some (.int p1), some (.int q2.1), some (.int q4.1), some (.int q19.1), some (.int 0)]) (st' := []) (T1 := q19.2) (by decide +kernel) rfl ?_
      obtain ⟨w24, hw24, hw6⟩ := bd_some hw6
      refine xm_drawsHour_L55 p0 p1 q2.1 q4.1 FU _ _ _ _ hw24 ?_
      refine MW.run rfl [(.aload_n 0, 0), (.iload_n 3, 0), (.iload 4, 0), (.iload 4, 0), (.iload 5, 0), (.iconst (-1), (-1))] (pc' := 104) (ls' := [some (.ref 137), some (.int p0), some (.int p1), some (.int q2.1), some (.int q4.1), some (.int w24.1), some (.int w24.2.1)]) (st' := [.int (-1), .int w24.1, .int q4.1, .int q4.1, .int q2.1, .ref 137]) (T1 := w24.2.2) (by decide +kernel) rfl ?_
      obtain ⟨q25, hq25, hw6⟩ := bd_some hw6
      refine MW.callV (As := [.int q2.1, .int q4.1, .int q4.1, .int w24.1, .int (-1)]) (st := []) lv_RX12_355 rfl (by decide +kernel) (xm_comes hq25) (by decide) (by decide) rfl (Nat.le_of_ble_eq_true rfl) rfl ?_
      show MW l yy_X12_drawsHour 7 _ _ 107 [some (.ref 137), some (.int p0), some (.int p1), some (.int q2.1), some (.int q4.1), some (.int w24.1), some (.int w24.2.1)] [] q25
      refine MW.run rfl [(.goto 28, 0)] (pc' := 135) (ls' := [some (.ref 137), some (.int p0), some (.int p1), some (.int q2.1), some (.int q4.1), some (.int w24.1), some (.int w24.2.1)]) (st' := []) (T1 := q25) (by decide +kernel) rfl ?_
      have e9 := Option.some.inj hw6
      subst e9
      refine MW.fgt (ls' := [some (.ref 137), some (.int p0), some (.int p1), some (.int q2.1), some (.int q4.1), none, none]) (by repeat' (first | exact trivial | refine ⟨rfl, ?_⟩)) ?_
      exact hJ
def fm_drawn_L83 (k1 : Int32) (k2 : Int32) (k3 : Int32) (k4 : Int32) (k5 : Int32) (k6 : Int32) (k7 : Int32) : Nat → Int32 → mT → Option (Int32 × mT)
  | 0, _, _ => none
  | N + 1, a8, T => if 352 ≤ a8 then (some (a8, T)) else (bif inb a8 410 then (letv (T.1 10 (a8 : Int32).toNatClampNeg) fun v15 => bif inb a8 352 then (letv (ma T 14 (a8 : Int32).toNatClampNeg v15) fun T16 => fm_drawn_L83 k1 k2 k3 k4 k5 k6 k7 N (a8 + 1) T16) else none) else none)
def fm_drawn_L123 (k1 : Int32) (k2 : Int32) (k3 : Int32) (k4 : Int32) (k5 : Int32) (k6 : Int32) (k7 : Int32) (k8 : Int32) : Nat → Int32 → mT → Option (Int32 × mT)
  | 0, _, _ => none
  | N + 1, a9, T => if k3 ≤ a9 then (some (a9, T)) else ((fm_drawsHour k1 k4 T).bind fun q20 => fm_drawn_L123 k1 k2 k3 k4 k5 k6 k7 k8 N (a9 + 1) q20)
def fm_drawn_L145 (k1 : Int32) (k2 : Int32) (k3 : Int32) (k4 : Int32) (k5 : Int32) (k8 : Int32) : Nat → Int32 → Int32 → Int32 → mT → Option (Int32 × Int32 × Int32 × mT)
  | 0, _, _, _, _ => none
  | N + 1, a6, a7, a9, T => bif inb 1 410 then (letv (T.1 10 (1 : Int32).toNatClampNeg) fun v22 => if v22 ≤ a9 then (some (a6, a7, a9, T)) else ((fm_believedBy a9 T).bind fun q24 => (fm_personOf a9 0 q24.2).bind fun q25 => Option.bind (if q24.1 = q25 then (some (1)) else (some (0)) : Option (Int32)) fun w26 => (fm_openOf a9 q24.2).bind fun q28 => (fm_bits q28.1).bind fun q29 => fm_drawn_L145 k1 k2 k3 k4 k5 k8 N (a6 + w26) (a7 + q29) (a9 + 1) q28.2)) else none
def fm_drawn_L205 (k1 : Int32) (k2 : Int32) (k3 : Int32) (k4 : Int32) (k5 : Int32) (k6 : Int32) (k7 : Int32) (k8 : Int32) : Nat → Int32 → mT → Option (Int32 × mT)
  | 0, _, _ => none
  | N + 1, a9, T => if 352 ≤ a9 then (some (a9, T)) else (bif inb a9 352 then (letv (T.1 14 (a9 : Int32).toNatClampNeg) fun v32 => bif inb a9 410 then (letv (ma T 10 (a9 : Int32).toNatClampNeg v32) fun T33 => fm_drawn_L205 k1 k2 k3 k4 k5 k6 k7 k8 N (a9 + 1) T33) else none) else none)
def fm_drawn_L114 (k1 : Int32) (k2 : Int32) (k3 : Int32) (k4 : Int32) (k5 : Int32) : Nat → Int32 → Int32 → Int32 → mT → Option (Int32 × Int32 × Int32 × mT)
  | 0, _, _, _, _ => none
  | N + 1, a6, a7, a8, T => if k2 ≤ a8 then (some (a6, a7, a8, T)) else ((fm_drawn_L123 k1 k2 k3 k4 k5 a6 a7 a8 FU 0 T).bind fun w21 => (fm_drawn_L145 k1 k2 k3 k4 k5 a8 FU a6 a7 0 w21.2).bind fun w30 => (fm_drawn_L205 k1 k2 k3 k4 k5 w30.1 w30.2.1 a8 FU 0 w30.2.2.2).bind fun w34 => fm_drawn_L114 k1 k2 k3 k4 k5 N w30.1 w30.2.1 (a8 + 1) w34.2)
def fm_drawn (p0 : Int32) (p1 : Int32) (p2 : Int32) (p3 : Int32) (p4 : Int32) (T : mT) : Option (Int32 × mT) := (fm_isIsland T).bind fun q1 => if (b2i q1) = 0 then (some ((-1), T)) else ((fm_mayBe p0 T).bind fun q3 => if (b2i q3) = 0 then (some ((-1), T)) else ((fm_in ((p1 : Int32).toInt64) 1 20).bind fun q5 => if (b2i q5) = 0 then (some ((-1), T)) else ((fm_in ((p2 : Int32).toInt64) 1 60).bind fun q7 => if (b2i q7) = 0 then (some ((-1), T)) else ((fm_in ((p3 : Int32).toInt64) 0 100).bind fun q9 => if (b2i q9) = 0 then (some ((-1), T)) else ((fm_in ((p4 : Int32).toInt64) 0 1).bind fun q11 => if (b2i q11) = 0 then (some ((-1), T)) else (letv (mw T 29 (((T.1 0 23) : Int32).toInt64)) fun T13 => (fm_drawn_L83 p0 p1 p2 p3 p4 0 0 FU 0 T13).bind fun w17 => (fm_drawn_L114 p0 p1 p2 p3 p4 FU 0 0 0 w17.2).bind fun w35 => if p4 = 0 then (some (w35.1, w35.2.2.2)) else (some (w35.2.1, w35.2.2.2))))))))
theorem xm_drawn_L83 {l : Launch} {r : Option Value} {T' : mT} (k1 : Int32) (k2 : Int32) (k3 : Int32) (k4 : Int32) (k5 : Int32) (k6 : Int32) (k7 : Int32) : ∀ (N : Nat) (a8 : Int32) (T : mT) (W0 : Int32 × mT) (_ : fm_drawn_L83 k1 k2 k3 k4 k5 k6 k7 N a8 T = some W0) (_ : MW l yy_X12_drawn 8 r T' 111 [some (.ref 137), some (.int k1), some (.int k2), some (.int k3), some (.int k4), some (.int k5), some (.int k6), some (.int k7), some (.int W0.1), none] [] W0.2), MW l yy_X12_drawn 8 r T' 83 [some (.ref 137), some (.int k1), some (.int k2), some (.int k3), some (.int k4), some (.int k5), some (.int k6), some (.int k7), some (.int a8), none] [] T := by
  intro N
  induction N with
  | zero =>
    intro a8 T W0 hf _
    cases hf
  | succ N ih =>
    intro a8 T W0 hf hk1
    unfold fm_drawn_L83 at hf
    refine MW.run rfl [(.iload 8, 0), (.sipush 352, 352)] (pc' := 88) (ls' := [some (.ref 137), some (.int k1), some (.int k2), some (.int k3), some (.int k4), some (.int k5), some (.int k6), some (.int k7), some (.int a8), none]) (st' := [.int 352, .int a8]) (T1 := T) (by decide +kernel) rfl ?_
    refine MW.icmp_ge (off := 23) (tgt := 111) (by decide +kernel) (by decide) (fun c88_14 => ?_) (fun c88_14 => ?_)
    · rw [if_pos c88_14] at hf
      have e9 := Option.some.inj hf
      subst e9
      exact hk1
    · rw [if_neg c88_14] at hf
      refine MW.run rfl [(.aload_n 0, 0), (.getfield 56, 0), (.iload 8, 0), (.aload_n 0, 0), (.getfield 39, 0), (.iload 8, 0)] (pc' := 103) (ls' := [some (.ref 137), some (.int k1), some (.int k2), some (.int k3), some (.int k4), some (.int k5), some (.int k6), some (.int k7), some (.int a8), none]) (st' := [.int a8, .ref 147, .int a8, .ref 151]) (T1 := T) (by decide +kernel) rfl ?_
      obtain ⟨hi_v15, hf⟩ := bi_some hf
      obtain ⟨v15, hv15, hf⟩ := letv_some hf
      refine MW.iald 10 410 rfl (by decide) rfl (by decide +kernel) (inb_in hi_v15) ?_
      rw [← hv15]
      obtain ⟨hi_T16, hf⟩ := bi_some hf
      obtain ⟨T16, hT16, hf⟩ := letv_some hf
      refine MW.iast 14 352 rfl (by decide) (fun _ => rfl) (by decide +kernel) (inb_in hi_T16) ?_
      rw [← hT16]
      refine MW.run rfl [(.iinc 8 1, 1), (.goto (-25), 0)] (pc' := 83) (ls' := [some (.ref 137), some (.int k1), some (.int k2), some (.int k3), some (.int k4), some (.int k5), some (.int k6), some (.int k7), some (.int (a8 + 1)), none]) (st' := []) (T1 := T16) (by decide +kernel) rfl ?_
      exact ih _ _ _ hf hk1
theorem xm_drawn_L123 {l : Launch} {r : Option Value} {T' : mT} (k1 : Int32) (k2 : Int32) (k3 : Int32) (k4 : Int32) (k5 : Int32) (k6 : Int32) (k7 : Int32) (k8 : Int32) : ∀ (N : Nat) (a9 : Int32) (T : mT) (W0 : Int32 × mT) (_ : fm_drawn_L123 k1 k2 k3 k4 k5 k6 k7 k8 N a9 T = some W0) (_ : MW l yy_X12_drawn 8 r T' 142 [some (.ref 137), some (.int k1), some (.int k2), some (.int k3), some (.int k4), some (.int k5), some (.int k6), some (.int k7), some (.int k8), some (.int W0.1)] [] W0.2), MW l yy_X12_drawn 8 r T' 123 [some (.ref 137), some (.int k1), some (.int k2), some (.int k3), some (.int k4), some (.int k5), some (.int k6), some (.int k7), some (.int k8), some (.int a9)] [] T := by
  intro N
  induction N with
  | zero =>
    intro a9 T W0 hf _
    cases hf
  | succ N ih =>
    intro a9 T W0 hf hk1
    unfold fm_drawn_L123 at hf
    refine MW.run rfl [(.iload 9, 0), (.iload_n 3, 0)] (pc' := 126) (ls' := [some (.ref 137), some (.int k1), some (.int k2), some (.int k3), some (.int k4), some (.int k5), some (.int k6), some (.int k7), some (.int k8), some (.int a9)]) (st' := [.int k3, .int a9]) (T1 := T) (by decide +kernel) rfl ?_
    refine MW.icmp_ge (off := 16) (tgt := 142) (by decide +kernel) (by decide) (fun c126_19 => ?_) (fun c126_19 => ?_)
    · rw [if_pos c126_19] at hf
      have e9 := Option.some.inj hf
      subst e9
      exact hk1
    · rw [if_neg c126_19] at hf
      refine MW.run rfl [(.aload_n 0, 0), (.iload_n 1, 0), (.iload 4, 0)] (pc' := 133) (ls' := [some (.ref 137), some (.int k1), some (.int k2), some (.int k3), some (.int k4), some (.int k5), some (.int k6), some (.int k7), some (.int k8), some (.int a9)]) (st' := [.int k4, .int k1, .ref 137]) (T1 := T) (by decide +kernel) rfl ?_
      obtain ⟨q20, hq20, hf⟩ := bd_some hf
      refine MW.callV (As := [.int k1, .int k4]) (st := []) lv_RX12_441 rfl (by decide +kernel) (xm_drawsHour hq20) (by decide) (by decide) rfl (Nat.le_of_ble_eq_true rfl) rfl ?_
      show MW l yy_X12_drawn 8 _ _ 136 [some (.ref 137), some (.int k1), some (.int k2), some (.int k3), some (.int k4), some (.int k5), some (.int k6), some (.int k7), some (.int k8), some (.int a9)] [] q20
      refine MW.run rfl [(.iinc 9 1, 1), (.goto (-16), 0)] (pc' := 123) (ls' := [some (.ref 137), some (.int k1), some (.int k2), some (.int k3), some (.int k4), some (.int k5), some (.int k6), some (.int k7), some (.int k8), some (.int (a9 + 1))]) (st' := []) (T1 := q20) (by decide +kernel) rfl ?_
      exact ih _ _ _ hf hk1
theorem xm_drawn_L145 {l : Launch} {r : Option Value} {T' : mT} (k1 : Int32) (k2 : Int32) (k3 : Int32) (k4 : Int32) (k5 : Int32) (k8 : Int32) : ∀ (N : Nat) (a6 : Int32) (a7 : Int32) (a9 : Int32) (T : mT) (W0 : Int32 × Int32 × Int32 × mT) (_ : fm_drawn_L145 k1 k2 k3 k4 k5 k8 N a6 a7 a9 T = some W0) (_ : MW l yy_X12_drawn 8 r T' 202 [some (.ref 137), some (.int k1), some (.int k2), some (.int k3), some (.int k4), some (.int k5), some (.int W0.1), some (.int W0.2.1), some (.int k8), some (.int W0.2.2.1)] [] W0.2.2.2), MW l yy_X12_drawn 8 r T' 145 [some (.ref 137), some (.int k1), some (.int k2), some (.int k3), some (.int k4), some (.int k5), some (.int a6), some (.int a7), some (.int k8), some (.int a9)] [] T := by
  intro N
  induction N with
  | zero =>
    intro a6 a7 a9 T W0 hf _
    cases hf
  | succ N ih =>
    intro a6 a7 a9 T W0 hf hk1
    unfold fm_drawn_L145 at hf
    refine MW.run rfl [(.iload 9, 0), (.aload_n 0, 0), (.getfield 39, 0), (.iconst 1, 1)] (pc' := 152) (ls' := [some (.ref 137), some (.int k1), some (.int k2), some (.int k3), some (.int k4), some (.int k5), some (.int a6), some (.int a7), some (.int k8), some (.int a9)]) (st' := [.int 1, .ref 147, .int a9]) (T1 := T) (by decide +kernel) rfl ?_
    obtain ⟨hi_v22, hf⟩ := bi_some hf
    obtain ⟨v22, hv22, hf⟩ := letv_some hf
    refine MW.iald 10 410 rfl (by decide) rfl (by decide +kernel) (inb_in hi_v22) ?_
    rw [← hv22]
    refine MW.icmp_ge (off := 49) (tgt := 202) (by decide +kernel) (by decide) (fun c153_23 => ?_) (fun c153_23 => ?_)
    · rw [if_pos c153_23] at hf
      have e9 := Option.some.inj hf
      subst e9
      exact hk1
    · rw [if_neg c153_23] at hf
      refine MW.run rfl [(.iload 6, 0), (.aload_n 0, 0), (.iload 9, 0)] (pc' := 161) (ls' := [some (.ref 137), some (.int k1), some (.int k2), some (.int k3), some (.int k4), some (.int k5), some (.int a6), some (.int a7), some (.int k8), some (.int a9)]) (st' := [.int a9, .ref 137, .int a6]) (T1 := T) (by decide +kernel) rfl ?_
      obtain ⟨q24, hq24, hf⟩ := bd_some hf
      refine MW.callV (As := [.int a9]) (st := [.int a6]) lv_RX12_324 rfl (by decide +kernel) (xm_believedBy hq24) (by decide) (by decide) rfl (Nat.le_of_ble_eq_true rfl) rfl ?_
      show MW l yy_X12_drawn 8 _ _ 164 [some (.ref 137), some (.int k1), some (.int k2), some (.int k3), some (.int k4), some (.int k5), some (.int a6), some (.int a7), some (.int k8), some (.int a9)] [.int q24.1, .int a6] q24.2
      refine MW.run rfl [(.aload_n 0, 0), (.iload 9, 0), (.iconst 0, 0)] (pc' := 168) (ls' := [some (.ref 137), some (.int k1), some (.int k2), some (.int k3), some (.int k4), some (.int k5), some (.int a6), some (.int a7), some (.int k8), some (.int a9)]) (st' := [.int 0, .int a9, .ref 137, .int q24.1, .int a6]) (T1 := q24.2) (by decide +kernel) rfl ?_
      obtain ⟨q25, hq25, hf⟩ := bd_some hf
      refine MW.callV (As := [.int a9, .int 0]) (st := [.int q24.1, .int a6]) lv_RX12_321 rfl (by decide +kernel) (xm_personOf hq25) (by decide) (by decide) rfl (Nat.le_of_ble_eq_true rfl) rfl ?_
      show MW l yy_X12_drawn 8 _ _ 171 [some (.ref 137), some (.int k1), some (.int k2), some (.int k3), some (.int k4), some (.int k5), some (.int a6), some (.int a7), some (.int k8), some (.int a9)] [.int q25, .int q24.1, .int a6] q24.2
      obtain ⟨w26, hw26, hf⟩ := bd_some hf
      have hJ : MW l yy_X12_drawn 8 r T' 179 [some (.ref 137), some (.int k1), some (.int k2), some (.int k3), some (.int k4), some (.int k5), some (.int a6), some (.int a7), some (.int k8), some (.int a9)] [.int w26, .int a6] q24.2 := by
        refine MW.run rfl [(.iadd, 0), (.istore 6, 0), (.iload 7, 0), (.aload_n 0, 0), (.iload 9, 0)] (pc' := 187) (ls' := [some (.ref 137), some (.int k1), some (.int k2), some (.int k3), some (.int k4), some (.int k5), some (.int (a6 + w26)), some (.int a7), some (.int k8), some (.int a9)]) (st' := [.int a9, .ref 137, .int a7]) (T1 := q24.2) (by decide +kernel) rfl ?_
        obtain ⟨q28, hq28, hf⟩ := bd_some hf
        refine MW.callV (As := [.int a9]) (st := [.int a7]) lv_RX12_327 rfl (by decide +kernel) (xm_openOf hq28) (by decide) (by decide) rfl (Nat.le_of_ble_eq_true rfl) rfl ?_
        show MW l yy_X12_drawn 8 _ _ 190 [some (.ref 137), some (.int k1), some (.int k2), some (.int k3), some (.int k4), some (.int k5), some (.int (a6 + w26)), some (.int a7), some (.int k8), some (.int a9)] [.int q28.1, .int a7] q28.2
        obtain ⟨q29, hq29, hf⟩ := bd_some hf
        refine MW.callP (As := [.int q28.1]) (st := [.int a7]) lt_RX12_373 (by decide +kernel) (xm_bits hq29) (by decide) (by decide) rfl (Nat.le_of_ble_eq_true rfl) rfl ?_
        show MW l yy_X12_drawn 8 _ _ 193 [some (.ref 137), some (.int k1), some (.int k2), some (.int k3), some (.int k4), some (.int k5), some (.int (a6 + w26)), some (.int a7), some (.int k8), some (.int a9)] [.int q29, .int a7] q28.2
        refine MW.run rfl [(.iadd, 0), (.istore 7, 0), (.iinc 9 1, 1), (.goto (-54), 0)] (pc' := 145) (ls' := [some (.ref 137), some (.int k1), some (.int k2), some (.int k3), some (.int k4), some (.int k5), some (.int (a6 + w26)), some (.int (a7 + q29)), some (.int k8), some (.int (a9 + 1))]) (st' := []) (T1 := q28.2) (by decide +kernel) rfl ?_
        exact ih _ _ _ _ _ hf hk1
      clear hf
      refine MW.icmp_ne (off := 7) (tgt := 178) (by decide +kernel) (by decide) (fun c171_27 => ?_) (fun c171_27 => ?_)
      · rw [if_neg c171_27] at hw26
        refine MW.run rfl [(.iconst 0, 0)] (pc' := 179) (ls' := [some (.ref 137), some (.int k1), some (.int k2), some (.int k3), some (.int k4), some (.int k5), some (.int a6), some (.int a7), some (.int k8), some (.int a9)]) (st' := [.int 0, .int a6]) (T1 := q24.2) (by decide +kernel) rfl ?_
        have e9 := Option.some.inj hw26
        subst e9
        exact hJ
      · rw [if_pos c171_27] at hw26
        refine MW.run rfl [(.iconst 1, 1), (.goto 4, 0)] (pc' := 179) (ls' := [some (.ref 137), some (.int k1), some (.int k2), some (.int k3), some (.int k4), some (.int k5), some (.int a6), some (.int a7), some (.int k8), some (.int a9)]) (st' := [.int 1, .int a6]) (T1 := q24.2) (by decide +kernel) rfl ?_
        have e9 := Option.some.inj hw26
        subst e9
        exact hJ
theorem xm_drawn_L205 {l : Launch} {r : Option Value} {T' : mT} (k1 : Int32) (k2 : Int32) (k3 : Int32) (k4 : Int32) (k5 : Int32) (k6 : Int32) (k7 : Int32) (k8 : Int32) : ∀ (N : Nat) (a9 : Int32) (T : mT) (W0 : Int32 × mT) (_ : fm_drawn_L205 k1 k2 k3 k4 k5 k6 k7 k8 N a9 T = some W0) (_ : MW l yy_X12_drawn 8 r T' 233 [some (.ref 137), some (.int k1), some (.int k2), some (.int k3), some (.int k4), some (.int k5), some (.int k6), some (.int k7), some (.int k8), some (.int W0.1)] [] W0.2), MW l yy_X12_drawn 8 r T' 205 [some (.ref 137), some (.int k1), some (.int k2), some (.int k3), some (.int k4), some (.int k5), some (.int k6), some (.int k7), some (.int k8), some (.int a9)] [] T := by
  intro N
  induction N with
  | zero =>
    intro a9 T W0 hf _
    cases hf
  | succ N ih =>
    intro a9 T W0 hf hk1
    unfold fm_drawn_L205 at hf
    refine MW.run rfl [(.iload 9, 0), (.sipush 352, 352)] (pc' := 210) (ls' := [some (.ref 137), some (.int k1), some (.int k2), some (.int k3), some (.int k4), some (.int k5), some (.int k6), some (.int k7), some (.int k8), some (.int a9)]) (st' := [.int 352, .int a9]) (T1 := T) (by decide +kernel) rfl ?_
    refine MW.icmp_ge (off := 23) (tgt := 233) (by decide +kernel) (by decide) (fun c210_31 => ?_) (fun c210_31 => ?_)
    · rw [if_pos c210_31] at hf
      have e9 := Option.some.inj hf
      subst e9
      exact hk1
    · rw [if_neg c210_31] at hf
      refine MW.run rfl [(.aload_n 0, 0), (.getfield 39, 0), (.iload 9, 0), (.aload_n 0, 0), (.getfield 56, 0), (.iload 9, 0)] (pc' := 225) (ls' := [some (.ref 137), some (.int k1), some (.int k2), some (.int k3), some (.int k4), some (.int k5), some (.int k6), some (.int k7), some (.int k8), some (.int a9)]) (st' := [.int a9, .ref 151, .int a9, .ref 147]) (T1 := T) (by decide +kernel) rfl ?_
      obtain ⟨hi_v32, hf⟩ := bi_some hf
      obtain ⟨v32, hv32, hf⟩ := letv_some hf
      refine MW.iald 14 352 rfl (by decide) rfl (by decide +kernel) (inb_in hi_v32) ?_
      rw [← hv32]
      obtain ⟨hi_T33, hf⟩ := bi_some hf
      obtain ⟨T33, hT33, hf⟩ := letv_some hf
      refine MW.iast 10 410 rfl (by decide) (fun _ => rfl) (by decide +kernel) (inb_in hi_T33) ?_
      rw [← hT33]
      refine MW.run rfl [(.iinc 9 1, 1), (.goto (-25), 0)] (pc' := 205) (ls' := [some (.ref 137), some (.int k1), some (.int k2), some (.int k3), some (.int k4), some (.int k5), some (.int k6), some (.int k7), some (.int k8), some (.int (a9 + 1))]) (st' := []) (T1 := T33) (by decide +kernel) rfl ?_
      exact ih _ _ _ hf hk1
theorem xm_drawn_L114 {l : Launch} {r : Option Value} {T' : mT} (k1 : Int32) (k2 : Int32) (k3 : Int32) (k4 : Int32) (k5 : Int32) : ∀ (N : Nat) (a6 : Int32) (a7 : Int32) (a8 : Int32) (T : mT) (W0 : Int32 × Int32 × Int32 × mT) (_ : fm_drawn_L114 k1 k2 k3 k4 k5 N a6 a7 a8 T = some W0) (_ : MW l yy_X12_drawn 8 r T' 239 [some (.ref 137), some (.int k1), some (.int k2), some (.int k3), some (.int k4), some (.int k5), some (.int W0.1), some (.int W0.2.1), some (.int W0.2.2.1), none] [] W0.2.2.2), MW l yy_X12_drawn 8 r T' 114 [some (.ref 137), some (.int k1), some (.int k2), some (.int k3), some (.int k4), some (.int k5), some (.int a6), some (.int a7), some (.int a8), none] [] T := by
  intro N
  induction N with
  | zero =>
    intro a6 a7 a8 T W0 hf _
    cases hf
  | succ N ih =>
    intro a6 a7 a8 T W0 hf hk1
    unfold fm_drawn_L114 at hf
    refine MW.run rfl [(.iload 8, 0), (.iload_n 2, 0)] (pc' := 117) (ls' := [some (.ref 137), some (.int k1), some (.int k2), some (.int k3), some (.int k4), some (.int k5), some (.int a6), some (.int a7), some (.int a8), none]) (st' := [.int k2, .int a8]) (T1 := T) (by decide +kernel) rfl ?_
    refine MW.icmp_ge (off := 122) (tgt := 239) (by decide +kernel) (by decide) (fun c117_18 => ?_) (fun c117_18 => ?_)
    · rw [if_pos c117_18] at hf
      have e9 := Option.some.inj hf
      subst e9
      exact hk1
    · rw [if_neg c117_18] at hf
      refine MW.run rfl [(.iconst 0, 0), (.istore 9, 0)] (pc' := 123) (ls' := [some (.ref 137), some (.int k1), some (.int k2), some (.int k3), some (.int k4), some (.int k5), some (.int a6), some (.int a7), some (.int a8), some (.int 0)]) (st' := []) (T1 := T) (by decide +kernel) rfl ?_
      obtain ⟨w21, hw21, hf⟩ := bd_some hf
      refine xm_drawn_L123 k1 k2 k3 k4 k5 a6 a7 a8 FU _ _ _ hw21 ?_
      refine MW.run rfl [(.iconst 0, 0), (.istore 9, 0)] (pc' := 145) (ls' := [some (.ref 137), some (.int k1), some (.int k2), some (.int k3), some (.int k4), some (.int k5), some (.int a6), some (.int a7), some (.int a8), some (.int 0)]) (st' := []) (T1 := w21.2) (by decide +kernel) rfl ?_
      obtain ⟨w30, hw30, hf⟩ := bd_some hf
      refine xm_drawn_L145 k1 k2 k3 k4 k5 a8 FU _ _ _ _ _ hw30 ?_
      refine MW.run rfl [(.iconst 0, 0), (.istore 9, 0)] (pc' := 205) (ls' := [some (.ref 137), some (.int k1), some (.int k2), some (.int k3), some (.int k4), some (.int k5), some (.int w30.1), some (.int w30.2.1), some (.int a8), some (.int 0)]) (st' := []) (T1 := w30.2.2.2) (by decide +kernel) rfl ?_
      obtain ⟨w34, hw34, hf⟩ := bd_some hf
      refine xm_drawn_L205 k1 k2 k3 k4 k5 w30.1 w30.2.1 a8 FU _ _ _ hw34 ?_
      refine MW.run rfl [(.iinc 8 1, 1), (.goto (-122), 0)] (pc' := 114) (ls' := [some (.ref 137), some (.int k1), some (.int k2), some (.int k3), some (.int k4), some (.int k5), some (.int w30.1), some (.int w30.2.1), some (.int (a8 + 1)), some (.int w34.1)]) (st' := []) (T1 := w34.2) (by decide +kernel) rfl ?_
      refine MW.fgt (ls' := [some (.ref 137), some (.int k1), some (.int k2), some (.int k3), some (.int k4), some (.int k5), some (.int w30.1), some (.int w30.2.1), some (.int (a8 + 1)), none]) (by repeat' (first | exact trivial | refine ⟨rfl, ?_⟩)) ?_
      exact ih _ _ _ _ _ hf hk1
theorem xm_drawn {l : Launch} {p0 : Int32} {p1 : Int32} {p2 : Int32} {p3 : Int32} {p4 : Int32} {T : mT} {q : Int32 × mT} (hf : fm_drawn p0 p1 p2 p3 p4 T = some q) : MOk l yy_X12_drawn 8 [.int p0, .int p1, .int p2, .int p3, .int p4] T (some (.int q.1)) q.2 := by
  refine MOk.of (ls := [some (.ref 137), some (.int p0), some (.int p1), some (.int p2), some (.int p3), some (.int p4), none, none, none, none]) (by decide +kernel) (Nat.le_of_ble_eq_true rfl) rfl ?_
  unfold fm_drawn at hf
  refine MW.run rfl [(.aload_n 0, 0)] (pc' := 1) (ls' := [some (.ref 137), some (.int p0), some (.int p1), some (.int p2), some (.int p3), some (.int p4), none, none, none, none]) (st' := [.ref 137]) (T1 := T) (by decide +kernel) rfl ?_
  obtain ⟨q1, hq1, hf⟩ := bd_some hf
  refine MW.callV (As := []) (st := []) lv_RX12_336 rfl (by decide +kernel) (xm_isIsland hq1) (by decide) (by decide) rfl (Nat.le_of_ble_eq_true rfl) rfl ?_
  show MW l yy_X12_drawn 8 _ _ 4 [some (.ref 137), some (.int p0), some (.int p1), some (.int p2), some (.int p3), some (.int p4), none, none, none, none] [.int (b2i q1)] T
  refine MW.if_eq (off := 59) (tgt := 63) (by decide +kernel) (by decide) (fun c4_2 => ?_) (fun c4_2 => ?_)
  · rw [if_pos c4_2] at hf
    refine MW.run rfl [(.iconst (-1), (-1))] (pc' := 64) (ls' := [some (.ref 137), some (.int p0), some (.int p1), some (.int p2), some (.int p3), some (.int p4), none, none, none, none]) (st' := [.int (-1)]) (T1 := T) (by decide +kernel) rfl ?_
    have e9 := Option.some.inj hf
    subst e9
    exact MW.iret rfl (by decide +kernel)
  · rw [if_neg c4_2] at hf
    refine MW.run rfl [(.aload_n 0, 0), (.iload_n 1, 0)] (pc' := 9) (ls' := [some (.ref 137), some (.int p0), some (.int p1), some (.int p2), some (.int p3), some (.int p4), none, none, none, none]) (st' := [.int p0, .ref 137]) (T1 := T) (by decide +kernel) rfl ?_
    obtain ⟨q3, hq3, hf⟩ := bd_some hf
    refine MW.callV (As := [.int p0]) (st := []) lv_RX12_342 rfl (by decide +kernel) (xm_mayBe hq3) (by decide) (by decide) rfl (Nat.le_of_ble_eq_true rfl) rfl ?_
    show MW l yy_X12_drawn 8 _ _ 12 [some (.ref 137), some (.int p0), some (.int p1), some (.int p2), some (.int p3), some (.int p4), none, none, none, none] [.int (b2i q3)] T
    refine MW.if_eq (off := 51) (tgt := 63) (by decide +kernel) (by decide) (fun c12_4 => ?_) (fun c12_4 => ?_)
    · rw [if_pos c12_4] at hf
      refine MW.run rfl [(.iconst (-1), (-1))] (pc' := 64) (ls' := [some (.ref 137), some (.int p0), some (.int p1), some (.int p2), some (.int p3), some (.int p4), none, none, none, none]) (st' := [.int (-1)]) (T1 := T) (by decide +kernel) rfl ?_
      have e9 := Option.some.inj hf
      subst e9
      exact MW.iret rfl (by decide +kernel)
    · rw [if_neg c12_4] at hf
      refine MW.run rfl [(.iload_n 2, 0), (.i2l, 0), (.lconst 1, 0)] (pc' := 18) (ls' := [some (.ref 137), some (.int p0), some (.int p1), some (.int p2), some (.int p3), some (.int p4), none, none, none, none]) (st' := [.long 1, .long ((p1 : Int32).toInt64)]) (T1 := T) (by decide +kernel) rfl ?_
      refine MW.ldc2 (idx := 437) (v := 20) (tb_in 1625 (by decide +kernel) (by decide +kernel)) (by decide +kernel) ?_
      obtain ⟨q5, hq5, hf⟩ := bd_some hf
      refine MW.callP (As := [.long ((p1 : Int32).toInt64), .long 1, .long 20]) (st := []) lt_RX12_110 (by decide +kernel) (xm_in hq5) (by decide) (by decide) rfl (Nat.le_of_ble_eq_true rfl) rfl ?_
      show MW l yy_X12_drawn 8 _ _ 24 [some (.ref 137), some (.int p0), some (.int p1), some (.int p2), some (.int p3), some (.int p4), none, none, none, none] [.int (b2i q5)] T
      refine MW.if_eq (off := 39) (tgt := 63) (by decide +kernel) (by decide) (fun c24_6 => ?_) (fun c24_6 => ?_)
      · rw [if_pos c24_6] at hf
        refine MW.run rfl [(.iconst (-1), (-1))] (pc' := 64) (ls' := [some (.ref 137), some (.int p0), some (.int p1), some (.int p2), some (.int p3), some (.int p4), none, none, none, none]) (st' := [.int (-1)]) (T1 := T) (by decide +kernel) rfl ?_
        have e9 := Option.some.inj hf
        subst e9
        exact MW.iret rfl (by decide +kernel)
      · rw [if_neg c24_6] at hf
        refine MW.run rfl [(.iload_n 3, 0), (.i2l, 0), (.lconst 1, 0)] (pc' := 30) (ls' := [some (.ref 137), some (.int p0), some (.int p1), some (.int p2), some (.int p3), some (.int p4), none, none, none, none]) (st' := [.long 1, .long ((p2 : Int32).toInt64)]) (T1 := T) (by decide +kernel) rfl ?_
        refine MW.ldc2 (idx := 368) (v := 60) (tb_in 1513 (by decide +kernel) (by decide +kernel)) (by decide +kernel) ?_
        obtain ⟨q7, hq7, hf⟩ := bd_some hf
        refine MW.callP (As := [.long ((p2 : Int32).toInt64), .long 1, .long 60]) (st := []) lt_RX12_110 (by decide +kernel) (xm_in hq7) (by decide) (by decide) rfl (Nat.le_of_ble_eq_true rfl) rfl ?_
        show MW l yy_X12_drawn 8 _ _ 36 [some (.ref 137), some (.int p0), some (.int p1), some (.int p2), some (.int p3), some (.int p4), none, none, none, none] [.int (b2i q7)] T
        refine MW.if_eq (off := 27) (tgt := 63) (by decide +kernel) (by decide) (fun c36_8 => ?_) (fun c36_8 => ?_)
        · rw [if_pos c36_8] at hf
          refine MW.run rfl [(.iconst (-1), (-1))] (pc' := 64) (ls' := [some (.ref 137), some (.int p0), some (.int p1), some (.int p2), some (.int p3), some (.int p4), none, none, none, none]) (st' := [.int (-1)]) (T1 := T) (by decide +kernel) rfl ?_
          have e9 := Option.some.inj hf
          subst e9
          exact MW.iret rfl (by decide +kernel)
        · rw [if_neg c36_8] at hf
          refine MW.run rfl [(.iload 4, 0), (.i2l, 0), (.lconst 0, 0)] (pc' := 43) (ls' := [some (.ref 137), some (.int p0), some (.int p1), some (.int p2), some (.int p3), some (.int p4), none, none, none, none]) (st' := [.long 0, .long ((p3 : Int32).toInt64)]) (T1 := T) (by decide +kernel) rfl ?_
          refine MW.ldc2 (idx := 439) (v := 100) (tb_in 1626 (by decide +kernel) (by decide +kernel)) (by decide +kernel) ?_
          obtain ⟨q9, hq9, hf⟩ := bd_some hf
          refine MW.callP (As := [.long ((p3 : Int32).toInt64), .long 0, .long 100]) (st := []) lt_RX12_110 (by decide +kernel) (xm_in hq9) (by decide) (by decide) rfl (Nat.le_of_ble_eq_true rfl) rfl ?_
          show MW l yy_X12_drawn 8 _ _ 49 [some (.ref 137), some (.int p0), some (.int p1), some (.int p2), some (.int p3), some (.int p4), none, none, none, none] [.int (b2i q9)] T
          refine MW.if_eq (off := 14) (tgt := 63) (by decide +kernel) (by decide) (fun c49_10 => ?_) (fun c49_10 => ?_)
          · rw [if_pos c49_10] at hf
            refine MW.run rfl [(.iconst (-1), (-1))] (pc' := 64) (ls' := [some (.ref 137), some (.int p0), some (.int p1), some (.int p2), some (.int p3), some (.int p4), none, none, none, none]) (st' := [.int (-1)]) (T1 := T) (by decide +kernel) rfl ?_
            have e9 := Option.some.inj hf
            subst e9
            exact MW.iret rfl (by decide +kernel)
          · rw [if_neg c49_10] at hf
            refine MW.run rfl [(.iload 5, 0), (.i2l, 0), (.lconst 0, 0), (.lconst 1, 0)] (pc' := 57) (ls' := [some (.ref 137), some (.int p0), some (.int p1), some (.int p2), some (.int p3), some (.int p4), none, none, none, none]) (st' := [.long 1, .long 0, .long ((p4 : Int32).toInt64)]) (T1 := T) (by decide +kernel) rfl ?_
            obtain ⟨q11, hq11, hf⟩ := bd_some hf
            refine MW.callP (As := [.long ((p4 : Int32).toInt64), .long 0, .long 1]) (st := []) lt_RX12_110 (by decide +kernel) (xm_in hq11) (by decide) (by decide) rfl (Nat.le_of_ble_eq_true rfl) rfl ?_
            show MW l yy_X12_drawn 8 _ _ 60 [some (.ref 137), some (.int p0), some (.int p1), some (.int p2), some (.int p3), some (.int p4), none, none, none, none] [.int (b2i q11)] T
            refine MW.if_ne (off := 5) (tgt := 65) (by decide +kernel) (by decide) (fun c60_12 => ?_) (fun c60_12 => ?_)
            · rw [if_neg c60_12] at hf
              refine MW.run rfl [(.aload_n 0, 0), (.aload_n 0, 0), (.getfield 419, 0), (.i2l, 0)] (pc' := 71) (ls' := [some (.ref 137), some (.int p0), some (.int p1), some (.int p2), some (.int p3), some (.int p4), none, none, none, none]) (st' := [.long (((T.1 0 23) : Int32).toInt64), .ref 137]) (T1 := T) (by decide +kernel) rfl ?_
              refine MW.putJ rfl (by decide +kernel) ?_
              obtain ⟨T13, hT13, hf⟩ := letv_some hf
              rw [← hT13]
              refine MW.run rfl [(.iconst 0, 0), (.istore 6, 0), (.iconst 0, 0), (.istore 7, 0), (.iconst 0, 0), (.istore 8, 0)] (pc' := 83) (ls' := [some (.ref 137), some (.int p0), some (.int p1), some (.int p2), some (.int p3), some (.int p4), some (.int 0), some (.int 0), some (.int 0), none]) (st' := []) (T1 := T13) (by decide +kernel) rfl ?_
              obtain ⟨w17, hw17, hf⟩ := bd_some hf
              refine xm_drawn_L83 p0 p1 p2 p3 p4 0 0 FU _ _ _ hw17 ?_
              refine MW.run rfl [(.iconst 0, 0), (.istore 8, 0)] (pc' := 114) (ls' := [some (.ref 137), some (.int p0), some (.int p1), some (.int p2), some (.int p3), some (.int p4), some (.int 0), some (.int 0), some (.int 0), none]) (st' := []) (T1 := w17.2) (by decide +kernel) rfl ?_
              obtain ⟨w35, hw35, hf⟩ := bd_some hf
              refine xm_drawn_L114 p0 p1 p2 p3 p4 FU _ _ _ _ _ hw35 ?_
              refine MW.run rfl [(.iload 5, 0)] (pc' := 241) (ls' := [some (.ref 137), some (.int p0), some (.int p1), some (.int p2), some (.int p3), some (.int p4), some (.int w35.1), some (.int w35.2.1), some (.int w35.2.2.1), none]) (st' := [.int p4]) (T1 := w35.2.2.2) (by decide +kernel) rfl ?_
              refine MW.if_ne (off := 8) (tgt := 249) (by decide +kernel) (by decide) (fun c241_36 => ?_) (fun c241_36 => ?_)
              · rw [if_neg c241_36] at hf
                refine MW.run rfl [(.iload 7, 0)] (pc' := 251) (ls' := [some (.ref 137), some (.int p0), some (.int p1), some (.int p2), some (.int p3), some (.int p4), some (.int w35.1), some (.int w35.2.1), some (.int w35.2.2.1), none]) (st' := [.int w35.2.1]) (T1 := w35.2.2.2) (by decide +kernel) rfl ?_
                have e9 := Option.some.inj hf
                subst e9
                exact MW.iret rfl (by decide +kernel)
              · rw [if_pos c241_36] at hf
                refine MW.run rfl [(.iload 6, 0), (.goto 5, 0)] (pc' := 251) (ls' := [some (.ref 137), some (.int p0), some (.int p1), some (.int p2), some (.int p3), some (.int p4), some (.int w35.1), some (.int w35.2.1), some (.int w35.2.2.1), none]) (st' := [.int w35.1]) (T1 := w35.2.2.2) (by decide +kernel) rfl ?_
                have e9 := Option.some.inj hf
                subst e9
                exact MW.iret rfl (by decide +kernel)
            · rw [if_pos c60_12] at hf
              refine MW.run rfl [(.iconst (-1), (-1))] (pc' := 64) (ls' := [some (.ref 137), some (.int p0), some (.int p1), some (.int p2), some (.int p3), some (.int p4), none, none, none, none]) (st' := [.int (-1)]) (T1 := T) (by decide +kernel) rfl ?_
              have e9 := Option.some.inj hf
              subst e9
              exact MW.iret rfl (by decide +kernel)
