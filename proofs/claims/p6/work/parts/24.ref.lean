/-! ===== the reference, method by method (by program) 5 ===== -/
def fm_rule  (T : mT) : Option (Int32 × mT) := if (T.1 0 2) = 6 then (some ((-1), T)) else (letv (mz T 11 (T.1 0 2)) fun T2 => bif inb (T2.1 0 11) 6 then (letv (ma T2 5 ((T2.1 0 11) : Int32).toNatClampNeg 0) fun T3 => (fm_readsAll T3).bind fun q4 => if (b2i q4.1) = 0 then (some ((-2) - (q4.2.1 0 9), q4.2)) else (letv (mz q4.2 2 ((q4.2.1 0 2) + 1)) fun T6 => some ((T6.1 0 2) - 1, T6))) else none)
theorem xm_rule {l : Launch}  {T : mT} {q : Int32 × mT} (hf : fm_rule  T = some q) : MOk l yy_X12_rule 12 [] T (some (.int q.1)) q.2 := by
  refine MOk.of (ls := [some (.ref 137)]) (by decide +kernel) (Nat.le_of_ble_eq_true rfl) rfl ?_
  unfold fm_rule at hf
  refine MW.run rfl [(.aload_n 0, 0), (.getfield 254, 0), (.bipush 6, 6)] (pc' := 6) (ls' := [some (.ref 137)]) (st' := [.int 6, .int (T.1 0 2)]) (T1 := T) (by decide +kernel) rfl ?_
  refine MW.icmp_ne (off := 5) (tgt := 11) (by decide +kernel) (by decide) (fun c6_1 => ?_) (fun c6_1 => ?_)
  · rw [if_neg c6_1] at hf
    refine MW.run rfl [(.aload_n 0, 0), (.aload_n 0, 0), (.getfield 254, 0), (.putfield 130, 0)] (pc' := 19) (ls' := [some (.ref 137)]) (st' := []) (T1 := mz T 11 (T.1 0 2)) (by decide +kernel) rfl ?_
    obtain ⟨T2, hT2, hf⟩ := letv_some hf
    rw [← hT2]
    refine MW.run rfl [(.aload_n 0, 0), (.getfield 23, 0), (.aload_n 0, 0), (.getfield 130, 0), (.iconst 0, 0)] (pc' := 28) (ls' := [some (.ref 137)]) (st' := [.int 0, .int (T2.1 0 11), .ref 142]) (T1 := T2) (by decide +kernel) rfl ?_
    obtain ⟨hi_T3, hf⟩ := bi_some hf
    obtain ⟨T3, hT3, hf⟩ := letv_some hf
    refine MW.iast 5 6 rfl (by decide) (fun _ => rfl) (by decide +kernel) (inb_in hi_T3) ?_
    rw [← hT3]
    refine MW.run rfl [(.aload_n 0, 0)] (pc' := 30) (ls' := [some (.ref 137)]) (st' := [.ref 137]) (T1 := T3) (by decide +kernel) rfl ?_
    obtain ⟨q4, hq4, hf⟩ := bd_some hf
    refine MW.callV (As := []) (st := []) lv_RX12_257 rfl (by decide +kernel) (xm_readsAll hq4) (by decide) (by decide) rfl (Nat.le_of_ble_eq_true rfl) rfl ?_
    show MW l yy_X12_rule 12 _ _ 33 [some (.ref 137)] [.int (b2i q4.1)] q4.2
    refine MW.if_ne (off := 11) (tgt := 44) (by decide +kernel) (by decide) (fun c33_5 => ?_) (fun c33_5 => ?_)
    · rw [if_neg c33_5] at hf
      refine MW.run rfl [(.aload_n 0, 0), (.dup, 0), (.getfield 254, 0), (.iconst 1, 1), (.iadd, 0), (.putfield 254, 0)] (pc' := 54) (ls' := [some (.ref 137)]) (st' := []) (T1 := mz q4.2 2 ((q4.2.1 0 2) + 1)) (by decide +kernel) rfl ?_
      obtain ⟨T6, hT6, hf⟩ := letv_some hf
      rw [← hT6]
      refine MW.run rfl [(.aload_n 0, 0), (.getfield 254, 0), (.iconst 1, 1), (.isub, 0)] (pc' := 60) (ls' := [some (.ref 137)]) (st' := [.int ((T6.1 0 2) - 1)]) (T1 := T6) (by decide +kernel) rfl ?_
      have e9 := Option.some.inj hf
      subst e9
      exact MW.iret rfl (by decide +kernel)
    · rw [if_pos c33_5] at hf
      refine MW.run rfl [(.bipush (-2), (-2)), (.aload_n 0, 0), (.getfield 79, 0), (.isub, 0)] (pc' := 43) (ls' := [some (.ref 137)]) (st' := [.int ((-2) - (q4.2.1 0 9))]) (T1 := q4.2) (by decide +kernel) rfl ?_
      have e9 := Option.some.inj hf
      subst e9
      exact MW.iret rfl (by decide +kernel)
  · rw [if_pos c6_1] at hf
    refine MW.run rfl [(.iconst (-1), (-1))] (pc' := 10) (ls' := [some (.ref 137)]) (st' := [.int (-1)]) (T1 := T) (by decide +kernel) rfl ?_
    have e9 := Option.some.inj hf
    subst e9
    exact MW.iret rfl (by decide +kernel)
def fm_island_L8  : Nat → Int32 → mT → Option (Int32 × mT)
  | 0, _, _ => none
  | N + 1, a1, T => if 8 ≤ a1 then (some (a1, T)) else (bif inb a1 112 then (letv (ma T 6 (a1 : Int32).toNatClampNeg 0) fun T3 => fm_island_L8  N (a1 + 1) T3) else none)
def fm_island_L44  : Nat → Int32 → mT → Option (Int32 × mT)
  | 0, _, _ => none
  | N + 1, a1, T => if 410 ≤ a1 then (some (a1, T)) else (if 112 ≤ a1 then (bif inb a1 410 then (letv (ma T 10 (a1 : Int32).toNatClampNeg 0) fun T9 => fm_island_L44  N (a1 + 1) T9) else none) else (bif inb a1 112 then (letv (T.1 6 (a1 : Int32).toNatClampNeg) fun v10 => bif inb a1 410 then (letv (ma T 10 (a1 : Int32).toNatClampNeg v10) fun T11 => fm_island_L44  N (a1 + 1) T11) else none) else none))
def fm_island  (T : mT) : Option (Int32 × mT) := letv (mz T 11 6) fun T1 => (fm_island_L8 FU 0 T1).bind fun w4 => (fm_readsAll w4.2).bind fun q5 => if (b2i q5.1) = 0 then (some ((-2) - (q5.2.1 0 9), q5.2)) else ((fm_island_L44 FU 0 q5.2).bind fun w12 => letv (mz w12.2 25 0) fun T13 => bif inb 1 410 then (letv (T13.1 10 (1 : Int32).toNatClampNeg) fun v14 => some (v14, T13)) else none)
theorem xm_island_L8 {l : Launch} {r : Option Value} {T' : mT}  : ∀ (N : Nat) (a1 : Int32) (T : mT) (W0 : Int32 × mT) (_ : fm_island_L8  N a1 T = some W0) (_ : MW l yy_X12_island 12 r T' 27 [some (.ref 137), some (.int W0.1)] [] W0.2), MW l yy_X12_island 12 r T' 8 [some (.ref 137), some (.int a1)] [] T := by
  intro N
  induction N with
  | zero =>
    intro a1 T W0 hf _
    cases hf
  | succ N ih =>
    intro a1 T W0 hf hk1
    unfold fm_island_L8 at hf
    refine MW.run rfl [(.iload_n 1, 0), (.bipush 8, 8)] (pc' := 11) (ls' := [some (.ref 137), some (.int a1)]) (st' := [.int 8, .int a1]) (T1 := T) (by decide +kernel) rfl ?_
    refine MW.icmp_ge (off := 16) (tgt := 27) (by decide +kernel) (by decide) (fun c11_2 => ?_) (fun c11_2 => ?_)
    · rw [if_pos c11_2] at hf
      have e9 := Option.some.inj hf
      subst e9
      exact hk1
    · rw [if_neg c11_2] at hf
      refine MW.run rfl [(.aload_n 0, 0), (.getfield 26, 0), (.iload_n 1, 0), (.iconst 0, 0)] (pc' := 20) (ls' := [some (.ref 137), some (.int a1)]) (st' := [.int 0, .int a1, .ref 143]) (T1 := T) (by decide +kernel) rfl ?_
      obtain ⟨hi_T3, hf⟩ := bi_some hf
      obtain ⟨T3, hT3, hf⟩ := letv_some hf
      refine MW.iast 6 112 rfl (by decide) (fun _ => rfl) (by decide +kernel) (inb_in hi_T3) ?_
      rw [← hT3]
      refine MW.run rfl [(.iinc 1 1, 1), (.goto (-16), 0)] (pc' := 8) (ls' := [some (.ref 137), some (.int (a1 + 1))]) (st' := []) (T1 := T3) (by decide +kernel) rfl ?_
      exact ih _ _ _ hf hk1
theorem xm_island_L44 {l : Launch} {r : Option Value} {T' : mT}  : ∀ (N : Nat) (a1 : Int32) (T : mT) (W0 : Int32 × mT) (_ : fm_island_L44  N a1 T = some W0) (_ : MW l yy_X12_island 12 r T' 79 [some (.ref 137), some (.int W0.1)] [] W0.2), MW l yy_X12_island 12 r T' 44 [some (.ref 137), some (.int a1)] [] T := by
  intro N
  induction N with
  | zero =>
    intro a1 T W0 hf _
    cases hf
  | succ N ih =>
    intro a1 T W0 hf hk1
    unfold fm_island_L44 at hf
    refine MW.run rfl [(.iload_n 1, 0), (.sipush 410, 410)] (pc' := 48) (ls' := [some (.ref 137), some (.int a1)]) (st' := [.int 410, .int a1]) (T1 := T) (by decide +kernel) rfl ?_
    refine MW.icmp_ge (off := 31) (tgt := 79) (by decide +kernel) (by decide) (fun c48_7 => ?_) (fun c48_7 => ?_)
    · rw [if_pos c48_7] at hf
      have e9 := Option.some.inj hf
      subst e9
      exact hk1
    · rw [if_neg c48_7] at hf
      refine MW.run rfl [(.aload_n 0, 0), (.getfield 39, 0), (.iload_n 1, 0), (.iload_n 1, 0), (.bipush 112, 112)] (pc' := 59) (ls' := [some (.ref 137), some (.int a1)]) (st' := [.int 112, .int a1, .int a1, .ref 147]) (T1 := T) (by decide +kernel) rfl ?_
      refine MW.icmp_ge (off := 12) (tgt := 71) (by decide +kernel) (by decide) (fun c59_8 => ?_) (fun c59_8 => ?_)
      · rw [if_pos c59_8] at hf
        refine MW.run rfl [(.iconst 0, 0)] (pc' := 72) (ls' := [some (.ref 137), some (.int a1)]) (st' := [.int 0, .int a1, .ref 147]) (T1 := T) (by decide +kernel) rfl ?_
        obtain ⟨hi_T9, hf⟩ := bi_some hf
        obtain ⟨T9, hT9, hf⟩ := letv_some hf
        refine MW.iast 10 410 rfl (by decide) (fun _ => rfl) (by decide +kernel) (inb_in hi_T9) ?_
        rw [← hT9]
        refine MW.run rfl [(.iinc 1 1, 1), (.goto (-32), 0)] (pc' := 44) (ls' := [some (.ref 137), some (.int (a1 + 1))]) (st' := []) (T1 := T9) (by decide +kernel) rfl ?_
        exact ih _ _ _ hf hk1
      · rw [if_neg c59_8] at hf
        refine MW.run rfl [(.aload_n 0, 0), (.getfield 26, 0), (.iload_n 1, 0)] (pc' := 67) (ls' := [some (.ref 137), some (.int a1)]) (st' := [.int a1, .ref 143, .int a1, .ref 147]) (T1 := T) (by decide +kernel) rfl ?_
        obtain ⟨hi_v10, hf⟩ := bi_some hf
        obtain ⟨v10, hv10, hf⟩ := letv_some hf
        refine MW.iald 6 112 rfl (by decide) rfl (by decide +kernel) (inb_in hi_v10) ?_
        rw [← hv10]
        refine MW.run rfl [(.goto 4, 0)] (pc' := 72) (ls' := [some (.ref 137), some (.int a1)]) (st' := [.int v10, .int a1, .ref 147]) (T1 := T) (by decide +kernel) rfl ?_
        obtain ⟨hi_T11, hf⟩ := bi_some hf
        obtain ⟨T11, hT11, hf⟩ := letv_some hf
        refine MW.iast 10 410 rfl (by decide) (fun _ => rfl) (by decide +kernel) (inb_in hi_T11) ?_
        rw [← hT11]
        refine MW.run rfl [(.iinc 1 1, 1), (.goto (-32), 0)] (pc' := 44) (ls' := [some (.ref 137), some (.int (a1 + 1))]) (st' := []) (T1 := T11) (by decide +kernel) rfl ?_
        exact ih _ _ _ hf hk1
theorem xm_island {l : Launch}  {T : mT} {q : Int32 × mT} (hf : fm_island  T = some q) : MOk l yy_X12_island 12 [] T (some (.int q.1)) q.2 := by
  refine MOk.of (ls := [some (.ref 137), none]) (by decide +kernel) (Nat.le_of_ble_eq_true rfl) rfl ?_
  unfold fm_island at hf
  refine MW.run rfl [(.aload_n 0, 0), (.bipush 6, 6), (.putfield 130, 0)] (pc' := 6) (ls' := [some (.ref 137), none]) (st' := []) (T1 := mz T 11 6) (by decide +kernel) rfl ?_
  obtain ⟨T1, hT1, hf⟩ := letv_some hf
  rw [← hT1]
  refine MW.run rfl [(.iconst 0, 0), (.istore_n 1, 0)] (pc' := 8) (ls' := [some (.ref 137), some (.int 0)]) (st' := []) (T1 := T1) (by decide +kernel) rfl ?_
  obtain ⟨w4, hw4, hf⟩ := bd_some hf
  refine xm_island_L8  FU _ _ _ hw4 ?_
  refine MW.run rfl [(.aload_n 0, 0)] (pc' := 28) (ls' := [some (.ref 137), some (.int w4.1)]) (st' := [.ref 137]) (T1 := w4.2) (by decide +kernel) rfl ?_
  obtain ⟨q5, hq5, hf⟩ := bd_some hf
  refine MW.callV (As := []) (st := []) lv_RX12_257 rfl (by decide +kernel) (xm_readsAll hq5) (by decide) (by decide) rfl (Nat.le_of_ble_eq_true rfl) rfl ?_
  show MW l yy_X12_island 12 _ _ 31 [some (.ref 137), some (.int w4.1)] [.int (b2i q5.1)] q5.2
  refine MW.if_ne (off := 11) (tgt := 42) (by decide +kernel) (by decide) (fun c31_6 => ?_) (fun c31_6 => ?_)
  · rw [if_neg c31_6] at hf
    refine MW.run rfl [(.iconst 0, 0), (.istore_n 1, 0)] (pc' := 44) (ls' := [some (.ref 137), some (.int 0)]) (st' := []) (T1 := q5.2) (by decide +kernel) rfl ?_
    obtain ⟨w12, hw12, hf⟩ := bd_some hf
    refine xm_island_L44  FU _ _ _ hw12 ?_
    refine MW.run rfl [(.aload_n 0, 0), (.iconst 0, 0), (.putfield 260, 0)] (pc' := 84) (ls' := [some (.ref 137), some (.int w12.1)]) (st' := []) (T1 := mz w12.2 25 0) (by decide +kernel) rfl ?_
    obtain ⟨T13, hT13, hf⟩ := letv_some hf
    rw [← hT13]
    refine MW.run rfl [(.aload_n 0, 0), (.getfield 39, 0), (.iconst 1, 1)] (pc' := 89) (ls' := [some (.ref 137), some (.int w12.1)]) (st' := [.int 1, .ref 147]) (T1 := T13) (by decide +kernel) rfl ?_
    obtain ⟨hi_v14, hf⟩ := bi_some hf
    obtain ⟨v14, hv14, hf⟩ := letv_some hf
    refine MW.iald 10 410 rfl (by decide) rfl (by decide +kernel) (inb_in hi_v14) ?_
    rw [← hv14]
    have e9 := Option.some.inj hf
    subst e9
    exact MW.iret rfl (by decide +kernel)
  · rw [if_pos c31_6] at hf
    refine MW.run rfl [(.bipush (-2), (-2)), (.aload_n 0, 0), (.getfield 79, 0), (.isub, 0)] (pc' := 41) (ls' := [some (.ref 137), some (.int w4.1)]) (st' := [.int ((-2) - (q5.2.1 0 9))]) (T1 := q5.2) (by decide +kernel) rfl ?_
    have e9 := Option.some.inj hf
    subst e9
    exact MW.iret rfl (by decide +kernel)
def fm_isRule (p0 : Int32) (T : mT) : Option (Bool) := if p0 < 0 then (some false) else (if (T.1 0 2) ≤ p0 then (some false) else (some true))
theorem xm_isRule {l : Launch} {p0 : Int32} {T : mT} {q : Bool} (hf : fm_isRule p0 T = some q) : MOk l yy_X12_isRule 0 [.int p0] T (some (.int (b2i q))) T := by
  refine MOk.of (ls := [some (.ref 137), some (.int p0)]) (by decide +kernel) (Nat.le_of_ble_eq_true rfl) rfl ?_
  unfold fm_isRule at hf
  refine MW.run rfl [(.iload_n 1, 0)] (pc' := 1) (ls' := [some (.ref 137), some (.int p0)]) (st' := [.int p0]) (T1 := T) (by decide +kernel) rfl ?_
  refine MW.if_lt (off := 15) (tgt := 16) (by decide +kernel) (by decide) (fun c1_1 => ?_) (fun c1_1 => ?_)
  · rw [if_pos c1_1] at hf
    refine MW.run rfl [(.iconst 0, 0)] (pc' := 17) (ls' := [some (.ref 137), some (.int p0)]) (st' := [.int 0]) (T1 := T) (by decide +kernel) rfl ?_
    have e9 := Option.some.inj hf
    subst e9
    exact MW.zret rfl (b2i_nar _) (by decide +kernel)
  · rw [if_neg c1_1] at hf
    refine MW.run rfl [(.iload_n 1, 0), (.aload_n 0, 0), (.getfield 254, 0)] (pc' := 9) (ls' := [some (.ref 137), some (.int p0)]) (st' := [.int (T.1 0 2), .int p0]) (T1 := T) (by decide +kernel) rfl ?_
    refine MW.icmp_ge (off := 7) (tgt := 16) (by decide +kernel) (by decide) (fun c9_2 => ?_) (fun c9_2 => ?_)
    · rw [if_pos c9_2] at hf
      refine MW.run rfl [(.iconst 0, 0)] (pc' := 17) (ls' := [some (.ref 137), some (.int p0)]) (st' := [.int 0]) (T1 := T) (by decide +kernel) rfl ?_
      have e9 := Option.some.inj hf
      subst e9
      exact MW.zret rfl (b2i_nar _) (by decide +kernel)
    · rw [if_neg c9_2] at hf
      refine MW.run rfl [(.iconst 1, 1), (.goto 4, 0)] (pc' := 17) (ls' := [some (.ref 137), some (.int p0)]) (st' := [.int 1]) (T1 := T) (by decide +kernel) rfl ?_
      have e9 := Option.some.inj hf
      subst e9
      exact MW.zret rfl (b2i_nar _) (by decide +kernel)
def fm_push (p0 : Int64) (T : mT) : Option (mT) := bif inb (T.1 0 19) 64 then (letv (mb T 8 ((T.1 0 19) : Int32).toNatClampNeg p0) fun T1 => letv (mz T1 19 ((T1.1 0 19) + 1)) fun T2 => some T2) else none
theorem xm_push {l : Launch} {p0 : Int64} {T : mT} {q : mT} (hf : fm_push p0 T = some q) : MOk l yy_X12_push 0 [.long p0] T none q := by
  refine MOk.of (ls := [some (.ref 137), some (.long p0), none]) (by decide +kernel) (Nat.le_of_ble_eq_true rfl) rfl ?_
  unfold fm_push at hf
  refine MW.run rfl [(.aload_n 0, 0), (.getfield 32, 0), (.aload_n 0, 0), (.getfield 263, 0), (.lload_n 1, 0)] (pc' := 9) (ls' := [some (.ref 137), some (.long p0), none]) (st' := [.long p0, .int (T.1 0 19), .ref 145]) (T1 := T) (by decide +kernel) rfl ?_
  obtain ⟨hi_T1, hf⟩ := bi_some hf
  obtain ⟨T1, hT1, hf⟩ := letv_some hf
  refine MW.last 8 64 rfl (by decide) (fun _ => rfl) (by decide +kernel) (inb_in hi_T1) ?_
  rw [← hT1]
  refine MW.run rfl [(.aload_n 0, 0), (.dup, 0), (.getfield 263, 0), (.iconst 1, 1), (.iadd, 0), (.putfield 263, 0)] (pc' := 20) (ls' := [some (.ref 137), some (.long p0), none]) (st' := []) (T1 := mz T1 19 ((T1.1 0 19) + 1)) (by decide +kernel) rfl ?_
  obtain ⟨T2, hT2, hf⟩ := letv_some hf
  rw [← hT2]
  have e9 := Option.some.inj hf
  subst e9
  exact MW.vret rfl (by decide +kernel)
def fm_pop  (T : mT) : Option (Int64 × mT) := letv (mz T 19 ((T.1 0 19) - 1)) fun T1 => bif inb (T1.1 0 19) 64 then (letv (T1.2 8 ((T1.1 0 19) : Int32).toNatClampNeg) fun v2 => some (v2, T1)) else none
theorem xm_pop {l : Launch}  {T : mT} {q : Int64 × mT} (hf : fm_pop  T = some q) : MOk l yy_X12_pop 0 [] T (some (.long q.1)) q.2 := by
  refine MOk.of (ls := [some (.ref 137)]) (by decide +kernel) (Nat.le_of_ble_eq_true rfl) rfl ?_
  unfold fm_pop at hf
  refine MW.run rfl [(.aload_n 0, 0), (.dup, 0), (.getfield 263, 0), (.iconst 1, 1), (.isub, 0), (.putfield 263, 0)] (pc' := 10) (ls' := [some (.ref 137)]) (st' := []) (T1 := mz T 19 ((T.1 0 19) - 1)) (by decide +kernel) rfl ?_
  obtain ⟨T1, hT1, hf⟩ := letv_some hf
  rw [← hT1]
  refine MW.run rfl [(.aload_n 0, 0), (.getfield 32, 0), (.aload_n 0, 0), (.getfield 263, 0)] (pc' := 18) (ls' := [some (.ref 137)]) (st' := [.int (T1.1 0 19), .ref 145]) (T1 := T1) (by decide +kernel) rfl ?_
  obtain ⟨hi_v2, hf⟩ := bi_some hf
  obtain ⟨v2, hv2, hf⟩ := letv_some hf
  refine MW.lald 8 64 rfl (by decide) rfl (by decide +kernel) (inb_in hi_v2) ?_
  rw [← hv2]
  have e9 := Option.some.inj hf
  subst e9
  exact MW.lret rfl (by decide +kernel)
def fm_one (p0 : Int32) (p1 : Int64) (p2 : Int64) : Option (Int64) := if p0 = 2 then (some (p1 + p2)) else (if p0 = 3 then (some (p1 - p2)) else (if p0 = 4 then (some (p1 * p2)) else (if p0 = 5 then (if (lg_cmp p2 0) = 0 then (some 0) else (if (p2 : Int64) = 0 then none else (some (p1 / p2)))) else (if p0 = 6 then (if 0 ≤ (lg_cmp p1 p2) then (some 0) else (some 1)) else (if p0 = 7 then (if 0 < (lg_cmp p1 p2) then (some 0) else (some 1)) else (if p0 = 8 then (if (lg_cmp p1 p2) = 0 then (some 1) else (some 0)) else (if p0 = 9 then (if (lg_cmp p1 p2) < 0 then (some 0) else (some 1)) else (if p0 = 10 then (if (lg_cmp p1 p2) ≤ 0 then (some 0) else (some 1)) else (if p0 = 12 then (some (p1 &&& p2)) else (if p0 = 14 then (if (lg_cmp p2 0) = 0 then (some 0) else (if (p2 : Int64) = 0 then none else (some (p1 - p1 / p2 * p2)))) else (some (p1 ||| p2))))))))))))
theorem xm_one {l : Launch} {p0 : Int32} {p1 : Int64} {p2 : Int64} {q : Int64} (hf : fm_one p0 p1 p2 = some q) : POk l yy_X12_one 0 [.int p0, .long p1, .long p2] (some (.long q)) := by
  refine POk.of (ls := [some (.int p0), some (.long p1), none, some (.long p2), none]) (by decide +kernel) (Nat.le_of_ble_eq_true rfl) rfl ?_
  unfold fm_one at hf
  refine PW.run (blk := [(.iload_n 0, 0)]) (pc' := 1) (ls' := [some (.int p0), some (.long p1), none, some (.long p2), none]) (st' := [.int p0]) (by decide +kernel) rfl ?_
  by_cases c1_2_1 : p0 = 2
  · rw [if_pos c1_2_1] at hf
    refine PW.tableIn (dflt := 171) (lo := 2) (hi := 14) (offs := #[67, 71, 75, 79, 107, 119, 131, 143, 155, 171, 167, 171, 93]) (len := 67) (off := 67) (tgt := 68) (by decide +kernel) (by rw [c1_2_1]; decide) (by rw [c1_2_1]; decide) (by rw [c1_2_1]; decide) (by decide) ?_
    refine PW.run (blk := [(.lload_n 1, 0), (.lload_n 3, 0), (.ladd, 0)]) (pc' := 71) (ls' := [some (.int p0), some (.long p1), none, some (.long p2), none]) (st' := [.long (p1 + p2)]) (by decide +kernel) rfl ?_
    have e9 := Option.some.inj hf
    subst e9
    exact PW.lret rfl (by decide +kernel)
  rw [if_neg c1_2_1] at hf
  by_cases c1_3_2 : p0 = 3
  · rw [if_pos c1_3_2] at hf
    refine PW.tableIn (dflt := 171) (lo := 2) (hi := 14) (offs := #[67, 71, 75, 79, 107, 119, 131, 143, 155, 171, 167, 171, 93]) (len := 67) (off := 71) (tgt := 72) (by decide +kernel) (by rw [c1_3_2]; decide) (by rw [c1_3_2]; decide) (by rw [c1_3_2]; decide) (by decide) ?_
    refine PW.run (blk := [(.lload_n 1, 0), (.lload_n 3, 0), (.lsub, 0)]) (pc' := 75) (ls' := [some (.int p0), some (.long p1), none, some (.long p2), none]) (st' := [.long (p1 - p2)]) (by decide +kernel) rfl ?_
    have e9 := Option.some.inj hf
    subst e9
    exact PW.lret rfl (by decide +kernel)
  rw [if_neg c1_3_2] at hf
  by_cases c1_4_3 : p0 = 4
  · rw [if_pos c1_4_3] at hf
    refine PW.tableIn (dflt := 171) (lo := 2) (hi := 14) (offs := #[67, 71, 75, 79, 107, 119, 131, 143, 155, 171, 167, 171, 93]) (len := 67) (off := 75) (tgt := 76) (by decide +kernel) (by rw [c1_4_3]; decide) (by rw [c1_4_3]; decide) (by rw [c1_4_3]; decide) (by decide) ?_
    refine PW.run (blk := [(.lload_n 1, 0), (.lload_n 3, 0), (.lmul, 0)]) (pc' := 79) (ls' := [some (.int p0), some (.long p1), none, some (.long p2), none]) (st' := [.long (p1 * p2)]) (by decide +kernel) rfl ?_
    have e9 := Option.some.inj hf
    subst e9
    exact PW.lret rfl (by decide +kernel)
  rw [if_neg c1_4_3] at hf
  by_cases c1_5_4 : p0 = 5
  · rw [if_pos c1_5_4] at hf
    refine PW.tableIn (dflt := 171) (lo := 2) (hi := 14) (offs := #[67, 71, 75, 79, 107, 119, 131, 143, 155, 171, 167, 171, 93]) (len := 67) (off := 79) (tgt := 80) (by decide +kernel) (by rw [c1_5_4]; decide) (by rw [c1_5_4]; decide) (by rw [c1_5_4]; decide) (by decide) ?_
    refine PW.run (blk := [(.lload_n 3, 0), (.lconst 0, 0), (.lcmp, 0)]) (pc' := 83) (ls' := [some (.int p0), some (.long p1), none, some (.long p2), none]) (st' := [.int (lg_cmp p2 0)]) (by decide +kernel) rfl ?_
    refine PW.if_ne (off := 7) (tgt := 90) (by decide +kernel) (by decide) (fun c83_5 => ?_) (fun c83_5 => ?_)
    · rw [if_neg c83_5] at hf
      refine PW.run (blk := [(.lload_n 1, 0), (.lload_n 3, 0)]) (pc' := 92) (ls' := [some (.int p0), some (.long p1), none, some (.long p2), none]) (st' := [.long p2, .long p1]) (by decide +kernel) rfl ?_
      obtain ⟨hn6, hf⟩ := nz_some hf
      refine PW.ldiv hn6 (by decide +kernel) ?_
      have e9 := Option.some.inj hf
      subst e9
      exact PW.lret rfl (by decide +kernel)
    · rw [if_pos c83_5] at hf
      refine PW.run (blk := [(.lconst 0, 0), (.goto 6, 0)]) (pc' := 93) (ls' := [some (.int p0), some (.long p1), none, some (.long p2), none]) (st' := [.long 0]) (by decide +kernel) rfl ?_
      have e9 := Option.some.inj hf
      subst e9
      exact PW.lret rfl (by decide +kernel)
  rw [if_neg c1_5_4] at hf
  by_cases c1_6_7 : p0 = 6
  · rw [if_pos c1_6_7] at hf
    refine PW.tableIn (dflt := 171) (lo := 2) (hi := 14) (offs := #[67, 71, 75, 79, 107, 119, 131, 143, 155, 171, 167, 171, 93]) (len := 67) (off := 107) (tgt := 108) (by decide +kernel) (by rw [c1_6_7]; decide) (by rw [c1_6_7]; decide) (by rw [c1_6_7]; decide) (by decide) ?_
    refine PW.run (blk := [(.lload_n 1, 0), (.lload_n 3, 0), (.lcmp, 0)]) (pc' := 111) (ls' := [some (.int p0), some (.long p1), none, some (.long p2), none]) (st' := [.int (lg_cmp p1 p2)]) (by decide +kernel) rfl ?_
    refine PW.if_ge (off := 7) (tgt := 118) (by decide +kernel) (by decide) (fun c111_8 => ?_) (fun c111_8 => ?_)
    · rw [if_pos c111_8] at hf
      refine PW.run (blk := [(.lconst 0, 0)]) (pc' := 119) (ls' := [some (.int p0), some (.long p1), none, some (.long p2), none]) (st' := [.long 0]) (by decide +kernel) rfl ?_
      have e9 := Option.some.inj hf
      subst e9
      exact PW.lret rfl (by decide +kernel)
    · rw [if_neg c111_8] at hf
      refine PW.run (blk := [(.lconst 1, 0), (.goto 4, 0)]) (pc' := 119) (ls' := [some (.int p0), some (.long p1), none, some (.long p2), none]) (st' := [.long 1]) (by decide +kernel) rfl ?_
      have e9 := Option.some.inj hf
      subst e9
      exact PW.lret rfl (by decide +kernel)
  rw [if_neg c1_6_7] at hf
  by_cases c1_7_9 : p0 = 7
  · rw [if_pos c1_7_9] at hf
    refine PW.tableIn (dflt := 171) (lo := 2) (hi := 14) (offs := #[67, 71, 75, 79, 107, 119, 131, 143, 155, 171, 167, 171, 93]) (len := 67) (off := 119) (tgt := 120) (by decide +kernel) (by rw [c1_7_9]; decide) (by rw [c1_7_9]; decide) (by rw [c1_7_9]; decide) (by decide) ?_
    refine PW.run (blk := [(.lload_n 1, 0), (.lload_n 3, 0), (.lcmp, 0)]) (pc' := 123) (ls' := [some (.int p0), some (.long p1), none, some (.long p2), none]) (st' := [.int (lg_cmp p1 p2)]) (by decide +kernel) rfl ?_
    refine PW.if_gt (off := 7) (tgt := 130) (by decide +kernel) (by decide) (fun c123_10 => ?_) (fun c123_10 => ?_)
    · rw [if_pos c123_10] at hf
      refine PW.run (blk := [(.lconst 0, 0)]) (pc' := 131) (ls' := [some (.int p0), some (.long p1), none, some (.long p2), none]) (st' := [.long 0]) (by decide +kernel) rfl ?_
      have e9 := Option.some.inj hf
      subst e9
      exact PW.lret rfl (by decide +kernel)
    · rw [if_neg c123_10] at hf
      refine PW.run (blk := [(.lconst 1, 0), (.goto 4, 0)]) (pc' := 131) (ls' := [some (.int p0), some (.long p1), none, some (.long p2), none]) (st' := [.long 1]) (by decide +kernel) rfl ?_
      have e9 := Option.some.inj hf
      subst e9
      exact PW.lret rfl (by decide +kernel)
  rw [if_neg c1_7_9] at hf
  by_cases c1_8_11 : p0 = 8
  · rw [if_pos c1_8_11] at hf
    refine PW.tableIn (dflt := 171) (lo := 2) (hi := 14) (offs := #[67, 71, 75, 79, 107, 119, 131, 143, 155, 171, 167, 171, 93]) (len := 67) (off := 131) (tgt := 132) (by decide +kernel) (by rw [c1_8_11]; decide) (by rw [c1_8_11]; decide) (by rw [c1_8_11]; decide) (by decide) ?_
    refine PW.run (blk := [(.lload_n 1, 0), (.lload_n 3, 0), (.lcmp, 0)]) (pc' := 135) (ls' := [some (.int p0), some (.long p1), none, some (.long p2), none]) (st' := [.int (lg_cmp p1 p2)]) (by decide +kernel) rfl ?_
    refine PW.if_ne (off := 7) (tgt := 142) (by decide +kernel) (by decide) (fun c135_12 => ?_) (fun c135_12 => ?_)
    · rw [if_neg c135_12] at hf
      refine PW.run (blk := [(.lconst 0, 0)]) (pc' := 143) (ls' := [some (.int p0), some (.long p1), none, some (.long p2), none]) (st' := [.long 0]) (by decide +kernel) rfl ?_
      have e9 := Option.some.inj hf
      subst e9
      exact PW.lret rfl (by decide +kernel)
    · rw [if_pos c135_12] at hf
      refine PW.run (blk := [(.lconst 1, 0), (.goto 4, 0)]) (pc' := 143) (ls' := [some (.int p0), some (.long p1), none, some (.long p2), none]) (st' := [.long 1]) (by decide +kernel) rfl ?_
      have e9 := Option.some.inj hf
      subst e9
      exact PW.lret rfl (by decide +kernel)
  rw [if_neg c1_8_11] at hf
  by_cases c1_9_13 : p0 = 9
  · rw [if_pos c1_9_13] at hf
    refine PW.tableIn (dflt := 171) (lo := 2) (hi := 14) (offs := #[67, 71, 75, 79, 107, 119, 131, 143, 155, 171, 167, 171, 93]) (len := 67) (off := 143) (tgt := 144) (by decide +kernel) (by rw [c1_9_13]; decide) (by rw [c1_9_13]; decide) (by rw [c1_9_13]; decide) (by decide) ?_
    refine PW.run (blk := [(.lload_n 1, 0), (.lload_n 3, 0), (.lcmp, 0)]) (pc' := 147) (ls' := [some (.int p0), some (.long p1), none, some (.long p2), none]) (st' := [.int (lg_cmp p1 p2)]) (by decide +kernel) rfl ?_
    refine PW.if_lt (off := 7) (tgt := 154) (by decide +kernel) (by decide) (fun c147_14 => ?_) (fun c147_14 => ?_)
    · rw [if_pos c147_14] at hf
      refine PW.run (blk := [(.lconst 0, 0)]) (pc' := 155) (ls' := [some (.int p0), some (.long p1), none, some (.long p2), none]) (st' := [.long 0]) (by decide +kernel) rfl ?_
      have e9 := Option.some.inj hf
      subst e9
      exact PW.lret rfl (by decide +kernel)
    · rw [if_neg c147_14] at hf
      refine PW.run (blk := [(.lconst 1, 0), (.goto 4, 0)]) (pc' := 155) (ls' := [some (.int p0), some (.long p1), none, some (.long p2), none]) (st' := [.long 1]) (by decide +kernel) rfl ?_
      have e9 := Option.some.inj hf
      subst e9
      exact PW.lret rfl (by decide +kernel)
  rw [if_neg c1_9_13] at hf
  by_cases c1_10_15 : p0 = 10
  · rw [if_pos c1_10_15] at hf
    refine PW.tableIn (dflt := 171) (lo := 2) (hi := 14) (offs := #[67, 71, 75, 79, 107, 119, 131, 143, 155, 171, 167, 171, 93]) (len := 67) (off := 155) (tgt := 156) (by decide +kernel) (by rw [c1_10_15]; decide) (by rw [c1_10_15]; decide) (by rw [c1_10_15]; decide) (by decide) ?_
    refine PW.run (blk := [(.lload_n 1, 0), (.lload_n 3, 0), (.lcmp, 0)]) (pc' := 159) (ls' := [some (.int p0), some (.long p1), none, some (.long p2), none]) (st' := [.int (lg_cmp p1 p2)]) (by decide +kernel) rfl ?_
    refine PW.if_le (off := 7) (tgt := 166) (by decide +kernel) (by decide) (fun c159_16 => ?_) (fun c159_16 => ?_)
    · rw [if_pos c159_16] at hf
      refine PW.run (blk := [(.lconst 0, 0)]) (pc' := 167) (ls' := [some (.int p0), some (.long p1), none, some (.long p2), none]) (st' := [.long 0]) (by decide +kernel) rfl ?_
      have e9 := Option.some.inj hf
      subst e9
      exact PW.lret rfl (by decide +kernel)
    · rw [if_neg c159_16] at hf
      refine PW.run (blk := [(.lconst 1, 0), (.goto 4, 0)]) (pc' := 167) (ls' := [some (.int p0), some (.long p1), none, some (.long p2), none]) (st' := [.long 1]) (by decide +kernel) rfl ?_
      have e9 := Option.some.inj hf
      subst e9
      exact PW.lret rfl (by decide +kernel)
  rw [if_neg c1_10_15] at hf
  by_cases c1_12_17 : p0 = 12
  · rw [if_pos c1_12_17] at hf
    refine PW.tableIn (dflt := 171) (lo := 2) (hi := 14) (offs := #[67, 71, 75, 79, 107, 119, 131, 143, 155, 171, 167, 171, 93]) (len := 67) (off := 167) (tgt := 168) (by decide +kernel) (by rw [c1_12_17]; decide) (by rw [c1_12_17]; decide) (by rw [c1_12_17]; decide) (by decide) ?_
    refine PW.run (blk := [(.lload_n 1, 0), (.lload_n 3, 0), (.land, 0)]) (pc' := 171) (ls' := [some (.int p0), some (.long p1), none, some (.long p2), none]) (st' := [.long (p1 &&& p2)]) (by decide +kernel) rfl ?_
    have e9 := Option.some.inj hf
    subst e9
    exact PW.lret rfl (by decide +kernel)
  rw [if_neg c1_12_17] at hf
  by_cases c1_14_18 : p0 = 14
  · rw [if_pos c1_14_18] at hf
    refine PW.tableIn (dflt := 171) (lo := 2) (hi := 14) (offs := #[67, 71, 75, 79, 107, 119, 131, 143, 155, 171, 167, 171, 93]) (len := 67) (off := 93) (tgt := 94) (by decide +kernel) (by rw [c1_14_18]; decide) (by rw [c1_14_18]; decide) (by rw [c1_14_18]; decide) (by decide) ?_
    refine PW.run (blk := [(.lload_n 3, 0), (.lconst 0, 0), (.lcmp, 0)]) (pc' := 97) (ls' := [some (.int p0), some (.long p1), none, some (.long p2), none]) (st' := [.int (lg_cmp p2 0)]) (by decide +kernel) rfl ?_
    refine PW.if_ne (off := 7) (tgt := 104) (by decide +kernel) (by decide) (fun c97_19 => ?_) (fun c97_19 => ?_)
    · rw [if_neg c97_19] at hf
      refine PW.run (blk := [(.lload_n 1, 0), (.lload_n 3, 0)]) (pc' := 106) (ls' := [some (.int p0), some (.long p1), none, some (.long p2), none]) (st' := [.long p2, .long p1]) (by decide +kernel) rfl ?_
      obtain ⟨hn20, hf⟩ := nz_some hf
      refine PW.lrem hn20 (by decide +kernel) ?_
      have e9 := Option.some.inj hf
      subst e9
      exact PW.lret rfl (by decide +kernel)
    · rw [if_pos c97_19] at hf
      refine PW.run (blk := [(.lconst 0, 0), (.goto 6, 0)]) (pc' := 107) (ls' := [some (.int p0), some (.long p1), none, some (.long p2), none]) (st' := [.long 0]) (by decide +kernel) rfl ?_
      have e9 := Option.some.inj hf
      subst e9
      exact PW.lret rfl (by decide +kernel)
  rw [if_neg c1_14_18] at hf
  by_cases c1_11_21 : p0 = 11
  · refine PW.tableIn (dflt := 171) (lo := 2) (hi := 14) (offs := #[67, 71, 75, 79, 107, 119, 131, 143, 155, 171, 167, 171, 93]) (len := 67) (off := 171) (tgt := 172) (by decide +kernel) (by rw [c1_11_21]; decide) (by rw [c1_11_21]; decide) (by rw [c1_11_21]; decide) (by decide) ?_
    refine PW.run (blk := [(.lload_n 1, 0), (.lload_n 3, 0), (.lor, 0)]) (pc' := 175) (ls' := [some (.int p0), some (.long p1), none, some (.long p2), none]) (st' := [.long (p1 ||| p2)]) (by decide +kernel) rfl ?_
    have e9 := Option.some.inj hf
    subst e9
    exact PW.lret rfl (by decide +kernel)
  by_cases c1_13_22 : p0 = 13
  · refine PW.tableIn (dflt := 171) (lo := 2) (hi := 14) (offs := #[67, 71, 75, 79, 107, 119, 131, 143, 155, 171, 167, 171, 93]) (len := 67) (off := 171) (tgt := 172) (by decide +kernel) (by rw [c1_13_22]; decide) (by rw [c1_13_22]; decide) (by rw [c1_13_22]; decide) (by decide) ?_
    refine PW.run (blk := [(.lload_n 1, 0), (.lload_n 3, 0), (.lor, 0)]) (pc' := 175) (ls' := [some (.int p0), some (.long p1), none, some (.long p2), none]) (st' := [.long (p1 ||| p2)]) (by decide +kernel) rfl ?_
    have e9 := Option.some.inj hf
    subst e9
    exact PW.lret rfl (by decide +kernel)
  refine PW.tableOut (dflt := 171) (lo := 2) (hi := 14) (offs := #[67, 71, 75, 79, 107, 119, 131, 143, 155, 171, 167, 171, 93]) (len := 67) (tgt := 172) (by decide +kernel) (by have := ne_toInt c1_2_1 (k := 2) rfl; have := ne_toInt c1_3_2 (k := 3) rfl; have := ne_toInt c1_4_3 (k := 4) rfl; have := ne_toInt c1_5_4 (k := 5) rfl; have := ne_toInt c1_6_7 (k := 6) rfl; have := ne_toInt c1_7_9 (k := 7) rfl; have := ne_toInt c1_8_11 (k := 8) rfl; have := ne_toInt c1_9_13 (k := 9) rfl; have := ne_toInt c1_10_15 (k := 10) rfl; have := ne_toInt c1_12_17 (k := 12) rfl; have := ne_toInt c1_14_18 (k := 14) rfl; have := ne_toInt c1_11_21 (k := 11) rfl; have := ne_toInt c1_13_22 (k := 13) rfl; omega) (by decide) ?_
  refine PW.run (blk := [(.lload_n 1, 0), (.lload_n 3, 0), (.lor, 0)]) (pc' := 175) (ls' := [some (.int p0), some (.long p1), none, some (.long p2), none]) (st' := [.long (p1 ||| p2)]) (by decide +kernel) rfl ?_
  have e9 := Option.some.inj hf
  subst e9
  exact PW.lret rfl (by decide +kernel)
def fm_reckons_L8 (k1 : Int32) (k2 : Int32) (k3 : Int32) : Nat → Int32 → mT → Option (Int32 × mT)
  | 0, _, _ => none
  | N + 1, a4, T => if k3 ≤ a4 then (some (a4, T)) else (bif inb ((400 * k1) + a4) 2400 then (letv (T.1 2 (((400 * k1) + a4) : Int32).toNatClampNeg) fun v3 => bif inb ((400 * k1) + a4) 2400 then (letv (T.1 2 (((400 * k1) + a4) : Int32).toNatClampNeg) fun v4 => if (v3 &&& 15) = 0 then ((fm_push (((v4 >>> (4 &&& 31)) : Int32).toInt64) T).bind fun q16 => fm_reckons_L8 k1 k2 k3 N (a4 + 1) q16) else (if (v3 &&& 15) = 1 then (bif inb (v4 >>> (4 &&& 31)) 8 then (letv (T.2 9 ((v4 >>> (4 &&& 31)) : Int32).toNatClampNeg) fun v14 => (fm_push v14 T).bind fun q15 => fm_reckons_L8 k1 k2 k3 N (a4 + 1) q15) else none) else (if (v3 &&& 15) = 11 then ((fm_pop T).bind fun q12 => (fm_push (1 - q12.1) q12.2).bind fun q13 => fm_reckons_L8 k1 k2 k3 N (a4 + 1) q13) else ((fm_pop T).bind fun q8 => (fm_pop q8.2).bind fun q9 => (fm_one (v3 &&& 15) q9.1 q8.1).bind fun q10 => (fm_push q10 q9.2).bind fun q11 => fm_reckons_L8 k1 k2 k3 N (a4 + 1) q11)))) else none) else none)
def fm_reckons (p0 : Int32) (p1 : Int32) (p2 : Int32) (T : mT) : Option (Int64 × mT) := letv (mz T 19 0) fun T1 => (fm_reckons_L8 p0 p1 p2 FU p1 T1).bind fun w17 => (fm_pop w17.2).bind fun q18 => some (q18.1, q18.2)
theorem xm_reckons_L8 {l : Launch} {r : Option Value} {T' : mT} (k1 : Int32) (k2 : Int32) (k3 : Int32) : ∀ (N : Nat) (a4 : Int32) (T : mT) (W0 : Int32 × mT) (_ : fm_reckons_L8 k1 k2 k3 N a4 T = some W0) (_ : MW l yy_X12_reckons 1 r T' 135 [some (.ref 137), some (.int k1), some (.int k2), some (.int k3), some (.int W0.1), none, none, none, none, none, none] [] W0.2), MW l yy_X12_reckons 1 r T' 8 [some (.ref 137), some (.int k1), some (.int k2), some (.int k3), some (.int a4), none, none, none, none, none, none] [] T := by
  intro N
  induction N with
  | zero =>
    intro a4 T W0 hf _
    cases hf
  | succ N ih =>
    intro a4 T W0 hf hk1
    unfold fm_reckons_L8 at hf
    refine MW.run rfl [(.iload 4, 0), (.iload_n 3, 0)] (pc' := 11) (ls' := [some (.ref 137), some (.int k1), some (.int k2), some (.int k3), some (.int a4), none, none, none, none, none, none]) (st' := [.int k3, .int a4]) (T1 := T) (by decide +kernel) rfl ?_
    refine MW.icmp_ge (off := 124) (tgt := 135) (by decide +kernel) (by decide) (fun c11_2 => ?_) (fun c11_2 => ?_)
    · rw [if_pos c11_2] at hf
      have e9 := Option.some.inj hf
      subst e9
      exact hk1
    · rw [if_neg c11_2] at hf
      refine MW.run rfl [(.aload_n 0, 0), (.getfield 13, 0), (.sipush 400, 400), (.iload_n 1, 0), (.imul, 0), (.iload 4, 0), (.iadd, 0)] (pc' := 26) (ls' := [some (.ref 137), some (.int k1), some (.int k2), some (.int k3), some (.int a4), none, none, none, none, none, none]) (st' := [.int ((400 * k1) + a4), .ref 139]) (T1 := T) (by decide +kernel) rfl ?_
      obtain ⟨hi_v3, hf⟩ := bi_some hf
      obtain ⟨v3, hv3, hf⟩ := letv_some hf
      refine MW.iald 2 2400 rfl (by decide) rfl (by decide +kernel) (inb_in hi_v3) ?_
      rw [← hv3]
      refine MW.run rfl [(.bipush 15, 15), (.iand, 0), (.istore 5, 0), (.aload_n 0, 0), (.getfield 13, 0), (.sipush 400, 400), (.iload_n 1, 0), (.imul, 0), (.iload 4, 0), (.iadd, 0)] (pc' := 44) (ls' := [some (.ref 137), some (.int k1), some (.int k2), some (.int k3), some (.int a4), some (.int (v3 &&& 15)), none, none, none, none, none]) (st' := [.int ((400 * k1) + a4), .ref 139]) (T1 := T) (by decide +kernel) rfl ?_
      obtain ⟨hi_v4, hf⟩ := bi_some hf
      obtain ⟨v4, hv4, hf⟩ := letv_some hf
      refine MW.iald 2 2400 rfl (by decide) rfl (by decide +kernel) (inb_in hi_v4) ?_
      rw [← hv4]
      refine MW.run rfl [(.iconst 4, 4), (.ishr, 0), (.istore 6, 0), (.iload 5, 0)] (pc' := 51) (ls' := [some (.ref 137), some (.int k1), some (.int k2), some (.int k3), some (.int a4), some (.int (v3 &&& 15)), some (.int (v4 >>> (4 &&& 31))), none, none, none, none]) (st' := [.int (v3 &&& 15)]) (T1 := T) (by decide +kernel) rfl ?_
      refine MW.if_ne (off := 13) (tgt := 64) (by decide +kernel) (by decide) (fun c51_5 => ?_) (fun c51_5 => ?_)
      · rw [if_neg c51_5] at hf
        refine MW.run rfl [(.iload 5, 0), (.iconst 1, 1)] (pc' := 67) (ls' := [some (.ref 137), some (.int k1), some (.int k2), some (.int k3), some (.int a4), some (.int (v3 &&& 15)), some (.int (v4 >>> (4 &&& 31))), none, none, none, none]) (st' := [.int 1, .int (v3 &&& 15)]) (T1 := T) (by decide +kernel) rfl ?_
        refine MW.icmp_ne (off := 17) (tgt := 84) (by decide +kernel) (by decide) (fun c67_6 => ?_) (fun c67_6 => ?_)
        · rw [if_neg c67_6] at hf
          refine MW.run rfl [(.iload 5, 0), (.bipush 11, 11)] (pc' := 88) (ls' := [some (.ref 137), some (.int k1), some (.int k2), some (.int k3), some (.int a4), some (.int (v3 &&& 15)), some (.int (v4 >>> (4 &&& 31))), none, none, none, none]) (st' := [.int 11, .int (v3 &&& 15)]) (T1 := T) (by decide +kernel) rfl ?_
          refine MW.icmp_ne (off := 16) (tgt := 104) (by decide +kernel) (by decide) (fun c88_7 => ?_) (fun c88_7 => ?_)
          · rw [if_neg c88_7] at hf
            refine MW.run rfl [(.aload_n 0, 0)] (pc' := 105) (ls' := [some (.ref 137), some (.int k1), some (.int k2), some (.int k3), some (.int a4), some (.int (v3 &&& 15)), some (.int (v4 >>> (4 &&& 31))), none, none, none, none]) (st' := [.ref 137]) (T1 := T) (by decide +kernel) rfl ?_
            obtain ⟨q8, hq8, hf⟩ := bd_some hf
            refine MW.callV (As := []) (st := []) lv_RX12_270 rfl (by decide +kernel) (xm_pop hq8) (by decide) (by decide) rfl (Nat.le_of_ble_eq_true rfl) rfl ?_
            show MW l yy_X12_reckons 1 _ _ 108 [some (.ref 137), some (.int k1), some (.int k2), some (.int k3), some (.int a4), some (.int (v3 &&& 15)), some (.int (v4 >>> (4 &&& 31))), none, none, none, none] [.long q8.1] q8.2
            refine MW.run rfl [(.lstore 7, 0), (.aload_n 0, 0)] (pc' := 111) (ls' := [some (.ref 137), some (.int k1), some (.int k2), some (.int k3), some (.int a4), some (.int (v3 &&& 15)), some (.int (v4 >>> (4 &&& 31))), some (.long q8.1), none, none, none]) (st' := [.ref 137]) (T1 := q8.2) (by decide +kernel) rfl ?_
            obtain ⟨q9, hq9, hf⟩ := bd_some hf
            refine MW.callV (As := []) (st := []) lv_RX12_270 rfl (by decide +kernel) (xm_pop hq9) (by decide) (by decide) rfl (Nat.le_of_ble_eq_true rfl) rfl ?_
            show MW l yy_X12_reckons 1 _ _ 114 [some (.ref 137), some (.int k1), some (.int k2), some (.int k3), some (.int a4), some (.int (v3 &&& 15)), some (.int (v4 >>> (4 &&& 31))), some (.long q8.1), none, none, none] [.long q9.1] q9.2
            refine MW.run rfl [(.lstore 9, 0), (.aload_n 0, 0), (.iload 5, 0), (.lload 9, 0), (.lload 7, 0)] (pc' := 123) (ls' := [some (.ref 137), some (.int k1), some (.int k2), some (.int k3), some (.int a4), some (.int (v3 &&& 15)), some (.int (v4 >>> (4 &&& 31))), some (.long q8.1), none, some (.long q9.1), none]) (st' := [.long q8.1, .long q9.1, .int (v3 &&& 15), .ref 137]) (T1 := q9.2) (by decide +kernel) rfl ?_
            obtain ⟨q10, hq10, hf⟩ := bd_some hf
            refine MW.callP (As := [.int (v3 &&& 15), .long q9.1, .long q8.1]) (st := [.ref 137]) lt_RX12_274 (by decide +kernel) (xm_one hq10) (by decide) (by decide) rfl (Nat.le_of_ble_eq_true rfl) rfl ?_
            show MW l yy_X12_reckons 1 _ _ 126 [some (.ref 137), some (.int k1), some (.int k2), some (.int k3), some (.int a4), some (.int (v3 &&& 15)), some (.int (v4 >>> (4 &&& 31))), some (.long q8.1), none, some (.long q9.1), none] [.long q10, .ref 137] q9.2
            obtain ⟨q11, hq11, hf⟩ := bd_some hf
            refine MW.callV (As := [.long q10]) (st := []) lv_RX12_266 rfl (by decide +kernel) (xm_push hq11) (by decide) (by decide) rfl (Nat.le_of_ble_eq_true rfl) rfl ?_
            show MW l yy_X12_reckons 1 _ _ 129 [some (.ref 137), some (.int k1), some (.int k2), some (.int k3), some (.int a4), some (.int (v3 &&& 15)), some (.int (v4 >>> (4 &&& 31))), some (.long q8.1), none, some (.long q9.1), none] [] q11
            refine MW.run rfl [(.iinc 4 1, 1), (.goto (-124), 0)] (pc' := 8) (ls' := [some (.ref 137), some (.int k1), some (.int k2), some (.int k3), some (.int (a4 + 1)), some (.int (v3 &&& 15)), some (.int (v4 >>> (4 &&& 31))), some (.long q8.1), none, some (.long q9.1), none]) (st' := []) (T1 := q11) (by decide +kernel) rfl ?_
            refine MW.fgt (ls' := [some (.ref 137), some (.int k1), some (.int k2), some (.int k3), some (.int (a4 + 1)), none, none, none, none, none, none]) (by repeat' (first | exact trivial | refine ⟨rfl, ?_⟩)) ?_
            exact ih _ _ _ hf hk1
          · rw [if_pos c88_7] at hf
            refine MW.run rfl [(.aload_n 0, 0), (.lconst 1, 0), (.aload_n 0, 0)] (pc' := 94) (ls' := [some (.ref 137), some (.int k1), some (.int k2), some (.int k3), some (.int a4), some (.int (v3 &&& 15)), some (.int (v4 >>> (4 &&& 31))), none, none, none, none]) (st' := [.ref 137, .long 1, .ref 137]) (T1 := T) (by decide +kernel) rfl ?_
            obtain ⟨q12, hq12, hf⟩ := bd_some hf
            refine MW.callV (As := []) (st := [.long 1, .ref 137]) lv_RX12_270 rfl (by decide +kernel) (xm_pop hq12) (by decide) (by decide) rfl (Nat.le_of_ble_eq_true rfl) rfl ?_
            show MW l yy_X12_reckons 1 _ _ 97 [some (.ref 137), some (.int k1), some (.int k2), some (.int k3), some (.int a4), some (.int (v3 &&& 15)), some (.int (v4 >>> (4 &&& 31))), none, none, none, none] [.long q12.1, .long 1, .ref 137] q12.2
            refine MW.run rfl [(.lsub, 0)] (pc' := 98) (ls' := [some (.ref 137), some (.int k1), some (.int k2), some (.int k3), some (.int a4), some (.int (v3 &&& 15)), some (.int (v4 >>> (4 &&& 31))), none, none, none, none]) (st' := [.long (1 - q12.1), .ref 137]) (T1 := q12.2) (by decide +kernel) rfl ?_
            obtain ⟨q13, hq13, hf⟩ := bd_some hf
            refine MW.callV (As := [.long (1 - q12.1)]) (st := []) lv_RX12_266 rfl (by decide +kernel) (xm_push hq13) (by decide) (by decide) rfl (Nat.le_of_ble_eq_true rfl) rfl ?_
            show MW l yy_X12_reckons 1 _ _ 101 [some (.ref 137), some (.int k1), some (.int k2), some (.int k3), some (.int a4), some (.int (v3 &&& 15)), some (.int (v4 >>> (4 &&& 31))), none, none, none, none] [] q13
            refine MW.run rfl [(.goto 28, 0), (.iinc 4 1, 1), (.goto (-124), 0)] (pc' := 8) (ls' := [some (.ref 137), some (.int k1), some (.int k2), some (.int k3), some (.int (a4 + 1)), some (.int (v3 &&& 15)), some (.int (v4 >>> (4 &&& 31))), none, none, none, none]) (st' := []) (T1 := q13) (by decide +kernel) rfl ?_
            refine MW.fgt (ls' := [some (.ref 137), some (.int k1), some (.int k2), some (.int k3), some (.int (a4 + 1)), none, none, none, none, none, none]) (by repeat' (first | exact trivial | refine ⟨rfl, ?_⟩)) ?_
            exact ih _ _ _ hf hk1
        · rw [if_pos c67_6] at hf
          refine MW.run rfl [(.aload_n 0, 0), (.aload_n 0, 0), (.getfield 36, 0), (.iload 6, 0)] (pc' := 77) (ls' := [some (.ref 137), some (.int k1), some (.int k2), some (.int k3), some (.int a4), some (.int (v3 &&& 15)), some (.int (v4 >>> (4 &&& 31))), none, none, none, none]) (st' := [.int (v4 >>> (4 &&& 31)), .ref 146, .ref 137]) (T1 := T) (by decide +kernel) rfl ?_
          obtain ⟨hi_v14, hf⟩ := bi_some hf
          obtain ⟨v14, hv14, hf⟩ := letv_some hf
          refine MW.lald 9 8 rfl (by decide) rfl (by decide +kernel) (inb_in hi_v14) ?_
          rw [← hv14]
          obtain ⟨q15, hq15, hf⟩ := bd_some hf
          refine MW.callV (As := [.long v14]) (st := []) lv_RX12_266 rfl (by decide +kernel) (xm_push hq15) (by decide) (by decide) rfl (Nat.le_of_ble_eq_true rfl) rfl ?_
          show MW l yy_X12_reckons 1 _ _ 81 [some (.ref 137), some (.int k1), some (.int k2), some (.int k3), some (.int a4), some (.int (v3 &&& 15)), some (.int (v4 >>> (4 &&& 31))), none, none, none, none] [] q15
          refine MW.run rfl [(.goto 48, 0), (.iinc 4 1, 1), (.goto (-124), 0)] (pc' := 8) (ls' := [some (.ref 137), some (.int k1), some (.int k2), some (.int k3), some (.int (a4 + 1)), some (.int (v3 &&& 15)), some (.int (v4 >>> (4 &&& 31))), none, none, none, none]) (st' := []) (T1 := q15) (by decide +kernel) rfl ?_
          refine MW.fgt (ls' := [some (.ref 137), some (.int k1), some (.int k2), some (.int k3), some (.int (a4 + 1)), none, none, none, none, none, none]) (by repeat' (first | exact trivial | refine ⟨rfl, ?_⟩)) ?_
          exact ih _ _ _ hf hk1
      · rw [if_pos c51_5] at hf
        refine MW.run rfl [(.aload_n 0, 0), (.iload 6, 0), (.i2l, 0)] (pc' := 58) (ls' := [some (.ref 137), some (.int k1), some (.int k2), some (.int k3), some (.int a4), some (.int (v3 &&& 15)), some (.int (v4 >>> (4 &&& 31))), none, none, none, none]) (st' := [.long (((v4 >>> (4 &&& 31)) : Int32).toInt64), .ref 137]) (T1 := T) (by decide +kernel) rfl ?_
        obtain ⟨q16, hq16, hf⟩ := bd_some hf
        refine MW.callV (As := [.long (((v4 >>> (4 &&& 31)) : Int32).toInt64)]) (st := []) lv_RX12_266 rfl (by decide +kernel) (xm_push hq16) (by decide) (by decide) rfl (Nat.le_of_ble_eq_true rfl) rfl ?_
        show MW l yy_X12_reckons 1 _ _ 61 [some (.ref 137), some (.int k1), some (.int k2), some (.int k3), some (.int a4), some (.int (v3 &&& 15)), some (.int (v4 >>> (4 &&& 31))), none, none, none, none] [] q16
        refine MW.run rfl [(.goto 68, 0), (.iinc 4 1, 1), (.goto (-124), 0)] (pc' := 8) (ls' := [some (.ref 137), some (.int k1), some (.int k2), some (.int k3), some (.int (a4 + 1)), some (.int (v3 &&& 15)), some (.int (v4 >>> (4 &&& 31))), none, none, none, none]) (st' := []) (T1 := q16) (by decide +kernel) rfl ?_
        refine MW.fgt (ls' := [some (.ref 137), some (.int k1), some (.int k2), some (.int k3), some (.int (a4 + 1)), none, none, none, none, none, none]) (by repeat' (first | exact trivial | refine ⟨rfl, ?_⟩)) ?_
        exact ih _ _ _ hf hk1
theorem xm_reckons {l : Launch} {p0 : Int32} {p1 : Int32} {p2 : Int32} {T : mT} {q : Int64 × mT} (hf : fm_reckons p0 p1 p2 T = some q) : MOk l yy_X12_reckons 1 [.int p0, .int p1, .int p2] T (some (.long q.1)) q.2 := by
  refine MOk.of (ls := [some (.ref 137), some (.int p0), some (.int p1), some (.int p2), none, none, none, none, none, none, none]) (by decide +kernel) (Nat.le_of_ble_eq_true rfl) rfl ?_
  unfold fm_reckons at hf
  refine MW.run rfl [(.aload_n 0, 0), (.iconst 0, 0), (.putfield 263, 0)] (pc' := 5) (ls' := [some (.ref 137), some (.int p0), some (.int p1), some (.int p2), none, none, none, none, none, none, none]) (st' := []) (T1 := mz T 19 0) (by decide +kernel) rfl ?_
  obtain ⟨T1, hT1, hf⟩ := letv_some hf
  rw [← hT1]
  refine MW.run rfl [(.iload_n 2, 0), (.istore 4, 0)] (pc' := 8) (ls' := [some (.ref 137), some (.int p0), some (.int p1), some (.int p2), some (.int p1), none, none, none, none, none, none]) (st' := []) (T1 := T1) (by decide +kernel) rfl ?_
  obtain ⟨w17, hw17, hf⟩ := bd_some hf
  refine xm_reckons_L8 p0 p1 p2 FU _ _ _ hw17 ?_
  refine MW.run rfl [(.aload_n 0, 0)] (pc' := 136) (ls' := [some (.ref 137), some (.int p0), some (.int p1), some (.int p2), some (.int w17.1), none, none, none, none, none, none]) (st' := [.ref 137]) (T1 := w17.2) (by decide +kernel) rfl ?_
  obtain ⟨q18, hq18, hf⟩ := bd_some hf
  refine MW.callV (As := []) (st := []) lv_RX12_270 rfl (by decide +kernel) (xm_pop hq18) (by decide) (by decide) rfl (Nat.le_of_ble_eq_true rfl) rfl ?_
  show MW l yy_X12_reckons 1 _ _ 139 [some (.ref 137), some (.int p0), some (.int p1), some (.int p2), some (.int w17.1), none, none, none, none, none, none] [.long q18.1] q18.2
  have e9 := Option.some.inj hf
  subst e9
  exact MW.lret rfl (by decide +kernel)
def fm_isIsland  (T : mT) : Option (Bool) := bif inb 0 410 then (letv (T.1 10 (0 : Int32).toNatClampNeg) fun v1 => if v1 ≤ 0 then (some false) else (some true)) else none
theorem xm_isIsland {l : Launch}  {T : mT} {q : Bool} (hf : fm_isIsland  T = some q) : MOk l yy_X12_isIsland 0 [] T (some (.int (b2i q))) T := by
  refine MOk.of (ls := [some (.ref 137)]) (by decide +kernel) (Nat.le_of_ble_eq_true rfl) rfl ?_
  unfold fm_isIsland at hf
  refine MW.run rfl [(.aload_n 0, 0), (.getfield 39, 0), (.iconst 0, 0)] (pc' := 5) (ls' := [some (.ref 137)]) (st' := [.int 0, .ref 147]) (T1 := T) (by decide +kernel) rfl ?_
  obtain ⟨hi_v1, hf⟩ := bi_some hf
  obtain ⟨v1, hv1, hf⟩ := letv_some hf
  refine MW.iald 10 410 rfl (by decide) rfl (by decide +kernel) (inb_in hi_v1) ?_
  rw [← hv1]
  refine MW.if_le (off := 7) (tgt := 13) (by decide +kernel) (by decide) (fun c6_2 => ?_) (fun c6_2 => ?_)
  · rw [if_pos c6_2] at hf
    refine MW.run rfl [(.iconst 0, 0)] (pc' := 14) (ls' := [some (.ref 137)]) (st' := [.int 0]) (T1 := T) (by decide +kernel) rfl ?_
    have e9 := Option.some.inj hf
    subst e9
    exact MW.zret rfl (b2i_nar _) (by decide +kernel)
  · rw [if_neg c6_2] at hf
    refine MW.run rfl [(.iconst 1, 1), (.goto 4, 0)] (pc' := 14) (ls' := [some (.ref 137)]) (st' := [.int 1]) (T1 := T) (by decide +kernel) rfl ?_
    have e9 := Option.some.inj hf
    subst e9
    exact MW.zret rfl (b2i_nar _) (by decide +kernel)
def fm_isPerson (p0 : Int32) (T : mT) : Option (Bool) := if p0 < 0 then (some false) else (bif inb 1 410 then (letv (T.1 10 (1 : Int32).toNatClampNeg) fun v2 => if v2 ≤ p0 then (some false) else (some true)) else none)
theorem xm_isPerson {l : Launch} {p0 : Int32} {T : mT} {q : Bool} (hf : fm_isPerson p0 T = some q) : MOk l yy_X12_isPerson 0 [.int p0] T (some (.int (b2i q))) T := by
  refine MOk.of (ls := [some (.ref 137), some (.int p0)]) (by decide +kernel) (Nat.le_of_ble_eq_true rfl) rfl ?_
  unfold fm_isPerson at hf
  refine MW.run rfl [(.iload_n 1, 0)] (pc' := 1) (ls' := [some (.ref 137), some (.int p0)]) (st' := [.int p0]) (T1 := T) (by decide +kernel) rfl ?_
  refine MW.if_lt (off := 17) (tgt := 18) (by decide +kernel) (by decide) (fun c1_1 => ?_) (fun c1_1 => ?_)
  · rw [if_pos c1_1] at hf
    refine MW.run rfl [(.iconst 0, 0)] (pc' := 19) (ls' := [some (.ref 137), some (.int p0)]) (st' := [.int 0]) (T1 := T) (by decide +kernel) rfl ?_
    have e9 := Option.some.inj hf
    subst e9
    exact MW.zret rfl (b2i_nar _) (by decide +kernel)
  · rw [if_neg c1_1] at hf
    refine MW.run rfl [(.iload_n 1, 0), (.aload_n 0, 0), (.getfield 39, 0), (.iconst 1, 1)] (pc' := 10) (ls' := [some (.ref 137), some (.int p0)]) (st' := [.int 1, .ref 147, .int p0]) (T1 := T) (by decide +kernel) rfl ?_
    obtain ⟨hi_v2, hf⟩ := bi_some hf
    obtain ⟨v2, hv2, hf⟩ := letv_some hf
    refine MW.iald 10 410 rfl (by decide) rfl (by decide +kernel) (inb_in hi_v2) ?_
    rw [← hv2]
    refine MW.icmp_ge (off := 7) (tgt := 18) (by decide +kernel) (by decide) (fun c11_3 => ?_) (fun c11_3 => ?_)
    · rw [if_pos c11_3] at hf
      refine MW.run rfl [(.iconst 0, 0)] (pc' := 19) (ls' := [some (.ref 137), some (.int p0)]) (st' := [.int 0]) (T1 := T) (by decide +kernel) rfl ?_
      have e9 := Option.some.inj hf
      subst e9
      exact MW.zret rfl (b2i_nar _) (by decide +kernel)
    · rw [if_neg c11_3] at hf
      refine MW.run rfl [(.iconst 1, 1), (.goto 4, 0)] (pc' := 19) (ls' := [some (.ref 137), some (.int p0)]) (st' := [.int 1]) (T1 := T) (by decide +kernel) rfl ?_
      have e9 := Option.some.inj hf
      subst e9
      exact MW.zret rfl (b2i_nar _) (by decide +kernel)
def fm_isTelling (p0 : Int32) (T : mT) : Option (Bool) := if p0 < 0 then (some false) else (bif inb 5 410 then (letv (T.1 10 (5 : Int32).toNatClampNeg) fun v2 => if v2 ≤ p0 then (some false) else (some true)) else none)
theorem xm_isTelling {l : Launch} {p0 : Int32} {T : mT} {q : Bool} (hf : fm_isTelling p0 T = some q) : MOk l yy_X12_isTelling 0 [.int p0] T (some (.int (b2i q))) T := by
  refine MOk.of (ls := [some (.ref 137), some (.int p0)]) (by decide +kernel) (Nat.le_of_ble_eq_true rfl) rfl ?_
  unfold fm_isTelling at hf
  refine MW.run rfl [(.iload_n 1, 0)] (pc' := 1) (ls' := [some (.ref 137), some (.int p0)]) (st' := [.int p0]) (T1 := T) (by decide +kernel) rfl ?_
  refine MW.if_lt (off := 17) (tgt := 18) (by decide +kernel) (by decide) (fun c1_1 => ?_) (fun c1_1 => ?_)
  · rw [if_pos c1_1] at hf
    refine MW.run rfl [(.iconst 0, 0)] (pc' := 19) (ls' := [some (.ref 137), some (.int p0)]) (st' := [.int 0]) (T1 := T) (by decide +kernel) rfl ?_
    have e9 := Option.some.inj hf
    subst e9
    exact MW.zret rfl (b2i_nar _) (by decide +kernel)
  · rw [if_neg c1_1] at hf
    refine MW.run rfl [(.iload_n 1, 0), (.aload_n 0, 0), (.getfield 39, 0), (.iconst 5, 5)] (pc' := 10) (ls' := [some (.ref 137), some (.int p0)]) (st' := [.int 5, .ref 147, .int p0]) (T1 := T) (by decide +kernel) rfl ?_
    obtain ⟨hi_v2, hf⟩ := bi_some hf
    obtain ⟨v2, hv2, hf⟩ := letv_some hf
    refine MW.iald 10 410 rfl (by decide) rfl (by decide +kernel) (inb_in hi_v2) ?_
    rw [← hv2]
    refine MW.icmp_ge (off := 7) (tgt := 18) (by decide +kernel) (by decide) (fun c11_3 => ?_) (fun c11_3 => ?_)
    · rw [if_pos c11_3] at hf
      refine MW.run rfl [(.iconst 0, 0)] (pc' := 19) (ls' := [some (.ref 137), some (.int p0)]) (st' := [.int 0]) (T1 := T) (by decide +kernel) rfl ?_
      have e9 := Option.some.inj hf
      subst e9
      exact MW.zret rfl (b2i_nar _) (by decide +kernel)
    · rw [if_neg c11_3] at hf
      refine MW.run rfl [(.iconst 1, 1), (.goto 4, 0)] (pc' := 19) (ls' := [some (.ref 137), some (.int p0)]) (st' := [.int 1]) (T1 := T) (by decide +kernel) rfl ?_
      have e9 := Option.some.inj hf
      subst e9
      exact MW.zret rfl (b2i_nar _) (by decide +kernel)
def fm_personOf (p0 : Int32) (p1 : Int32) (T : mT) : Option (Int32) := bif inb ((8 + (4 * p0)) + p1) 410 then (letv (T.1 10 (((8 + (4 * p0)) + p1) : Int32).toNatClampNeg) fun v1 => some v1) else none
theorem xm_personOf {l : Launch} {p0 : Int32} {p1 : Int32} {T : mT} {q : Int32} (hf : fm_personOf p0 p1 T = some q) : MOk l yy_X12_personOf 0 [.int p0, .int p1] T (some (.int q)) T := by
  refine MOk.of (ls := [some (.ref 137), some (.int p0), some (.int p1)]) (by decide +kernel) (Nat.le_of_ble_eq_true rfl) rfl ?_
  unfold fm_personOf at hf
  refine MW.run rfl [(.aload_n 0, 0), (.getfield 39, 0), (.bipush 8, 8), (.iconst 4, 4), (.iload_n 1, 0), (.imul, 0), (.iadd, 0), (.iload_n 2, 0), (.iadd, 0)] (pc' := 12) (ls' := [some (.ref 137), some (.int p0), some (.int p1)]) (st' := [.int ((8 + (4 * p0)) + p1), .ref 147]) (T1 := T) (by decide +kernel) rfl ?_
  obtain ⟨hi_v1, hf⟩ := bi_some hf
  obtain ⟨v1, hv1, hf⟩ := letv_some hf
  refine MW.iald 10 410 rfl (by decide) rfl (by decide +kernel) (inb_in hi_v1) ?_
  rw [← hv1]
  have e9 := Option.some.inj hf
  subst e9
  exact MW.iret rfl (by decide +kernel)
def fm_tellingOf (p0 : Int32) (p1 : Int32) (T : mT) : Option (Int32) := bif inb ((112 + (6 * p0)) + p1) 410 then (letv (T.1 10 (((112 + (6 * p0)) + p1) : Int32).toNatClampNeg) fun v1 => some v1) else none
theorem xm_tellingOf {l : Launch} {p0 : Int32} {p1 : Int32} {T : mT} {q : Int32} (hf : fm_tellingOf p0 p1 T = some q) : MOk l yy_X12_tellingOf 0 [.int p0, .int p1] T (some (.int q)) T := by
  refine MOk.of (ls := [some (.ref 137), some (.int p0), some (.int p1)]) (by decide +kernel) (Nat.le_of_ble_eq_true rfl) rfl ?_
  unfold fm_tellingOf at hf
  refine MW.run rfl [(.aload_n 0, 0), (.getfield 39, 0), (.bipush 112, 112), (.bipush 6, 6), (.iload_n 1, 0), (.imul, 0), (.iadd, 0), (.iload_n 2, 0), (.iadd, 0)] (pc' := 13) (ls' := [some (.ref 137), some (.int p0), some (.int p1)]) (st' := [.int ((112 + (6 * p0)) + p1), .ref 147]) (T1 := T) (by decide +kernel) rfl ?_
  obtain ⟨hi_v1, hf⟩ := bi_some hf
  obtain ⟨v1, hv1, hf⟩ := letv_some hf
  refine MW.iald 10 410 rfl (by decide) rfl (by decide +kernel) (inb_in hi_v1) ?_
  rw [← hv1]
  have e9 := Option.some.inj hf
  subst e9
  exact MW.iret rfl (by decide +kernel)
def fm_tieOf (p0 : Int32) (p1 : Int32) (T : mT) : Option (Int32) := bif inb ((40 + (8 * p0)) + p1) 410 then (letv (T.1 10 (((40 + (8 * p0)) + p1) : Int32).toNatClampNeg) fun v1 => some v1) else none
theorem xm_tieOf {l : Launch} {p0 : Int32} {p1 : Int32} {T : mT} {q : Int32} (hf : fm_tieOf p0 p1 T = some q) : MOk l yy_X12_tieOf 0 [.int p0, .int p1] T (some (.int q)) T := by
  refine MOk.of (ls := [some (.ref 137), some (.int p0), some (.int p1)]) (by decide +kernel) (Nat.le_of_ble_eq_true rfl) rfl ?_
  unfold fm_tieOf at hf
  refine MW.run rfl [(.aload_n 0, 0), (.getfield 39, 0), (.bipush 40, 40), (.bipush 8, 8), (.iload_n 1, 0), (.imul, 0), (.iadd, 0), (.iload_n 2, 0), (.iadd, 0)] (pc' := 13) (ls' := [some (.ref 137), some (.int p0), some (.int p1)]) (st' := [.int ((40 + (8 * p0)) + p1), .ref 147]) (T1 := T) (by decide +kernel) rfl ?_
  obtain ⟨hi_v1, hf⟩ := bi_some hf
  obtain ⟨v1, hv1, hf⟩ := letv_some hf
  refine MW.iald 10 410 rfl (by decide) rfl (by decide +kernel) (inb_in hi_v1) ?_
  rw [← hv1]
  have e9 := Option.some.inj hf
  subst e9
  exact MW.iret rfl (by decide +kernel)
def fm_isLook (p0 : Int32) (T : mT) : Option (Bool) := (fm_tellingOf p0 0 T).bind fun q1 => (fm_tellingOf p0 1 T).bind fun q2 => if q1 = q2 then (some true) else (some false)
theorem xm_isLook {l : Launch} {p0 : Int32} {T : mT} {q : Bool} (hf : fm_isLook p0 T = some q) : MOk l yy_X12_isLook 1 [.int p0] T (some (.int (b2i q))) T := by
  refine MOk.of (ls := [some (.ref 137), some (.int p0)]) (by decide +kernel) (Nat.le_of_ble_eq_true rfl) rfl ?_
  unfold fm_isLook at hf
  refine MW.run rfl [(.aload_n 0, 0), (.iload_n 1, 0), (.iconst 0, 0)] (pc' := 3) (ls' := [some (.ref 137), some (.int p0)]) (st' := [.int 0, .int p0, .ref 137]) (T1 := T) (by decide +kernel) rfl ?_
  obtain ⟨q1, hq1, hf⟩ := bd_some hf
  refine MW.callV (As := [.int p0, .int 0]) (st := []) lv_RX12_278 rfl (by decide +kernel) (xm_tellingOf hq1) (by decide) (by decide) rfl (Nat.le_of_ble_eq_true rfl) rfl ?_
  show MW l yy_X12_isLook 1 _ _ 6 [some (.ref 137), some (.int p0)] [.int q1] T
  refine MW.run rfl [(.aload_n 0, 0), (.iload_n 1, 0), (.iconst 1, 1)] (pc' := 9) (ls' := [some (.ref 137), some (.int p0)]) (st' := [.int 1, .int p0, .ref 137, .int q1]) (T1 := T) (by decide +kernel) rfl ?_
  obtain ⟨q2, hq2, hf⟩ := bd_some hf
  refine MW.callV (As := [.int p0, .int 1]) (st := [.int q1]) lv_RX12_278 rfl (by decide +kernel) (xm_tellingOf hq2) (by decide) (by decide) rfl (Nat.le_of_ble_eq_true rfl) rfl ?_
  show MW l yy_X12_isLook 1 _ _ 12 [some (.ref 137), some (.int p0)] [.int q2, .int q1] T
  refine MW.icmp_ne (off := 7) (tgt := 19) (by decide +kernel) (by decide) (fun c12_3 => ?_) (fun c12_3 => ?_)
  · rw [if_neg c12_3] at hf
    refine MW.run rfl [(.iconst 0, 0)] (pc' := 20) (ls' := [some (.ref 137), some (.int p0)]) (st' := [.int 0]) (T1 := T) (by decide +kernel) rfl ?_
    have e9 := Option.some.inj hf
    subst e9
    exact MW.zret rfl (b2i_nar _) (by decide +kernel)
  · rw [if_pos c12_3] at hf
    refine MW.run rfl [(.iconst 1, 1), (.goto 4, 0)] (pc' := 20) (ls' := [some (.ref 137), some (.int p0)]) (st' := [.int 1]) (T1 := T) (by decide +kernel) rfl ?_
    have e9 := Option.some.inj hf
    subst e9
    exact MW.zret rfl (b2i_nar _) (by decide +kernel)
def fm_allMarks  (T : mT) : Option (Int32) := bif inb 0 410 then (letv (T.1 10 (0 : Int32).toNatClampNeg) fun v1 => some ((1 <<< (v1 &&& 31)) - 1)) else none
theorem xm_allMarks {l : Launch}  {T : mT} {q : Int32} (hf : fm_allMarks  T = some q) : MOk l yy_X12_allMarks 0 [] T (some (.int q)) T := by
  refine MOk.of (ls := [some (.ref 137)]) (by decide +kernel) (Nat.le_of_ble_eq_true rfl) rfl ?_
  unfold fm_allMarks at hf
  refine MW.run rfl [(.iconst 1, 1), (.aload_n 0, 0), (.getfield 39, 0), (.iconst 0, 0)] (pc' := 6) (ls' := [some (.ref 137)]) (st' := [.int 0, .ref 147, .int 1]) (T1 := T) (by decide +kernel) rfl ?_
  obtain ⟨hi_v1, hf⟩ := bi_some hf
  obtain ⟨v1, hv1, hf⟩ := letv_some hf
  refine MW.iald 10 410 rfl (by decide) rfl (by decide +kernel) (inb_in hi_v1) ?_
  rw [← hv1]
  refine MW.run rfl [(.ishl, 0), (.iconst 1, 1), (.isub, 0)] (pc' := 10) (ls' := [some (.ref 137)]) (st' := [.int ((1 <<< (v1 &&& 31)) - 1)]) (T1 := T) (by decide +kernel) rfl ?_
  have e9 := Option.some.inj hf
  subst e9
  exact MW.iret rfl (by decide +kernel)
def fm_stepsOf_L4 (k1 : Int32) (T : mT) : Nat → Int32 → Int32 → Option (Int32 × Int32)
  | 0, _, _ => none
  | N + 1, a2, a3 => (fm_tellingOf a3 5 T).bind fun q1 => if q1 < 0 then (some (a2, a3)) else ((fm_tellingOf a3 5 T).bind fun q3 => fm_stepsOf_L4 k1 T N (a2 + 1) q3)
def fm_stepsOf (p0 : Int32) (T : mT) : Option (Int32) := (fm_stepsOf_L4 p0 T FU 0 p0).bind fun w4 => some w4.1
theorem xm_stepsOf_L4 {l : Launch} {r : Option Value} {T' : mT} (k1 : Int32) (T : mT) : ∀ (N : Nat) (a2 : Int32) (a3 : Int32) (W0 : Int32 × Int32) (_ : fm_stepsOf_L4 k1 T N a2 a3 = some W0) (_ : MW l yy_X12_stepsOf 1 r T' 26 [some (.ref 137), some (.int k1), some (.int W0.1), some (.int W0.2)] [] T), MW l yy_X12_stepsOf 1 r T' 4 [some (.ref 137), some (.int k1), some (.int a2), some (.int a3)] [] T := by
  intro N
  induction N with
  | zero =>
    intro a2 a3 W0 hf _
    cases hf
  | succ N ih =>
    intro a2 a3 W0 hf hk1
    unfold fm_stepsOf_L4 at hf
    refine MW.run rfl [(.aload_n 0, 0), (.iload_n 3, 0), (.iconst 5, 5)] (pc' := 7) (ls' := [some (.ref 137), some (.int k1), some (.int a2), some (.int a3)]) (st' := [.int 5, .int a3, .ref 137]) (T1 := T) (by decide +kernel) rfl ?_
    obtain ⟨q1, hq1, hf⟩ := bd_some hf
    refine MW.callV (As := [.int a3, .int 5]) (st := []) lv_RX12_278 rfl (by decide +kernel) (xm_tellingOf hq1) (by decide) (by decide) rfl (Nat.le_of_ble_eq_true rfl) rfl ?_
    show MW l yy_X12_stepsOf 1 _ _ 10 [some (.ref 137), some (.int k1), some (.int a2), some (.int a3)] [.int q1] T
    refine MW.if_lt (off := 16) (tgt := 26) (by decide +kernel) (by decide) (fun c10_2 => ?_) (fun c10_2 => ?_)
    · rw [if_pos c10_2] at hf
      have e9 := Option.some.inj hf
      subst e9
      exact hk1
    · rw [if_neg c10_2] at hf
      refine MW.run rfl [(.iinc 2 1, 1), (.aload_n 0, 0), (.iload_n 3, 0), (.iconst 5, 5)] (pc' := 19) (ls' := [some (.ref 137), some (.int k1), some (.int (a2 + 1)), some (.int a3)]) (st' := [.int 5, .int a3, .ref 137]) (T1 := T) (by decide +kernel) rfl ?_
      obtain ⟨q3, hq3, hf⟩ := bd_some hf
      refine MW.callV (As := [.int a3, .int 5]) (st := []) lv_RX12_278 rfl (by decide +kernel) (xm_tellingOf hq3) (by decide) (by decide) rfl (Nat.le_of_ble_eq_true rfl) rfl ?_
      show MW l yy_X12_stepsOf 1 _ _ 22 [some (.ref 137), some (.int k1), some (.int (a2 + 1)), some (.int a3)] [.int q3] T
      refine MW.run rfl [(.istore_n 3, 0), (.goto (-19), 0)] (pc' := 4) (ls' := [some (.ref 137), some (.int k1), some (.int (a2 + 1)), some (.int q3)]) (st' := []) (T1 := T) (by decide +kernel) rfl ?_
      exact ih _ _ _ hf hk1
theorem xm_stepsOf {l : Launch} {p0 : Int32} {T : mT} {q : Int32} (hf : fm_stepsOf p0 T = some q) : MOk l yy_X12_stepsOf 1 [.int p0] T (some (.int q)) T := by
  refine MOk.of (ls := [some (.ref 137), some (.int p0), none, none]) (by decide +kernel) (Nat.le_of_ble_eq_true rfl) rfl ?_
  unfold fm_stepsOf at hf
  refine MW.run rfl [(.iconst 0, 0), (.istore_n 2, 0), (.iload_n 1, 0), (.istore_n 3, 0)] (pc' := 4) (ls' := [some (.ref 137), some (.int p0), some (.int 0), some (.int p0)]) (st' := []) (T1 := T) (by decide +kernel) rfl ?_
  obtain ⟨w4, hw4, hf⟩ := bd_some hf
  refine xm_stepsOf_L4 p0 T FU _ _ _ hw4 ?_
  refine MW.run rfl [(.iload_n 2, 0)] (pc' := 27) (ls' := [some (.ref 137), some (.int p0), some (.int w4.1), some (.int w4.2)]) (st' := [.int w4.1]) (T1 := T) (by decide +kernel) rfl ?_
  have e9 := Option.some.inj hf
  subst e9
  exact MW.iret rfl (by decide +kernel)
