/-! ===== the reference, method by method (by program) 3 ===== -/
def fm_fact_L2  : Nat → Int32 → mT → Option ((Int32 × mT) ⊕ (Bool × mT))
  | 0, _, _ => none
  | N + 1, a1, T => if a1 = 0 then (some (.inl (a1, T))) else ((fm_see T).bind fun q2 => (fm_isWord 7237492 q2.2).bind fun q3 => if (b2i q3.1) = 0 then (if q2.1 = 91 then ((fm_opens 91 q3.2).bind fun q6 => if (b2i q6.1) = 0 then (some (.inr (false, q6.2))) else (letv (mz q6.2 8 ((q6.2.1 0 8) + 1)) fun T8 => fm_fact_L2  N 1 T8)) else (fm_fact_L2  N 0 q3.2)) else ((fm_opens 11 q3.2).bind fun q9 => if (b2i q9.1) = 0 then (some (.inr (false, q9.2))) else ((fm_passWord q9.2).bind fun q11 => fm_fact_L2  N 1 q11)))
def fm_fact  (T : mT) : Option (Bool × mT) := (fm_fact_L2 FU 1 T).bind fun w12 => Sum.elim (fun w12a => (fm_compare w12a.2).bind fun q13 => some (q13.1, q13.2)) (fun w12b => some w12b) w12
theorem xm_fact_L2 {l : Launch} {r : Option Value} {T' : mT}  : ∀ (N : Nat) (a1 : Int32) (T : mT) (W0 : (Int32 × mT) ⊕ (Bool × mT)) (_ : fm_fact_L2  N a1 T = some W0) (_ : ∀ W, W0 = .inl W → MW l yy_X12_fact 7 r T' 75 [some (.ref 137), some (.int W.1), none] [] W.2) (_ : ∀ Y, W0 = .inr Y → r = some (.int (b2i (Y.1))) ∧ T' = Y.2), MW l yy_X12_fact 7 r T' 2 [some (.ref 137), some (.int a1), none] [] T := by
  intro N
  induction N with
  | zero =>
    intro a1 T W0 hf _ _
    cases hf
  | succ N ih =>
    intro a1 T W0 hf hk1 hk2
    unfold fm_fact_L2 at hf
    refine MW.run rfl [(.iload_n 1, 0)] (pc' := 3) (ls' := [some (.ref 137), some (.int a1), none]) (st' := [.int a1]) (T1 := T) (by decide +kernel) rfl ?_
    refine MW.if_eq (off := 72) (tgt := 75) (by decide +kernel) (by decide) (fun c3_1 => ?_) (fun c3_1 => ?_)
    · rw [if_pos c3_1] at hf
      have e9 := Option.some.inj hf
      subst e9
      exact hk1 (a1, T) rfl
    · rw [if_neg c3_1] at hf
      refine MW.run rfl [(.iconst 0, 0), (.istore_n 1, 0), (.aload_n 0, 0)] (pc' := 9) (ls' := [some (.ref 137), some (.int 0), none]) (st' := [.ref 137]) (T1 := T) (by decide +kernel) rfl ?_
      obtain ⟨q2, hq2, hf⟩ := bd_some hf
      refine MW.callV (As := []) (st := []) lv_RX12_85 rfl (by decide +kernel) (xm_see hq2) (by decide) (by decide) rfl (Nat.le_of_ble_eq_true rfl) rfl ?_
      show MW l yy_X12_fact 7 _ _ 12 [some (.ref 137), some (.int 0), none] [.int q2.1] q2.2
      refine MW.run rfl [(.istore_n 2, 0), (.aload_n 0, 0)] (pc' := 14) (ls' := [some (.ref 137), some (.int 0), some (.int q2.1)]) (st' := [.ref 137]) (T1 := q2.2) (by decide +kernel) rfl ?_
      refine MW.ldc2 (idx := 170) (v := 7237492) (tb_in 1303 (by decide +kernel) (by decide +kernel)) (by decide +kernel) ?_
      obtain ⟨q3, hq3, hf⟩ := bd_some hf
      refine MW.callV (As := [.long 7237492]) (st := []) lv_RX12_93 rfl (by decide +kernel) (xm_isWord hq3) (by decide) (by decide) rfl (Nat.le_of_ble_eq_true rfl) rfl ?_
      show MW l yy_X12_fact 7 _ _ 20 [some (.ref 137), some (.int 0), some (.int q2.1)] [.int (b2i q3.1)] q3.2
      refine MW.if_eq (off := 23) (tgt := 43) (by decide +kernel) (by decide) (fun c20_4 => ?_) (fun c20_4 => ?_)
      · rw [if_pos c20_4] at hf
        refine MW.run rfl [(.iload_n 2, 0), (.bipush 91, 91)] (pc' := 46) (ls' := [some (.ref 137), some (.int 0), some (.int q2.1)]) (st' := [.int 91, .int q2.1]) (T1 := q3.2) (by decide +kernel) rfl ?_
        refine MW.icmp_ne (off := 26) (tgt := 72) (by decide +kernel) (by decide) (fun c46_5 => ?_) (fun c46_5 => ?_)
        · rw [if_neg c46_5] at hf
          refine MW.run rfl [(.goto (-70), 0)] (pc' := 2) (ls' := [some (.ref 137), some (.int 0), some (.int q2.1)]) (st' := []) (T1 := q3.2) (by decide +kernel) rfl ?_
          refine MW.fgt (ls' := [some (.ref 137), some (.int 0), none]) (by repeat' (first | exact trivial | refine ⟨rfl, ?_⟩)) ?_
          exact ih _ _ _ hf hk1 hk2
        · rw [if_pos c46_5] at hf
          refine MW.run rfl [(.aload_n 0, 0), (.bipush 91, 91)] (pc' := 52) (ls' := [some (.ref 137), some (.int 0), some (.int q2.1)]) (st' := [.int 91, .ref 137]) (T1 := q3.2) (by decide +kernel) rfl ?_
          obtain ⟨q6, hq6, hf⟩ := bd_some hf
          refine MW.callV (As := [.int 91]) (st := []) lv_RX12_172 rfl (by decide +kernel) (xm_opens hq6) (by decide) (by decide) rfl (Nat.le_of_ble_eq_true rfl) rfl ?_
          show MW l yy_X12_fact 7 _ _ 55 [some (.ref 137), some (.int 0), some (.int q2.1)] [.int (b2i q6.1)] q6.2
          refine MW.if_ne (off := 5) (tgt := 60) (by decide +kernel) (by decide) (fun c55_7 => ?_) (fun c55_7 => ?_)
          · rw [if_neg c55_7] at hf
            refine MW.run rfl [(.aload_n 0, 0), (.dup, 0), (.getfield 82, 0), (.iconst 1, 1), (.iadd, 0), (.putfield 82, 0)] (pc' := 70) (ls' := [some (.ref 137), some (.int 0), some (.int q2.1)]) (st' := []) (T1 := mz q6.2 8 ((q6.2.1 0 8) + 1)) (by decide +kernel) rfl ?_
            obtain ⟨T8, hT8, hf⟩ := letv_some hf
            rw [← hT8]
            refine MW.run rfl [(.iconst 1, 1), (.istore_n 1, 0), (.goto (-70), 0)] (pc' := 2) (ls' := [some (.ref 137), some (.int 1), some (.int q2.1)]) (st' := []) (T1 := T8) (by decide +kernel) rfl ?_
            refine MW.fgt (ls' := [some (.ref 137), some (.int 1), none]) (by repeat' (first | exact trivial | refine ⟨rfl, ?_⟩)) ?_
            exact ih _ _ _ hf hk1 hk2
          · rw [if_pos c55_7] at hf
            refine MW.run rfl [(.iconst 0, 0)] (pc' := 59) (ls' := [some (.ref 137), some (.int 0), some (.int q2.1)]) (st' := [.int 0]) (T1 := q6.2) (by decide +kernel) rfl ?_
            have e9 := Option.some.inj hf
            subst e9
            obtain ⟨e1, e2⟩ := (hk2 _ rfl)
            subst e1
            subst e2
            exact MW.zret rfl (b2i_nar _) (by decide +kernel)
      · rw [if_neg c20_4] at hf
        refine MW.run rfl [(.aload_n 0, 0), (.bipush 11, 11)] (pc' := 26) (ls' := [some (.ref 137), some (.int 0), some (.int q2.1)]) (st' := [.int 11, .ref 137]) (T1 := q3.2) (by decide +kernel) rfl ?_
        obtain ⟨q9, hq9, hf⟩ := bd_some hf
        refine MW.callV (As := [.int 11]) (st := []) lv_RX12_172 rfl (by decide +kernel) (xm_opens hq9) (by decide) (by decide) rfl (Nat.le_of_ble_eq_true rfl) rfl ?_
        show MW l yy_X12_fact 7 _ _ 29 [some (.ref 137), some (.int 0), some (.int q2.1)] [.int (b2i q9.1)] q9.2
        refine MW.if_ne (off := 5) (tgt := 34) (by decide +kernel) (by decide) (fun c29_10 => ?_) (fun c29_10 => ?_)
        · rw [if_neg c29_10] at hf
          refine MW.run rfl [(.aload_n 0, 0)] (pc' := 35) (ls' := [some (.ref 137), some (.int 0), some (.int q2.1)]) (st' := [.ref 137]) (T1 := q9.2) (by decide +kernel) rfl ?_
          obtain ⟨q11, hq11, hf⟩ := bd_some hf
          refine MW.callV (As := []) (st := []) lv_RX12_97 rfl (by decide +kernel) (xm_passWord hq11) (by decide) (by decide) rfl (Nat.le_of_ble_eq_true rfl) rfl ?_
          show MW l yy_X12_fact 7 _ _ 38 [some (.ref 137), some (.int 0), some (.int q2.1)] [] q11
          refine MW.run rfl [(.iconst 1, 1), (.istore_n 1, 0), (.goto 32, 0), (.goto (-70), 0)] (pc' := 2) (ls' := [some (.ref 137), some (.int 1), some (.int q2.1)]) (st' := []) (T1 := q11) (by decide +kernel) rfl ?_
          refine MW.fgt (ls' := [some (.ref 137), some (.int 1), none]) (by repeat' (first | exact trivial | refine ⟨rfl, ?_⟩)) ?_
          exact ih _ _ _ hf hk1 hk2
        · rw [if_pos c29_10] at hf
          refine MW.run rfl [(.iconst 0, 0)] (pc' := 33) (ls' := [some (.ref 137), some (.int 0), some (.int q2.1)]) (st' := [.int 0]) (T1 := q9.2) (by decide +kernel) rfl ?_
          have e9 := Option.some.inj hf
          subst e9
          obtain ⟨e1, e2⟩ := (hk2 _ rfl)
          subst e1
          subst e2
          exact MW.zret rfl (b2i_nar _) (by decide +kernel)
theorem xm_fact {l : Launch}  {T : mT} {q : Bool × mT} (hf : fm_fact  T = some q) : MOk l yy_X12_fact 7 [] T (some (.int (b2i q.1))) q.2 := by
  refine MOk.of (ls := [some (.ref 137), none, none]) (by decide +kernel) (Nat.le_of_ble_eq_true rfl) rfl ?_
  unfold fm_fact at hf
  refine MW.run rfl [(.iconst 1, 1), (.istore_n 1, 0)] (pc' := 2) (ls' := [some (.ref 137), some (.int 1), none]) (st' := []) (T1 := T) (by decide +kernel) rfl ?_
  obtain ⟨w12, hw12, hf⟩ := bd_some hf
  refine xm_fact_L2  FU _ _ _ hw12 (fun w12a hsw12 => ?_) (fun w12b hsw12 => ?_)
  · subst hsw12
    simp only [Sum.elim_inl] at hf
    refine MW.run rfl [(.aload_n 0, 0)] (pc' := 76) (ls' := [some (.ref 137), some (.int w12a.1), none]) (st' := [.ref 137]) (T1 := w12a.2) (by decide +kernel) rfl ?_
    obtain ⟨q13, hq13, hf⟩ := bd_some hf
    refine MW.callV (As := []) (st := []) lv_RX12_175 rfl (by decide +kernel) (xm_compare hq13) (by decide) (by decide) rfl (Nat.le_of_ble_eq_true rfl) rfl ?_
    show MW l yy_X12_fact 7 _ _ 79 [some (.ref 137), some (.int w12a.1), none] [.int (b2i q13.1)] q13.2
    have e9 := Option.some.inj hf
    subst e9
    exact MW.zret rfl (b2i_nar _) (by decide +kernel)
  · subst hsw12
    simp only [Sum.elim_inr] at hf
    have e9 := Option.some.inj hf
    subst e9
    exact ⟨rfl, rfl⟩
def fm_isInside_L2  (T : mT) : Nat → Int32 → Option ((Int32) ⊕ (Bool))
  | 0, _ => none
  | N + 1, a1 => if (T.1 0 16) ≤ a1 then (some (.inl (a1))) else (bif inb a1 400 then (letv (T.1 7 (a1 : Int32).toNatClampNeg) fun v2 => if v2 = 91 then (some (.inr true)) else (fm_isInside_L2 T N (a1 + 1))) else none)
def fm_isInside  (T : mT) : Option (Bool) := (fm_isInside_L2 T FU 0).bind fun w4 => Sum.elim (fun w4a => some false) (fun w4b => some w4b) w4
theorem xm_isInside_L2 {l : Launch} {r : Option Value} {T' : mT}  (T : mT) : ∀ (N : Nat) (a1 : Int32) (W0 : (Int32) ⊕ (Bool)) (_ : fm_isInside_L2 T N a1 = some W0) (_ : ∀ W, W0 = .inl W → MW l yy_X12_isInside 0 r T' 29 [some (.ref 137), some (.int W)] [] T) (_ : ∀ Y, W0 = .inr Y → r = some (.int (b2i (Y))) ∧ T' = T), MW l yy_X12_isInside 0 r T' 2 [some (.ref 137), some (.int a1)] [] T := by
  intro N
  induction N with
  | zero =>
    intro a1 W0 hf _ _
    cases hf
  | succ N ih =>
    intro a1 W0 hf hk1 hk2
    unfold fm_isInside_L2 at hf
    refine MW.run rfl [(.iload_n 1, 0), (.aload_n 0, 0), (.getfield 139, 0)] (pc' := 7) (ls' := [some (.ref 137), some (.int a1)]) (st' := [.int (T.1 0 16), .int a1]) (T1 := T) (by decide +kernel) rfl ?_
    refine MW.icmp_ge (off := 22) (tgt := 29) (by decide +kernel) (by decide) (fun c7_1 => ?_) (fun c7_1 => ?_)
    · rw [if_pos c7_1] at hf
      have e9 := Option.some.inj hf
      subst e9
      exact hk1 (a1) rfl
    · rw [if_neg c7_1] at hf
      refine MW.run rfl [(.aload_n 0, 0), (.getfield 29, 0), (.iload_n 1, 0)] (pc' := 15) (ls' := [some (.ref 137), some (.int a1)]) (st' := [.int a1, .ref 144]) (T1 := T) (by decide +kernel) rfl ?_
      obtain ⟨hi_v2, hf⟩ := bi_some hf
      obtain ⟨v2, hv2, hf⟩ := letv_some hf
      refine MW.iald 7 400 rfl (by decide) rfl (by decide +kernel) (inb_in hi_v2) ?_
      rw [← hv2]
      refine MW.run rfl [(.bipush 91, 91)] (pc' := 18) (ls' := [some (.ref 137), some (.int a1)]) (st' := [.int 91, .int v2]) (T1 := T) (by decide +kernel) rfl ?_
      refine MW.icmp_ne (off := 5) (tgt := 23) (by decide +kernel) (by decide) (fun c18_3 => ?_) (fun c18_3 => ?_)
      · rw [if_neg c18_3] at hf
        refine MW.run rfl [(.iinc 1 1, 1), (.goto (-24), 0)] (pc' := 2) (ls' := [some (.ref 137), some (.int (a1 + 1))]) (st' := []) (T1 := T) (by decide +kernel) rfl ?_
        exact ih _ _ hf hk1 hk2
      · rw [if_pos c18_3] at hf
        refine MW.run rfl [(.iconst 1, 1)] (pc' := 22) (ls' := [some (.ref 137), some (.int a1)]) (st' := [.int 1]) (T1 := T) (by decide +kernel) rfl ?_
        have e9 := Option.some.inj hf
        subst e9
        obtain ⟨e1, e2⟩ := (hk2 _ rfl)
        subst e1
        subst e2
        exact MW.zret rfl (b2i_nar _) (by decide +kernel)
theorem xm_isInside {l : Launch}  {T : mT} {q : Bool} (hf : fm_isInside  T = some q) : MOk l yy_X12_isInside 0 [] T (some (.int (b2i q))) T := by
  refine MOk.of (ls := [some (.ref 137), none]) (by decide +kernel) (Nat.le_of_ble_eq_true rfl) rfl ?_
  unfold fm_isInside at hf
  refine MW.run rfl [(.iconst 0, 0), (.istore_n 1, 0)] (pc' := 2) (ls' := [some (.ref 137), some (.int 0)]) (st' := []) (T1 := T) (by decide +kernel) rfl ?_
  obtain ⟨w4, hw4, hf⟩ := bd_some hf
  refine xm_isInside_L2  T FU _ _ hw4 (fun w4a hsw4 => ?_) (fun w4b hsw4 => ?_)
  · subst hsw4
    simp only [Sum.elim_inl] at hf
    refine MW.run rfl [(.iconst 0, 0)] (pc' := 30) (ls' := [some (.ref 137), some (.int w4a)]) (st' := [.int 0]) (T1 := T) (by decide +kernel) rfl ?_
    have e9 := Option.some.inj hf
    subst e9
    exact MW.zret rfl (b2i_nar _) (by decide +kernel)
  · subst hsw4
    simp only [Sum.elim_inr] at hf
    have e9 := Option.some.inj hf
    subst e9
    exact ⟨rfl, rfl⟩
def fm_closes_L5  : Nat → mT → Option (mT)
  | 0, _ => none
  | N + 1, T => (fm_see T).bind fun q2 => if q2.1 = 93 then ((fm_isInside q2.2).bind fun q4 => if (b2i q4) = 0 then (some (q2.2)) else ((fm_settles 1 q2.2).bind fun q6 => letv (mz q6 16 ((q6.1 0 16) - 1)) fun T7 => letv (mz T7 13 ((T7.1 0 13) - 1)) fun T8 => letv (mz T8 8 ((T8.1 0 8) + 1)) fun T9 => (fm_settles 3 T9).bind fun q10 => fm_closes_L5  N  q10)) else (some (q2.2))
def fm_closes  (T : mT) : Option (mT) := (fm_settles 3 T).bind fun q1 => (fm_closes_L5 FU q1).bind fun w11 => some w11
theorem xm_closes_L5 {l : Launch} {r : Option Value} {T' : mT}  : ∀ (N : Nat) (T : mT) (W0 : mT) (_ : fm_closes_L5  N  T = some W0) (_ : MW l yy_X12_closes 2 r T' 64 [some (.ref 137)] [] W0), MW l yy_X12_closes 2 r T' 5 [some (.ref 137)] [] T := by
  intro N
  induction N with
  | zero =>
    intro  T W0 hf _
    cases hf
  | succ N ih =>
    intro  T W0 hf hk1
    unfold fm_closes_L5 at hf
    refine MW.run rfl [(.aload_n 0, 0)] (pc' := 6) (ls' := [some (.ref 137)]) (st' := [.ref 137]) (T1 := T) (by decide +kernel) rfl ?_
    obtain ⟨q2, hq2, hf⟩ := bd_some hf
    refine MW.callV (As := []) (st := []) lv_RX12_85 rfl (by decide +kernel) (xm_see hq2) (by decide) (by decide) rfl (Nat.le_of_ble_eq_true rfl) rfl ?_
    show MW l yy_X12_closes 2 _ _ 9 [some (.ref 137)] [.int q2.1] q2.2
    refine MW.run rfl [(.bipush 93, 93)] (pc' := 11) (ls' := [some (.ref 137)]) (st' := [.int 93, .int q2.1]) (T1 := q2.2) (by decide +kernel) rfl ?_
    refine MW.icmp_ne (off := 53) (tgt := 64) (by decide +kernel) (by decide) (fun c11_3 => ?_) (fun c11_3 => ?_)
    · rw [if_neg c11_3] at hf
      have e9 := Option.some.inj hf
      subst e9
      exact hk1
    · rw [if_pos c11_3] at hf
      refine MW.run rfl [(.aload_n 0, 0)] (pc' := 15) (ls' := [some (.ref 137)]) (st' := [.ref 137]) (T1 := q2.2) (by decide +kernel) rfl ?_
      obtain ⟨q4, hq4, hf⟩ := bd_some hf
      refine MW.callV (As := []) (st := []) lv_RX12_181 rfl (by decide +kernel) (xm_isInside hq4) (by decide) (by decide) rfl (Nat.le_of_ble_eq_true rfl) rfl ?_
      show MW l yy_X12_closes 2 _ _ 18 [some (.ref 137)] [.int (b2i q4)] q2.2
      refine MW.if_eq (off := 46) (tgt := 64) (by decide +kernel) (by decide) (fun c18_5 => ?_) (fun c18_5 => ?_)
      · rw [if_pos c18_5] at hf
        have e9 := Option.some.inj hf
        subst e9
        exact hk1
      · rw [if_neg c18_5] at hf
        refine MW.run rfl [(.aload_n 0, 0), (.iconst 1, 1)] (pc' := 23) (ls' := [some (.ref 137)]) (st' := [.int 1, .ref 137]) (T1 := q2.2) (by decide +kernel) rfl ?_
        obtain ⟨q6, hq6, hf⟩ := bd_some hf
        refine MW.callV (As := [.int 1]) (st := []) lv_RX12_178 rfl (by decide +kernel) (xm_settles hq6) (by decide) (by decide) rfl (Nat.le_of_ble_eq_true rfl) rfl ?_
        show MW l yy_X12_closes 2 _ _ 26 [some (.ref 137)] [] q6
        refine MW.run rfl [(.aload_n 0, 0), (.dup, 0), (.getfield 139, 0), (.iconst 1, 1), (.isub, 0), (.putfield 139, 0)] (pc' := 36) (ls' := [some (.ref 137)]) (st' := []) (T1 := mz q6 16 ((q6.1 0 16) - 1)) (by decide +kernel) rfl ?_
        obtain ⟨T7, hT7, hf⟩ := letv_some hf
        rw [← hT7]
        refine MW.run rfl [(.aload_n 0, 0), (.dup, 0), (.getfield 136, 0), (.iconst 1, 1), (.isub, 0), (.putfield 136, 0)] (pc' := 46) (ls' := [some (.ref 137)]) (st' := []) (T1 := mz T7 13 ((T7.1 0 13) - 1)) (by decide +kernel) rfl ?_
        obtain ⟨T8, hT8, hf⟩ := letv_some hf
        rw [← hT8]
        refine MW.run rfl [(.aload_n 0, 0), (.dup, 0), (.getfield 82, 0), (.iconst 1, 1), (.iadd, 0), (.putfield 82, 0)] (pc' := 56) (ls' := [some (.ref 137)]) (st' := []) (T1 := mz T8 8 ((T8.1 0 8) + 1)) (by decide +kernel) rfl ?_
        obtain ⟨T9, hT9, hf⟩ := letv_some hf
        rw [← hT9]
        refine MW.run rfl [(.aload_n 0, 0), (.iconst 3, 3)] (pc' := 58) (ls' := [some (.ref 137)]) (st' := [.int 3, .ref 137]) (T1 := T9) (by decide +kernel) rfl ?_
        obtain ⟨q10, hq10, hf⟩ := bd_some hf
        refine MW.callV (As := [.int 3]) (st := []) lv_RX12_178 rfl (by decide +kernel) (xm_settles hq10) (by decide) (by decide) rfl (Nat.le_of_ble_eq_true rfl) rfl ?_
        show MW l yy_X12_closes 2 _ _ 61 [some (.ref 137)] [] q10
        refine MW.run rfl [(.goto (-56), 0)] (pc' := 5) (ls' := [some (.ref 137)]) (st' := []) (T1 := q10) (by decide +kernel) rfl ?_
        exact ih _ _ hf hk1
theorem xm_closes {l : Launch}  {T : mT} {q : mT} (hf : fm_closes  T = some q) : MOk l yy_X12_closes 2 [] T none q := by
  refine MOk.of (ls := [some (.ref 137)]) (by decide +kernel) (Nat.le_of_ble_eq_true rfl) rfl ?_
  unfold fm_closes at hf
  refine MW.run rfl [(.aload_n 0, 0), (.iconst 3, 3)] (pc' := 2) (ls' := [some (.ref 137)]) (st' := [.int 3, .ref 137]) (T1 := T) (by decide +kernel) rfl ?_
  obtain ⟨q1, hq1, hf⟩ := bd_some hf
  refine MW.callV (As := [.int 3]) (st := []) lv_RX12_178 rfl (by decide +kernel) (xm_settles hq1) (by decide) (by decide) rfl (Nat.le_of_ble_eq_true rfl) rfl ?_
  show MW l yy_X12_closes 2 _ _ 5 [some (.ref 137)] [] q1
  obtain ⟨w11, hw11, hf⟩ := bd_some hf
  refine xm_closes_L5  FU _ _ hw11 ?_
  have e9 := Option.some.inj hf
  subst e9
  exact MW.vret rfl (by decide +kernel)
def fm_tested_L12  : Nat → Int32 → mT → Option ((Int32 × mT) ⊕ (Bool × mT))
  | 0, _, _ => none
  | N + 1, a1, T => if a1 = 0 then (some (.inl (a1, T))) else ((fm_fact T).bind fun q4 => if (b2i q4.1) = 0 then (some (.inr (false, q4.2))) else ((fm_closes q4.2).bind fun q6 => (fm_isWord 6385252 q6).bind fun q7 => Option.bind (if (b2i q7.1) = 0 then ((fm_isWord 28530 q7.2).bind fun q10 => if (b2i q10.1) = 0 then (some (0, q10.2)) else (some (1, q10.2))) else (some (1, q7.2)) : Option (Int32 × mT)) fun w8 => if w8.1 = 0 then (fm_tested_L12  N w8.1 w8.2) else ((fm_isWord 6385252 w8.2).bind fun q13 => Option.bind (if (b2i q13.1) = 0 then (some (13)) else (some (12)) : Option (Int32)) fun w14 => (fm_passWord q13.2).bind fun q16 => (fm_strength w14).bind fun q17 => (fm_settles q17 q16).bind fun q18 => bif inb (q18.1 0 16) 400 then (letv (ma q18 7 ((q18.1 0 16) : Int32).toNatClampNeg w14) fun T19 => letv (mz T19 16 ((T19.1 0 16) + 1)) fun T20 => fm_tested_L12  N w8.1 T20) else none)))
def fm_tested  (T : mT) : Option (Bool × mT) := letv (mz T 16 0) fun T1 => letv (mz T1 13 0) fun T2 => (fm_tested_L12 FU 1 T2).bind fun w21 => Sum.elim (fun w21a => (fm_isInside w21a.2).bind fun q22 => if (b2i q22) = 0 then ((fm_settles 1 w21a.2).bind fun q24 => some (true, q24)) else ((fm_see w21a.2).bind fun q25 => (fm_fails 0 (q25.2.1 0 8) q25.2).bind fun q26 => some (q26.1, q26.2))) (fun w21b => some w21b) w21
theorem xm_tested_L12 {l : Launch} {r : Option Value} {T' : mT}  : ∀ (N : Nat) (a1 : Int32) (T : mT) (W0 : (Int32 × mT) ⊕ (Bool × mT)) (_ : fm_tested_L12  N a1 T = some W0) (_ : ∀ W, W0 = .inl W → MW l yy_X12_tested 8 r T' 112 [some (.ref 137), some (.int W.1), none] [] W.2) (_ : ∀ Y, W0 = .inr Y → r = some (.int (b2i (Y.1))) ∧ T' = Y.2), MW l yy_X12_tested 8 r T' 12 [some (.ref 137), some (.int a1), none] [] T := by
  intro N
  induction N with
  | zero =>
    intro a1 T W0 hf _ _
    cases hf
  | succ N ih =>
    intro a1 T W0 hf hk1 hk2
    unfold fm_tested_L12 at hf
    refine MW.run rfl [(.iload_n 1, 0)] (pc' := 13) (ls' := [some (.ref 137), some (.int a1), none]) (st' := [.int a1]) (T1 := T) (by decide +kernel) rfl ?_
    refine MW.if_eq (off := 99) (tgt := 112) (by decide +kernel) (by decide) (fun c13_3 => ?_) (fun c13_3 => ?_)
    · rw [if_pos c13_3] at hf
      have e9 := Option.some.inj hf
      subst e9
      exact hk1 (a1, T) rfl
    · rw [if_neg c13_3] at hf
      refine MW.run rfl [(.aload_n 0, 0)] (pc' := 17) (ls' := [some (.ref 137), some (.int a1), none]) (st' := [.ref 137]) (T1 := T) (by decide +kernel) rfl ?_
      obtain ⟨q4, hq4, hf⟩ := bd_some hf
      refine MW.callV (As := []) (st := []) lv_RX12_184 rfl (by decide +kernel) (xm_fact hq4) (by decide) (by decide) rfl (Nat.le_of_ble_eq_true rfl) rfl ?_
      show MW l yy_X12_tested 8 _ _ 20 [some (.ref 137), some (.int a1), none] [.int (b2i q4.1)] q4.2
      refine MW.if_ne (off := 5) (tgt := 25) (by decide +kernel) (by decide) (fun c20_5 => ?_) (fun c20_5 => ?_)
      · rw [if_neg c20_5] at hf
        refine MW.run rfl [(.aload_n 0, 0)] (pc' := 26) (ls' := [some (.ref 137), some (.int a1), none]) (st' := [.ref 137]) (T1 := q4.2) (by decide +kernel) rfl ?_
        obtain ⟨q6, hq6, hf⟩ := bd_some hf
        refine MW.callV (As := []) (st := []) lv_RX12_187 rfl (by decide +kernel) (xm_closes hq6) (by decide) (by decide) rfl (Nat.le_of_ble_eq_true rfl) rfl ?_
        show MW l yy_X12_tested 8 _ _ 29 [some (.ref 137), some (.int a1), none] [] q6
        refine MW.run rfl [(.aload_n 0, 0)] (pc' := 30) (ls' := [some (.ref 137), some (.int a1), none]) (st' := [.ref 137]) (T1 := q6) (by decide +kernel) rfl ?_
        refine MW.ldc2 (idx := 190) (v := 6385252) (tb_in 1327 (by decide +kernel) (by decide +kernel)) (by decide +kernel) ?_
        obtain ⟨q7, hq7, hf⟩ := bd_some hf
        refine MW.callV (As := [.long 6385252]) (st := []) lv_RX12_93 rfl (by decide +kernel) (xm_isWord hq7) (by decide) (by decide) rfl (Nat.le_of_ble_eq_true rfl) rfl ?_
        show MW l yy_X12_tested 8 _ _ 36 [some (.ref 137), some (.int a1), none] [.int (b2i q7.1)] q7.2
        obtain ⟨w8, hw8, hf⟩ := bd_some hf
        have hJ : MW l yy_X12_tested 8 r T' 54 [some (.ref 137), some (.int a1), none] [.int w8.1] w8.2 := by
          refine MW.run rfl [(.istore_n 1, 0), (.iload_n 1, 0)] (pc' := 56) (ls' := [some (.ref 137), some (.int w8.1), none]) (st' := [.int w8.1]) (T1 := w8.2) (by decide +kernel) rfl ?_
          refine MW.if_eq (off := (-44)) (tgt := 12) (by decide +kernel) (by decide) (fun c56_12 => ?_) (fun c56_12 => ?_)
          · rw [if_pos c56_12] at hf
            exact ih _ _ _ hf hk1 hk2
          · rw [if_neg c56_12] at hf
            refine MW.run rfl [(.aload_n 0, 0)] (pc' := 60) (ls' := [some (.ref 137), some (.int w8.1), none]) (st' := [.ref 137]) (T1 := w8.2) (by decide +kernel) rfl ?_
            refine MW.ldc2 (idx := 190) (v := 6385252) (tb_in 1327 (by decide +kernel) (by decide +kernel)) (by decide +kernel) ?_
            obtain ⟨q13, hq13, hf⟩ := bd_some hf
            refine MW.callV (As := [.long 6385252]) (st := []) lv_RX12_93 rfl (by decide +kernel) (xm_isWord hq13) (by decide) (by decide) rfl (Nat.le_of_ble_eq_true rfl) rfl ?_
            show MW l yy_X12_tested 8 _ _ 66 [some (.ref 137), some (.int w8.1), none] [.int (b2i q13.1)] q13.2
            obtain ⟨w14, hw14, hf⟩ := bd_some hf
            have hJ : MW l yy_X12_tested 8 r T' 76 [some (.ref 137), some (.int w8.1), none] [.int w14] q13.2 := by
              refine MW.run rfl [(.istore_n 2, 0), (.aload_n 0, 0)] (pc' := 78) (ls' := [some (.ref 137), some (.int w8.1), some (.int w14)]) (st' := [.ref 137]) (T1 := q13.2) (by decide +kernel) rfl ?_
              obtain ⟨q16, hq16, hf⟩ := bd_some hf
              refine MW.callV (As := []) (st := []) lv_RX12_97 rfl (by decide +kernel) (xm_passWord hq16) (by decide) (by decide) rfl (Nat.le_of_ble_eq_true rfl) rfl ?_
              show MW l yy_X12_tested 8 _ _ 81 [some (.ref 137), some (.int w8.1), some (.int w14)] [] q16
              refine MW.run rfl [(.aload_n 0, 0), (.iload_n 2, 0)] (pc' := 83) (ls' := [some (.ref 137), some (.int w8.1), some (.int w14)]) (st' := [.int w14, .ref 137]) (T1 := q16) (by decide +kernel) rfl ?_
              obtain ⟨q17, hq17, hf⟩ := bd_some hf
              refine MW.callP (As := [.int w14]) (st := [.ref 137]) lt_RX12_142 (by decide +kernel) (xm_strength hq17) (by decide) (by decide) rfl (Nat.le_of_ble_eq_true rfl) rfl ?_
              show MW l yy_X12_tested 8 _ _ 86 [some (.ref 137), some (.int w8.1), some (.int w14)] [.int q17, .ref 137] q16
              obtain ⟨q18, hq18, hf⟩ := bd_some hf
              refine MW.callV (As := [.int q17]) (st := []) lv_RX12_178 rfl (by decide +kernel) (xm_settles hq18) (by decide) (by decide) rfl (Nat.le_of_ble_eq_true rfl) rfl ?_
              show MW l yy_X12_tested 8 _ _ 89 [some (.ref 137), some (.int w8.1), some (.int w14)] [] q18
              refine MW.run rfl [(.aload_n 0, 0), (.getfield 29, 0), (.aload_n 0, 0), (.getfield 139, 0), (.iload_n 2, 0)] (pc' := 98) (ls' := [some (.ref 137), some (.int w8.1), some (.int w14)]) (st' := [.int w14, .int (q18.1 0 16), .ref 144]) (T1 := q18) (by decide +kernel) rfl ?_
              obtain ⟨hi_T19, hf⟩ := bi_some hf
              obtain ⟨T19, hT19, hf⟩ := letv_some hf
              refine MW.iast 7 400 rfl (by decide) (fun _ => rfl) (by decide +kernel) (inb_in hi_T19) ?_
              rw [← hT19]
              refine MW.run rfl [(.aload_n 0, 0), (.dup, 0), (.getfield 139, 0), (.iconst 1, 1), (.iadd, 0), (.putfield 139, 0)] (pc' := 109) (ls' := [some (.ref 137), some (.int w8.1), some (.int w14)]) (st' := []) (T1 := mz T19 16 ((T19.1 0 16) + 1)) (by decide +kernel) rfl ?_
              obtain ⟨T20, hT20, hf⟩ := letv_some hf
              rw [← hT20]
              refine MW.run rfl [(.goto (-97), 0)] (pc' := 12) (ls' := [some (.ref 137), some (.int w8.1), some (.int w14)]) (st' := []) (T1 := T20) (by decide +kernel) rfl ?_
              refine MW.fgt (ls' := [some (.ref 137), some (.int w8.1), none]) (by repeat' (first | exact trivial | refine ⟨rfl, ?_⟩)) ?_
              exact ih _ _ _ hf hk1 hk2
            clear hf
            refine MW.if_eq (off := 8) (tgt := 74) (by decide +kernel) (by decide) (fun c66_15 => ?_) (fun c66_15 => ?_)
            · rw [if_pos c66_15] at hw14
              refine MW.run rfl [(.bipush 13, 13)] (pc' := 76) (ls' := [some (.ref 137), some (.int w8.1), none]) (st' := [.int 13]) (T1 := q13.2) (by decide +kernel) rfl ?_
              have e9 := Option.some.inj hw14
              subst e9
              exact hJ
            · rw [if_neg c66_15] at hw14
              refine MW.run rfl [(.bipush 12, 12), (.goto 5, 0)] (pc' := 76) (ls' := [some (.ref 137), some (.int w8.1), none]) (st' := [.int 12]) (T1 := q13.2) (by decide +kernel) rfl ?_
              have e9 := Option.some.inj hw14
              subst e9
              exact hJ
        clear hf
        refine MW.if_ne (off := 13) (tgt := 49) (by decide +kernel) (by decide) (fun c36_9 => ?_) (fun c36_9 => ?_)
        · rw [if_neg c36_9] at hw8
          refine MW.run rfl [(.iconst 1, 1), (.goto 4, 0)] (pc' := 54) (ls' := [some (.ref 137), some (.int a1), none]) (st' := [.int 1]) (T1 := q7.2) (by decide +kernel) rfl ?_
          have e9 := Option.some.inj hw8
          subst e9
          exact hJ
        · rw [if_pos c36_9] at hw8
          refine MW.run rfl [(.aload_n 0, 0)] (pc' := 40) (ls' := [some (.ref 137), some (.int a1), none]) (st' := [.ref 137]) (T1 := q7.2) (by decide +kernel) rfl ?_
          refine MW.ldc2 (idx := 192) (v := 28530) (tb_in 1328 (by decide +kernel) (by decide +kernel)) (by decide +kernel) ?_
          obtain ⟨q10, hq10, hw8⟩ := bd_some hw8
          refine MW.callV (As := [.long 28530]) (st := []) lv_RX12_93 rfl (by decide +kernel) (xm_isWord hq10) (by decide) (by decide) rfl (Nat.le_of_ble_eq_true rfl) rfl ?_
          show MW l yy_X12_tested 8 _ _ 46 [some (.ref 137), some (.int a1), none] [.int (b2i q10.1)] q10.2
          refine MW.if_eq (off := 7) (tgt := 53) (by decide +kernel) (by decide) (fun c46_11 => ?_) (fun c46_11 => ?_)
          · rw [if_pos c46_11] at hw8
            refine MW.run rfl [(.iconst 0, 0)] (pc' := 54) (ls' := [some (.ref 137), some (.int a1), none]) (st' := [.int 0]) (T1 := q10.2) (by decide +kernel) rfl ?_
            have e9 := Option.some.inj hw8
            subst e9
            exact hJ
          · rw [if_neg c46_11] at hw8
            refine MW.run rfl [(.iconst 1, 1), (.goto 4, 0)] (pc' := 54) (ls' := [some (.ref 137), some (.int a1), none]) (st' := [.int 1]) (T1 := q10.2) (by decide +kernel) rfl ?_
            have e9 := Option.some.inj hw8
            subst e9
            exact hJ
      · rw [if_pos c20_5] at hf
        refine MW.run rfl [(.iconst 0, 0)] (pc' := 24) (ls' := [some (.ref 137), some (.int a1), none]) (st' := [.int 0]) (T1 := q4.2) (by decide +kernel) rfl ?_
        have e9 := Option.some.inj hf
        subst e9
        obtain ⟨e1, e2⟩ := (hk2 _ rfl)
        subst e1
        subst e2
        exact MW.zret rfl (b2i_nar _) (by decide +kernel)
theorem xm_tested {l : Launch}  {T : mT} {q : Bool × mT} (hf : fm_tested  T = some q) : MOk l yy_X12_tested 8 [] T (some (.int (b2i q.1))) q.2 := by
  refine MOk.of (ls := [some (.ref 137), none, none]) (by decide +kernel) (Nat.le_of_ble_eq_true rfl) rfl ?_
  unfold fm_tested at hf
  refine MW.run rfl [(.aload_n 0, 0), (.iconst 0, 0), (.putfield 139, 0)] (pc' := 5) (ls' := [some (.ref 137), none, none]) (st' := []) (T1 := mz T 16 0) (by decide +kernel) rfl ?_
  obtain ⟨T1, hT1, hf⟩ := letv_some hf
  rw [← hT1]
  refine MW.run rfl [(.aload_n 0, 0), (.iconst 0, 0), (.putfield 136, 0)] (pc' := 10) (ls' := [some (.ref 137), none, none]) (st' := []) (T1 := mz T1 13 0) (by decide +kernel) rfl ?_
  obtain ⟨T2, hT2, hf⟩ := letv_some hf
  rw [← hT2]
  refine MW.run rfl [(.iconst 1, 1), (.istore_n 1, 0)] (pc' := 12) (ls' := [some (.ref 137), some (.int 1), none]) (st' := []) (T1 := T2) (by decide +kernel) rfl ?_
  obtain ⟨w21, hw21, hf⟩ := bd_some hf
  refine xm_tested_L12  FU _ _ _ hw21 (fun w21a hsw21 => ?_) (fun w21b hsw21 => ?_)
  · subst hsw21
    simp only [Sum.elim_inl] at hf
    refine MW.run rfl [(.aload_n 0, 0)] (pc' := 113) (ls' := [some (.ref 137), some (.int w21a.1), none]) (st' := [.ref 137]) (T1 := w21a.2) (by decide +kernel) rfl ?_
    obtain ⟨q22, hq22, hf⟩ := bd_some hf
    refine MW.callV (As := []) (st := []) lv_RX12_181 rfl (by decide +kernel) (xm_isInside hq22) (by decide) (by decide) rfl (Nat.le_of_ble_eq_true rfl) rfl ?_
    show MW l yy_X12_tested 8 _ _ 116 [some (.ref 137), some (.int w21a.1), none] [.int (b2i q22)] w21a.2
    refine MW.if_eq (off := 18) (tgt := 134) (by decide +kernel) (by decide) (fun c116_23 => ?_) (fun c116_23 => ?_)
    · rw [if_pos c116_23] at hf
      refine MW.run rfl [(.aload_n 0, 0), (.iconst 1, 1)] (pc' := 136) (ls' := [some (.ref 137), some (.int w21a.1), none]) (st' := [.int 1, .ref 137]) (T1 := w21a.2) (by decide +kernel) rfl ?_
      obtain ⟨q24, hq24, hf⟩ := bd_some hf
      refine MW.callV (As := [.int 1]) (st := []) lv_RX12_178 rfl (by decide +kernel) (xm_settles hq24) (by decide) (by decide) rfl (Nat.le_of_ble_eq_true rfl) rfl ?_
      show MW l yy_X12_tested 8 _ _ 139 [some (.ref 137), some (.int w21a.1), none] [] q24
      refine MW.run rfl [(.iconst 1, 1)] (pc' := 140) (ls' := [some (.ref 137), some (.int w21a.1), none]) (st' := [.int 1]) (T1 := q24) (by decide +kernel) rfl ?_
      have e9 := Option.some.inj hf
      subst e9
      exact MW.zret rfl (b2i_nar _) (by decide +kernel)
    · rw [if_neg c116_23] at hf
      refine MW.run rfl [(.aload_n 0, 0)] (pc' := 120) (ls' := [some (.ref 137), some (.int w21a.1), none]) (st' := [.ref 137]) (T1 := w21a.2) (by decide +kernel) rfl ?_
      obtain ⟨q25, hq25, hf⟩ := bd_some hf
      refine MW.callV (As := []) (st := []) lv_RX12_85 rfl (by decide +kernel) (xm_see hq25) (by decide) (by decide) rfl (Nat.le_of_ble_eq_true rfl) rfl ?_
      show MW l yy_X12_tested 8 _ _ 123 [some (.ref 137), some (.int w21a.1), none] [.int q25.1] q25.2
      refine MW.run rfl [(.pop, 0), (.aload_n 0, 0), (.iconst 0, 0), (.aload_n 0, 0), (.getfield 82, 0)] (pc' := 130) (ls' := [some (.ref 137), some (.int w21a.1), none]) (st' := [.int (q25.2.1 0 8), .int 0, .ref 137]) (T1 := q25.2) (by decide +kernel) rfl ?_
      obtain ⟨q26, hq26, hf⟩ := bd_some hf
      refine MW.callV (As := [.int 0, .int (q25.2.1 0 8)]) (st := []) lv_RX12_103 rfl (by decide +kernel) (xm_fails hq26) (by decide) (by decide) rfl (Nat.le_of_ble_eq_true rfl) rfl ?_
      show MW l yy_X12_tested 8 _ _ 133 [some (.ref 137), some (.int w21a.1), none] [.int (b2i q26.1)] q26.2
      have e9 := Option.some.inj hf
      subst e9
      exact MW.zret rfl (b2i_nar _) (by decide +kernel)
  · subst hsw21
    simp only [Sum.elim_inr] at hf
    have e9 := Option.some.inj hf
    subst e9
    exact ⟨rfl, rfl⟩
def fm_isDoingHere (p0 : Int32) (T : mT) : Option (Bool × mT) := (fm_passWord T).bind fun q1 => bif inb (q1.1 0 11) 6 then (letv (q1.1 5 ((q1.1 0 11) : Int32).toNatClampNeg) fun v2 => bif inb ((60 * (q1.1 0 11)) + (5 * v2)) 360 then (letv (ma q1 4 (((60 * (q1.1 0 11)) + (5 * v2)) : Int32).toNatClampNeg p0) fun T3 => bif inb (T3.1 0 11) 7 then (letv (T3.1 3 ((T3.1 0 11) : Int32).toNatClampNeg) fun v4 => bif inb (((60 * (q1.1 0 11)) + (5 * v2)) + 1) 360 then (letv (ma T3 4 ((((60 * (q1.1 0 11)) + (5 * v2)) + 1) : Int32).toNatClampNeg v4) fun T5 => (fm_summed T5).bind fun q6 => if (b2i q6.1) = 0 then (some (false, q6.2)) else (bif inb (q6.2.1 0 11) 7 then (letv (q6.2.1 3 ((q6.2.1 0 11) : Int32).toNatClampNeg) fun v8 => bif inb (((60 * (q1.1 0 11)) + (5 * v2)) + 2) 360 then (letv (ma q6.2 4 ((((60 * (q1.1 0 11)) + (5 * v2)) + 2) : Int32).toNatClampNeg v8) fun T9 => bif inb (((60 * (q1.1 0 11)) + (5 * v2)) + 3) 360 then (letv (ma T9 4 ((((60 * (q1.1 0 11)) + (5 * v2)) + 3) : Int32).toNatClampNeg (-1)) fun T10 => (fm_takesWord 26982 T10).bind fun q11 => if (b2i q11.1) = 0 then (bif inb (q11.2.1 0 11) 7 then (letv (q11.2.1 3 ((q11.2.1 0 11) : Int32).toNatClampNeg) fun v13 => bif inb (((60 * (q1.1 0 11)) + (5 * v2)) + 4) 360 then (letv (ma q11.2 4 ((((60 * (q1.1 0 11)) + (5 * v2)) + 4) : Int32).toNatClampNeg v13) fun T14 => bif inb (T14.1 0 11) 6 then (letv (T14.1 5 ((T14.1 0 11) : Int32).toNatClampNeg) fun v15 => bif inb (T14.1 0 11) 6 then (letv (ma T14 5 ((T14.1 0 11) : Int32).toNatClampNeg (v15 + 1)) fun T16 => some (true, T16)) else none) else none) else none) else none) else (bif inb (q11.2.1 0 11) 7 then (letv (q11.2.1 3 ((q11.2.1 0 11) : Int32).toNatClampNeg) fun v17 => bif inb (((60 * (q1.1 0 11)) + (5 * v2)) + 3) 360 then (letv (ma q11.2 4 ((((60 * (q1.1 0 11)) + (5 * v2)) + 3) : Int32).toNatClampNeg v17) fun T18 => (fm_tested T18).bind fun q19 => if (b2i q19.1) = 0 then (some (false, q19.2)) else (bif inb (q19.2.1 0 11) 7 then (letv (q19.2.1 3 ((q19.2.1 0 11) : Int32).toNatClampNeg) fun v21 => bif inb (((60 * (q1.1 0 11)) + (5 * v2)) + 4) 360 then (letv (ma q19.2 4 ((((60 * (q1.1 0 11)) + (5 * v2)) + 4) : Int32).toNatClampNeg v21) fun T22 => bif inb (T22.1 0 11) 6 then (letv (T22.1 5 ((T22.1 0 11) : Int32).toNatClampNeg) fun v23 => bif inb (T22.1 0 11) 6 then (letv (ma T22 5 ((T22.1 0 11) : Int32).toNatClampNeg (v23 + 1)) fun T24 => some (true, T24)) else none) else none) else none) else none)) else none) else none)) else none) else none) else none)) else none) else none) else none) else none
theorem xm_isDoingHere {l : Launch} {p0 : Int32} {T : mT} {q : Bool × mT} (hf : fm_isDoingHere p0 T = some q) : MOk l yy_X12_isDoingHere 9 [.int p0] T (some (.int (b2i q.1))) q.2 := by
  refine MOk.of (ls := [some (.ref 137), some (.int p0), none]) (by decide +kernel) (Nat.le_of_ble_eq_true rfl) rfl ?_
  unfold fm_isDoingHere at hf
  refine MW.run rfl [(.aload_n 0, 0)] (pc' := 1) (ls' := [some (.ref 137), some (.int p0), none]) (st' := [.ref 137]) (T1 := T) (by decide +kernel) rfl ?_
  obtain ⟨q1, hq1, hf⟩ := bd_some hf
  refine MW.callV (As := []) (st := []) lv_RX12_97 rfl (by decide +kernel) (xm_passWord hq1) (by decide) (by decide) rfl (Nat.le_of_ble_eq_true rfl) rfl ?_
  show MW l yy_X12_isDoingHere 9 _ _ 4 [some (.ref 137), some (.int p0), none] [] q1
  refine MW.run rfl [(.bipush 60, 60), (.aload_n 0, 0), (.getfield 130, 0), (.imul, 0), (.iconst 5, 5), (.aload_n 0, 0), (.getfield 23, 0), (.aload_n 0, 0), (.getfield 130, 0)] (pc' := 20) (ls' := [some (.ref 137), some (.int p0), none]) (st' := [.int (q1.1 0 11), .ref 142, .int 5, .int (60 * (q1.1 0 11))]) (T1 := q1) (by decide +kernel) rfl ?_
  obtain ⟨hi_v2, hf⟩ := bi_some hf
  obtain ⟨v2, hv2, hf⟩ := letv_some hf
  refine MW.iald 5 6 rfl (by decide) rfl (by decide +kernel) (inb_in hi_v2) ?_
  rw [← hv2]
  refine MW.run rfl [(.imul, 0), (.iadd, 0), (.istore_n 2, 0), (.aload_n 0, 0), (.getfield 20, 0), (.iload_n 2, 0), (.iload_n 1, 0)] (pc' := 30) (ls' := [some (.ref 137), some (.int p0), some (.int ((60 * (q1.1 0 11)) + (5 * v2)))]) (st' := [.int p0, .int ((60 * (q1.1 0 11)) + (5 * v2)), .ref 141]) (T1 := q1) (by decide +kernel) rfl ?_
  obtain ⟨hi_T3, hf⟩ := bi_some hf
  obtain ⟨T3, hT3, hf⟩ := letv_some hf
  refine MW.iast 4 360 rfl (by decide) (fun _ => rfl) (by decide +kernel) (inb_in hi_T3) ?_
  rw [← hT3]
  refine MW.run rfl [(.aload_n 0, 0), (.getfield 20, 0), (.iload_n 2, 0), (.iconst 1, 1), (.iadd, 0), (.aload_n 0, 0), (.getfield 17, 0), (.aload_n 0, 0), (.getfield 130, 0)] (pc' := 46) (ls' := [some (.ref 137), some (.int p0), some (.int ((60 * (q1.1 0 11)) + (5 * v2)))]) (st' := [.int (T3.1 0 11), .ref 140, .int (((60 * (q1.1 0 11)) + (5 * v2)) + 1), .ref 141]) (T1 := T3) (by decide +kernel) rfl ?_
  obtain ⟨hi_v4, hf⟩ := bi_some hf
  obtain ⟨v4, hv4, hf⟩ := letv_some hf
  refine MW.iald 3 7 rfl (by decide) rfl (by decide +kernel) (inb_in hi_v4) ?_
  rw [← hv4]
  obtain ⟨hi_T5, hf⟩ := bi_some hf
  obtain ⟨T5, hT5, hf⟩ := letv_some hf
  refine MW.iast 4 360 rfl (by decide) (fun _ => rfl) (by decide +kernel) (inb_in hi_T5) ?_
  rw [← hT5]
  refine MW.run rfl [(.aload_n 0, 0)] (pc' := 49) (ls' := [some (.ref 137), some (.int p0), some (.int ((60 * (q1.1 0 11)) + (5 * v2)))]) (st' := [.ref 137]) (T1 := T5) (by decide +kernel) rfl ?_
  obtain ⟨q6, hq6, hf⟩ := bd_some hf
  refine MW.callV (As := []) (st := []) lv_RX12_167 rfl (by decide +kernel) (xm_summed hq6) (by decide) (by decide) rfl (Nat.le_of_ble_eq_true rfl) rfl ?_
  show MW l yy_X12_isDoingHere 9 _ _ 52 [some (.ref 137), some (.int p0), some (.int ((60 * (q1.1 0 11)) + (5 * v2)))] [.int (b2i q6.1)] q6.2
  refine MW.if_ne (off := 5) (tgt := 57) (by decide +kernel) (by decide) (fun c52_7 => ?_) (fun c52_7 => ?_)
  · rw [if_neg c52_7] at hf
    refine MW.run rfl [(.aload_n 0, 0), (.getfield 20, 0), (.iload_n 2, 0), (.iconst 2, 2), (.iadd, 0), (.aload_n 0, 0), (.getfield 17, 0), (.aload_n 0, 0), (.getfield 130, 0)] (pc' := 72) (ls' := [some (.ref 137), some (.int p0), some (.int ((60 * (q1.1 0 11)) + (5 * v2)))]) (st' := [.int (q6.2.1 0 11), .ref 140, .int (((60 * (q1.1 0 11)) + (5 * v2)) + 2), .ref 141]) (T1 := q6.2) (by decide +kernel) rfl ?_
    obtain ⟨hi_v8, hf⟩ := bi_some hf
    obtain ⟨v8, hv8, hf⟩ := letv_some hf
    refine MW.iald 3 7 rfl (by decide) rfl (by decide +kernel) (inb_in hi_v8) ?_
    rw [← hv8]
    obtain ⟨hi_T9, hf⟩ := bi_some hf
    obtain ⟨T9, hT9, hf⟩ := letv_some hf
    refine MW.iast 4 360 rfl (by decide) (fun _ => rfl) (by decide +kernel) (inb_in hi_T9) ?_
    rw [← hT9]
    refine MW.run rfl [(.aload_n 0, 0), (.getfield 20, 0), (.iload_n 2, 0), (.iconst 3, 3), (.iadd, 0), (.iconst (-1), (-1))] (pc' := 82) (ls' := [some (.ref 137), some (.int p0), some (.int ((60 * (q1.1 0 11)) + (5 * v2)))]) (st' := [.int (-1), .int (((60 * (q1.1 0 11)) + (5 * v2)) + 3), .ref 141]) (T1 := T9) (by decide +kernel) rfl ?_
    obtain ⟨hi_T10, hf⟩ := bi_some hf
    obtain ⟨T10, hT10, hf⟩ := letv_some hf
    refine MW.iast 4 360 rfl (by decide) (fun _ => rfl) (by decide +kernel) (inb_in hi_T10) ?_
    rw [← hT10]
    refine MW.run rfl [(.aload_n 0, 0)] (pc' := 84) (ls' := [some (.ref 137), some (.int p0), some (.int ((60 * (q1.1 0 11)) + (5 * v2)))]) (st' := [.ref 137]) (T1 := T10) (by decide +kernel) rfl ?_
    refine MW.ldc2 (idx := 194) (v := 26982) (tb_in 1290 (by decide +kernel) (by decide +kernel)) (by decide +kernel) ?_
    obtain ⟨q11, hq11, hf⟩ := bd_some hf
    refine MW.callV (As := [.long 26982]) (st := []) lv_RX12_196 rfl (by decide +kernel) (xm_takesWord hq11) (by decide) (by decide) rfl (Nat.le_of_ble_eq_true rfl) rfl ?_
    show MW l yy_X12_isDoingHere 9 _ _ 90 [some (.ref 137), some (.int p0), some (.int ((60 * (q1.1 0 11)) + (5 * v2)))] [.int (b2i q11.1)] q11.2
    refine MW.if_eq (off := 29) (tgt := 119) (by decide +kernel) (by decide) (fun c90_12 => ?_) (fun c90_12 => ?_)
    · rw [if_pos c90_12] at hf
      refine MW.run rfl [(.aload_n 0, 0), (.getfield 20, 0), (.iload_n 2, 0), (.iconst 4, 4), (.iadd, 0), (.aload_n 0, 0), (.getfield 17, 0), (.aload_n 0, 0), (.getfield 130, 0)] (pc' := 134) (ls' := [some (.ref 137), some (.int p0), some (.int ((60 * (q1.1 0 11)) + (5 * v2)))]) (st' := [.int (q11.2.1 0 11), .ref 140, .int (((60 * (q1.1 0 11)) + (5 * v2)) + 4), .ref 141]) (T1 := q11.2) (by decide +kernel) rfl ?_
      obtain ⟨hi_v13, hf⟩ := bi_some hf
      obtain ⟨v13, hv13, hf⟩ := letv_some hf
      refine MW.iald 3 7 rfl (by decide) rfl (by decide +kernel) (inb_in hi_v13) ?_
      rw [← hv13]
      obtain ⟨hi_T14, hf⟩ := bi_some hf
      obtain ⟨T14, hT14, hf⟩ := letv_some hf
      refine MW.iast 4 360 rfl (by decide) (fun _ => rfl) (by decide +kernel) (inb_in hi_T14) ?_
      rw [← hT14]
      refine MW.run rfl [(.aload_n 0, 0), (.getfield 23, 0), (.aload_n 0, 0), (.getfield 130, 0), (.dup2, 0)] (pc' := 145) (ls' := [some (.ref 137), some (.int p0), some (.int ((60 * (q1.1 0 11)) + (5 * v2)))]) (st' := [.int (T14.1 0 11), .ref 142, .int (T14.1 0 11), .ref 142]) (T1 := T14) (by decide +kernel) rfl ?_
      obtain ⟨hi_v15, hf⟩ := bi_some hf
      obtain ⟨v15, hv15, hf⟩ := letv_some hf
      refine MW.iald 5 6 rfl (by decide) rfl (by decide +kernel) (inb_in hi_v15) ?_
      rw [← hv15]
      refine MW.run rfl [(.iconst 1, 1), (.iadd, 0)] (pc' := 148) (ls' := [some (.ref 137), some (.int p0), some (.int ((60 * (q1.1 0 11)) + (5 * v2)))]) (st' := [.int (v15 + 1), .int (T14.1 0 11), .ref 142]) (T1 := T14) (by decide +kernel) rfl ?_
      obtain ⟨hi_T16, hf⟩ := bi_some hf
      obtain ⟨T16, hT16, hf⟩ := letv_some hf
      refine MW.iast 5 6 rfl (by decide) (fun _ => rfl) (by decide +kernel) (inb_in hi_T16) ?_
      rw [← hT16]
      refine MW.run rfl [(.iconst 1, 1)] (pc' := 150) (ls' := [some (.ref 137), some (.int p0), some (.int ((60 * (q1.1 0 11)) + (5 * v2)))]) (st' := [.int 1]) (T1 := T16) (by decide +kernel) rfl ?_
      have e9 := Option.some.inj hf
      subst e9
      exact MW.zret rfl (b2i_nar _) (by decide +kernel)
    · rw [if_neg c90_12] at hf
      refine MW.run rfl [(.aload_n 0, 0), (.getfield 20, 0), (.iload_n 2, 0), (.iconst 3, 3), (.iadd, 0), (.aload_n 0, 0), (.getfield 17, 0), (.aload_n 0, 0), (.getfield 130, 0)] (pc' := 108) (ls' := [some (.ref 137), some (.int p0), some (.int ((60 * (q1.1 0 11)) + (5 * v2)))]) (st' := [.int (q11.2.1 0 11), .ref 140, .int (((60 * (q1.1 0 11)) + (5 * v2)) + 3), .ref 141]) (T1 := q11.2) (by decide +kernel) rfl ?_
      obtain ⟨hi_v17, hf⟩ := bi_some hf
      obtain ⟨v17, hv17, hf⟩ := letv_some hf
      refine MW.iald 3 7 rfl (by decide) rfl (by decide +kernel) (inb_in hi_v17) ?_
      rw [← hv17]
      obtain ⟨hi_T18, hf⟩ := bi_some hf
      obtain ⟨T18, hT18, hf⟩ := letv_some hf
      refine MW.iast 4 360 rfl (by decide) (fun _ => rfl) (by decide +kernel) (inb_in hi_T18) ?_
      rw [← hT18]
      refine MW.run rfl [(.aload_n 0, 0)] (pc' := 111) (ls' := [some (.ref 137), some (.int p0), some (.int ((60 * (q1.1 0 11)) + (5 * v2)))]) (st' := [.ref 137]) (T1 := T18) (by decide +kernel) rfl ?_
      obtain ⟨q19, hq19, hf⟩ := bd_some hf
      refine MW.callV (As := []) (st := []) lv_RX12_199 rfl (by decide +kernel) (xm_tested hq19) (by decide) (by decide) rfl (Nat.le_of_ble_eq_true rfl) rfl ?_
      show MW l yy_X12_isDoingHere 9 _ _ 114 [some (.ref 137), some (.int p0), some (.int ((60 * (q1.1 0 11)) + (5 * v2)))] [.int (b2i q19.1)] q19.2
      refine MW.if_ne (off := 5) (tgt := 119) (by decide +kernel) (by decide) (fun c114_20 => ?_) (fun c114_20 => ?_)
      · rw [if_neg c114_20] at hf
        refine MW.run rfl [(.aload_n 0, 0), (.getfield 20, 0), (.iload_n 2, 0), (.iconst 4, 4), (.iadd, 0), (.aload_n 0, 0), (.getfield 17, 0), (.aload_n 0, 0), (.getfield 130, 0)] (pc' := 134) (ls' := [some (.ref 137), some (.int p0), some (.int ((60 * (q1.1 0 11)) + (5 * v2)))]) (st' := [.int (q19.2.1 0 11), .ref 140, .int (((60 * (q1.1 0 11)) + (5 * v2)) + 4), .ref 141]) (T1 := q19.2) (by decide +kernel) rfl ?_
        obtain ⟨hi_v21, hf⟩ := bi_some hf
        obtain ⟨v21, hv21, hf⟩ := letv_some hf
        refine MW.iald 3 7 rfl (by decide) rfl (by decide +kernel) (inb_in hi_v21) ?_
        rw [← hv21]
        obtain ⟨hi_T22, hf⟩ := bi_some hf
        obtain ⟨T22, hT22, hf⟩ := letv_some hf
        refine MW.iast 4 360 rfl (by decide) (fun _ => rfl) (by decide +kernel) (inb_in hi_T22) ?_
        rw [← hT22]
        refine MW.run rfl [(.aload_n 0, 0), (.getfield 23, 0), (.aload_n 0, 0), (.getfield 130, 0), (.dup2, 0)] (pc' := 145) (ls' := [some (.ref 137), some (.int p0), some (.int ((60 * (q1.1 0 11)) + (5 * v2)))]) (st' := [.int (T22.1 0 11), .ref 142, .int (T22.1 0 11), .ref 142]) (T1 := T22) (by decide +kernel) rfl ?_
        obtain ⟨hi_v23, hf⟩ := bi_some hf
        obtain ⟨v23, hv23, hf⟩ := letv_some hf
        refine MW.iald 5 6 rfl (by decide) rfl (by decide +kernel) (inb_in hi_v23) ?_
        rw [← hv23]
        refine MW.run rfl [(.iconst 1, 1), (.iadd, 0)] (pc' := 148) (ls' := [some (.ref 137), some (.int p0), some (.int ((60 * (q1.1 0 11)) + (5 * v2)))]) (st' := [.int (v23 + 1), .int (T22.1 0 11), .ref 142]) (T1 := T22) (by decide +kernel) rfl ?_
        obtain ⟨hi_T24, hf⟩ := bi_some hf
        obtain ⟨T24, hT24, hf⟩ := letv_some hf
        refine MW.iast 5 6 rfl (by decide) (fun _ => rfl) (by decide +kernel) (inb_in hi_T24) ?_
        rw [← hT24]
        refine MW.run rfl [(.iconst 1, 1)] (pc' := 150) (ls' := [some (.ref 137), some (.int p0), some (.int ((60 * (q1.1 0 11)) + (5 * v2)))]) (st' := [.int 1]) (T1 := T24) (by decide +kernel) rfl ?_
        have e9 := Option.some.inj hf
        subst e9
        exact MW.zret rfl (b2i_nar _) (by decide +kernel)
      · rw [if_pos c114_20] at hf
        refine MW.run rfl [(.iconst 0, 0)] (pc' := 118) (ls' := [some (.ref 137), some (.int p0), some (.int ((60 * (q1.1 0 11)) + (5 * v2)))]) (st' := [.int 0]) (T1 := q19.2) (by decide +kernel) rfl ?_
        have e9 := Option.some.inj hf
        subst e9
        exact MW.zret rfl (b2i_nar _) (by decide +kernel)
  · rw [if_pos c52_7] at hf
    refine MW.run rfl [(.iconst 0, 0)] (pc' := 56) (ls' := [some (.ref 137), some (.int p0), some (.int ((60 * (q1.1 0 11)) + (5 * v2)))]) (st' := [.int 0]) (T1 := q6.2) (by decide +kernel) rfl ?_
    have e9 := Option.some.inj hf
    subst e9
    exact MW.zret rfl (b2i_nar _) (by decide +kernel)
def fm_cellHere (p0 : Int32) (p1 : Int32) (p2 : Int32) (T : mT) : Option (Bool × mT) := (fm_numberHere p1 p2 T).bind fun q1 => if (b2i q1.1) = 0 then (some (false, q1.2)) else (bif inb p0 112 then (letv (ma q1.2 6 (p0 : Int32).toNatClampNeg (q1.2.1 0 10)) fun T3 => some (true, T3)) else none)
theorem xm_cellHere {l : Launch} {p0 : Int32} {p1 : Int32} {p2 : Int32} {T : mT} {q : Bool × mT} (hf : fm_cellHere p0 p1 p2 T = some q) : MOk l yy_X12_cellHere 2 [.int p0, .int p1, .int p2] T (some (.int (b2i q.1))) q.2 := by
  refine MOk.of (ls := [some (.ref 137), some (.int p0), some (.int p1), some (.int p2)]) (by decide +kernel) (Nat.le_of_ble_eq_true rfl) rfl ?_
  unfold fm_cellHere at hf
  refine MW.run rfl [(.aload_n 0, 0), (.iload_n 2, 0), (.iload_n 3, 0)] (pc' := 3) (ls' := [some (.ref 137), some (.int p0), some (.int p1), some (.int p2)]) (st' := [.int p2, .int p1, .ref 137]) (T1 := T) (by decide +kernel) rfl ?_
  obtain ⟨q1, hq1, hf⟩ := bd_some hf
  refine MW.callV (As := [.int p1, .int p2]) (st := []) lv_RX12_151 rfl (by decide +kernel) (xm_numberHere hq1) (by decide) (by decide) rfl (Nat.le_of_ble_eq_true rfl) rfl ?_
  show MW l yy_X12_cellHere 2 _ _ 6 [some (.ref 137), some (.int p0), some (.int p1), some (.int p2)] [.int (b2i q1.1)] q1.2
  refine MW.if_ne (off := 5) (tgt := 11) (by decide +kernel) (by decide) (fun c6_2 => ?_) (fun c6_2 => ?_)
  · rw [if_neg c6_2] at hf
    refine MW.run rfl [(.aload_n 0, 0), (.getfield 26, 0), (.iload_n 1, 0), (.aload_n 0, 0), (.getfield 107, 0)] (pc' := 20) (ls' := [some (.ref 137), some (.int p0), some (.int p1), some (.int p2)]) (st' := [.int (q1.2.1 0 10), .int p0, .ref 143]) (T1 := q1.2) (by decide +kernel) rfl ?_
    obtain ⟨hi_T3, hf⟩ := bi_some hf
    obtain ⟨T3, hT3, hf⟩ := letv_some hf
    refine MW.iast 6 112 rfl (by decide) (fun _ => rfl) (by decide +kernel) (inb_in hi_T3) ?_
    rw [← hT3]
    refine MW.run rfl [(.iconst 1, 1)] (pc' := 22) (ls' := [some (.ref 137), some (.int p0), some (.int p1), some (.int p2)]) (st' := [.int 1]) (T1 := T3) (by decide +kernel) rfl ?_
    have e9 := Option.some.inj hf
    subst e9
    exact MW.zret rfl (b2i_nar _) (by decide +kernel)
  · rw [if_pos c6_2] at hf
    refine MW.run rfl [(.iconst 0, 0)] (pc' := 10) (ls' := [some (.ref 137), some (.int p0), some (.int p1), some (.int p2)]) (st' := [.int 0]) (T1 := q1.2) (by decide +kernel) rfl ?_
    have e9 := Option.some.inj hf
    subst e9
    exact MW.zret rfl (b2i_nar _) (by decide +kernel)
def fm_areMarksHere (p0 : Int32) (T : mT) : Option (Bool × mT) := bif inb 0 112 then (letv (T.1 6 (0 : Int32).toNatClampNeg) fun v1 => if v1 ≤ 0 then ((fm_passWord T).bind fun q3 => (fm_cellHere 0 1 6 q3).bind fun q4 => some (q4.1, q4.2)) else ((fm_fails 4 p0 T).bind fun q5 => some (q5.1, q5.2))) else none
theorem xm_areMarksHere {l : Launch} {p0 : Int32} {T : mT} {q : Bool × mT} (hf : fm_areMarksHere p0 T = some q) : MOk l yy_X12_areMarksHere 3 [.int p0] T (some (.int (b2i q.1))) q.2 := by
  refine MOk.of (ls := [some (.ref 137), some (.int p0)]) (by decide +kernel) (Nat.le_of_ble_eq_true rfl) rfl ?_
  unfold fm_areMarksHere at hf
  refine MW.run rfl [(.aload_n 0, 0), (.getfield 26, 0), (.iconst 0, 0)] (pc' := 5) (ls' := [some (.ref 137), some (.int p0)]) (st' := [.int 0, .ref 143]) (T1 := T) (by decide +kernel) rfl ?_
  obtain ⟨hi_v1, hf⟩ := bi_some hf
  obtain ⟨v1, hv1, hf⟩ := letv_some hf
  refine MW.iald 6 112 rfl (by decide) rfl (by decide +kernel) (inb_in hi_v1) ?_
  rw [← hv1]
  refine MW.if_le (off := 10) (tgt := 16) (by decide +kernel) (by decide) (fun c6_2 => ?_) (fun c6_2 => ?_)
  · rw [if_pos c6_2] at hf
    refine MW.run rfl [(.aload_n 0, 0)] (pc' := 17) (ls' := [some (.ref 137), some (.int p0)]) (st' := [.ref 137]) (T1 := T) (by decide +kernel) rfl ?_
    obtain ⟨q3, hq3, hf⟩ := bd_some hf
    refine MW.callV (As := []) (st := []) lv_RX12_97 rfl (by decide +kernel) (xm_passWord hq3) (by decide) (by decide) rfl (Nat.le_of_ble_eq_true rfl) rfl ?_
    show MW l yy_X12_areMarksHere 3 _ _ 20 [some (.ref 137), some (.int p0)] [] q3
    refine MW.run rfl [(.aload_n 0, 0), (.iconst 0, 0), (.iconst 1, 1), (.bipush 6, 6)] (pc' := 25) (ls' := [some (.ref 137), some (.int p0)]) (st' := [.int 6, .int 1, .int 0, .ref 137]) (T1 := q3) (by decide +kernel) rfl ?_
    obtain ⟨q4, hq4, hf⟩ := bd_some hf
    refine MW.callV (As := [.int 0, .int 1, .int 6]) (st := []) lv_RX12_202 rfl (by decide +kernel) (xm_cellHere hq4) (by decide) (by decide) rfl (Nat.le_of_ble_eq_true rfl) rfl ?_
    show MW l yy_X12_areMarksHere 3 _ _ 28 [some (.ref 137), some (.int p0)] [.int (b2i q4.1)] q4.2
    have e9 := Option.some.inj hf
    subst e9
    exact MW.zret rfl (b2i_nar _) (by decide +kernel)
  · rw [if_neg c6_2] at hf
    refine MW.run rfl [(.aload_n 0, 0), (.iconst 4, 4), (.iload_n 1, 0)] (pc' := 12) (ls' := [some (.ref 137), some (.int p0)]) (st' := [.int p0, .int 4, .ref 137]) (T1 := T) (by decide +kernel) rfl ?_
    obtain ⟨q5, hq5, hf⟩ := bd_some hf
    refine MW.callV (As := [.int 4, .int p0]) (st := []) lv_RX12_103 rfl (by decide +kernel) (xm_fails hq5) (by decide) (by decide) rfl (Nat.le_of_ble_eq_true rfl) rfl ?_
    show MW l yy_X12_areMarksHere 3 _ _ 15 [some (.ref 137), some (.int p0)] [.int (b2i q5.1)] q5.2
    have e9 := Option.some.inj hf
    subst e9
    exact MW.zret rfl (b2i_nar _) (by decide +kernel)
def fm_isPersonHere_L88 (k1 : Int32) (k2 : Int32) : Nat → Int32 → mT → Option (Int32 × mT)
  | 0, _, _ => none
  | N + 1, a3, T => if 8 ≤ a3 then (some (a3, T)) else (bif inb 1 112 then (letv (T.1 6 (1 : Int32).toNatClampNeg) fun v13 => bif inb ((40 + (8 * v13)) + a3) 112 then (letv (ma T 6 (((40 + (8 * v13)) + a3) : Int32).toNatClampNeg 0) fun T14 => bif inb 1 112 then (letv (T14.1 6 (1 : Int32).toNatClampNeg) fun v15 => bif inb ((40 + (8 * a3)) + v15) 112 then (letv (ma T14 6 (((40 + (8 * a3)) + v15) : Int32).toNatClampNeg 0) fun T16 => fm_isPersonHere_L88 k1 k2 N (a3 + 1) T16) else none) else none) else none) else none)
def fm_isPersonHere (p0 : Int32) (T : mT) : Option (Bool × mT) := bif inb 1 112 then (letv (T.1 6 (1 : Int32).toNatClampNeg) fun v1 => if v1 = 8 then ((fm_fails 4 p0 T).bind fun q22 => some (q22.1, q22.2)) else ((fm_passWord T).bind fun q3 => bif inb 1 112 then (letv (q3.1 6 (1 : Int32).toNatClampNeg) fun v4 => bif inb 0 112 then (letv (q3.1 6 (0 : Int32).toNatClampNeg) fun v5 => (fm_cellHere (8 + (4 * v4)) 0 ((1 <<< (v5 &&& 31)) - 1) q3).bind fun q6 => if (b2i q6.1) = 0 then (some (false, q6.2)) else ((fm_cellHere ((8 + (4 * v4)) + 1) 0 99 q6.2).bind fun q8 => if (b2i q8.1) = 0 then (some (false, q8.2)) else (bif inb ((8 + (4 * v4)) + 2) 112 then (letv (ma q8.2 6 (((8 + (4 * v4)) + 2) : Int32).toNatClampNeg 0) fun T10 => bif inb ((8 + (4 * v4)) + 3) 112 then (letv (ma T10 6 (((8 + (4 * v4)) + 3) : Int32).toNatClampNeg 0) fun T11 => (fm_isPersonHere_L88 p0 (8 + (4 * v4)) FU 0 T11).bind fun w17 => bif inb 1 112 then (letv (w17.2.1 6 (1 : Int32).toNatClampNeg) fun v18 => bif inb (104 + v18) 112 then (letv (ma w17.2 6 ((104 + v18) : Int32).toNatClampNeg 0) fun T19 => bif inb 1 112 then (letv (T19.1 6 (1 : Int32).toNatClampNeg) fun v20 => bif inb 1 112 then (letv (ma T19 6 (1 : Int32).toNatClampNeg (v20 + 1)) fun T21 => some (true, T21)) else none) else none) else none) else none) else none) else none))) else none) else none)) else none
theorem xm_isPersonHere_L88 {l : Launch} {r : Option Value} {T' : mT} (k1 : Int32) (k2 : Int32) : ∀ (N : Nat) (a3 : Int32) (T : mT) (W0 : Int32 × mT) (_ : fm_isPersonHere_L88 k1 k2 N a3 T = some W0) (_ : MW l yy_X12_isPersonHere 3 r T' 140 [some (.ref 137), some (.int k1), some (.int k2), some (.int W0.1)] [] W0.2), MW l yy_X12_isPersonHere 3 r T' 88 [some (.ref 137), some (.int k1), some (.int k2), some (.int a3)] [] T := by
  intro N
  induction N with
  | zero =>
    intro a3 T W0 hf _
    cases hf
  | succ N ih =>
    intro a3 T W0 hf hk1
    unfold fm_isPersonHere_L88 at hf
    refine MW.run rfl [(.iload_n 3, 0), (.bipush 8, 8)] (pc' := 91) (ls' := [some (.ref 137), some (.int k1), some (.int k2), some (.int a3)]) (st' := [.int 8, .int a3]) (T1 := T) (by decide +kernel) rfl ?_
    refine MW.icmp_ge (off := 49) (tgt := 140) (by decide +kernel) (by decide) (fun c91_12 => ?_) (fun c91_12 => ?_)
    · rw [if_pos c91_12] at hf
      have e9 := Option.some.inj hf
      subst e9
      exact hk1
    · rw [if_neg c91_12] at hf
      refine MW.run rfl [(.aload_n 0, 0), (.getfield 26, 0), (.bipush 40, 40), (.bipush 8, 8), (.aload_n 0, 0), (.getfield 26, 0), (.iconst 1, 1)] (pc' := 107) (ls' := [some (.ref 137), some (.int k1), some (.int k2), some (.int a3)]) (st' := [.int 1, .ref 143, .int 8, .int 40, .ref 143]) (T1 := T) (by decide +kernel) rfl ?_
      obtain ⟨hi_v13, hf⟩ := bi_some hf
      obtain ⟨v13, hv13, hf⟩ := letv_some hf
      refine MW.iald 6 112 rfl (by decide) rfl (by decide +kernel) (inb_in hi_v13) ?_
      rw [← hv13]
      refine MW.run rfl [(.imul, 0), (.iadd, 0), (.iload_n 3, 0), (.iadd, 0), (.iconst 0, 0)] (pc' := 113) (ls' := [some (.ref 137), some (.int k1), some (.int k2), some (.int a3)]) (st' := [.int 0, .int ((40 + (8 * v13)) + a3), .ref 143]) (T1 := T) (by decide +kernel) rfl ?_
      obtain ⟨hi_T14, hf⟩ := bi_some hf
      obtain ⟨T14, hT14, hf⟩ := letv_some hf
      refine MW.iast 6 112 rfl (by decide) (fun _ => rfl) (by decide +kernel) (inb_in hi_T14) ?_
      rw [← hT14]
      refine MW.run rfl [(.aload_n 0, 0), (.getfield 26, 0), (.bipush 40, 40), (.bipush 8, 8), (.iload_n 3, 0), (.imul, 0), (.iadd, 0), (.aload_n 0, 0), (.getfield 26, 0), (.iconst 1, 1)] (pc' := 130) (ls' := [some (.ref 137), some (.int k1), some (.int k2), some (.int a3)]) (st' := [.int 1, .ref 143, .int (40 + (8 * a3)), .ref 143]) (T1 := T14) (by decide +kernel) rfl ?_
      obtain ⟨hi_v15, hf⟩ := bi_some hf
      obtain ⟨v15, hv15, hf⟩ := letv_some hf
      refine MW.iald 6 112 rfl (by decide) rfl (by decide +kernel) (inb_in hi_v15) ?_
      rw [← hv15]
      refine MW.run rfl [(.iadd, 0), (.iconst 0, 0)] (pc' := 133) (ls' := [some (.ref 137), some (.int k1), some (.int k2), some (.int a3)]) (st' := [.int 0, .int ((40 + (8 * a3)) + v15), .ref 143]) (T1 := T14) (by decide +kernel) rfl ?_
      obtain ⟨hi_T16, hf⟩ := bi_some hf
      obtain ⟨T16, hT16, hf⟩ := letv_some hf
      refine MW.iast 6 112 rfl (by decide) (fun _ => rfl) (by decide +kernel) (inb_in hi_T16) ?_
      rw [← hT16]
      refine MW.run rfl [(.iinc 3 1, 1), (.goto (-49), 0)] (pc' := 88) (ls' := [some (.ref 137), some (.int k1), some (.int k2), some (.int (a3 + 1))]) (st' := []) (T1 := T16) (by decide +kernel) rfl ?_
      exact ih _ _ _ hf hk1
theorem xm_isPersonHere {l : Launch} {p0 : Int32} {T : mT} {q : Bool × mT} (hf : fm_isPersonHere p0 T = some q) : MOk l yy_X12_isPersonHere 3 [.int p0] T (some (.int (b2i q.1))) q.2 := by
  refine MOk.of (ls := [some (.ref 137), some (.int p0), none, none]) (by decide +kernel) (Nat.le_of_ble_eq_true rfl) rfl ?_
  unfold fm_isPersonHere at hf
  refine MW.run rfl [(.aload_n 0, 0), (.getfield 26, 0), (.iconst 1, 1)] (pc' := 5) (ls' := [some (.ref 137), some (.int p0), none, none]) (st' := [.int 1, .ref 143]) (T1 := T) (by decide +kernel) rfl ?_
  obtain ⟨hi_v1, hf⟩ := bi_some hf
  obtain ⟨v1, hv1, hf⟩ := letv_some hf
  refine MW.iald 6 112 rfl (by decide) rfl (by decide +kernel) (inb_in hi_v1) ?_
  rw [← hv1]
  refine MW.run rfl [(.bipush 8, 8)] (pc' := 8) (ls' := [some (.ref 137), some (.int p0), none, none]) (st' := [.int 8, .int v1]) (T1 := T) (by decide +kernel) rfl ?_
  refine MW.icmp_ne (off := 10) (tgt := 18) (by decide +kernel) (by decide) (fun c8_2 => ?_) (fun c8_2 => ?_)
  · rw [if_neg c8_2] at hf
    refine MW.run rfl [(.aload_n 0, 0)] (pc' := 19) (ls' := [some (.ref 137), some (.int p0), none, none]) (st' := [.ref 137]) (T1 := T) (by decide +kernel) rfl ?_
    obtain ⟨q3, hq3, hf⟩ := bd_some hf
    refine MW.callV (As := []) (st := []) lv_RX12_97 rfl (by decide +kernel) (xm_passWord hq3) (by decide) (by decide) rfl (Nat.le_of_ble_eq_true rfl) rfl ?_
    show MW l yy_X12_isPersonHere 3 _ _ 22 [some (.ref 137), some (.int p0), none, none] [] q3
    refine MW.run rfl [(.bipush 8, 8), (.iconst 4, 4), (.aload_n 0, 0), (.getfield 26, 0), (.iconst 1, 1)] (pc' := 30) (ls' := [some (.ref 137), some (.int p0), none, none]) (st' := [.int 1, .ref 143, .int 4, .int 8]) (T1 := q3) (by decide +kernel) rfl ?_
    obtain ⟨hi_v4, hf⟩ := bi_some hf
    obtain ⟨v4, hv4, hf⟩ := letv_some hf
    refine MW.iald 6 112 rfl (by decide) rfl (by decide +kernel) (inb_in hi_v4) ?_
    rw [← hv4]
    refine MW.run rfl [(.imul, 0), (.iadd, 0), (.istore_n 2, 0), (.aload_n 0, 0), (.iload_n 2, 0), (.iconst 0, 0), (.iconst 1, 1), (.aload_n 0, 0), (.getfield 26, 0), (.iconst 0, 0)] (pc' := 43) (ls' := [some (.ref 137), some (.int p0), some (.int (8 + (4 * v4))), none]) (st' := [.int 0, .ref 143, .int 1, .int 0, .int (8 + (4 * v4)), .ref 137]) (T1 := q3) (by decide +kernel) rfl ?_
    obtain ⟨hi_v5, hf⟩ := bi_some hf
    obtain ⟨v5, hv5, hf⟩ := letv_some hf
    refine MW.iald 6 112 rfl (by decide) rfl (by decide +kernel) (inb_in hi_v5) ?_
    rw [← hv5]
    refine MW.run rfl [(.ishl, 0), (.iconst 1, 1), (.isub, 0)] (pc' := 47) (ls' := [some (.ref 137), some (.int p0), some (.int (8 + (4 * v4))), none]) (st' := [.int ((1 <<< (v5 &&& 31)) - 1), .int 0, .int (8 + (4 * v4)), .ref 137]) (T1 := q3) (by decide +kernel) rfl ?_
    obtain ⟨q6, hq6, hf⟩ := bd_some hf
    refine MW.callV (As := [.int (8 + (4 * v4)), .int 0, .int ((1 <<< (v5 &&& 31)) - 1)]) (st := []) lv_RX12_202 rfl (by decide +kernel) (xm_cellHere hq6) (by decide) (by decide) rfl (Nat.le_of_ble_eq_true rfl) rfl ?_
    show MW l yy_X12_isPersonHere 3 _ _ 50 [some (.ref 137), some (.int p0), some (.int (8 + (4 * v4))), none] [.int (b2i q6.1)] q6.2
    refine MW.if_eq (off := 16) (tgt := 66) (by decide +kernel) (by decide) (fun c50_7 => ?_) (fun c50_7 => ?_)
    · rw [if_pos c50_7] at hf
      refine MW.run rfl [(.iconst 0, 0)] (pc' := 67) (ls' := [some (.ref 137), some (.int p0), some (.int (8 + (4 * v4))), none]) (st' := [.int 0]) (T1 := q6.2) (by decide +kernel) rfl ?_
      have e9 := Option.some.inj hf
      subst e9
      exact MW.zret rfl (b2i_nar _) (by decide +kernel)
    · rw [if_neg c50_7] at hf
      refine MW.run rfl [(.aload_n 0, 0), (.iload_n 2, 0), (.iconst 1, 1), (.iadd, 0), (.iconst 0, 0), (.bipush 99, 99)] (pc' := 60) (ls' := [some (.ref 137), some (.int p0), some (.int (8 + (4 * v4))), none]) (st' := [.int 99, .int 0, .int ((8 + (4 * v4)) + 1), .ref 137]) (T1 := q6.2) (by decide +kernel) rfl ?_
      obtain ⟨q8, hq8, hf⟩ := bd_some hf
      refine MW.callV (As := [.int ((8 + (4 * v4)) + 1), .int 0, .int 99]) (st := []) lv_RX12_202 rfl (by decide +kernel) (xm_cellHere hq8) (by decide) (by decide) rfl (Nat.le_of_ble_eq_true rfl) rfl ?_
      show MW l yy_X12_isPersonHere 3 _ _ 63 [some (.ref 137), some (.int p0), some (.int (8 + (4 * v4))), none] [.int (b2i q8.1)] q8.2
      refine MW.if_ne (off := 5) (tgt := 68) (by decide +kernel) (by decide) (fun c63_9 => ?_) (fun c63_9 => ?_)
      · rw [if_neg c63_9] at hf
        refine MW.run rfl [(.aload_n 0, 0), (.getfield 26, 0), (.iload_n 2, 0), (.iconst 2, 2), (.iadd, 0), (.iconst 0, 0)] (pc' := 76) (ls' := [some (.ref 137), some (.int p0), some (.int (8 + (4 * v4))), none]) (st' := [.int 0, .int ((8 + (4 * v4)) + 2), .ref 143]) (T1 := q8.2) (by decide +kernel) rfl ?_
        obtain ⟨hi_T10, hf⟩ := bi_some hf
        obtain ⟨T10, hT10, hf⟩ := letv_some hf
        refine MW.iast 6 112 rfl (by decide) (fun _ => rfl) (by decide +kernel) (inb_in hi_T10) ?_
        rw [← hT10]
        refine MW.run rfl [(.aload_n 0, 0), (.getfield 26, 0), (.iload_n 2, 0), (.iconst 3, 3), (.iadd, 0), (.iconst 0, 0)] (pc' := 85) (ls' := [some (.ref 137), some (.int p0), some (.int (8 + (4 * v4))), none]) (st' := [.int 0, .int ((8 + (4 * v4)) + 3), .ref 143]) (T1 := T10) (by decide +kernel) rfl ?_
        obtain ⟨hi_T11, hf⟩ := bi_some hf
        obtain ⟨T11, hT11, hf⟩ := letv_some hf
        refine MW.iast 6 112 rfl (by decide) (fun _ => rfl) (by decide +kernel) (inb_in hi_T11) ?_
        rw [← hT11]
        refine MW.run rfl [(.iconst 0, 0), (.istore_n 3, 0)] (pc' := 88) (ls' := [some (.ref 137), some (.int p0), some (.int (8 + (4 * v4))), some (.int 0)]) (st' := []) (T1 := T11) (by decide +kernel) rfl ?_
        obtain ⟨w17, hw17, hf⟩ := bd_some hf
        refine xm_isPersonHere_L88 p0 (8 + (4 * v4)) FU _ _ _ hw17 ?_
        refine MW.run rfl [(.aload_n 0, 0), (.getfield 26, 0), (.bipush 104, 104), (.aload_n 0, 0), (.getfield 26, 0), (.iconst 1, 1)] (pc' := 151) (ls' := [some (.ref 137), some (.int p0), some (.int (8 + (4 * v4))), some (.int w17.1)]) (st' := [.int 1, .ref 143, .int 104, .ref 143]) (T1 := w17.2) (by decide +kernel) rfl ?_
        obtain ⟨hi_v18, hf⟩ := bi_some hf
        obtain ⟨v18, hv18, hf⟩ := letv_some hf
        refine MW.iald 6 112 rfl (by decide) rfl (by decide +kernel) (inb_in hi_v18) ?_
        rw [← hv18]
        refine MW.run rfl [(.iadd, 0), (.iconst 0, 0)] (pc' := 154) (ls' := [some (.ref 137), some (.int p0), some (.int (8 + (4 * v4))), some (.int w17.1)]) (st' := [.int 0, .int (104 + v18), .ref 143]) (T1 := w17.2) (by decide +kernel) rfl ?_
        obtain ⟨hi_T19, hf⟩ := bi_some hf
        obtain ⟨T19, hT19, hf⟩ := letv_some hf
        refine MW.iast 6 112 rfl (by decide) (fun _ => rfl) (by decide +kernel) (inb_in hi_T19) ?_
        rw [← hT19]
        refine MW.run rfl [(.aload_n 0, 0), (.getfield 26, 0), (.iconst 1, 1), (.dup2, 0)] (pc' := 161) (ls' := [some (.ref 137), some (.int p0), some (.int (8 + (4 * v4))), some (.int w17.1)]) (st' := [.int 1, .ref 143, .int 1, .ref 143]) (T1 := T19) (by decide +kernel) rfl ?_
        obtain ⟨hi_v20, hf⟩ := bi_some hf
        obtain ⟨v20, hv20, hf⟩ := letv_some hf
        refine MW.iald 6 112 rfl (by decide) rfl (by decide +kernel) (inb_in hi_v20) ?_
        rw [← hv20]
        refine MW.run rfl [(.iconst 1, 1), (.iadd, 0)] (pc' := 164) (ls' := [some (.ref 137), some (.int p0), some (.int (8 + (4 * v4))), some (.int w17.1)]) (st' := [.int (v20 + 1), .int 1, .ref 143]) (T1 := T19) (by decide +kernel) rfl ?_
        obtain ⟨hi_T21, hf⟩ := bi_some hf
        obtain ⟨T21, hT21, hf⟩ := letv_some hf
        refine MW.iast 6 112 rfl (by decide) (fun _ => rfl) (by decide +kernel) (inb_in hi_T21) ?_
        rw [← hT21]
        refine MW.run rfl [(.iconst 1, 1)] (pc' := 166) (ls' := [some (.ref 137), some (.int p0), some (.int (8 + (4 * v4))), some (.int w17.1)]) (st' := [.int 1]) (T1 := T21) (by decide +kernel) rfl ?_
        have e9 := Option.some.inj hf
        subst e9
        exact MW.zret rfl (b2i_nar _) (by decide +kernel)
      · rw [if_pos c63_9] at hf
        refine MW.run rfl [(.iconst 0, 0)] (pc' := 67) (ls' := [some (.ref 137), some (.int p0), some (.int (8 + (4 * v4))), none]) (st' := [.int 0]) (T1 := q8.2) (by decide +kernel) rfl ?_
        have e9 := Option.some.inj hf
        subst e9
        exact MW.zret rfl (b2i_nar _) (by decide +kernel)
  · rw [if_pos c8_2] at hf
    refine MW.run rfl [(.aload_n 0, 0), (.iconst 4, 4), (.iload_n 1, 0)] (pc' := 14) (ls' := [some (.ref 137), some (.int p0), none, none]) (st' := [.int p0, .int 4, .ref 137]) (T1 := T) (by decide +kernel) rfl ?_
    obtain ⟨q22, hq22, hf⟩ := bd_some hf
    refine MW.callV (As := [.int 4, .int p0]) (st := []) lv_RX12_103 rfl (by decide +kernel) (xm_fails hq22) (by decide) (by decide) rfl (Nat.le_of_ble_eq_true rfl) rfl ?_
    show MW l yy_X12_isPersonHere 3 _ _ 17 [some (.ref 137), some (.int p0), none, none] [.int (b2i q22.1)] q22.2
    have e9 := Option.some.inj hf
    subst e9
    exact MW.zret rfl (b2i_nar _) (by decide +kernel)
