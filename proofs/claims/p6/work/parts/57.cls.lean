/-! ===== the class, method by method (by program) 8 ===== -/
def fc_X7_chosen_L3 (k0 : Nat) (k1 : Int32) (k2 : Nat) (k3 : Int32) : Nat → Int32 → cT → Option ((Int32 × cT) ⊕ (Int32 × cT))
  | 0, _, _ => none
  | N + 1, a5, S => if (S.1 k0 6) ≤ a5 then (some (.inl (a5, S))) else (if 12 ≤ a5 then (some (.inl (a5, S))) else (bif inb a5 12 then (letv (S.1 (k0 + 2) (a5 : Int32).toNatClampNeg) fun v3 => if v3 = k1 then (bif inb a5 12 then (letv (S.1 (k0 + 4) (a5 : Int32).toNatClampNeg) fun v5 => bif inb a5 12 then (letv (S.1 (k0 + 5) (a5 : Int32).toNatClampNeg) fun v6 => if v5 = v6 then (bif inb a5 12 then (letv (S.1 (k0 + 3) (a5 : Int32).toNatClampNeg) fun v8 => bif inb a5 12 then (letv (S.1 (k0 + 4) (a5 : Int32).toNatClampNeg) fun v9 => (fc_X7_reckoned k0 v8 v9 k2 S).bind fun q10 => some (.inr (((mxL 0 (mnL q10.1 ((k3 : Int32).toInt64))) : Int64).toInt32, q10.2))) else none) else none) else (bif inb a5 12 then (letv (S.1 (k0 + 4) (a5 : Int32).toNatClampNeg) fun v11 => bif inb a5 12 then (letv (S.1 (k0 + 5) (a5 : Int32).toNatClampNeg) fun v12 => (fc_X7_reckoned k0 v11 v12 k2 S).bind fun q13 => if (lg_cmp q13.1 0) = 0 then (fc_X7_chosen_L3 k0 k1 k2 k3 N (a5 + 1) q13.2) else (bif inb a5 12 then (letv (q13.2.1 (k0 + 3) (a5 : Int32).toNatClampNeg) fun v15 => bif inb a5 12 then (letv (q13.2.1 (k0 + 4) (a5 : Int32).toNatClampNeg) fun v16 => (fc_X7_reckoned k0 v15 v16 k2 q13.2).bind fun q17 => some (.inr (((mxL 0 (mnL q17.1 ((k3 : Int32).toInt64))) : Int64).toInt32, q17.2))) else none) else none)) else none) else none)) else none) else none) else (fc_X7_chosen_L3 k0 k1 k2 k3 N (a5 + 1) S)) else none))
def fc_X7_chosen (b : Nat) (p0 : Int32) (p1 : Nat) (p2 : Int32) (p3 : Int32) (S : cT) : Option (Int32 × cT) := (fc_X7_chosen_L3 b p0 p1 p2 FU 0 S).bind fun w18 => Sum.elim (fun w18a => some (p3, w18a.2)) (fun w18b => some w18b) w18
theorem xc_X7_chosen_L3 {l : Launch} {r : Option Value} {S' : cT} (k0 : Nat) (k1 : Int32) (k2 : Nat) (k3 : Int32) (k4 : Int32) (hk0 : cK k0 = 6) (hk2 : cK k2 = 7) : ∀ (N : Nat) (a5 : Int32) (S : cT) (W0 : (Int32 × cT) ⊕ (Int32 × cT)) (_ : fc_X7_chosen_L3 k0 k1 k2 k3 N a5 S = some W0) (_ : ∀ W, W0 = .inl W → CW l yy_X7_chosen 2 r S' 111 [some (.ref k0), some (.int k1), some (.ref k2), some (.int k3), some (.int k4), some (.int W.1), none, none] [] W.2) (_ : ∀ Y, W0 = .inr Y → r = some (.int (Y.1)) ∧ S' = Y.2), CW l yy_X7_chosen 2 r S' 3 [some (.ref k0), some (.int k1), some (.ref k2), some (.int k3), some (.int k4), some (.int a5), none, none] [] S := by
  intro N
  induction N with
  | zero =>
    intro a5 S W0 hf _ _
    cases hf
  | succ N ih =>
    intro a5 S W0 hf hk_1 hk_2
    unfold fc_X7_chosen_L3 at hf
    refine CW.run (blk := [(.iload 5, 0), (.aload_n 0, 0)]) (pc' := 6) (ls' := [some (.ref k0), some (.int k1), some (.ref k2), some (.int k3), some (.int k4), some (.int a5), none, none]) (st' := [.ref k0, .int a5]) (by decide +kernel) rfl ?_
    refine CW.getf (v := .int (S.1 k0 6)) hk0 (by decide) fl_RX7_31 (by decide +kernel) rfl ?_
    refine CW.icmp_ge (off := 102) (tgt := 111) (by decide +kernel) (by decide) (fun c9_1 => ?_) (fun c9_1 => ?_)
    · rw [if_pos c9_1] at hf
      have e9 := Option.some.inj hf
      subst e9
      exact hk_1 (a5, S) rfl
    · rw [if_neg c9_1] at hf
      refine CW.run (blk := [(.iload 5, 0), (.bipush 12, 12)]) (pc' := 16) (ls' := [some (.ref k0), some (.int k1), some (.ref k2), some (.int k3), some (.int k4), some (.int a5), none, none]) (st' := [.int 12, .int a5]) (by decide +kernel) rfl ?_
      refine CW.icmp_ge (off := 95) (tgt := 111) (by decide +kernel) (by decide) (fun c16_2 => ?_) (fun c16_2 => ?_)
      · rw [if_pos c16_2] at hf
        have e9 := Option.some.inj hf
        subst e9
        exact hk_1 (a5, S) rfl
      · rw [if_neg c16_2] at hf
        refine CW.run (blk := [(.aload_n 0, 0)]) (pc' := 20) (ls' := [some (.ref k0), some (.int k1), some (.ref k2), some (.int k3), some (.int k4), some (.int a5), none, none]) (st' := [.ref k0]) (by decide +kernel) rfl ?_
        refine CW.getf (v := .ref (k0 + 2)) hk0 (by decide) fl_RX7_15 (by decide +kernel) rfl ?_
        refine CW.run (blk := [(.iload 5, 0)]) (pc' := 25) (ls' := [some (.ref k0), some (.int k1), some (.ref k2), some (.int k3), some (.int k4), some (.int a5), none, none]) (st' := [.int a5, .ref (k0 + 2)]) (by decide +kernel) rfl ?_
        obtain ⟨hi_v3, hf⟩ := bi_some hf
        obtain ⟨v3, hv3, hf⟩ := letv_some hf
        refine CW.iald (kk_6_1 hk0) (kn_6_1 hk0) (by decide +kernel) (inb_in hi_v3) ?_
        rw [← hv3]
        refine CW.run (blk := [(.iload_n 1, 0)]) (pc' := 27) (ls' := [some (.ref k0), some (.int k1), some (.ref k2), some (.int k3), some (.int k4), some (.int a5), none, none]) (st' := [.int k1, .int v3]) (by decide +kernel) rfl ?_
        refine CW.icmp_ne (off := 78) (tgt := 105) (by decide +kernel) (by decide) (fun c27_4 => ?_) (fun c27_4 => ?_)
        · rw [if_neg c27_4] at hf
          refine CW.run (blk := [(.iinc 5 1, 1), (.goto (-105), 0)]) (pc' := 3) (ls' := [some (.ref k0), some (.int k1), some (.ref k2), some (.int k3), some (.int k4), some (.int (a5 + 1)), none, none]) (st' := []) (by decide +kernel) rfl ?_
          exact ih _ _ _ hf hk_1 hk_2
        · rw [if_pos c27_4] at hf
          refine CW.run (blk := [(.aload_n 0, 0)]) (pc' := 31) (ls' := [some (.ref k0), some (.int k1), some (.ref k2), some (.int k3), some (.int k4), some (.int a5), none, none]) (st' := [.ref k0]) (by decide +kernel) rfl ?_
          refine CW.getf (v := .ref (k0 + 4)) hk0 (by decide) fl_RX7_21 (by decide +kernel) rfl ?_
          refine CW.run (blk := [(.iload 5, 0)]) (pc' := 36) (ls' := [some (.ref k0), some (.int k1), some (.ref k2), some (.int k3), some (.int k4), some (.int a5), none, none]) (st' := [.int a5, .ref (k0 + 4)]) (by decide +kernel) rfl ?_
          obtain ⟨hi_v5, hf⟩ := bi_some hf
          obtain ⟨v5, hv5, hf⟩ := letv_some hf
          refine CW.iald (kk_6_3 hk0) (kn_6_3 hk0) (by decide +kernel) (inb_in hi_v5) ?_
          rw [← hv5]
          refine CW.run (blk := [(.aload_n 0, 0)]) (pc' := 38) (ls' := [some (.ref k0), some (.int k1), some (.ref k2), some (.int k3), some (.int k4), some (.int a5), none, none]) (st' := [.ref k0, .int v5]) (by decide +kernel) rfl ?_
          refine CW.getf (v := .ref (k0 + 5)) hk0 (by decide) fl_RX7_24 (by decide +kernel) rfl ?_
          refine CW.run (blk := [(.iload 5, 0)]) (pc' := 43) (ls' := [some (.ref k0), some (.int k1), some (.ref k2), some (.int k3), some (.int k4), some (.int a5), none, none]) (st' := [.int a5, .ref (k0 + 5), .int v5]) (by decide +kernel) rfl ?_
          obtain ⟨hi_v6, hf⟩ := bi_some hf
          obtain ⟨v6, hv6, hf⟩ := letv_some hf
          refine CW.iald (kk_6_4 hk0) (kn_6_4 hk0) (by decide +kernel) (inb_in hi_v6) ?_
          rw [← hv6]
          refine CW.icmp_eq (off := 27) (tgt := 71) (by decide +kernel) (by decide) (fun c44_7 => ?_) (fun c44_7 => ?_)
          · rw [if_pos c44_7] at hf
            refine CW.run (blk := [(.aload_n 0, 0), (.aload_n 0, 0)]) (pc' := 73) (ls' := [some (.ref k0), some (.int k1), some (.ref k2), some (.int k3), some (.int k4), some (.int a5), none, none]) (st' := [.ref k0, .ref k0]) (by decide +kernel) rfl ?_
            refine CW.getf (v := .ref (k0 + 3)) hk0 (by decide) fl_RX7_18 (by decide +kernel) rfl ?_
            refine CW.run (blk := [(.iload 5, 0)]) (pc' := 78) (ls' := [some (.ref k0), some (.int k1), some (.ref k2), some (.int k3), some (.int k4), some (.int a5), none, none]) (st' := [.int a5, .ref (k0 + 3), .ref k0]) (by decide +kernel) rfl ?_
            obtain ⟨hi_v8, hf⟩ := bi_some hf
            obtain ⟨v8, hv8, hf⟩ := letv_some hf
            refine CW.iald (kk_6_2 hk0) (kn_6_2 hk0) (by decide +kernel) (inb_in hi_v8) ?_
            rw [← hv8]
            refine CW.run (blk := [(.aload_n 0, 0)]) (pc' := 80) (ls' := [some (.ref k0), some (.int k1), some (.ref k2), some (.int k3), some (.int k4), some (.int a5), none, none]) (st' := [.ref k0, .int v8, .ref k0]) (by decide +kernel) rfl ?_
            refine CW.getf (v := .ref (k0 + 4)) hk0 (by decide) fl_RX7_21 (by decide +kernel) rfl ?_
            refine CW.run (blk := [(.iload 5, 0)]) (pc' := 85) (ls' := [some (.ref k0), some (.int k1), some (.ref k2), some (.int k3), some (.int k4), some (.int a5), none, none]) (st' := [.int a5, .ref (k0 + 4), .int v8, .ref k0]) (by decide +kernel) rfl ?_
            obtain ⟨hi_v9, hf⟩ := bi_some hf
            obtain ⟨v9, hv9, hf⟩ := letv_some hf
            refine CW.iald (kk_6_3 hk0) (kn_6_3 hk0) (by decide +kernel) (inb_in hi_v9) ?_
            rw [← hv9]
            refine CW.run (blk := [(.aload_n 2, 0)]) (pc' := 87) (ls' := [some (.ref k0), some (.int k1), some (.ref k2), some (.int k3), some (.int k4), some (.int a5), none, none]) (st' := [.ref k2, .int v9, .int v8, .ref k0]) (by decide +kernel) rfl ?_
            obtain ⟨q10, hq10, hf⟩ := bd_some hf
            refine CW.callV (As := [.int v8, .int v9, .ref k2]) (st := []) lv_RX7_37 hk0 (by decide) rfl rfl (by decide +kernel) (xc_X7_reckoned hk0 hk2 hq10) (by decide) (by decide) rfl (Nat.le_of_ble_eq_true rfl) rfl ?_
            show CW l yy_X7_chosen 2 _ _ 90 [some (.ref k0), some (.int k1), some (.ref k2), some (.int k3), some (.int k4), some (.int a5), none, none] [.long q10.1] q10.2
            refine CW.run (blk := [(.lstore 6, 0), (.lconst 0, 0), (.lload 6, 0), (.iload_n 3, 0), (.i2l, 0)]) (pc' := 97) (ls' := [some (.ref k0), some (.int k1), some (.ref k2), some (.int k3), some (.int k4), some (.int a5), some (.long q10.1), none]) (st' := [.long ((k3 : Int32).toInt64), .long q10.1, .long 0]) (by decide +kernel) rfl ?_
            refine CW.mminL (idx := 41) (tb_in 632 (by decide +kernel) (by decide +kernel)) (by decide +kernel) (by decide) (Nat.le_of_ble_eq_true rfl) ?_
            refine CW.mmaxL (idx := 47) (tb_in 635 (by decide +kernel) (by decide +kernel)) (by decide +kernel) (by decide) (Nat.le_of_ble_eq_true rfl) ?_
            refine CW.run (blk := [(.l2i, 0)]) (pc' := 104) (ls' := [some (.ref k0), some (.int k1), some (.ref k2), some (.int k3), some (.int k4), some (.int a5), some (.long q10.1), none]) (st' := [.int (((mxL 0 (mnL q10.1 ((k3 : Int32).toInt64))) : Int64).toInt32)]) (by decide +kernel) rfl ?_
            have e9 := Option.some.inj hf
            subst e9
            obtain ⟨e1, e2⟩ := (hk_2 _ rfl)
            subst e1
            subst e2
            exact CW.iret rfl (by decide +kernel)
          · rw [if_neg c44_7] at hf
            refine CW.run (blk := [(.aload_n 0, 0), (.aload_n 0, 0)]) (pc' := 49) (ls' := [some (.ref k0), some (.int k1), some (.ref k2), some (.int k3), some (.int k4), some (.int a5), none, none]) (st' := [.ref k0, .ref k0]) (by decide +kernel) rfl ?_
            refine CW.getf (v := .ref (k0 + 4)) hk0 (by decide) fl_RX7_21 (by decide +kernel) rfl ?_
            refine CW.run (blk := [(.iload 5, 0)]) (pc' := 54) (ls' := [some (.ref k0), some (.int k1), some (.ref k2), some (.int k3), some (.int k4), some (.int a5), none, none]) (st' := [.int a5, .ref (k0 + 4), .ref k0]) (by decide +kernel) rfl ?_
            obtain ⟨hi_v11, hf⟩ := bi_some hf
            obtain ⟨v11, hv11, hf⟩ := letv_some hf
            refine CW.iald (kk_6_3 hk0) (kn_6_3 hk0) (by decide +kernel) (inb_in hi_v11) ?_
            rw [← hv11]
            refine CW.run (blk := [(.aload_n 0, 0)]) (pc' := 56) (ls' := [some (.ref k0), some (.int k1), some (.ref k2), some (.int k3), some (.int k4), some (.int a5), none, none]) (st' := [.ref k0, .int v11, .ref k0]) (by decide +kernel) rfl ?_
            refine CW.getf (v := .ref (k0 + 5)) hk0 (by decide) fl_RX7_24 (by decide +kernel) rfl ?_
            refine CW.run (blk := [(.iload 5, 0)]) (pc' := 61) (ls' := [some (.ref k0), some (.int k1), some (.ref k2), some (.int k3), some (.int k4), some (.int a5), none, none]) (st' := [.int a5, .ref (k0 + 5), .int v11, .ref k0]) (by decide +kernel) rfl ?_
            obtain ⟨hi_v12, hf⟩ := bi_some hf
            obtain ⟨v12, hv12, hf⟩ := letv_some hf
            refine CW.iald (kk_6_4 hk0) (kn_6_4 hk0) (by decide +kernel) (inb_in hi_v12) ?_
            rw [← hv12]
            refine CW.run (blk := [(.aload_n 2, 0)]) (pc' := 63) (ls' := [some (.ref k0), some (.int k1), some (.ref k2), some (.int k3), some (.int k4), some (.int a5), none, none]) (st' := [.ref k2, .int v12, .int v11, .ref k0]) (by decide +kernel) rfl ?_
            obtain ⟨q13, hq13, hf⟩ := bd_some hf
            refine CW.callV (As := [.int v11, .int v12, .ref k2]) (st := []) lv_RX7_37 hk0 (by decide) rfl rfl (by decide +kernel) (xc_X7_reckoned hk0 hk2 hq13) (by decide) (by decide) rfl (Nat.le_of_ble_eq_true rfl) rfl ?_
            show CW l yy_X7_chosen 2 _ _ 66 [some (.ref k0), some (.int k1), some (.ref k2), some (.int k3), some (.int k4), some (.int a5), none, none] [.long q13.1] q13.2
            refine CW.run (blk := [(.lconst 0, 0), (.lcmp, 0)]) (pc' := 68) (ls' := [some (.ref k0), some (.int k1), some (.ref k2), some (.int k3), some (.int k4), some (.int a5), none, none]) (st' := [.int (lg_cmp q13.1 0)]) (by decide +kernel) rfl ?_
            refine CW.if_eq (off := 37) (tgt := 105) (by decide +kernel) (by decide) (fun c68_14 => ?_) (fun c68_14 => ?_)
            · rw [if_pos c68_14] at hf
              refine CW.run (blk := [(.iinc 5 1, 1), (.goto (-105), 0)]) (pc' := 3) (ls' := [some (.ref k0), some (.int k1), some (.ref k2), some (.int k3), some (.int k4), some (.int (a5 + 1)), none, none]) (st' := []) (by decide +kernel) rfl ?_
              exact ih _ _ _ hf hk_1 hk_2
            · rw [if_neg c68_14] at hf
              refine CW.run (blk := [(.aload_n 0, 0), (.aload_n 0, 0)]) (pc' := 73) (ls' := [some (.ref k0), some (.int k1), some (.ref k2), some (.int k3), some (.int k4), some (.int a5), none, none]) (st' := [.ref k0, .ref k0]) (by decide +kernel) rfl ?_
              refine CW.getf (v := .ref (k0 + 3)) hk0 (by decide) fl_RX7_18 (by decide +kernel) rfl ?_
              refine CW.run (blk := [(.iload 5, 0)]) (pc' := 78) (ls' := [some (.ref k0), some (.int k1), some (.ref k2), some (.int k3), some (.int k4), some (.int a5), none, none]) (st' := [.int a5, .ref (k0 + 3), .ref k0]) (by decide +kernel) rfl ?_
              obtain ⟨hi_v15, hf⟩ := bi_some hf
              obtain ⟨v15, hv15, hf⟩ := letv_some hf
              refine CW.iald (kk_6_2 hk0) (kn_6_2 hk0) (by decide +kernel) (inb_in hi_v15) ?_
              rw [← hv15]
              refine CW.run (blk := [(.aload_n 0, 0)]) (pc' := 80) (ls' := [some (.ref k0), some (.int k1), some (.ref k2), some (.int k3), some (.int k4), some (.int a5), none, none]) (st' := [.ref k0, .int v15, .ref k0]) (by decide +kernel) rfl ?_
              refine CW.getf (v := .ref (k0 + 4)) hk0 (by decide) fl_RX7_21 (by decide +kernel) rfl ?_
              refine CW.run (blk := [(.iload 5, 0)]) (pc' := 85) (ls' := [some (.ref k0), some (.int k1), some (.ref k2), some (.int k3), some (.int k4), some (.int a5), none, none]) (st' := [.int a5, .ref (k0 + 4), .int v15, .ref k0]) (by decide +kernel) rfl ?_
              obtain ⟨hi_v16, hf⟩ := bi_some hf
              obtain ⟨v16, hv16, hf⟩ := letv_some hf
              refine CW.iald (kk_6_3 hk0) (kn_6_3 hk0) (by decide +kernel) (inb_in hi_v16) ?_
              rw [← hv16]
              refine CW.run (blk := [(.aload_n 2, 0)]) (pc' := 87) (ls' := [some (.ref k0), some (.int k1), some (.ref k2), some (.int k3), some (.int k4), some (.int a5), none, none]) (st' := [.ref k2, .int v16, .int v15, .ref k0]) (by decide +kernel) rfl ?_
              obtain ⟨q17, hq17, hf⟩ := bd_some hf
              refine CW.callV (As := [.int v15, .int v16, .ref k2]) (st := []) lv_RX7_37 hk0 (by decide) rfl rfl (by decide +kernel) (xc_X7_reckoned hk0 hk2 hq17) (by decide) (by decide) rfl (Nat.le_of_ble_eq_true rfl) rfl ?_
              show CW l yy_X7_chosen 2 _ _ 90 [some (.ref k0), some (.int k1), some (.ref k2), some (.int k3), some (.int k4), some (.int a5), none, none] [.long q17.1] q17.2
              refine CW.run (blk := [(.lstore 6, 0), (.lconst 0, 0), (.lload 6, 0), (.iload_n 3, 0), (.i2l, 0)]) (pc' := 97) (ls' := [some (.ref k0), some (.int k1), some (.ref k2), some (.int k3), some (.int k4), some (.int a5), some (.long q17.1), none]) (st' := [.long ((k3 : Int32).toInt64), .long q17.1, .long 0]) (by decide +kernel) rfl ?_
              refine CW.mminL (idx := 41) (tb_in 632 (by decide +kernel) (by decide +kernel)) (by decide +kernel) (by decide) (Nat.le_of_ble_eq_true rfl) ?_
              refine CW.mmaxL (idx := 47) (tb_in 635 (by decide +kernel) (by decide +kernel)) (by decide +kernel) (by decide) (Nat.le_of_ble_eq_true rfl) ?_
              refine CW.run (blk := [(.l2i, 0)]) (pc' := 104) (ls' := [some (.ref k0), some (.int k1), some (.ref k2), some (.int k3), some (.int k4), some (.int a5), some (.long q17.1), none]) (st' := [.int (((mxL 0 (mnL q17.1 ((k3 : Int32).toInt64))) : Int64).toInt32)]) (by decide +kernel) rfl ?_
              have e9 := Option.some.inj hf
              subst e9
              obtain ⟨e1, e2⟩ := (hk_2 _ rfl)
              subst e1
              subst e2
              exact CW.iret rfl (by decide +kernel)
theorem xc_X7_chosen {l : Launch} {b : Nat} {p0 : Int32} {p1 : Nat} {p2 : Int32} {p3 : Int32} {S : cT} {q : Int32 × cT} (hb : cK b = 6) (h1 : cK p1 = 7) (hf : fc_X7_chosen b p0 p1 p2 p3 S = some q) : COk l yy_X7_chosen 2 [.ref b, .int p0, .ref p1, .int p2, .int p3] S (some (.int q.1)) q.2 := by
  refine COk.of (ls := [some (.ref b), some (.int p0), some (.ref p1), some (.int p2), some (.int p3), none, none, none]) (by decide +kernel) (Nat.le_of_ble_eq_true rfl) rfl ?_
  unfold fc_X7_chosen at hf
  refine CW.run (blk := [(.iconst 0, 0), (.istore 5, 0)]) (pc' := 3) (ls' := [some (.ref b), some (.int p0), some (.ref p1), some (.int p2), some (.int p3), some (.int 0), none, none]) (st' := []) (by decide +kernel) rfl ?_
  obtain ⟨w18, hw18, hf⟩ := bd_some hf
  refine xc_X7_chosen_L3 b p0 p1 p2 p3 hb h1 FU _ _ _ hw18 (fun w18a hsw18 => ?_) (fun w18b hsw18 => ?_)
  · subst hsw18
    simp only [Sum.elim_inl] at hf
    refine CW.run (blk := [(.iload 4, 0)]) (pc' := 113) (ls' := [some (.ref b), some (.int p0), some (.ref p1), some (.int p2), some (.int p3), some (.int w18a.1), none, none]) (st' := [.int p3]) (by decide +kernel) rfl ?_
    have e9 := Option.some.inj hf
    subst e9
    exact CW.iret rfl (by decide +kernel)
  · subst hsw18
    simp only [Sum.elim_inr] at hf
    have e9 := Option.some.inj hf
    subst e9
    exact ⟨rfl, rfl⟩
def fc_X4_told (b : Nat) (p0 : Nat) (p1 : Nat) (p2 : Int32) (p3 : Int32) (p4 : Int32) (p5 : Int32) (S : cT) : Option (Int32 × cT) := (fc_X9_set (b + 1) p0 p2 p3 p4 p5 S).bind fun q1 => (fc_X2_lastFace p0 q1).bind fun q2 => (fc_X7_chosen p1 312 (b + 1) q2 p5 q1).bind fun q3 => some (q3.1, q3.2)
theorem xc_X4_told {l : Launch} {b : Nat} {p0 : Nat} {p1 : Nat} {p2 : Int32} {p3 : Int32} {p4 : Int32} {p5 : Int32} {S : cT} {q : Int32 × cT} (hb : cK b = 3) (h0 : cK p0 = 2) (h1 : cK p1 = 6) (hf : fc_X4_told b p0 p1 p2 p3 p4 p5 S = some q) : COk l yy_X4_told 3 [.ref b, .ref p0, .ref p1, .int p2, .int p3, .int p4, .int p5] S (some (.int q.1)) q.2 := by
  refine COk.of (ls := [some (.ref b), some (.ref p0), some (.ref p1), some (.int p2), some (.int p3), some (.int p4), some (.int p5)]) (by decide +kernel) (Nat.le_of_ble_eq_true rfl) rfl ?_
  unfold fc_X4_told at hf
  refine CW.run (blk := [(.aload_n 0, 0)]) (pc' := 1) (ls' := [some (.ref b), some (.ref p0), some (.ref p1), some (.int p2), some (.int p3), some (.int p4), some (.int p5)]) (st' := [.ref b]) (by decide +kernel) rfl ?_
  refine CW.getf (v := .ref (b + 1)) hb (by decide) fl_RX4_10 (by decide +kernel) rfl ?_
  refine CW.run (blk := [(.aload_n 1, 0), (.iload_n 3, 0), (.iload 4, 0), (.iload 5, 0), (.iload 6, 0)]) (pc' := 12) (ls' := [some (.ref b), some (.ref p0), some (.ref p1), some (.int p2), some (.int p3), some (.int p4), some (.int p5)]) (st' := [.int p5, .int p4, .int p3, .int p2, .ref p0, .ref (b + 1)]) (by decide +kernel) rfl ?_
  obtain ⟨q1, hq1, hf⟩ := bd_some hf
  refine CW.callV (As := [.ref p0, .int p2, .int p3, .int p4, .int p5]) (st := []) lv_RX4_22 (kk_3_0 hb) (by decide) rfl rfl (by decide +kernel) (xc_X9_set (kk_3_0 hb) h0 hq1) (by decide) (by decide) rfl (Nat.le_of_ble_eq_true rfl) rfl ?_
  show CW l yy_X4_told 3 _ _ 15 [some (.ref b), some (.ref p0), some (.ref p1), some (.int p2), some (.int p3), some (.int p4), some (.int p5)] [] q1
  refine CW.run (blk := [(.aload_n 2, 0), (.sipush 312, 312), (.aload_n 0, 0)]) (pc' := 20) (ls' := [some (.ref b), some (.ref p0), some (.ref p1), some (.int p2), some (.int p3), some (.int p4), some (.int p5)]) (st' := [.ref b, .int 312, .ref p1]) (by decide +kernel) rfl ?_
  refine CW.getf (v := .ref (b + 1)) hb (by decide) fl_RX4_10 (by decide +kernel) rfl ?_
  refine CW.run (blk := [(.aload_n 1, 0)]) (pc' := 24) (ls' := [some (.ref b), some (.ref p0), some (.ref p1), some (.int p2), some (.int p3), some (.int p4), some (.int p5)]) (st' := [.ref p0, .ref (b + 1), .int 312, .ref p1]) (by decide +kernel) rfl ?_
  obtain ⟨q2, hq2, hf⟩ := bd_some hf
  refine CW.callV (As := []) (st := [.ref (b + 1), .int 312, .ref p1]) lv_RX4_28 h0 (by decide) rfl rfl (by decide +kernel) (xc_X2_lastFace h0 hq2) (by decide) (by decide) rfl (Nat.le_of_ble_eq_true rfl) rfl ?_
  show CW l yy_X4_told 3 _ _ 27 [some (.ref b), some (.ref p0), some (.ref p1), some (.int p2), some (.int p3), some (.int p4), some (.int p5)] [.int q2, .ref (b + 1), .int 312, .ref p1] q1
  refine CW.run (blk := [(.iload 6, 0)]) (pc' := 29) (ls' := [some (.ref b), some (.ref p0), some (.ref p1), some (.int p2), some (.int p3), some (.int p4), some (.int p5)]) (st' := [.int p5, .int q2, .ref (b + 1), .int 312, .ref p1]) (by decide +kernel) rfl ?_
  obtain ⟨q3, hq3, hf⟩ := bd_some hf
  refine CW.callV (As := [.int 312, .ref (b + 1), .int q2, .int p5]) (st := []) lv_RX4_32 h1 (by decide) rfl rfl (by decide +kernel) (xc_X7_chosen h1 (kk_3_0 hb) hq3) (by decide) (by decide) rfl (Nat.le_of_ble_eq_true rfl) rfl ?_
  show CW l yy_X4_told 3 _ _ 32 [some (.ref b), some (.ref p0), some (.ref p1), some (.int p2), some (.int p3), some (.int p4), some (.int p5)] [.int q3.1] q3.2
  have e9 := Option.some.inj hf
  subst e9
  exact CW.iret rfl (by decide +kernel)
def fc_X9_setAs (b : Nat) (p0 : Nat) (p1 : Int32) (S : cT) : Option (cT) := (fc_X6_at (p0 + 6) p1 0 S).bind fun q1 => (fc_X6_at (p0 + 6) p1 1 S).bind fun q2 => (fc_X6_at (p0 + 6) p1 2 S).bind fun q3 => (fc_X6_at (p0 + 6) p1 3 S).bind fun q4 => (fc_X9_set b p0 q1 q2 q3 q4 S).bind fun q5 => (fc_X6_at (p0 + 6) p1 4 q5).bind fun q6 => bif inb 6 8 then (letv (cb q5 (b + 1) (6 : Int32).toNatClampNeg ((((q5.1 p0 12) - q6) : Int32).toInt64)) fun S8 => (fc_X6_at (p0 + 6) p1 6 S8).bind fun q9 => bif inb 7 8 then (letv (cb S8 (b + 1) (7 : Int32).toNatClampNeg ((q9 : Int32).toInt64)) fun S11 => some S11) else none) else none
theorem xc_X9_setAs {l : Launch} {b : Nat} {p0 : Nat} {p1 : Int32} {S : cT} {q : cT} (hb : cK b = 7) (h0 : cK p0 = 2) (hf : fc_X9_setAs b p0 p1 S = some q) : COk l yy_X9_setAs 2 [.ref b, .ref p0, .int p1] S none q := by
  refine COk.of (ls := [some (.ref b), some (.ref p0), some (.int p1), none]) (by decide +kernel) (Nat.le_of_ble_eq_true rfl) rfl ?_
  unfold fc_X9_setAs at hf
  refine CW.run (blk := [(.aload_n 1, 0)]) (pc' := 1) (ls' := [some (.ref b), some (.ref p0), some (.int p1), none]) (st' := [.ref p0]) (by decide +kernel) rfl ?_
  refine CW.getf (v := .ref (p0 + 6)) h0 (by decide) fl_RX9_28 (by decide +kernel) rfl ?_
  refine CW.run (blk := [(.astore_n 3, 0), (.aload_n 0, 0), (.aload_n 1, 0), (.aload_n 3, 0), (.iload_n 2, 0), (.iconst 0, 0)]) (pc' := 10) (ls' := [some (.ref b), some (.ref p0), some (.int p1), some (.ref (p0 + 6))]) (st' := [.int 0, .int p1, .ref (p0 + 6), .ref p0, .ref b]) (by decide +kernel) rfl ?_
  obtain ⟨q1, hq1, hf⟩ := bd_some hf
  refine CW.callV (As := [.int p1, .int 0]) (st := [.ref p0, .ref b]) lv_RX9_32 (kk_2_5 h0) (by decide) rfl rfl (by decide +kernel) (xc_X6_at (kk_2_5 h0) hq1) (by decide) (by decide) rfl (Nat.le_of_ble_eq_true rfl) rfl ?_
  show CW l yy_X9_setAs 2 _ _ 13 [some (.ref b), some (.ref p0), some (.int p1), some (.ref (p0 + 6))] [.int q1, .ref p0, .ref b] S
  refine CW.run (blk := [(.aload_n 3, 0), (.iload_n 2, 0), (.iconst 1, 1)]) (pc' := 16) (ls' := [some (.ref b), some (.ref p0), some (.int p1), some (.ref (p0 + 6))]) (st' := [.int 1, .int p1, .ref (p0 + 6), .int q1, .ref p0, .ref b]) (by decide +kernel) rfl ?_
  obtain ⟨q2, hq2, hf⟩ := bd_some hf
  refine CW.callV (As := [.int p1, .int 1]) (st := [.int q1, .ref p0, .ref b]) lv_RX9_32 (kk_2_5 h0) (by decide) rfl rfl (by decide +kernel) (xc_X6_at (kk_2_5 h0) hq2) (by decide) (by decide) rfl (Nat.le_of_ble_eq_true rfl) rfl ?_
  show CW l yy_X9_setAs 2 _ _ 19 [some (.ref b), some (.ref p0), some (.int p1), some (.ref (p0 + 6))] [.int q2, .int q1, .ref p0, .ref b] S
  refine CW.run (blk := [(.aload_n 3, 0), (.iload_n 2, 0), (.iconst 2, 2)]) (pc' := 22) (ls' := [some (.ref b), some (.ref p0), some (.int p1), some (.ref (p0 + 6))]) (st' := [.int 2, .int p1, .ref (p0 + 6), .int q2, .int q1, .ref p0, .ref b]) (by decide +kernel) rfl ?_
  obtain ⟨q3, hq3, hf⟩ := bd_some hf
  refine CW.callV (As := [.int p1, .int 2]) (st := [.int q2, .int q1, .ref p0, .ref b]) lv_RX9_32 (kk_2_5 h0) (by decide) rfl rfl (by decide +kernel) (xc_X6_at (kk_2_5 h0) hq3) (by decide) (by decide) rfl (Nat.le_of_ble_eq_true rfl) rfl ?_
  show CW l yy_X9_setAs 2 _ _ 25 [some (.ref b), some (.ref p0), some (.int p1), some (.ref (p0 + 6))] [.int q3, .int q2, .int q1, .ref p0, .ref b] S
  refine CW.run (blk := [(.aload_n 3, 0), (.iload_n 2, 0), (.iconst 3, 3)]) (pc' := 28) (ls' := [some (.ref b), some (.ref p0), some (.int p1), some (.ref (p0 + 6))]) (st' := [.int 3, .int p1, .ref (p0 + 6), .int q3, .int q2, .int q1, .ref p0, .ref b]) (by decide +kernel) rfl ?_
  obtain ⟨q4, hq4, hf⟩ := bd_some hf
  refine CW.callV (As := [.int p1, .int 3]) (st := [.int q3, .int q2, .int q1, .ref p0, .ref b]) lv_RX9_32 (kk_2_5 h0) (by decide) rfl rfl (by decide +kernel) (xc_X6_at (kk_2_5 h0) hq4) (by decide) (by decide) rfl (Nat.le_of_ble_eq_true rfl) rfl ?_
  show CW l yy_X9_setAs 2 _ _ 31 [some (.ref b), some (.ref p0), some (.int p1), some (.ref (p0 + 6))] [.int q4, .int q3, .int q2, .int q1, .ref p0, .ref b] S
  obtain ⟨q5, hq5, hf⟩ := bd_some hf
  refine CW.callV (As := [.ref p0, .int q1, .int q2, .int q3, .int q4]) (st := []) lv_RX9_37 hb (by decide) rfl rfl (by decide +kernel) (xc_X9_set hb h0 hq5) (by decide) (by decide) rfl (Nat.le_of_ble_eq_true rfl) rfl ?_
  show CW l yy_X9_setAs 2 _ _ 34 [some (.ref b), some (.ref p0), some (.int p1), some (.ref (p0 + 6))] [] q5
  refine CW.run (blk := [(.aload_n 0, 0)]) (pc' := 35) (ls' := [some (.ref b), some (.ref p0), some (.int p1), some (.ref (p0 + 6))]) (st' := [.ref b]) (by decide +kernel) rfl ?_
  refine CW.getf (v := .ref (b + 1)) hb (by decide) fl_RX9_9 (by decide +kernel) rfl ?_
  refine CW.run (blk := [(.bipush 6, 6), (.aload_n 1, 0)]) (pc' := 41) (ls' := [some (.ref b), some (.ref p0), some (.int p1), some (.ref (p0 + 6))]) (st' := [.ref p0, .int 6, .ref (b + 1)]) (by decide +kernel) rfl ?_
  refine CW.getf (v := .int (q5.1 p0 12)) h0 (by decide) fl_RX9_18 (by decide +kernel) rfl ?_
  refine CW.run (blk := [(.aload_n 3, 0), (.iload_n 2, 0), (.iconst 4, 4)]) (pc' := 47) (ls' := [some (.ref b), some (.ref p0), some (.int p1), some (.ref (p0 + 6))]) (st' := [.int 4, .int p1, .ref (p0 + 6), .int (q5.1 p0 12), .int 6, .ref (b + 1)]) (by decide +kernel) rfl ?_
  obtain ⟨q6, hq6, hf⟩ := bd_some hf
  refine CW.callV (As := [.int p1, .int 4]) (st := [.int (q5.1 p0 12), .int 6, .ref (b + 1)]) lv_RX9_32 (kk_2_5 h0) (by decide) rfl rfl (by decide +kernel) (xc_X6_at (kk_2_5 h0) hq6) (by decide) (by decide) rfl (Nat.le_of_ble_eq_true rfl) rfl ?_
  show CW l yy_X9_setAs 2 _ _ 50 [some (.ref b), some (.ref p0), some (.int p1), some (.ref (p0 + 6))] [.int q6, .int (q5.1 p0 12), .int 6, .ref (b + 1)] q5
  refine CW.run (blk := [(.isub, 0), (.i2l, 0)]) (pc' := 52) (ls' := [some (.ref b), some (.ref p0), some (.int p1), some (.ref (p0 + 6))]) (st' := [.long ((((q5.1 p0 12) - q6) : Int32).toInt64), .int 6, .ref (b + 1)]) (by decide +kernel) rfl ?_
  obtain ⟨hi7, hf⟩ := bi_some hf
  refine CW.last (kk_7_0 hb) (kn_7_0 hb) (by decide +kernel) (inb_in hi7) ?_
  obtain ⟨S8, hS8, hf⟩ := letv_some hf
  rw [← hS8]
  refine CW.run (blk := [(.aload_n 0, 0)]) (pc' := 54) (ls' := [some (.ref b), some (.ref p0), some (.int p1), some (.ref (p0 + 6))]) (st' := [.ref b]) (by decide +kernel) rfl ?_
  refine CW.getf (v := .ref (b + 1)) hb (by decide) fl_RX9_9 (by decide +kernel) rfl ?_
  refine CW.run (blk := [(.bipush 7, 7), (.aload_n 3, 0), (.iload_n 2, 0), (.bipush 6, 6)]) (pc' := 63) (ls' := [some (.ref b), some (.ref p0), some (.int p1), some (.ref (p0 + 6))]) (st' := [.int 6, .int p1, .ref (p0 + 6), .int 7, .ref (b + 1)]) (by decide +kernel) rfl ?_
  obtain ⟨q9, hq9, hf⟩ := bd_some hf
  refine CW.callV (As := [.int p1, .int 6]) (st := [.int 7, .ref (b + 1)]) lv_RX9_32 (kk_2_5 h0) (by decide) rfl rfl (by decide +kernel) (xc_X6_at (kk_2_5 h0) hq9) (by decide) (by decide) rfl (Nat.le_of_ble_eq_true rfl) rfl ?_
  show CW l yy_X9_setAs 2 _ _ 66 [some (.ref b), some (.ref p0), some (.int p1), some (.ref (p0 + 6))] [.int q9, .int 7, .ref (b + 1)] S8
  refine CW.run (blk := [(.i2l, 0)]) (pc' := 67) (ls' := [some (.ref b), some (.ref p0), some (.int p1), some (.ref (p0 + 6))]) (st' := [.long ((q9 : Int32).toInt64), .int 7, .ref (b + 1)]) (by decide +kernel) rfl ?_
  obtain ⟨hi10, hf⟩ := bi_some hf
  refine CW.last (kk_7_0 hb) (kn_7_0 hb) (by decide +kernel) (inb_in hi10) ?_
  obtain ⟨S11, hS11, hf⟩ := letv_some hf
  rw [← hS11]
  have e9 := Option.some.inj hf
  subst e9
  exact CW.vret rfl (by decide +kernel)
def fc_X4_weightOf (b : Nat) (p0 : Nat) (p1 : Nat) (p2 : Int32) (S : cT) : Option (Int32 × cT) := (fc_X9_setAs (b + 1) p0 p2 S).bind fun q1 => (fc_X2_isLook p0 p2 q1).bind fun q2 => if (b2i q2) = 0 then ((fc_X7_chosen p1 313 (b + 1) 999 1 q1).bind fun q4 => some (q4.1, q4.2)) else ((fc_X7_chosen p1 313 (b + 1) 999 99 q1).bind fun q5 => some (q5.1, q5.2))
theorem xc_X4_weightOf {l : Launch} {b : Nat} {p0 : Nat} {p1 : Nat} {p2 : Int32} {S : cT} {q : Int32 × cT} (hb : cK b = 3) (h0 : cK p0 = 2) (h1 : cK p1 = 6) (hf : fc_X4_weightOf b p0 p1 p2 S = some q) : COk l yy_X4_weightOf 3 [.ref b, .ref p0, .ref p1, .int p2] S (some (.int q.1)) q.2 := by
  refine COk.of (ls := [some (.ref b), some (.ref p0), some (.ref p1), some (.int p2)]) (by decide +kernel) (Nat.le_of_ble_eq_true rfl) rfl ?_
  unfold fc_X4_weightOf at hf
  refine CW.run (blk := [(.aload_n 0, 0)]) (pc' := 1) (ls' := [some (.ref b), some (.ref p0), some (.ref p1), some (.int p2)]) (st' := [.ref b]) (by decide +kernel) rfl ?_
  refine CW.getf (v := .ref (b + 1)) hb (by decide) fl_RX4_10 (by decide +kernel) rfl ?_
  refine CW.run (blk := [(.aload_n 1, 0), (.iload_n 3, 0)]) (pc' := 6) (ls' := [some (.ref b), some (.ref p0), some (.ref p1), some (.int p2)]) (st' := [.int p2, .ref p0, .ref (b + 1)]) (by decide +kernel) rfl ?_
  obtain ⟨q1, hq1, hf⟩ := bd_some hf
  refine CW.callV (As := [.ref p0, .int p2]) (st := []) lv_RX4_38 (kk_3_0 hb) (by decide) rfl rfl (by decide +kernel) (xc_X9_setAs (kk_3_0 hb) h0 hq1) (by decide) (by decide) rfl (Nat.le_of_ble_eq_true rfl) rfl ?_
  show CW l yy_X4_weightOf 3 _ _ 9 [some (.ref b), some (.ref p0), some (.ref p1), some (.int p2)] [] q1
  refine CW.run (blk := [(.aload_n 2, 0), (.sipush 313, 313), (.aload_n 0, 0)]) (pc' := 14) (ls' := [some (.ref b), some (.ref p0), some (.ref p1), some (.int p2)]) (st' := [.ref b, .int 313, .ref p1]) (by decide +kernel) rfl ?_
  refine CW.getf (v := .ref (b + 1)) hb (by decide) fl_RX4_10 (by decide +kernel) rfl ?_
  refine CW.run (blk := [(.sipush 999, 999), (.aload_n 1, 0), (.iload_n 3, 0)]) (pc' := 22) (ls' := [some (.ref b), some (.ref p0), some (.ref p1), some (.int p2)]) (st' := [.int p2, .ref p0, .int 999, .ref (b + 1), .int 313, .ref p1]) (by decide +kernel) rfl ?_
  obtain ⟨q2, hq2, hf⟩ := bd_some hf
  refine CW.callV (As := [.int p2]) (st := [.int 999, .ref (b + 1), .int 313, .ref p1]) lv_RX4_42 h0 (by decide) rfl rfl (by decide +kernel) (xc_X2_isLook h0 hq2) (by decide) (by decide) rfl (Nat.le_of_ble_eq_true rfl) rfl ?_
  show CW l yy_X4_weightOf 3 _ _ 25 [some (.ref b), some (.ref p0), some (.ref p1), some (.int p2)] [.int (b2i q2), .int 999, .ref (b + 1), .int 313, .ref p1] q1
  refine CW.if_eq (off := 8) (tgt := 33) (by decide +kernel) (by decide) (fun c25_3 => ?_) (fun c25_3 => ?_)
  · rw [if_pos c25_3] at hf
    refine CW.run (blk := [(.iconst 1, 1)]) (pc' := 34) (ls' := [some (.ref b), some (.ref p0), some (.ref p1), some (.int p2)]) (st' := [.int 1, .int 999, .ref (b + 1), .int 313, .ref p1]) (by decide +kernel) rfl ?_
    obtain ⟨q4, hq4, hf⟩ := bd_some hf
    refine CW.callV (As := [.int 313, .ref (b + 1), .int 999, .int 1]) (st := []) lv_RX4_32 h1 (by decide) rfl rfl (by decide +kernel) (xc_X7_chosen h1 (kk_3_0 hb) hq4) (by decide) (by decide) rfl (Nat.le_of_ble_eq_true rfl) rfl ?_
    show CW l yy_X4_weightOf 3 _ _ 37 [some (.ref b), some (.ref p0), some (.ref p1), some (.int p2)] [.int q4.1] q4.2
    have e9 := Option.some.inj hf
    subst e9
    exact CW.iret rfl (by decide +kernel)
  · rw [if_neg c25_3] at hf
    refine CW.run (blk := [(.bipush 99, 99), (.goto 4, 0)]) (pc' := 34) (ls' := [some (.ref b), some (.ref p0), some (.ref p1), some (.int p2)]) (st' := [.int 99, .int 999, .ref (b + 1), .int 313, .ref p1]) (by decide +kernel) rfl ?_
    obtain ⟨q5, hq5, hf⟩ := bd_some hf
    refine CW.callV (As := [.int 313, .ref (b + 1), .int 999, .int 99]) (st := []) lv_RX4_32 h1 (by decide) rfl rfl (by decide +kernel) (xc_X7_chosen h1 (kk_3_0 hb) hq5) (by decide) (by decide) rfl (Nat.le_of_ble_eq_true rfl) rfl ?_
    show CW l yy_X4_weightOf 3 _ _ 37 [some (.ref b), some (.ref p0), some (.ref p1), some (.int p2)] [.int q5.1] q5.2
    have e9 := Option.some.inj hf
    subst e9
    exact CW.iret rfl (by decide +kernel)
def fc_X4_clearSums_L2 (k0 : Nat) : Nat → Int32 → cT → Option (Int32 × cT)
  | 0, _, _ => none
  | N + 1, a1, S => if 6 ≤ a1 then (some (a1, S)) else (bif inb a1 6 then (letv (ca S (k0 + 4) (a1 : Int32).toNatClampNeg 0) fun S3 => fc_X4_clearSums_L2 k0 N (a1 + 1) S3) else none)
def fc_X4_clearSums (b : Nat) (S : cT) : Option (cT) := (fc_X4_clearSums_L2 b FU 0 S).bind fun w4 => some w4.2
theorem xc_X4_clearSums_L2 {l : Launch} {r : Option Value} {S' : cT} (k0 : Nat) (hk0 : cK k0 = 3) : ∀ (N : Nat) (a1 : Int32) (S : cT) (W0 : Int32 × cT) (_ : fc_X4_clearSums_L2 k0 N a1 S = some W0) (_ : CW l yy_X4_clearSums 0 r S' 21 [some (.ref k0), some (.int W0.1)] [] W0.2), CW l yy_X4_clearSums 0 r S' 2 [some (.ref k0), some (.int a1)] [] S := by
  intro N
  induction N with
  | zero =>
    intro a1 S W0 hf _
    cases hf
  | succ N ih =>
    intro a1 S W0 hf hk_1
    unfold fc_X4_clearSums_L2 at hf
    refine CW.run (blk := [(.iload_n 1, 0), (.bipush 6, 6)]) (pc' := 5) (ls' := [some (.ref k0), some (.int a1)]) (st' := [.int 6, .int a1]) (by decide +kernel) rfl ?_
    refine CW.icmp_ge (off := 16) (tgt := 21) (by decide +kernel) (by decide) (fun c5_1 => ?_) (fun c5_1 => ?_)
    · rw [if_pos c5_1] at hf
      have e9 := Option.some.inj hf
      subst e9
      exact hk_1
    · rw [if_neg c5_1] at hf
      refine CW.run (blk := [(.aload_n 0, 0)]) (pc' := 9) (ls' := [some (.ref k0), some (.int a1)]) (st' := [.ref k0]) (by decide +kernel) rfl ?_
      refine CW.getf (v := .ref (k0 + 4)) hk0 (by decide) fl_RX4_18 (by decide +kernel) rfl ?_
      refine CW.run (blk := [(.iload_n 1, 0), (.iconst 0, 0)]) (pc' := 14) (ls' := [some (.ref k0), some (.int a1)]) (st' := [.int 0, .int a1, .ref (k0 + 4)]) (by decide +kernel) rfl ?_
      obtain ⟨hi2, hf⟩ := bi_some hf
      refine CW.iast (kk_3_1 hk0) (kn_3_1 hk0) (by decide +kernel) (inb_in hi2) ?_
      obtain ⟨S3, hS3, hf⟩ := letv_some hf
      rw [← hS3]
      refine CW.run (blk := [(.iinc 1 1, 1), (.goto (-16), 0)]) (pc' := 2) (ls' := [some (.ref k0), some (.int (a1 + 1))]) (st' := []) (by decide +kernel) rfl ?_
      exact ih _ _ _ hf hk_1
theorem xc_X4_clearSums {l : Launch} {b : Nat} {S : cT} {q : cT} (hb : cK b = 3) (hf : fc_X4_clearSums b S = some q) : COk l yy_X4_clearSums 0 [.ref b] S none q := by
  refine COk.of (ls := [some (.ref b), none]) (by decide +kernel) (Nat.le_of_ble_eq_true rfl) rfl ?_
  unfold fc_X4_clearSums at hf
  refine CW.run (blk := [(.iconst 0, 0), (.istore_n 1, 0)]) (pc' := 2) (ls' := [some (.ref b), some (.int 0)]) (st' := []) (by decide +kernel) rfl ?_
  obtain ⟨w4, hw4, hf⟩ := bd_some hf
  refine xc_X4_clearSums_L2 b hb FU _ _ _ hw4 ?_
  have e9 := Option.some.inj hf
  subst e9
  exact CW.vret rfl (by decide +kernel)
def fc_X4_addFace_L3 (k0 : Nat) (k1 : Nat) (k2 : Int32) (k3 : Int32) : Nat → Int32 → cT → Option (Int32 × cT)
  | 0, _, _ => none
  | N + 1, a4, S => if (S.1 k1 8) ≤ a4 then (some (a4, S)) else (if 6 ≤ a4 then (some (a4, S)) else (bif inb a4 6 then (letv (S.1 (k0 + 4) (a4 : Int32).toNatClampNeg) fun v3 => if (((k2 : Int32) >>> (a4 &&& 31)) &&& 1) = 0 then (bif inb a4 6 then (letv (ca S (k0 + 4) (a4 : Int32).toNatClampNeg (v3 + (-k3))) fun S6 => fc_X4_addFace_L3 k0 k1 k2 k3 N (a4 + 1) S6) else none) else (bif inb a4 6 then (letv (ca S (k0 + 4) (a4 : Int32).toNatClampNeg (v3 + k3)) fun S8 => fc_X4_addFace_L3 k0 k1 k2 k3 N (a4 + 1) S8) else none)) else none))
def fc_X4_addFace (b : Nat) (p0 : Nat) (p1 : Int32) (p2 : Int32) (S : cT) : Option (cT) := (fc_X4_addFace_L3 b p0 p1 p2 FU 0 S).bind fun w9 => some w9.2
theorem xc_X4_addFace_L3 {l : Launch} {r : Option Value} {S' : cT} (k0 : Nat) (k1 : Nat) (k2 : Int32) (k3 : Int32) (hk0 : cK k0 = 3) (hk1 : cK k1 = 2) : ∀ (N : Nat) (a4 : Int32) (S : cT) (W0 : Int32 × cT) (_ : fc_X4_addFace_L3 k0 k1 k2 k3 N a4 S = some W0) (_ : CW l yy_X4_addFace 0 r S' 50 [some (.ref k0), some (.ref k1), some (.int k2), some (.int k3), some (.int W0.1)] [] W0.2), CW l yy_X4_addFace 0 r S' 3 [some (.ref k0), some (.ref k1), some (.int k2), some (.int k3), some (.int a4)] [] S := by
  intro N
  induction N with
  | zero =>
    intro a4 S W0 hf _
    cases hf
  | succ N ih =>
    intro a4 S W0 hf hk_1
    unfold fc_X4_addFace_L3 at hf
    refine CW.run (blk := [(.iload 4, 0), (.aload_n 1, 0)]) (pc' := 6) (ls' := [some (.ref k0), some (.ref k1), some (.int k2), some (.int k3), some (.int a4)]) (st' := [.ref k1, .int a4]) (by decide +kernel) rfl ?_
    refine CW.getf (v := .int (S.1 k1 8)) hk1 (by decide) fl_RX4_75 (by decide +kernel) rfl ?_
    refine CW.icmp_ge (off := 41) (tgt := 50) (by decide +kernel) (by decide) (fun c9_1 => ?_) (fun c9_1 => ?_)
    · rw [if_pos c9_1] at hf
      have e9 := Option.some.inj hf
      subst e9
      exact hk_1
    · rw [if_neg c9_1] at hf
      refine CW.run (blk := [(.iload 4, 0), (.bipush 6, 6)]) (pc' := 16) (ls' := [some (.ref k0), some (.ref k1), some (.int k2), some (.int k3), some (.int a4)]) (st' := [.int 6, .int a4]) (by decide +kernel) rfl ?_
      refine CW.icmp_ge (off := 34) (tgt := 50) (by decide +kernel) (by decide) (fun c16_2 => ?_) (fun c16_2 => ?_)
      · rw [if_pos c16_2] at hf
        have e9 := Option.some.inj hf
        subst e9
        exact hk_1
      · rw [if_neg c16_2] at hf
        refine CW.run (blk := [(.aload_n 0, 0)]) (pc' := 20) (ls' := [some (.ref k0), some (.ref k1), some (.int k2), some (.int k3), some (.int a4)]) (st' := [.ref k0]) (by decide +kernel) rfl ?_
        refine CW.getf (v := .ref (k0 + 4)) hk0 (by decide) fl_RX4_18 (by decide +kernel) rfl ?_
        refine CW.run (blk := [(.iload 4, 0), (.dup2, 0)]) (pc' := 26) (ls' := [some (.ref k0), some (.ref k1), some (.int k2), some (.int k3), some (.int a4)]) (st' := [.int a4, .ref (k0 + 4), .int a4, .ref (k0 + 4)]) (by decide +kernel) rfl ?_
        obtain ⟨hi_v3, hf⟩ := bi_some hf
        obtain ⟨v3, hv3, hf⟩ := letv_some hf
        refine CW.iald (kk_3_1 hk0) (kn_3_1 hk0) (by decide +kernel) (inb_in hi_v3) ?_
        rw [← hv3]
        refine CW.run (blk := [(.iload_n 2, 0), (.iload 4, 0), (.ishr, 0), (.iconst 1, 1), (.iand, 0)]) (pc' := 33) (ls' := [some (.ref k0), some (.ref k1), some (.int k2), some (.int k3), some (.int a4)]) (st' := [.int (((k2 : Int32) >>> (a4 &&& 31)) &&& 1), .int v3, .int a4, .ref (k0 + 4)]) (by decide +kernel) rfl ?_
        refine CW.if_eq (off := 7) (tgt := 40) (by decide +kernel) (by decide) (fun c33_4 => ?_) (fun c33_4 => ?_)
        · rw [if_pos c33_4] at hf
          refine CW.run (blk := [(.iload_n 3, 0), (.ineg, 0), (.iadd, 0)]) (pc' := 43) (ls' := [some (.ref k0), some (.ref k1), some (.int k2), some (.int k3), some (.int a4)]) (st' := [.int (v3 + (-k3)), .int a4, .ref (k0 + 4)]) (by decide +kernel) rfl ?_
          obtain ⟨hi5, hf⟩ := bi_some hf
          refine CW.iast (kk_3_1 hk0) (kn_3_1 hk0) (by decide +kernel) (inb_in hi5) ?_
          obtain ⟨S6, hS6, hf⟩ := letv_some hf
          rw [← hS6]
          refine CW.run (blk := [(.iinc 4 1, 1), (.goto (-44), 0)]) (pc' := 3) (ls' := [some (.ref k0), some (.ref k1), some (.int k2), some (.int k3), some (.int (a4 + 1))]) (st' := []) (by decide +kernel) rfl ?_
          exact ih _ _ _ hf hk_1
        · rw [if_neg c33_4] at hf
          refine CW.run (blk := [(.iload_n 3, 0), (.goto 5, 0), (.iadd, 0)]) (pc' := 43) (ls' := [some (.ref k0), some (.ref k1), some (.int k2), some (.int k3), some (.int a4)]) (st' := [.int (v3 + k3), .int a4, .ref (k0 + 4)]) (by decide +kernel) rfl ?_
          obtain ⟨hi7, hf⟩ := bi_some hf
          refine CW.iast (kk_3_1 hk0) (kn_3_1 hk0) (by decide +kernel) (inb_in hi7) ?_
          obtain ⟨S8, hS8, hf⟩ := letv_some hf
          rw [← hS8]
          refine CW.run (blk := [(.iinc 4 1, 1), (.goto (-44), 0)]) (pc' := 3) (ls' := [some (.ref k0), some (.ref k1), some (.int k2), some (.int k3), some (.int (a4 + 1))]) (st' := []) (by decide +kernel) rfl ?_
          exact ih _ _ _ hf hk_1
theorem xc_X4_addFace {l : Launch} {b : Nat} {p0 : Nat} {p1 : Int32} {p2 : Int32} {S : cT} {q : cT} (hb : cK b = 3) (h0 : cK p0 = 2) (hf : fc_X4_addFace b p0 p1 p2 S = some q) : COk l yy_X4_addFace 0 [.ref b, .ref p0, .int p1, .int p2] S none q := by
  refine COk.of (ls := [some (.ref b), some (.ref p0), some (.int p1), some (.int p2), none]) (by decide +kernel) (Nat.le_of_ble_eq_true rfl) rfl ?_
  unfold fc_X4_addFace at hf
  refine CW.run (blk := [(.iconst 0, 0), (.istore 4, 0)]) (pc' := 3) (ls' := [some (.ref b), some (.ref p0), some (.int p1), some (.int p2), some (.int 0)]) (st' := []) (by decide +kernel) rfl ?_
  obtain ⟨w9, hw9, hf⟩ := bd_some hf
  refine xc_X4_addFace_L3 b p0 p1 p2 hb h0 FU _ _ _ hw9 ?_
  have e9 := Option.some.inj hf
  subst e9
  exact CW.vret rfl (by decide +kernel)
def fc_X4_addUp_L7 (k0 : Nat) (k1 : Nat) (k2 : Nat) (k3 : Int32) : Nat → Int32 → cT → Option (Int32 × cT)
  | 0, _, _ => none
  | N + 1, a4, S => if (S.1 (k1 + 6) 3) ≤ a4 then (some (a4, S)) else ((fc_X6_at (k1 + 6) a4 2 S).bind fun q3 => if q3 = k3 then ((fc_X6_at (k1 + 6) a4 1 S).bind fun q5 => if q5 = k3 then ((fc_X6_at (k1 + 6) a4 3 S).bind fun q7 => (fc_X4_weightOf k0 k1 k2 a4 S).bind fun q8 => (fc_X4_addFace k0 k1 q7 q8.1 q8.2).bind fun q9 => fc_X4_addUp_L7 k0 k1 k2 k3 N (a4 + 1) q9) else (fc_X4_addUp_L7 k0 k1 k2 k3 N (a4 + 1) S)) else (fc_X4_addUp_L7 k0 k1 k2 k3 N (a4 + 1) S))
def fc_X4_addUp (b : Nat) (p0 : Nat) (p1 : Nat) (p2 : Int32) (S : cT) : Option (cT) := (fc_X4_clearSums b S).bind fun q1 => (fc_X4_addUp_L7 b p0 p1 p2 FU 0 q1).bind fun w10 => some w10.2
theorem xc_X4_addUp_L7 {l : Launch} {r : Option Value} {S' : cT} (k0 : Nat) (k1 : Nat) (k2 : Nat) (k3 : Int32) (hk0 : cK k0 = 3) (hk1 : cK k1 = 2) (hk2 : cK k2 = 6) : ∀ (N : Nat) (a4 : Int32) (S : cT) (W0 : Int32 × cT) (_ : fc_X4_addUp_L7 k0 k1 k2 k3 N a4 S = some W0) (_ : CW l yy_X4_addUp 4 r S' 76 [some (.ref k0), some (.ref k1), some (.ref k2), some (.int k3), some (.int W0.1)] [] W0.2), CW l yy_X4_addUp 4 r S' 7 [some (.ref k0), some (.ref k1), some (.ref k2), some (.int k3), some (.int a4)] [] S := by
  intro N
  induction N with
  | zero =>
    intro a4 S W0 hf _
    cases hf
  | succ N ih =>
    intro a4 S W0 hf hk_1
    unfold fc_X4_addUp_L7 at hf
    refine CW.run (blk := [(.iload 4, 0), (.aload_n 1, 0)]) (pc' := 10) (ls' := [some (.ref k0), some (.ref k1), some (.ref k2), some (.int k3), some (.int a4)]) (st' := [.ref k1, .int a4]) (by decide +kernel) rfl ?_
    refine CW.getf (v := .ref (k1 + 6)) hk1 (by decide) fl_RX4_49 (by decide +kernel) rfl ?_
    refine CW.getf (v := .int (S.1 (k1 + 6) 3)) (kk_2_5 hk1) (by decide) fl_RX4_53 (by decide +kernel) rfl ?_
    refine CW.icmp_ge (off := 60) (tgt := 76) (by decide +kernel) (by decide) (fun c16_2 => ?_) (fun c16_2 => ?_)
    · rw [if_pos c16_2] at hf
      have e9 := Option.some.inj hf
      subst e9
      exact hk_1
    · rw [if_neg c16_2] at hf
      refine CW.run (blk := [(.aload_n 1, 0)]) (pc' := 20) (ls' := [some (.ref k0), some (.ref k1), some (.ref k2), some (.int k3), some (.int a4)]) (st' := [.ref k1]) (by decide +kernel) rfl ?_
      refine CW.getf (v := .ref (k1 + 6)) hk1 (by decide) fl_RX4_49 (by decide +kernel) rfl ?_
      refine CW.run (blk := [(.iload 4, 0), (.iconst 2, 2)]) (pc' := 26) (ls' := [some (.ref k0), some (.ref k1), some (.ref k2), some (.int k3), some (.int a4)]) (st' := [.int 2, .int a4, .ref (k1 + 6)]) (by decide +kernel) rfl ?_
      obtain ⟨q3, hq3, hf⟩ := bd_some hf
      refine CW.callV (As := [.int a4, .int 2]) (st := []) lv_RX4_59 (kk_2_5 hk1) (by decide) rfl rfl (by decide +kernel) (xc_X6_at (kk_2_5 hk1) hq3) (by decide) (by decide) rfl (Nat.le_of_ble_eq_true rfl) rfl ?_
      show CW l yy_X4_addUp 4 _ _ 29 [some (.ref k0), some (.ref k1), some (.ref k2), some (.int k3), some (.int a4)] [.int q3] S
      refine CW.run (blk := [(.iload_n 3, 0)]) (pc' := 30) (ls' := [some (.ref k0), some (.ref k1), some (.ref k2), some (.int k3), some (.int a4)]) (st' := [.int k3, .int q3]) (by decide +kernel) rfl ?_
      refine CW.icmp_ne (off := 40) (tgt := 70) (by decide +kernel) (by decide) (fun c30_4 => ?_) (fun c30_4 => ?_)
      · rw [if_neg c30_4] at hf
        refine CW.run (blk := [(.iinc 4 1, 1), (.goto (-66), 0)]) (pc' := 7) (ls' := [some (.ref k0), some (.ref k1), some (.ref k2), some (.int k3), some (.int (a4 + 1))]) (st' := []) (by decide +kernel) rfl ?_
        exact ih _ _ _ hf hk_1
      · rw [if_pos c30_4] at hf
        refine CW.run (blk := [(.aload_n 1, 0)]) (pc' := 34) (ls' := [some (.ref k0), some (.ref k1), some (.ref k2), some (.int k3), some (.int a4)]) (st' := [.ref k1]) (by decide +kernel) rfl ?_
        refine CW.getf (v := .ref (k1 + 6)) hk1 (by decide) fl_RX4_49 (by decide +kernel) rfl ?_
        refine CW.run (blk := [(.iload 4, 0), (.iconst 1, 1)]) (pc' := 40) (ls' := [some (.ref k0), some (.ref k1), some (.ref k2), some (.int k3), some (.int a4)]) (st' := [.int 1, .int a4, .ref (k1 + 6)]) (by decide +kernel) rfl ?_
        obtain ⟨q5, hq5, hf⟩ := bd_some hf
        refine CW.callV (As := [.int a4, .int 1]) (st := []) lv_RX4_59 (kk_2_5 hk1) (by decide) rfl rfl (by decide +kernel) (xc_X6_at (kk_2_5 hk1) hq5) (by decide) (by decide) rfl (Nat.le_of_ble_eq_true rfl) rfl ?_
        show CW l yy_X4_addUp 4 _ _ 43 [some (.ref k0), some (.ref k1), some (.ref k2), some (.int k3), some (.int a4)] [.int q5] S
        refine CW.run (blk := [(.iload_n 3, 0)]) (pc' := 44) (ls' := [some (.ref k0), some (.ref k1), some (.ref k2), some (.int k3), some (.int a4)]) (st' := [.int k3, .int q5]) (by decide +kernel) rfl ?_
        refine CW.icmp_ne (off := 26) (tgt := 70) (by decide +kernel) (by decide) (fun c44_6 => ?_) (fun c44_6 => ?_)
        · rw [if_neg c44_6] at hf
          refine CW.run (blk := [(.iinc 4 1, 1), (.goto (-66), 0)]) (pc' := 7) (ls' := [some (.ref k0), some (.ref k1), some (.ref k2), some (.int k3), some (.int (a4 + 1))]) (st' := []) (by decide +kernel) rfl ?_
          exact ih _ _ _ hf hk_1
        · rw [if_pos c44_6] at hf
          refine CW.run (blk := [(.aload_n 0, 0), (.aload_n 1, 0), (.aload_n 1, 0)]) (pc' := 50) (ls' := [some (.ref k0), some (.ref k1), some (.ref k2), some (.int k3), some (.int a4)]) (st' := [.ref k1, .ref k1, .ref k0]) (by decide +kernel) rfl ?_
          refine CW.getf (v := .ref (k1 + 6)) hk1 (by decide) fl_RX4_49 (by decide +kernel) rfl ?_
          refine CW.run (blk := [(.iload 4, 0), (.iconst 3, 3)]) (pc' := 56) (ls' := [some (.ref k0), some (.ref k1), some (.ref k2), some (.int k3), some (.int a4)]) (st' := [.int 3, .int a4, .ref (k1 + 6), .ref k1, .ref k0]) (by decide +kernel) rfl ?_
          obtain ⟨q7, hq7, hf⟩ := bd_some hf
          refine CW.callV (As := [.int a4, .int 3]) (st := [.ref k1, .ref k0]) lv_RX4_59 (kk_2_5 hk1) (by decide) rfl rfl (by decide +kernel) (xc_X6_at (kk_2_5 hk1) hq7) (by decide) (by decide) rfl (Nat.le_of_ble_eq_true rfl) rfl ?_
          show CW l yy_X4_addUp 4 _ _ 59 [some (.ref k0), some (.ref k1), some (.ref k2), some (.int k3), some (.int a4)] [.int q7, .ref k1, .ref k0] S
          refine CW.run (blk := [(.aload_n 0, 0), (.aload_n 1, 0), (.aload_n 2, 0), (.iload 4, 0)]) (pc' := 64) (ls' := [some (.ref k0), some (.ref k1), some (.ref k2), some (.int k3), some (.int a4)]) (st' := [.int a4, .ref k2, .ref k1, .ref k0, .int q7, .ref k1, .ref k0]) (by decide +kernel) rfl ?_
          obtain ⟨q8, hq8, hf⟩ := bd_some hf
          refine CW.callV (As := [.ref k1, .ref k2, .int a4]) (st := [.int q7, .ref k1, .ref k0]) lv_RX4_63 hk0 (by decide) rfl rfl (by decide +kernel) (xc_X4_weightOf hk0 hk1 hk2 hq8) (by decide) (by decide) rfl (Nat.le_of_ble_eq_true rfl) rfl ?_
          show CW l yy_X4_addUp 4 _ _ 67 [some (.ref k0), some (.ref k1), some (.ref k2), some (.int k3), some (.int a4)] [.int q8.1, .int q7, .ref k1, .ref k0] q8.2
          obtain ⟨q9, hq9, hf⟩ := bd_some hf
          refine CW.callV (As := [.ref k1, .int q7, .int q8.1]) (st := []) lv_RX4_67 hk0 (by decide) rfl rfl (by decide +kernel) (xc_X4_addFace hk0 hk1 hq9) (by decide) (by decide) rfl (Nat.le_of_ble_eq_true rfl) rfl ?_
          show CW l yy_X4_addUp 4 _ _ 70 [some (.ref k0), some (.ref k1), some (.ref k2), some (.int k3), some (.int a4)] [] q9
          refine CW.run (blk := [(.iinc 4 1, 1), (.goto (-66), 0)]) (pc' := 7) (ls' := [some (.ref k0), some (.ref k1), some (.ref k2), some (.int k3), some (.int (a4 + 1))]) (st' := []) (by decide +kernel) rfl ?_
          exact ih _ _ _ hf hk_1
theorem xc_X4_addUp {l : Launch} {b : Nat} {p0 : Nat} {p1 : Nat} {p2 : Int32} {S : cT} {q : cT} (hb : cK b = 3) (h0 : cK p0 = 2) (h1 : cK p1 = 6) (hf : fc_X4_addUp b p0 p1 p2 S = some q) : COk l yy_X4_addUp 4 [.ref b, .ref p0, .ref p1, .int p2] S none q := by
  refine COk.of (ls := [some (.ref b), some (.ref p0), some (.ref p1), some (.int p2), none]) (by decide +kernel) (Nat.le_of_ble_eq_true rfl) rfl ?_
  unfold fc_X4_addUp at hf
  refine CW.run (blk := [(.aload_n 0, 0)]) (pc' := 1) (ls' := [some (.ref b), some (.ref p0), some (.ref p1), some (.int p2), none]) (st' := [.ref b]) (by decide +kernel) rfl ?_
  obtain ⟨q1, hq1, hf⟩ := bd_some hf
  refine CW.callV (As := []) (st := []) lv_RX4_46 hb (by decide) rfl rfl (by decide +kernel) (xc_X4_clearSums hb hq1) (by decide) (by decide) rfl (Nat.le_of_ble_eq_true rfl) rfl ?_
  show CW l yy_X4_addUp 4 _ _ 4 [some (.ref b), some (.ref p0), some (.ref p1), some (.int p2), none] [] q1
  refine CW.run (blk := [(.iconst 0, 0), (.istore 4, 0)]) (pc' := 7) (ls' := [some (.ref b), some (.ref p0), some (.ref p1), some (.int p2), some (.int 0)]) (st' := []) (by decide +kernel) rfl ?_
  obtain ⟨w10, hw10, hf⟩ := bd_some hf
  refine xc_X4_addUp_L7 b p0 p1 p2 hb h0 h1 FU _ _ _ hw10 ?_
  have e9 := Option.some.inj hf
  subst e9
  exact CW.vret rfl (by decide +kernel)
def fc_X4_addLeans_L6 (k0 : Nat) (k1 : Nat) (k2 : Int32) : Nat → Int32 → cT → Option (Int32 × cT)
  | 0, _, _ => none
  | N + 1, a3, S => if (S.1 (k1 + 6) 3) ≤ a3 then (some (a3, S)) else ((fc_X6_at (k1 + 6) a3 0 S).bind fun q3 => (fc_X6_at (k1 + 6) a3 2 S).bind fun q4 => if q4 = k2 then (if q3 = k2 then (fc_X4_addLeans_L6 k0 k1 k2 N (a3 + 1) S) else ((fc_X6_at (k1 + 6) a3 3 S).bind fun q7 => (fc_X2_leanOf k1 q3 S).bind fun q8 => (fc_X4_addFace k0 k1 q7 q8 S).bind fun q9 => fc_X4_addLeans_L6 k0 k1 k2 N (a3 + 1) q9)) else (fc_X4_addLeans_L6 k0 k1 k2 N (a3 + 1) S))
def fc_X4_addLeans (b : Nat) (p0 : Nat) (p1 : Int32) (S : cT) : Option (cT) := (fc_X4_clearSums b S).bind fun q1 => (fc_X4_addLeans_L6 b p0 p1 FU 0 q1).bind fun w10 => some w10.2
theorem xc_X4_addLeans_L6 {l : Launch} {r : Option Value} {S' : cT} (k0 : Nat) (k1 : Nat) (k2 : Int32) (hk0 : cK k0 = 3) (hk1 : cK k1 = 2) : ∀ (N : Nat) (a3 : Int32) (S : cT) (W0 : Int32 × cT) (_ : fc_X4_addLeans_L6 k0 k1 k2 N a3 S = some W0) (_ : CW l yy_X4_addLeans 3 r S' 73 [some (.ref k0), some (.ref k1), some (.int k2), some (.int W0.1), none] [] W0.2), CW l yy_X4_addLeans 3 r S' 6 [some (.ref k0), some (.ref k1), some (.int k2), some (.int a3), none] [] S := by
  intro N
  induction N with
  | zero =>
    intro a3 S W0 hf _
    cases hf
  | succ N ih =>
    intro a3 S W0 hf hk_1
    unfold fc_X4_addLeans_L6 at hf
    refine CW.run (blk := [(.iload_n 3, 0), (.aload_n 1, 0)]) (pc' := 8) (ls' := [some (.ref k0), some (.ref k1), some (.int k2), some (.int a3), none]) (st' := [.ref k1, .int a3]) (by decide +kernel) rfl ?_
    refine CW.getf (v := .ref (k1 + 6)) hk1 (by decide) fl_RX4_49 (by decide +kernel) rfl ?_
    refine CW.getf (v := .int (S.1 (k1 + 6) 3)) (kk_2_5 hk1) (by decide) fl_RX4_53 (by decide +kernel) rfl ?_
    refine CW.icmp_ge (off := 59) (tgt := 73) (by decide +kernel) (by decide) (fun c14_2 => ?_) (fun c14_2 => ?_)
    · rw [if_pos c14_2] at hf
      have e9 := Option.some.inj hf
      subst e9
      exact hk_1
    · rw [if_neg c14_2] at hf
      refine CW.run (blk := [(.aload_n 1, 0)]) (pc' := 18) (ls' := [some (.ref k0), some (.ref k1), some (.int k2), some (.int a3), none]) (st' := [.ref k1]) (by decide +kernel) rfl ?_
      refine CW.getf (v := .ref (k1 + 6)) hk1 (by decide) fl_RX4_49 (by decide +kernel) rfl ?_
      refine CW.run (blk := [(.iload_n 3, 0), (.iconst 0, 0)]) (pc' := 23) (ls' := [some (.ref k0), some (.ref k1), some (.int k2), some (.int a3), none]) (st' := [.int 0, .int a3, .ref (k1 + 6)]) (by decide +kernel) rfl ?_
      obtain ⟨q3, hq3, hf⟩ := bd_some hf
      refine CW.callV (As := [.int a3, .int 0]) (st := []) lv_RX4_59 (kk_2_5 hk1) (by decide) rfl rfl (by decide +kernel) (xc_X6_at (kk_2_5 hk1) hq3) (by decide) (by decide) rfl (Nat.le_of_ble_eq_true rfl) rfl ?_
      show CW l yy_X4_addLeans 3 _ _ 26 [some (.ref k0), some (.ref k1), some (.int k2), some (.int a3), none] [.int q3] S
      refine CW.run (blk := [(.istore 4, 0), (.aload_n 1, 0)]) (pc' := 29) (ls' := [some (.ref k0), some (.ref k1), some (.int k2), some (.int a3), some (.int q3)]) (st' := [.ref k1]) (by decide +kernel) rfl ?_
      refine CW.getf (v := .ref (k1 + 6)) hk1 (by decide) fl_RX4_49 (by decide +kernel) rfl ?_
      refine CW.run (blk := [(.iload_n 3, 0), (.iconst 2, 2)]) (pc' := 34) (ls' := [some (.ref k0), some (.ref k1), some (.int k2), some (.int a3), some (.int q3)]) (st' := [.int 2, .int a3, .ref (k1 + 6)]) (by decide +kernel) rfl ?_
      obtain ⟨q4, hq4, hf⟩ := bd_some hf
      refine CW.callV (As := [.int a3, .int 2]) (st := []) lv_RX4_59 (kk_2_5 hk1) (by decide) rfl rfl (by decide +kernel) (xc_X6_at (kk_2_5 hk1) hq4) (by decide) (by decide) rfl (Nat.le_of_ble_eq_true rfl) rfl ?_
      show CW l yy_X4_addLeans 3 _ _ 37 [some (.ref k0), some (.ref k1), some (.int k2), some (.int a3), some (.int q3)] [.int q4] S
      refine CW.run (blk := [(.iload_n 2, 0)]) (pc' := 38) (ls' := [some (.ref k0), some (.ref k1), some (.int k2), some (.int a3), some (.int q3)]) (st' := [.int k2, .int q4]) (by decide +kernel) rfl ?_
      refine CW.icmp_ne (off := 29) (tgt := 67) (by decide +kernel) (by decide) (fun c38_5 => ?_) (fun c38_5 => ?_)
      · rw [if_neg c38_5] at hf
        refine CW.run (blk := [(.iinc 3 1, 1), (.goto (-64), 0)]) (pc' := 6) (ls' := [some (.ref k0), some (.ref k1), some (.int k2), some (.int (a3 + 1)), some (.int q3)]) (st' := []) (by decide +kernel) rfl ?_
        refine CW.fgt (ls' := [some (.ref k0), some (.ref k1), some (.int k2), some (.int (a3 + 1)), none]) (by repeat' (first | exact trivial | refine ⟨rfl, ?_⟩)) ?_
        exact ih _ _ _ hf hk_1
      · rw [if_pos c38_5] at hf
        refine CW.run (blk := [(.iload 4, 0), (.iload_n 2, 0)]) (pc' := 44) (ls' := [some (.ref k0), some (.ref k1), some (.int k2), some (.int a3), some (.int q3)]) (st' := [.int k2, .int q3]) (by decide +kernel) rfl ?_
        refine CW.icmp_eq (off := 23) (tgt := 67) (by decide +kernel) (by decide) (fun c44_6 => ?_) (fun c44_6 => ?_)
        · rw [if_pos c44_6] at hf
          refine CW.run (blk := [(.iinc 3 1, 1), (.goto (-64), 0)]) (pc' := 6) (ls' := [some (.ref k0), some (.ref k1), some (.int k2), some (.int (a3 + 1)), some (.int q3)]) (st' := []) (by decide +kernel) rfl ?_
          refine CW.fgt (ls' := [some (.ref k0), some (.ref k1), some (.int k2), some (.int (a3 + 1)), none]) (by repeat' (first | exact trivial | refine ⟨rfl, ?_⟩)) ?_
          exact ih _ _ _ hf hk_1
        · rw [if_neg c44_6] at hf
          refine CW.run (blk := [(.aload_n 0, 0), (.aload_n 1, 0), (.aload_n 1, 0)]) (pc' := 50) (ls' := [some (.ref k0), some (.ref k1), some (.int k2), some (.int a3), some (.int q3)]) (st' := [.ref k1, .ref k1, .ref k0]) (by decide +kernel) rfl ?_
          refine CW.getf (v := .ref (k1 + 6)) hk1 (by decide) fl_RX4_49 (by decide +kernel) rfl ?_
          refine CW.run (blk := [(.iload_n 3, 0), (.iconst 3, 3)]) (pc' := 55) (ls' := [some (.ref k0), some (.ref k1), some (.int k2), some (.int a3), some (.int q3)]) (st' := [.int 3, .int a3, .ref (k1 + 6), .ref k1, .ref k0]) (by decide +kernel) rfl ?_
          obtain ⟨q7, hq7, hf⟩ := bd_some hf
          refine CW.callV (As := [.int a3, .int 3]) (st := [.ref k1, .ref k0]) lv_RX4_59 (kk_2_5 hk1) (by decide) rfl rfl (by decide +kernel) (xc_X6_at (kk_2_5 hk1) hq7) (by decide) (by decide) rfl (Nat.le_of_ble_eq_true rfl) rfl ?_
          show CW l yy_X4_addLeans 3 _ _ 58 [some (.ref k0), some (.ref k1), some (.int k2), some (.int a3), some (.int q3)] [.int q7, .ref k1, .ref k0] S
          refine CW.run (blk := [(.aload_n 1, 0), (.iload 4, 0)]) (pc' := 61) (ls' := [some (.ref k0), some (.ref k1), some (.int k2), some (.int a3), some (.int q3)]) (st' := [.int q3, .ref k1, .int q7, .ref k1, .ref k0]) (by decide +kernel) rfl ?_
          obtain ⟨q8, hq8, hf⟩ := bd_some hf
          refine CW.callV (As := [.int q3]) (st := [.int q7, .ref k1, .ref k0]) lv_RX4_71 hk1 (by decide) rfl rfl (by decide +kernel) (xc_X2_leanOf hk1 hq8) (by decide) (by decide) rfl (Nat.le_of_ble_eq_true rfl) rfl ?_
          show CW l yy_X4_addLeans 3 _ _ 64 [some (.ref k0), some (.ref k1), some (.int k2), some (.int a3), some (.int q3)] [.int q8, .int q7, .ref k1, .ref k0] S
          obtain ⟨q9, hq9, hf⟩ := bd_some hf
          refine CW.callV (As := [.ref k1, .int q7, .int q8]) (st := []) lv_RX4_67 hk0 (by decide) rfl rfl (by decide +kernel) (xc_X4_addFace hk0 hk1 hq9) (by decide) (by decide) rfl (Nat.le_of_ble_eq_true rfl) rfl ?_
          show CW l yy_X4_addLeans 3 _ _ 67 [some (.ref k0), some (.ref k1), some (.int k2), some (.int a3), some (.int q3)] [] q9
          refine CW.run (blk := [(.iinc 3 1, 1), (.goto (-64), 0)]) (pc' := 6) (ls' := [some (.ref k0), some (.ref k1), some (.int k2), some (.int (a3 + 1)), some (.int q3)]) (st' := []) (by decide +kernel) rfl ?_
          refine CW.fgt (ls' := [some (.ref k0), some (.ref k1), some (.int k2), some (.int (a3 + 1)), none]) (by repeat' (first | exact trivial | refine ⟨rfl, ?_⟩)) ?_
          exact ih _ _ _ hf hk_1
theorem xc_X4_addLeans {l : Launch} {b : Nat} {p0 : Nat} {p1 : Int32} {S : cT} {q : cT} (hb : cK b = 3) (h0 : cK p0 = 2) (hf : fc_X4_addLeans b p0 p1 S = some q) : COk l yy_X4_addLeans 3 [.ref b, .ref p0, .int p1] S none q := by
  refine COk.of (ls := [some (.ref b), some (.ref p0), some (.int p1), none, none]) (by decide +kernel) (Nat.le_of_ble_eq_true rfl) rfl ?_
  unfold fc_X4_addLeans at hf
  refine CW.run (blk := [(.aload_n 0, 0)]) (pc' := 1) (ls' := [some (.ref b), some (.ref p0), some (.int p1), none, none]) (st' := [.ref b]) (by decide +kernel) rfl ?_
  obtain ⟨q1, hq1, hf⟩ := bd_some hf
  refine CW.callV (As := []) (st := []) lv_RX4_46 hb (by decide) rfl rfl (by decide +kernel) (xc_X4_clearSums hb hq1) (by decide) (by decide) rfl (Nat.le_of_ble_eq_true rfl) rfl ?_
  show CW l yy_X4_addLeans 3 _ _ 4 [some (.ref b), some (.ref p0), some (.int p1), none, none] [] q1
  refine CW.run (blk := [(.iconst 0, 0), (.istore_n 3, 0)]) (pc' := 6) (ls' := [some (.ref b), some (.ref p0), some (.int p1), some (.int 0), none]) (st' := []) (by decide +kernel) rfl ?_
  obtain ⟨w10, hw10, hf⟩ := bd_some hf
  refine xc_X4_addLeans_L6 b p0 p1 hb h0 FU _ _ _ hw10 ?_
  have e9 := Option.some.inj hf
  subst e9
  exact CW.vret rfl (by decide +kernel)
