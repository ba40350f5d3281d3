/-! ===== the class, method by method (by program) 11 ===== -/
def fc_X8_readSum_L9 (k0 : Nat) (k1 : Nat) : Nat → Int32 → Int32 → cT → Option (Int32 × Int32 × cT)
  | 0, _, _, _ => none
  | N + 1, a2, a3, S => if 400 ≤ a3 then (some (a2, a3, S)) else (Option.bind (if (S.1 k0 8) = 43 then (some (1)) else (if (S.1 k0 8) = 45 then (some (1)) else (some (0))) : Option (Int32)) fun w3 => if w3 = 0 then (if (S.1 k0 8) = 42 then ((fc_X10_step k0 S).bind fun q16 => Option.bind (if w3 = 0 then (some (q16)) else (if a2 = 0 then (some (q16)) else ((fc_X7_addCode k1 (-a2) q16).bind fun q20 => some (q20))) : Option (cT)) fun w17 => (fc_X8_readValue k0 k1 w17).bind fun q21 => if w3 = 0 then ((fc_X7_addCode k1 (-(S.1 k0 8)) q21).bind fun q23 => fc_X8_readSum_L9 k0 k1 N a2 (a3 + 1) q23) else (fc_X8_readSum_L9 k0 k1 N (S.1 k0 8) (a3 + 1) q21)) else (if (S.1 k0 8) = 47 then ((fc_X10_step k0 S).bind fun q25 => Option.bind (if w3 = 0 then (some (q25)) else (if a2 = 0 then (some (q25)) else ((fc_X7_addCode k1 (-a2) q25).bind fun q29 => some (q29))) : Option (cT)) fun w26 => (fc_X8_readValue k0 k1 w26).bind fun q30 => if w3 = 0 then ((fc_X7_addCode k1 (-(S.1 k0 8)) q30).bind fun q32 => fc_X8_readSum_L9 k0 k1 N a2 (a3 + 1) q32) else (fc_X8_readSum_L9 k0 k1 N (S.1 k0 8) (a3 + 1) q30)) else (if (S.1 k0 8) = 37 then ((fc_X10_step k0 S).bind fun q34 => Option.bind (if w3 = 0 then (some (q34)) else (if a2 = 0 then (some (q34)) else ((fc_X7_addCode k1 (-a2) q34).bind fun q38 => some (q38))) : Option (cT)) fun w35 => (fc_X8_readValue k0 k1 w35).bind fun q39 => if w3 = 0 then ((fc_X7_addCode k1 (-(S.1 k0 8)) q39).bind fun q41 => fc_X8_readSum_L9 k0 k1 N a2 (a3 + 1) q41) else (fc_X8_readSum_L9 k0 k1 N (S.1 k0 8) (a3 + 1) q39)) else (some (a2, a3, S))))) else ((fc_X10_step k0 S).bind fun q7 => Option.bind (if w3 = 0 then (some (q7)) else (if a2 = 0 then (some (q7)) else ((fc_X7_addCode k1 (-a2) q7).bind fun q11 => some (q11))) : Option (cT)) fun w8 => (fc_X8_readValue k0 k1 w8).bind fun q12 => if w3 = 0 then ((fc_X7_addCode k1 (-(S.1 k0 8)) q12).bind fun q14 => fc_X8_readSum_L9 k0 k1 N a2 (a3 + 1) q14) else (fc_X8_readSum_L9 k0 k1 N (S.1 k0 8) (a3 + 1) q12)))
def fc_X8_readSum (p0 : Nat) (p1 : Nat) (S : cT) : Option (cT) := (fc_X8_readValue p0 p1 S).bind fun q1 => (fc_X8_readSum_L9 p0 p1 FU 0 0 q1).bind fun w42 => if w42.1 = 0 then (some w42.2.2) else ((fc_X7_addCode p1 (-w42.1) w42.2.2).bind fun q44 => some q44)
theorem xc_X8_readSum_L9 {l : Launch} {r : Option Value} {S' : cT} (k0 : Nat) (k1 : Nat) (hk0 : cK k0 = 8) (hk1 : cK k1 = 6) : ∀ (N : Nat) (a2 : Int32) (a3 : Int32) (S : cT) (W0 : Int32 × Int32 × cT) (_ : fc_X8_readSum_L9 k0 k1 N a2 a3 S = some W0) (_ : CW l yy_X8_readSum 2 r S' 120 [some (.ref k0), some (.ref k1), some (.int W0.1), some (.int W0.2.1), none, none] [] W0.2.2), CW l yy_X8_readSum 2 r S' 9 [some (.ref k0), some (.ref k1), some (.int a2), some (.int a3), none, none] [] S := by
  intro N
  induction N with
  | zero =>
    intro a2 a3 S W0 hf _
    cases hf
  | succ N ih =>
    intro a2 a3 S W0 hf hk_1
    unfold fc_X8_readSum_L9 at hf
    refine CW.run (blk := [(.iload_n 3, 0), (.sipush 400, 400)]) (pc' := 13) (ls' := [some (.ref k0), some (.ref k1), some (.int a2), some (.int a3), none, none]) (st' := [.int 400, .int a3]) (by decide +kernel) rfl ?_
    refine CW.icmp_ge (off := 107) (tgt := 120) (by decide +kernel) (by decide) (fun c13_2 => ?_) (fun c13_2 => ?_)
    · rw [if_pos c13_2] at hf
      have e9 := Option.some.inj hf
      subst e9
      exact hk_1
    · rw [if_neg c13_2] at hf
      refine CW.run (blk := [(.aload_n 0, 0)]) (pc' := 17) (ls' := [some (.ref k0), some (.ref k1), some (.int a2), some (.int a3), none, none]) (st' := [.ref k0]) (by decide +kernel) rfl ?_
      refine CW.getf (v := .int (S.1 k0 8)) hk0 (by decide) fl_RX8_23 (by decide +kernel) rfl ?_
      refine CW.run (blk := [(.istore 4, 0), (.iload 4, 0), (.bipush 43, 43)]) (pc' := 26) (ls' := [some (.ref k0), some (.ref k1), some (.int a2), some (.int a3), some (.int (S.1 k0 8)), none]) (st' := [.int 43, .int (S.1 k0 8)]) (by decide +kernel) rfl ?_
      obtain ⟨w3, hw3, hf⟩ := bd_some hf
      have hJ : CW l yy_X8_readSum 2 r S' 41 [some (.ref k0), some (.ref k1), some (.int a2), some (.int a3), some (.int (S.1 k0 8)), none] [.int w3] S := by
        refine CW.run (blk := [(.istore 5, 0), (.iload 5, 0)]) (pc' := 45) (ls' := [some (.ref k0), some (.ref k1), some (.int a2), some (.int a3), some (.int (S.1 k0 8)), some (.int w3)]) (st' := [.int w3]) (by decide +kernel) rfl ?_
        refine CW.if_ne (off := 27) (tgt := 72) (by decide +kernel) (by decide) (fun c45_6 => ?_) (fun c45_6 => ?_)
        · rw [if_neg c45_6] at hf
          refine CW.run (blk := [(.aload_n 0, 0)]) (pc' := 73) (ls' := [some (.ref k0), some (.ref k1), some (.int a2), some (.int a3), some (.int (S.1 k0 8)), some (.int w3)]) (st' := [.ref k0]) (by decide +kernel) rfl ?_
          obtain ⟨q7, hq7, hf⟩ := bd_some hf
          refine CW.callV (As := []) (st := []) lv_RX8_27 hk0 (by decide) rfl rfl (by decide +kernel) (xc_X10_step hk0 hq7) (by decide) (by decide) rfl (Nat.le_of_ble_eq_true rfl) rfl ?_
          show CW l yy_X8_readSum 2 _ _ 76 [some (.ref k0), some (.ref k1), some (.int a2), some (.int a3), some (.int (S.1 k0 8)), some (.int w3)] [] q7
          refine CW.run (blk := [(.iload 5, 0)]) (pc' := 78) (ls' := [some (.ref k0), some (.ref k1), some (.int a2), some (.int a3), some (.int (S.1 k0 8)), some (.int w3)]) (st' := [.int w3]) (by decide +kernel) rfl ?_
          obtain ⟨w8, hw8, hf⟩ := bd_some hf
          have hJ : CW l yy_X8_readSum 2 r S' 91 [some (.ref k0), some (.ref k1), some (.int a2), some (.int a3), some (.int (S.1 k0 8)), some (.int w3)] [] w8 := by
            refine CW.run (blk := [(.aload_n 0, 0), (.aload_n 1, 0)]) (pc' := 93) (ls' := [some (.ref k0), some (.ref k1), some (.int a2), some (.int a3), some (.int (S.1 k0 8)), some (.int w3)]) (st' := [.ref k1, .ref k0]) (by decide +kernel) rfl ?_
            obtain ⟨q12, hq12, hf⟩ := bd_some hf
            refine CW.callS (As := [.ref k0, .ref k1]) (st := []) lt_RX8_64 (by decide +kernel) (xc_X8_readValue hk0 hk1 hq12) (by decide) (by decide) rfl (Nat.le_of_ble_eq_true rfl) rfl ?_
            show CW l yy_X8_readSum 2 _ _ 96 [some (.ref k0), some (.ref k1), some (.int a2), some (.int a3), some (.int (S.1 k0 8)), some (.int w3)] [] q12
            refine CW.run (blk := [(.iload 5, 0)]) (pc' := 98) (ls' := [some (.ref k0), some (.ref k1), some (.int a2), some (.int a3), some (.int (S.1 k0 8)), some (.int w3)]) (st' := [.int w3]) (by decide +kernel) rfl ?_
            refine CW.if_eq (off := 9) (tgt := 107) (by decide +kernel) (by decide) (fun c98_13 => ?_) (fun c98_13 => ?_)
            · rw [if_pos c98_13] at hf
              refine CW.run (blk := [(.aload_n 1, 0), (.iload 4, 0), (.ineg, 0)]) (pc' := 111) (ls' := [some (.ref k0), some (.ref k1), some (.int a2), some (.int a3), some (.int (S.1 k0 8)), some (.int w3)]) (st' := [.int (-(S.1 k0 8)), .ref k1]) (by decide +kernel) rfl ?_
              obtain ⟨q14, hq14, hf⟩ := bd_some hf
              refine CW.callV (As := [.int (-(S.1 k0 8))]) (st := []) lv_RX8_51 hk1 (by decide) rfl rfl (by decide +kernel) (xc_X7_addCode hk1 hq14) (by decide) (by decide) rfl (Nat.le_of_ble_eq_true rfl) rfl ?_
              show CW l yy_X8_readSum 2 _ _ 114 [some (.ref k0), some (.ref k1), some (.int a2), some (.int a3), some (.int (S.1 k0 8)), some (.int w3)] [] q14
              refine CW.run (blk := [(.iinc 3 1, 1), (.goto (-108), 0)]) (pc' := 9) (ls' := [some (.ref k0), some (.ref k1), some (.int a2), some (.int (a3 + 1)), some (.int (S.1 k0 8)), some (.int w3)]) (st' := []) (by decide +kernel) rfl ?_
              refine CW.fgt (ls' := [some (.ref k0), some (.ref k1), some (.int a2), some (.int (a3 + 1)), none, none]) (by repeat' (first | exact trivial | refine ⟨rfl, ?_⟩)) ?_
              exact ih _ _ _ _ hf hk_1
            · rw [if_neg c98_13] at hf
              refine CW.run (blk := [(.iload 4, 0), (.istore_n 2, 0), (.goto 10, 0), (.iinc 3 1, 1), (.goto (-108), 0)]) (pc' := 9) (ls' := [some (.ref k0), some (.ref k1), some (.int (S.1 k0 8)), some (.int (a3 + 1)), some (.int (S.1 k0 8)), some (.int w3)]) (st' := []) (by decide +kernel) rfl ?_
              refine CW.fgt (ls' := [some (.ref k0), some (.ref k1), some (.int (S.1 k0 8)), some (.int (a3 + 1)), none, none]) (by repeat' (first | exact trivial | refine ⟨rfl, ?_⟩)) ?_
              exact ih _ _ _ _ hf hk_1
          clear hf
          refine CW.if_eq (off := 13) (tgt := 91) (by decide +kernel) (by decide) (fun c78_9 => ?_) (fun c78_9 => ?_)
          · rw [if_pos c78_9] at hw8
            have e9 := Option.some.inj hw8
            subst e9
            exact hJ
          · rw [if_neg c78_9] at hw8
            refine CW.run (blk := [(.iload_n 2, 0)]) (pc' := 82) (ls' := [some (.ref k0), some (.ref k1), some (.int a2), some (.int a3), some (.int (S.1 k0 8)), some (.int w3)]) (st' := [.int a2]) (by decide +kernel) rfl ?_
            refine CW.if_eq (off := 9) (tgt := 91) (by decide +kernel) (by decide) (fun c82_10 => ?_) (fun c82_10 => ?_)
            · rw [if_pos c82_10] at hw8
              have e9 := Option.some.inj hw8
              subst e9
              exact hJ
            · rw [if_neg c82_10] at hw8
              refine CW.run (blk := [(.aload_n 1, 0), (.iload_n 2, 0), (.ineg, 0)]) (pc' := 88) (ls' := [some (.ref k0), some (.ref k1), some (.int a2), some (.int a3), some (.int (S.1 k0 8)), some (.int w3)]) (st' := [.int (-a2), .ref k1]) (by decide +kernel) rfl ?_
              obtain ⟨q11, hq11, hw8⟩ := bd_some hw8
              refine CW.callV (As := [.int (-a2)]) (st := []) lv_RX8_51 hk1 (by decide) rfl rfl (by decide +kernel) (xc_X7_addCode hk1 hq11) (by decide) (by decide) rfl (Nat.le_of_ble_eq_true rfl) rfl ?_
              show CW l yy_X8_readSum 2 _ _ 91 [some (.ref k0), some (.ref k1), some (.int a2), some (.int a3), some (.int (S.1 k0 8)), some (.int w3)] [] q11
              have e9 := Option.some.inj hw8
              subst e9
              exact hJ
        · rw [if_pos c45_6] at hf
          refine CW.run (blk := [(.iload 4, 0), (.bipush 42, 42)]) (pc' := 52) (ls' := [some (.ref k0), some (.ref k1), some (.int a2), some (.int a3), some (.int (S.1 k0 8)), some (.int w3)]) (st' := [.int 42, .int (S.1 k0 8)]) (by decide +kernel) rfl ?_
          refine CW.icmp_eq (off := 20) (tgt := 72) (by decide +kernel) (by decide) (fun c52_15 => ?_) (fun c52_15 => ?_)
          · rw [if_pos c52_15] at hf
            refine CW.run (blk := [(.aload_n 0, 0)]) (pc' := 73) (ls' := [some (.ref k0), some (.ref k1), some (.int a2), some (.int a3), some (.int (S.1 k0 8)), some (.int w3)]) (st' := [.ref k0]) (by decide +kernel) rfl ?_
            obtain ⟨q16, hq16, hf⟩ := bd_some hf
            refine CW.callV (As := []) (st := []) lv_RX8_27 hk0 (by decide) rfl rfl (by decide +kernel) (xc_X10_step hk0 hq16) (by decide) (by decide) rfl (Nat.le_of_ble_eq_true rfl) rfl ?_
            show CW l yy_X8_readSum 2 _ _ 76 [some (.ref k0), some (.ref k1), some (.int a2), some (.int a3), some (.int (S.1 k0 8)), some (.int w3)] [] q16
            refine CW.run (blk := [(.iload 5, 0)]) (pc' := 78) (ls' := [some (.ref k0), some (.ref k1), some (.int a2), some (.int a3), some (.int (S.1 k0 8)), some (.int w3)]) (st' := [.int w3]) (by decide +kernel) rfl ?_
            obtain ⟨w17, hw17, hf⟩ := bd_some hf
            have hJ : CW l yy_X8_readSum 2 r S' 91 [some (.ref k0), some (.ref k1), some (.int a2), some (.int a3), some (.int (S.1 k0 8)), some (.int w3)] [] w17 := by
              refine CW.run (blk := [(.aload_n 0, 0), (.aload_n 1, 0)]) (pc' := 93) (ls' := [some (.ref k0), some (.ref k1), some (.int a2), some (.int a3), some (.int (S.1 k0 8)), some (.int w3)]) (st' := [.ref k1, .ref k0]) (by decide +kernel) rfl ?_
              obtain ⟨q21, hq21, hf⟩ := bd_some hf
              refine CW.callS (As := [.ref k0, .ref k1]) (st := []) lt_RX8_64 (by decide +kernel) (xc_X8_readValue hk0 hk1 hq21) (by decide) (by decide) rfl (Nat.le_of_ble_eq_true rfl) rfl ?_
              show CW l yy_X8_readSum 2 _ _ 96 [some (.ref k0), some (.ref k1), some (.int a2), some (.int a3), some (.int (S.1 k0 8)), some (.int w3)] [] q21
              refine CW.run (blk := [(.iload 5, 0)]) (pc' := 98) (ls' := [some (.ref k0), some (.ref k1), some (.int a2), some (.int a3), some (.int (S.1 k0 8)), some (.int w3)]) (st' := [.int w3]) (by decide +kernel) rfl ?_
              refine CW.if_eq (off := 9) (tgt := 107) (by decide +kernel) (by decide) (fun c98_22 => ?_) (fun c98_22 => ?_)
              · rw [if_pos c98_22] at hf
                refine CW.run (blk := [(.aload_n 1, 0), (.iload 4, 0), (.ineg, 0)]) (pc' := 111) (ls' := [some (.ref k0), some (.ref k1), some (.int a2), some (.int a3), some (.int (S.1 k0 8)), some (.int w3)]) (st' := [.int (-(S.1 k0 8)), .ref k1]) (by decide +kernel) rfl ?_
                obtain ⟨q23, hq23, hf⟩ := bd_some hf
                refine CW.callV (As := [.int (-(S.1 k0 8))]) (st := []) lv_RX8_51 hk1 (by decide) rfl rfl (by decide +kernel) (xc_X7_addCode hk1 hq23) (by decide) (by decide) rfl (Nat.le_of_ble_eq_true rfl) rfl ?_
                show CW l yy_X8_readSum 2 _ _ 114 [some (.ref k0), some (.ref k1), some (.int a2), some (.int a3), some (.int (S.1 k0 8)), some (.int w3)] [] q23
                refine CW.run (blk := [(.iinc 3 1, 1), (.goto (-108), 0)]) (pc' := 9) (ls' := [some (.ref k0), some (.ref k1), some (.int a2), some (.int (a3 + 1)), some (.int (S.1 k0 8)), some (.int w3)]) (st' := []) (by decide +kernel) rfl ?_
                refine CW.fgt (ls' := [some (.ref k0), some (.ref k1), some (.int a2), some (.int (a3 + 1)), none, none]) (by repeat' (first | exact trivial | refine ⟨rfl, ?_⟩)) ?_
                exact ih _ _ _ _ hf hk_1
              · rw [if_neg c98_22] at hf
                refine CW.run (blk := [(.iload 4, 0), (.istore_n 2, 0), (.goto 10, 0), (.iinc 3 1, 1), (.goto (-108), 0)]) (pc' := 9) (ls' := [some (.ref k0), some (.ref k1), some (.int (S.1 k0 8)), some (.int (a3 + 1)), some (.int (S.1 k0 8)), some (.int w3)]) (st' := []) (by decide +kernel) rfl ?_
                refine CW.fgt (ls' := [some (.ref k0), some (.ref k1), some (.int (S.1 k0 8)), some (.int (a3 + 1)), none, none]) (by repeat' (first | exact trivial | refine ⟨rfl, ?_⟩)) ?_
                exact ih _ _ _ _ hf hk_1
            clear hf
            refine CW.if_eq (off := 13) (tgt := 91) (by decide +kernel) (by decide) (fun c78_18 => ?_) (fun c78_18 => ?_)
            · rw [if_pos c78_18] at hw17
              have e9 := Option.some.inj hw17
              subst e9
              exact hJ
            · rw [if_neg c78_18] at hw17
              refine CW.run (blk := [(.iload_n 2, 0)]) (pc' := 82) (ls' := [some (.ref k0), some (.ref k1), some (.int a2), some (.int a3), some (.int (S.1 k0 8)), some (.int w3)]) (st' := [.int a2]) (by decide +kernel) rfl ?_
              refine CW.if_eq (off := 9) (tgt := 91) (by decide +kernel) (by decide) (fun c82_19 => ?_) (fun c82_19 => ?_)
              · rw [if_pos c82_19] at hw17
                have e9 := Option.some.inj hw17
                subst e9
                exact hJ
              · rw [if_neg c82_19] at hw17
                refine CW.run (blk := [(.aload_n 1, 0), (.iload_n 2, 0), (.ineg, 0)]) (pc' := 88) (ls' := [some (.ref k0), some (.ref k1), some (.int a2), some (.int a3), some (.int (S.1 k0 8)), some (.int w3)]) (st' := [.int (-a2), .ref k1]) (by decide +kernel) rfl ?_
                obtain ⟨q20, hq20, hw17⟩ := bd_some hw17
                refine CW.callV (As := [.int (-a2)]) (st := []) lv_RX8_51 hk1 (by decide) rfl rfl (by decide +kernel) (xc_X7_addCode hk1 hq20) (by decide) (by decide) rfl (Nat.le_of_ble_eq_true rfl) rfl ?_
                show CW l yy_X8_readSum 2 _ _ 91 [some (.ref k0), some (.ref k1), some (.int a2), some (.int a3), some (.int (S.1 k0 8)), some (.int w3)] [] q20
                have e9 := Option.some.inj hw17
                subst e9
                exact hJ
          · rw [if_neg c52_15] at hf
            refine CW.run (blk := [(.iload 4, 0), (.bipush 47, 47)]) (pc' := 59) (ls' := [some (.ref k0), some (.ref k1), some (.int a2), some (.int a3), some (.int (S.1 k0 8)), some (.int w3)]) (st' := [.int 47, .int (S.1 k0 8)]) (by decide +kernel) rfl ?_
            refine CW.icmp_eq (off := 13) (tgt := 72) (by decide +kernel) (by decide) (fun c59_24 => ?_) (fun c59_24 => ?_)
            · rw [if_pos c59_24] at hf
              refine CW.run (blk := [(.aload_n 0, 0)]) (pc' := 73) (ls' := [some (.ref k0), some (.ref k1), some (.int a2), some (.int a3), some (.int (S.1 k0 8)), some (.int w3)]) (st' := [.ref k0]) (by decide +kernel) rfl ?_
              obtain ⟨q25, hq25, hf⟩ := bd_some hf
              refine CW.callV (As := []) (st := []) lv_RX8_27 hk0 (by decide) rfl rfl (by decide +kernel) (xc_X10_step hk0 hq25) (by decide) (by decide) rfl (Nat.le_of_ble_eq_true rfl) rfl ?_
              show CW l yy_X8_readSum 2 _ _ 76 [some (.ref k0), some (.ref k1), some (.int a2), some (.int a3), some (.int (S.1 k0 8)), some (.int w3)] [] q25
              refine CW.run (blk := [(.iload 5, 0)]) (pc' := 78) (ls' := [some (.ref k0), some (.ref k1), some (.int a2), some (.int a3), some (.int (S.1 k0 8)), some (.int w3)]) (st' := [.int w3]) (by decide +kernel) rfl ?_
              obtain ⟨w26, hw26, hf⟩ := bd_some hf
              have hJ : CW l yy_X8_readSum 2 r S' 91 [some (.ref k0), some (.ref k1), some (.int a2), some (.int a3), some (.int (S.1 k0 8)), some (.int w3)] [] w26 := by
                refine CW.run (blk := [(.aload_n 0, 0), (.aload_n 1, 0)]) (pc' := 93) (ls' := [some (.ref k0), some (.ref k1), some (.int a2), some (.int a3), some (.int (S.1 k0 8)), some (.int w3)]) (st' := [.ref k1, .ref k0]) (by decide +kernel) rfl ?_
                obtain ⟨q30, hq30, hf⟩ := bd_some hf
                refine CW.callS (As := [.ref k0, .ref k1]) (st := []) lt_RX8_64 (by decide +kernel) (xc_X8_readValue hk0 hk1 hq30) (by decide) (by decide) rfl (Nat.le_of_ble_eq_true rfl) rfl ?_
                show CW l yy_X8_readSum 2 _ _ 96 [some (.ref k0), some (.ref k1), some (.int a2), some (.int a3), some (.int (S.1 k0 8)), some (.int w3)] [] q30
                refine CW.run (blk := [(.iload 5, 0)]) (pc' := 98) (ls' := [some (.ref k0), some (.ref k1), some (.int a2), some (.int a3), some (.int (S.1 k0 8)), some (.int w3)]) (st' := [.int w3]) (by decide +kernel) rfl ?_
                refine CW.if_eq (off := 9) (tgt := 107) (by decide +kernel) (by decide) (fun c98_31 => ?_) (fun c98_31 => ?_)
                · rw [if_pos c98_31] at hf
                  refine CW.run (blk := [(.aload_n 1, 0), (.iload 4, 0), (.ineg, 0)]) (pc' := 111) (ls' := [some (.ref k0), some (.ref k1), some (.int a2), some (.int a3), some (.int (S.1 k0 8)), some (.int w3)]) (st' := [.int (-(S.1 k0 8)), .ref k1]) (by decide +kernel) rfl ?_
                  obtain ⟨q32, hq32, hf⟩ := bd_some hf
                  refine CW.callV (As := [.int (-(S.1 k0 8))]) (st := []) lv_RX8_51 hk1 (by decide) rfl rfl (by decide +kernel) (xc_X7_addCode hk1 hq32) (by decide) (by decide) rfl (Nat.le_of_ble_eq_true rfl) rfl ?_
                  show CW l yy_X8_readSum 2 _ _ 114 [some (.ref k0), some (.ref k1), some (.int a2), some (.int a3), some (.int (S.1 k0 8)), some (.int w3)] [] q32
                  refine CW.run (blk := [(.iinc 3 1, 1), (.goto (-108), 0)]) (pc' := 9) (ls' := [some (.ref k0), some (.ref k1), some (.int a2), some (.int (a3 + 1)), some (.int (S.1 k0 8)), some (.int w3)]) (st' := []) (by decide +kernel) rfl ?_
                  refine CW.fgt (ls' := [some (.ref k0), some (.ref k1), some (.int a2), some (.int (a3 + 1)), none, none]) (by repeat' (first | exact trivial | refine ⟨rfl, ?_⟩)) ?_
                  exact ih _ _ _ _ hf hk_1
                · rw [if_neg c98_31] at hf
                  refine CW.run (blk := [(.iload 4, 0), (.istore_n 2, 0), (.goto 10, 0), (.iinc 3 1, 1), (.goto (-108), 0)]) (pc' := 9) (ls' := [some (.ref k0), some (.ref k1), some (.int (S.1 k0 8)), some (.int (a3 + 1)), some (.int (S.1 k0 8)), some (.int w3)]) (st' := []) (by decide +kernel) rfl ?_
                  refine CW.fgt (ls' := [some (.ref k0), some (.ref k1), some (.int (S.1 k0 8)), some (.int (a3 + 1)), none, none]) (by repeat' (first | exact trivial | refine ⟨rfl, ?_⟩)) ?_
                  exact ih _ _ _ _ hf hk_1
              clear hf
              refine CW.if_eq (off := 13) (tgt := 91) (by decide +kernel) (by decide) (fun c78_27 => ?_) (fun c78_27 => ?_)
              · rw [if_pos c78_27] at hw26
                have e9 := Option.some.inj hw26
                subst e9
                exact hJ
              · rw [if_neg c78_27] at hw26
                refine CW.run (blk := [(.iload_n 2, 0)]) (pc' := 82) (ls' := [some (.ref k0), some (.ref k1), some (.int a2), some (.int a3), some (.int (S.1 k0 8)), some (.int w3)]) (st' := [.int a2]) (by decide +kernel) rfl ?_
                refine CW.if_eq (off := 9) (tgt := 91) (by decide +kernel) (by decide) (fun c82_28 => ?_) (fun c82_28 => ?_)
                · rw [if_pos c82_28] at hw26
                  have e9 := Option.some.inj hw26
                  subst e9
                  exact hJ
                · rw [if_neg c82_28] at hw26
                  refine CW.run (blk := [(.aload_n 1, 0), (.iload_n 2, 0), (.ineg, 0)]) (pc' := 88) (ls' := [some (.ref k0), some (.ref k1), some (.int a2), some (.int a3), some (.int (S.1 k0 8)), some (.int w3)]) (st' := [.int (-a2), .ref k1]) (by decide +kernel) rfl ?_
                  obtain ⟨q29, hq29, hw26⟩ := bd_some hw26
                  refine CW.callV (As := [.int (-a2)]) (st := []) lv_RX8_51 hk1 (by decide) rfl rfl (by decide +kernel) (xc_X7_addCode hk1 hq29) (by decide) (by decide) rfl (Nat.le_of_ble_eq_true rfl) rfl ?_
                  show CW l yy_X8_readSum 2 _ _ 91 [some (.ref k0), some (.ref k1), some (.int a2), some (.int a3), some (.int (S.1 k0 8)), some (.int w3)] [] q29
                  have e9 := Option.some.inj hw26
                  subst e9
                  exact hJ
            · rw [if_neg c59_24] at hf
              refine CW.run (blk := [(.iload 4, 0), (.bipush 37, 37)]) (pc' := 66) (ls' := [some (.ref k0), some (.ref k1), some (.int a2), some (.int a3), some (.int (S.1 k0 8)), some (.int w3)]) (st' := [.int 37, .int (S.1 k0 8)]) (by decide +kernel) rfl ?_
              refine CW.icmp_eq (off := 6) (tgt := 72) (by decide +kernel) (by decide) (fun c66_33 => ?_) (fun c66_33 => ?_)
              · rw [if_pos c66_33] at hf
                refine CW.run (blk := [(.aload_n 0, 0)]) (pc' := 73) (ls' := [some (.ref k0), some (.ref k1), some (.int a2), some (.int a3), some (.int (S.1 k0 8)), some (.int w3)]) (st' := [.ref k0]) (by decide +kernel) rfl ?_
                obtain ⟨q34, hq34, hf⟩ := bd_some hf
                refine CW.callV (As := []) (st := []) lv_RX8_27 hk0 (by decide) rfl rfl (by decide +kernel) (xc_X10_step hk0 hq34) (by decide) (by decide) rfl (Nat.le_of_ble_eq_true rfl) rfl ?_
                show CW l yy_X8_readSum 2 _ _ 76 [some (.ref k0), some (.ref k1), some (.int a2), some (.int a3), some (.int (S.1 k0 8)), some (.int w3)] [] q34
                refine CW.run (blk := [(.iload 5, 0)]) (pc' := 78) (ls' := [some (.ref k0), some (.ref k1), some (.int a2), some (.int a3), some (.int (S.1 k0 8)), some (.int w3)]) (st' := [.int w3]) (by decide +kernel) rfl ?_
                obtain ⟨w35, hw35, hf⟩ := bd_some hf
                have hJ : CW l yy_X8_readSum 2 r S' 91 [some (.ref k0), some (.ref k1), some (.int a2), some (.int a3), some (.int (S.1 k0 8)), some (.int w3)] [] w35 := by
                  refine CW.run (blk := [(.aload_n 0, 0), (.aload_n 1, 0)]) (pc' := 93) (ls' := [some (.ref k0), some (.ref k1), some (.int a2), some (.int a3), some (.int (S.1 k0 8)), some (.int w3)]) (st' := [.ref k1, .ref k0]) (by decide +kernel) rfl ?_
                  obtain ⟨q39, hq39, hf⟩ := bd_some hf
                  refine CW.callS (As := [.ref k0, .ref k1]) (st := []) lt_RX8_64 (by decide +kernel) (xc_X8_readValue hk0 hk1 hq39) (by decide) (by decide) rfl (Nat.le_of_ble_eq_true rfl) rfl ?_
                  show CW l yy_X8_readSum 2 _ _ 96 [some (.ref k0), some (.ref k1), some (.int a2), some (.int a3), some (.int (S.1 k0 8)), some (.int w3)] [] q39
                  refine CW.run (blk := [(.iload 5, 0)]) (pc' := 98) (ls' := [some (.ref k0), some (.ref k1), some (.int a2), some (.int a3), some (.int (S.1 k0 8)), some (.int w3)]) (st' := [.int w3]) (by decide +kernel) rfl ?_
                  refine CW.if_eq (off := 9) (tgt := 107) (by decide +kernel) (by decide) (fun c98_40 => ?_) (fun c98_40 => ?_)
                  · rw [if_pos c98_40] at hf
                    refine CW.run (blk := [(.aload_n 1, 0), (.iload 4, 0), (.ineg, 0)]) (pc' := 111) (ls' := [some (.ref k0), some (.ref k1), some (.int a2), some (.int a3), some (.int (S.1 k0 8)), some (.int w3)]) (st' := [.int (-(S.1 k0 8)), .ref k1]) (by decide +kernel) rfl ?_
                    obtain ⟨q41, hq41, hf⟩ := bd_some hf
                    refine CW.callV (As := [.int (-(S.1 k0 8))]) (st := []) lv_RX8_51 hk1 (by decide) rfl rfl (by decide +kernel) (xc_X7_addCode hk1 hq41) (by decide) (by decide) rfl (Nat.le_of_ble_eq_true rfl) rfl ?_
                    show CW l yy_X8_readSum 2 _ _ 114 [some (.ref k0), some (.ref k1), some (.int a2), some (.int a3), some (.int (S.1 k0 8)), some (.int w3)] [] q41
                    refine CW.run (blk := [(.iinc 3 1, 1), (.goto (-108), 0)]) (pc' := 9) (ls' := [some (.ref k0), some (.ref k1), some (.int a2), some (.int (a3 + 1)), some (.int (S.1 k0 8)), some (.int w3)]) (st' := []) (by decide +kernel) rfl ?_
                    refine CW.fgt (ls' := [some (.ref k0), some (.ref k1), some (.int a2), some (.int (a3 + 1)), none, none]) (by repeat' (first | exact trivial | refine ⟨rfl, ?_⟩)) ?_
                    exact ih _ _ _ _ hf hk_1
                  · rw [if_neg c98_40] at hf
                    refine CW.run (blk := [(.iload 4, 0), (.istore_n 2, 0), (.goto 10, 0), (.iinc 3 1, 1), (.goto (-108), 0)]) (pc' := 9) (ls' := [some (.ref k0), some (.ref k1), some (.int (S.1 k0 8)), some (.int (a3 + 1)), some (.int (S.1 k0 8)), some (.int w3)]) (st' := []) (by decide +kernel) rfl ?_
                    refine CW.fgt (ls' := [some (.ref k0), some (.ref k1), some (.int (S.1 k0 8)), some (.int (a3 + 1)), none, none]) (by repeat' (first | exact trivial | refine ⟨rfl, ?_⟩)) ?_
                    exact ih _ _ _ _ hf hk_1
                clear hf
                refine CW.if_eq (off := 13) (tgt := 91) (by decide +kernel) (by decide) (fun c78_36 => ?_) (fun c78_36 => ?_)
                · rw [if_pos c78_36] at hw35
                  have e9 := Option.some.inj hw35
                  subst e9
                  exact hJ
                · rw [if_neg c78_36] at hw35
                  refine CW.run (blk := [(.iload_n 2, 0)]) (pc' := 82) (ls' := [some (.ref k0), some (.ref k1), some (.int a2), some (.int a3), some (.int (S.1 k0 8)), some (.int w3)]) (st' := [.int a2]) (by decide +kernel) rfl ?_
                  refine CW.if_eq (off := 9) (tgt := 91) (by decide +kernel) (by decide) (fun c82_37 => ?_) (fun c82_37 => ?_)
                  · rw [if_pos c82_37] at hw35
                    have e9 := Option.some.inj hw35
                    subst e9
                    exact hJ
                  · rw [if_neg c82_37] at hw35
                    refine CW.run (blk := [(.aload_n 1, 0), (.iload_n 2, 0), (.ineg, 0)]) (pc' := 88) (ls' := [some (.ref k0), some (.ref k1), some (.int a2), some (.int a3), some (.int (S.1 k0 8)), some (.int w3)]) (st' := [.int (-a2), .ref k1]) (by decide +kernel) rfl ?_
                    obtain ⟨q38, hq38, hw35⟩ := bd_some hw35
                    refine CW.callV (As := [.int (-a2)]) (st := []) lv_RX8_51 hk1 (by decide) rfl rfl (by decide +kernel) (xc_X7_addCode hk1 hq38) (by decide) (by decide) rfl (Nat.le_of_ble_eq_true rfl) rfl ?_
                    show CW l yy_X8_readSum 2 _ _ 91 [some (.ref k0), some (.ref k1), some (.int a2), some (.int a3), some (.int (S.1 k0 8)), some (.int w3)] [] q38
                    have e9 := Option.some.inj hw35
                    subst e9
                    exact hJ
              · rw [if_neg c66_33] at hf
                refine CW.run (blk := [(.goto 51, 0)]) (pc' := 120) (ls' := [some (.ref k0), some (.ref k1), some (.int a2), some (.int a3), some (.int (S.1 k0 8)), some (.int w3)]) (st' := []) (by decide +kernel) rfl ?_
                have e9 := Option.some.inj hf
                subst e9
                refine CW.fgt (ls' := [some (.ref k0), some (.ref k1), some (.int a2), some (.int a3), none, none]) (by repeat' (first | exact trivial | refine ⟨rfl, ?_⟩)) ?_
                exact hk_1
      clear hf
      refine CW.icmp_eq (off := 10) (tgt := 36) (by decide +kernel) (by decide) (fun c26_4 => ?_) (fun c26_4 => ?_)
      · rw [if_pos c26_4] at hw3
        refine CW.run (blk := [(.iconst 1, 1), (.goto 4, 0)]) (pc' := 41) (ls' := [some (.ref k0), some (.ref k1), some (.int a2), some (.int a3), some (.int (S.1 k0 8)), none]) (st' := [.int 1]) (by decide +kernel) rfl ?_
        have e9 := Option.some.inj hw3
        subst e9
        exact hJ
      · rw [if_neg c26_4] at hw3
        refine CW.run (blk := [(.iload 4, 0), (.bipush 45, 45)]) (pc' := 33) (ls' := [some (.ref k0), some (.ref k1), some (.int a2), some (.int a3), some (.int (S.1 k0 8)), none]) (st' := [.int 45, .int (S.1 k0 8)]) (by decide +kernel) rfl ?_
        refine CW.icmp_ne (off := 7) (tgt := 40) (by decide +kernel) (by decide) (fun c33_5 => ?_) (fun c33_5 => ?_)
        · rw [if_neg c33_5] at hw3
          refine CW.run (blk := [(.iconst 0, 0)]) (pc' := 41) (ls' := [some (.ref k0), some (.ref k1), some (.int a2), some (.int a3), some (.int (S.1 k0 8)), none]) (st' := [.int 0]) (by decide +kernel) rfl ?_
          have e9 := Option.some.inj hw3
          subst e9
          exact hJ
        · rw [if_pos c33_5] at hw3
          refine CW.run (blk := [(.iconst 1, 1), (.goto 4, 0)]) (pc' := 41) (ls' := [some (.ref k0), some (.ref k1), some (.int a2), some (.int a3), some (.int (S.1 k0 8)), none]) (st' := [.int 1]) (by decide +kernel) rfl ?_
          have e9 := Option.some.inj hw3
          subst e9
          exact hJ
theorem xc_X8_readSum {l : Launch} {p0 : Nat} {p1 : Nat} {S : cT} {q : cT} (h0 : cK p0 = 8) (h1 : cK p1 = 6) (hf : fc_X8_readSum p0 p1 S = some q) : COk l yy_X8_readSum 2 [.ref p0, .ref p1] S none q := by
  refine COk.of (ls := [some (.ref p0), some (.ref p1), none, none, none, none]) (by decide +kernel) (Nat.le_of_ble_eq_true rfl) rfl ?_
  unfold fc_X8_readSum at hf
  refine CW.run (blk := [(.iconst 0, 0), (.istore_n 2, 0), (.aload_n 0, 0), (.aload_n 1, 0)]) (pc' := 4) (ls' := [some (.ref p0), some (.ref p1), some (.int 0), none, none, none]) (st' := [.ref p1, .ref p0]) (by decide +kernel) rfl ?_
  obtain ⟨q1, hq1, hf⟩ := bd_some hf
  refine CW.callS (As := [.ref p0, .ref p1]) (st := []) lt_RX8_64 (by decide +kernel) (xc_X8_readValue h0 h1 hq1) (by decide) (by decide) rfl (Nat.le_of_ble_eq_true rfl) rfl ?_
  show CW l yy_X8_readSum 2 _ _ 7 [some (.ref p0), some (.ref p1), some (.int 0), none, none, none] [] q1
  refine CW.run (blk := [(.iconst 0, 0), (.istore_n 3, 0)]) (pc' := 9) (ls' := [some (.ref p0), some (.ref p1), some (.int 0), some (.int 0), none, none]) (st' := []) (by decide +kernel) rfl ?_
  obtain ⟨w42, hw42, hf⟩ := bd_some hf
  refine xc_X8_readSum_L9 p0 p1 h0 h1 FU _ _ _ _ hw42 ?_
  refine CW.run (blk := [(.iload_n 2, 0)]) (pc' := 121) (ls' := [some (.ref p0), some (.ref p1), some (.int w42.1), some (.int w42.2.1), none, none]) (st' := [.int w42.1]) (by decide +kernel) rfl ?_
  refine CW.if_eq (off := 9) (tgt := 130) (by decide +kernel) (by decide) (fun c121_43 => ?_) (fun c121_43 => ?_)
  · rw [if_pos c121_43] at hf
    have e9 := Option.some.inj hf
    subst e9
    exact CW.vret rfl (by decide +kernel)
  · rw [if_neg c121_43] at hf
    refine CW.run (blk := [(.aload_n 1, 0), (.iload_n 2, 0), (.ineg, 0)]) (pc' := 127) (ls' := [some (.ref p0), some (.ref p1), some (.int w42.1), some (.int w42.2.1), none, none]) (st' := [.int (-w42.1), .ref p1]) (by decide +kernel) rfl ?_
    obtain ⟨q44, hq44, hf⟩ := bd_some hf
    refine CW.callV (As := [.int (-w42.1)]) (st := []) lv_RX8_51 h1 (by decide) rfl rfl (by decide +kernel) (xc_X7_addCode h1 hq44) (by decide) (by decide) rfl (Nat.le_of_ble_eq_true rfl) rfl ?_
    show CW l yy_X8_readSum 2 _ _ 130 [some (.ref p0), some (.ref p1), some (.int w42.1), some (.int w42.2.1), none, none] [] q44
    have e9 := Option.some.inj hf
    subst e9
    exact CW.vret rfl (by decide +kernel)
def fc_X8_isComparing (p0 : Int32) : Option (Bool) := if p0 = 60 then (some true) else (if p0 = 61 then (some true) else (if p0 = 62 then (some true) else (if p0 = 256 then (some true) else (if p0 = 257 then (some true) else (some false)))))
theorem xc_X8_isComparing {l : Launch} {p0 : Int32} {q : Bool} (hf : fc_X8_isComparing p0 = some q) : POk l yy_X8_isComparing 0 [.int p0] (some (.int (b2i q))) := by
  refine POk.of (ls := [some (.int p0)]) (by decide +kernel) (Nat.le_of_ble_eq_true rfl) rfl ?_
  unfold fc_X8_isComparing at hf
  refine PW.run (blk := [(.iload_n 0, 0), (.bipush 60, 60)]) (pc' := 3) (ls' := [some (.int p0)]) (st' := [.int 60, .int p0]) (by decide +kernel) rfl ?_
  refine PW.icmp_eq (off := 29) (tgt := 32) (by decide +kernel) (by decide) (fun c3_1 => ?_) (fun c3_1 => ?_)
  · rw [if_pos c3_1] at hf
    refine PW.run (blk := [(.iconst 1, 1), (.goto 4, 0)]) (pc' := 37) (ls' := [some (.int p0)]) (st' := [.int 1]) (by decide +kernel) rfl ?_
    have e9 := Option.some.inj hf
    subst e9
    exact PW.zret rfl (b2i_nar _) (by decide +kernel)
  · rw [if_neg c3_1] at hf
    refine PW.run (blk := [(.iload_n 0, 0), (.bipush 61, 61)]) (pc' := 9) (ls' := [some (.int p0)]) (st' := [.int 61, .int p0]) (by decide +kernel) rfl ?_
    refine PW.icmp_eq (off := 23) (tgt := 32) (by decide +kernel) (by decide) (fun c9_2 => ?_) (fun c9_2 => ?_)
    · rw [if_pos c9_2] at hf
      refine PW.run (blk := [(.iconst 1, 1), (.goto 4, 0)]) (pc' := 37) (ls' := [some (.int p0)]) (st' := [.int 1]) (by decide +kernel) rfl ?_
      have e9 := Option.some.inj hf
      subst e9
      exact PW.zret rfl (b2i_nar _) (by decide +kernel)
    · rw [if_neg c9_2] at hf
      refine PW.run (blk := [(.iload_n 0, 0), (.bipush 62, 62)]) (pc' := 15) (ls' := [some (.int p0)]) (st' := [.int 62, .int p0]) (by decide +kernel) rfl ?_
      refine PW.icmp_eq (off := 17) (tgt := 32) (by decide +kernel) (by decide) (fun c15_3 => ?_) (fun c15_3 => ?_)
      · rw [if_pos c15_3] at hf
        refine PW.run (blk := [(.iconst 1, 1), (.goto 4, 0)]) (pc' := 37) (ls' := [some (.int p0)]) (st' := [.int 1]) (by decide +kernel) rfl ?_
        have e9 := Option.some.inj hf
        subst e9
        exact PW.zret rfl (b2i_nar _) (by decide +kernel)
      · rw [if_neg c15_3] at hf
        refine PW.run (blk := [(.iload_n 0, 0), (.sipush 256, 256)]) (pc' := 22) (ls' := [some (.int p0)]) (st' := [.int 256, .int p0]) (by decide +kernel) rfl ?_
        refine PW.icmp_eq (off := 10) (tgt := 32) (by decide +kernel) (by decide) (fun c22_4 => ?_) (fun c22_4 => ?_)
        · rw [if_pos c22_4] at hf
          refine PW.run (blk := [(.iconst 1, 1), (.goto 4, 0)]) (pc' := 37) (ls' := [some (.int p0)]) (st' := [.int 1]) (by decide +kernel) rfl ?_
          have e9 := Option.some.inj hf
          subst e9
          exact PW.zret rfl (b2i_nar _) (by decide +kernel)
        · rw [if_neg c22_4] at hf
          refine PW.run (blk := [(.iload_n 0, 0), (.sipush 257, 257)]) (pc' := 29) (ls' := [some (.int p0)]) (st' := [.int 257, .int p0]) (by decide +kernel) rfl ?_
          refine PW.icmp_ne (off := 7) (tgt := 36) (by decide +kernel) (by decide) (fun c29_5 => ?_) (fun c29_5 => ?_)
          · rw [if_neg c29_5] at hf
            refine PW.run (blk := [(.iconst 0, 0)]) (pc' := 37) (ls' := [some (.int p0)]) (st' := [.int 0]) (by decide +kernel) rfl ?_
            have e9 := Option.some.inj hf
            subst e9
            exact PW.zret rfl (b2i_nar _) (by decide +kernel)
          · rw [if_pos c29_5] at hf
            refine PW.run (blk := [(.iconst 1, 1), (.goto 4, 0)]) (pc' := 37) (ls' := [some (.int p0)]) (st' := [.int 1]) (by decide +kernel) rfl ?_
            have e9 := Option.some.inj hf
            subst e9
            exact PW.zret rfl (b2i_nar _) (by decide +kernel)
/-! the readers that call one another: one function with fuel -/
abbrev RD : Type := Nat → Nat → Nat → Int32 → cT → Option cT
def yyw (w : Nat) : aY := match w with
  | 0 => yy_X8_readTest
  | 1 => yy_X8_readFact
  | _ => yy_X8_readOpened
def RDH (l : Launch) (D : Nat) (rd : RD) : Prop := ∀ (w p0 p1 : Nat) (p2 : Int32) (S q : cT), cK p0 = 8 → cK p1 = 6 → rd w p0 p1 p2 S = some q → COk l (yyw w) D [.ref p0, .ref p1, .int p2] S none q
def fb_X8_readTest_L11 (rd : RD) (k0 : Nat) (k1 : Nat) (k2 : Int32) : Nat → Int32 → Int32 → cT → Option (Int32 × Int32 × cT)
  | 0, _, _, _ => none
  | N + 1, a3, a4, S => if 400 ≤ a4 then (some (a3, a4, S)) else (if (S.1 k0 8) = 316 then ((fc_X10_step k0 S).bind fun q4 => Option.bind (if (S.1 k0 8) = 315 then (if a3 = 0 then (some (q4)) else ((fc_X7_addCode k1 (-315) q4).bind fun q8 => some (q8))) else (some (q4)) : Option (cT)) fun w5 => Option.bind (if (S.1 k0 8) = 315 then (some (1)) else (some (0)) : Option (Int32)) fun w9 => (rd 1 k0 k1 k2 w5).bind fun q11 => if (S.1 k0 8) = 316 then ((fc_X7_addCode k1 (-316) q11).bind fun q13 => fb_X8_readTest_L11 rd k0 k1 k2 N (a3 ||| w9) (a4 + 1) q13) else (fb_X8_readTest_L11 rd k0 k1 k2 N (a3 ||| w9) (a4 + 1) q11)) else (if (S.1 k0 8) = 315 then ((fc_X10_step k0 S).bind fun q15 => Option.bind (if (S.1 k0 8) = 315 then (if a3 = 0 then (some (q15)) else ((fc_X7_addCode k1 (-315) q15).bind fun q19 => some (q19))) else (some (q15)) : Option (cT)) fun w16 => Option.bind (if (S.1 k0 8) = 315 then (some (1)) else (some (0)) : Option (Int32)) fun w20 => (rd 1 k0 k1 k2 w16).bind fun q22 => if (S.1 k0 8) = 316 then ((fc_X7_addCode k1 (-316) q22).bind fun q24 => fb_X8_readTest_L11 rd k0 k1 k2 N (a3 ||| w20) (a4 + 1) q24) else (fb_X8_readTest_L11 rd k0 k1 k2 N (a3 ||| w20) (a4 + 1) q22)) else (some (a3, a4, S))))
def fb_X8_readTest (rd : RD) (p0 : Nat) (p1 : Nat) (p2 : Int32) (S : cT) : Option (cT) := (rd 1 p0 p1 p2 S).bind fun q1 => (fb_X8_readTest_L11 rd p0 p1 p2 FU 0 0 q1).bind fun w25 => if w25.1 = 0 then (some w25.2.2) else ((fc_X7_addCode p1 (-315) w25.2.2).bind fun q27 => some q27)
theorem xc_X8_readTest_L11 {l : Launch} {r : Option Value} {S' : cT} {D : Nat} (hD : 2 ≤ D) (rd : RD) (hrd : RDH l D rd) (k0 : Nat) (k1 : Nat) (k2 : Int32) (hk0 : cK k0 = 8) (hk1 : cK k1 = 6) : ∀ (N : Nat) (a3 : Int32) (a4 : Int32) (S : cT) (W0 : Int32 × Int32 × cT) (_ : fb_X8_readTest_L11 rd k0 k1 k2 N a3 a4 S = some W0) (_ : CW l yy_X8_readTest (D + 1) r S' 110 [some (.ref k0), some (.ref k1), some (.int k2), some (.int W0.1), some (.int W0.2.1), none] [] W0.2.2), CW l yy_X8_readTest (D + 1) r S' 11 [some (.ref k0), some (.ref k1), some (.int k2), some (.int a3), some (.int a4), none] [] S := by
  intro N
  induction N with
  | zero =>
    intro a3 a4 S W0 hf _
    cases hf
  | succ N ih =>
    intro a3 a4 S W0 hf hk_1
    unfold fb_X8_readTest_L11 at hf
    refine CW.run (blk := [(.iload 4, 0), (.sipush 400, 400)]) (pc' := 16) (ls' := [some (.ref k0), some (.ref k1), some (.int k2), some (.int a3), some (.int a4), none]) (st' := [.int 400, .int a4]) (by decide +kernel) rfl ?_
    refine CW.icmp_ge (off := 94) (tgt := 110) (by decide +kernel) (by decide) (fun c16_2 => ?_) (fun c16_2 => ?_)
    · rw [if_pos c16_2] at hf
      have e9 := Option.some.inj hf
      subst e9
      exact hk_1
    · rw [if_neg c16_2] at hf
      refine CW.run (blk := [(.aload_n 0, 0)]) (pc' := 20) (ls' := [some (.ref k0), some (.ref k1), some (.int k2), some (.int a3), some (.int a4), none]) (st' := [.ref k0]) (by decide +kernel) rfl ?_
      refine CW.getf (v := .int (S.1 k0 8)) hk0 (by decide) fl_RX8_23 (by decide +kernel) rfl ?_
      refine CW.run (blk := [(.istore 5, 0), (.iload 5, 0), (.sipush 316, 316)]) (pc' := 30) (ls' := [some (.ref k0), some (.ref k1), some (.int k2), some (.int a3), some (.int a4), some (.int (S.1 k0 8))]) (st' := [.int 316, .int (S.1 k0 8)]) (by decide +kernel) rfl ?_
      refine CW.icmp_eq (off := 14) (tgt := 44) (by decide +kernel) (by decide) (fun c30_3 => ?_) (fun c30_3 => ?_)
      · rw [if_pos c30_3] at hf
        refine CW.run (blk := [(.aload_n 0, 0)]) (pc' := 45) (ls' := [some (.ref k0), some (.ref k1), some (.int k2), some (.int a3), some (.int a4), some (.int (S.1 k0 8))]) (st' := [.ref k0]) (by decide +kernel) rfl ?_
        obtain ⟨q4, hq4, hf⟩ := bd_some hf
        refine CW.callV (As := []) (st := []) lv_RX8_27 hk0 (by decide) rfl rfl (by decide +kernel) (xc_X10_step hk0 hq4) (by omega) (by decide) rfl (Nat.le_of_ble_eq_true rfl) rfl ?_
        show CW l yy_X8_readTest (D + 1) _ _ 48 [some (.ref k0), some (.ref k1), some (.int k2), some (.int a3), some (.int a4), some (.int (S.1 k0 8))] [] q4
        refine CW.run (blk := [(.iload 5, 0), (.sipush 315, 315)]) (pc' := 53) (ls' := [some (.ref k0), some (.ref k1), some (.int k2), some (.int a3), some (.int a4), some (.int (S.1 k0 8))]) (st' := [.int 315, .int (S.1 k0 8)]) (by decide +kernel) rfl ?_
        obtain ⟨w5, hw5, hf⟩ := bd_some hf
        have hJ : CW l yy_X8_readTest (D + 1) r S' 67 [some (.ref k0), some (.ref k1), some (.int k2), some (.int a3), some (.int a4), some (.int (S.1 k0 8))] [] w5 := by
          refine CW.run (blk := [(.iload_n 3, 0), (.iload 5, 0), (.sipush 315, 315)]) (pc' := 73) (ls' := [some (.ref k0), some (.ref k1), some (.int k2), some (.int a3), some (.int a4), some (.int (S.1 k0 8))]) (st' := [.int 315, .int (S.1 k0 8), .int a3]) (by decide +kernel) rfl ?_
          obtain ⟨w9, hw9, hf⟩ := bd_some hf
          have hJ : CW l yy_X8_readTest (D + 1) r S' 81 [some (.ref k0), some (.ref k1), some (.int k2), some (.int a3), some (.int a4), some (.int (S.1 k0 8))] [.int w9, .int a3] w5 := by
            refine CW.run (blk := [(.ior, 0), (.istore_n 3, 0), (.aload_n 0, 0), (.aload_n 1, 0), (.iload_n 2, 0)]) (pc' := 86) (ls' := [some (.ref k0), some (.ref k1), some (.int k2), some (.int (a3 ||| w9)), some (.int a4), some (.int (S.1 k0 8))]) (st' := [.int k2, .ref k1, .ref k0]) (by decide +kernel) rfl ?_
            obtain ⟨q11, hq11, hf⟩ := bd_some hf
            refine CW.callS (As := [.ref k0, .ref k1, .int k2]) (st := []) (Y' := yyw 1) lt_RX8_48 (by decide +kernel) (hrd 1 _ _ _ _ _ hk0 hk1 hq11) (by omega) (by decide) rfl (Nat.le_of_ble_eq_true rfl) rfl ?_
            show CW l yy_X8_readTest (D + 1) _ _ 89 [some (.ref k0), some (.ref k1), some (.int k2), some (.int (a3 ||| w9)), some (.int a4), some (.int (S.1 k0 8))] [] q11
            refine CW.run (blk := [(.iload 5, 0), (.sipush 316, 316)]) (pc' := 94) (ls' := [some (.ref k0), some (.ref k1), some (.int k2), some (.int (a3 ||| w9)), some (.int a4), some (.int (S.1 k0 8))]) (st' := [.int 316, .int (S.1 k0 8)]) (by decide +kernel) rfl ?_
            refine CW.icmp_ne (off := 10) (tgt := 104) (by decide +kernel) (by decide) (fun c94_12 => ?_) (fun c94_12 => ?_)
            · rw [if_neg c94_12] at hf
              refine CW.run (blk := [(.iinc 4 1, 1), (.goto (-96), 0)]) (pc' := 11) (ls' := [some (.ref k0), some (.ref k1), some (.int k2), some (.int (a3 ||| w9)), some (.int (a4 + 1)), some (.int (S.1 k0 8))]) (st' := []) (by decide +kernel) rfl ?_
              refine CW.fgt (ls' := [some (.ref k0), some (.ref k1), some (.int k2), some (.int (a3 ||| w9)), some (.int (a4 + 1)), none]) (by repeat' (first | exact trivial | refine ⟨rfl, ?_⟩)) ?_
              exact ih _ _ _ _ hf hk_1
            · rw [if_pos c94_12] at hf
              refine CW.run (blk := [(.aload_n 1, 0), (.sipush (-316), (-316))]) (pc' := 101) (ls' := [some (.ref k0), some (.ref k1), some (.int k2), some (.int (a3 ||| w9)), some (.int a4), some (.int (S.1 k0 8))]) (st' := [.int (-316), .ref k1]) (by decide +kernel) rfl ?_
              obtain ⟨q13, hq13, hf⟩ := bd_some hf
              refine CW.callV (As := [.int (-316)]) (st := []) lv_RX8_51 hk1 (by decide) rfl rfl (by decide +kernel) (xc_X7_addCode hk1 hq13) (by omega) (by decide) rfl (Nat.le_of_ble_eq_true rfl) rfl ?_
              show CW l yy_X8_readTest (D + 1) _ _ 104 [some (.ref k0), some (.ref k1), some (.int k2), some (.int (a3 ||| w9)), some (.int a4), some (.int (S.1 k0 8))] [] q13
              refine CW.run (blk := [(.iinc 4 1, 1), (.goto (-96), 0)]) (pc' := 11) (ls' := [some (.ref k0), some (.ref k1), some (.int k2), some (.int (a3 ||| w9)), some (.int (a4 + 1)), some (.int (S.1 k0 8))]) (st' := []) (by decide +kernel) rfl ?_
              refine CW.fgt (ls' := [some (.ref k0), some (.ref k1), some (.int k2), some (.int (a3 ||| w9)), some (.int (a4 + 1)), none]) (by repeat' (first | exact trivial | refine ⟨rfl, ?_⟩)) ?_
              exact ih _ _ _ _ hf hk_1
          clear hf
          refine CW.icmp_ne (off := 7) (tgt := 80) (by decide +kernel) (by decide) (fun c73_10 => ?_) (fun c73_10 => ?_)
          · rw [if_neg c73_10] at hw9
            refine CW.run (blk := [(.iconst 0, 0)]) (pc' := 81) (ls' := [some (.ref k0), some (.ref k1), some (.int k2), some (.int a3), some (.int a4), some (.int (S.1 k0 8))]) (st' := [.int 0, .int a3]) (by decide +kernel) rfl ?_
            have e9 := Option.some.inj hw9
            subst e9
            exact hJ
          · rw [if_pos c73_10] at hw9
            refine CW.run (blk := [(.iconst 1, 1), (.goto 4, 0)]) (pc' := 81) (ls' := [some (.ref k0), some (.ref k1), some (.int k2), some (.int a3), some (.int a4), some (.int (S.1 k0 8))]) (st' := [.int 1, .int a3]) (by decide +kernel) rfl ?_
            have e9 := Option.some.inj hw9
            subst e9
            exact hJ
        clear hf
        refine CW.icmp_ne (off := 14) (tgt := 67) (by decide +kernel) (by decide) (fun c53_6 => ?_) (fun c53_6 => ?_)
        · rw [if_neg c53_6] at hw5
          have e9 := Option.some.inj hw5
          subst e9
          exact hJ
        · rw [if_pos c53_6] at hw5
          refine CW.run (blk := [(.iload_n 3, 0)]) (pc' := 57) (ls' := [some (.ref k0), some (.ref k1), some (.int k2), some (.int a3), some (.int a4), some (.int (S.1 k0 8))]) (st' := [.int a3]) (by decide +kernel) rfl ?_
          refine CW.if_eq (off := 10) (tgt := 67) (by decide +kernel) (by decide) (fun c57_7 => ?_) (fun c57_7 => ?_)
          · rw [if_pos c57_7] at hw5
            have e9 := Option.some.inj hw5
            subst e9
            exact hJ
          · rw [if_neg c57_7] at hw5
            refine CW.run (blk := [(.aload_n 1, 0), (.sipush (-315), (-315))]) (pc' := 64) (ls' := [some (.ref k0), some (.ref k1), some (.int k2), some (.int a3), some (.int a4), some (.int (S.1 k0 8))]) (st' := [.int (-315), .ref k1]) (by decide +kernel) rfl ?_
            obtain ⟨q8, hq8, hw5⟩ := bd_some hw5
            refine CW.callV (As := [.int (-315)]) (st := []) lv_RX8_51 hk1 (by decide) rfl rfl (by decide +kernel) (xc_X7_addCode hk1 hq8) (by omega) (by decide) rfl (Nat.le_of_ble_eq_true rfl) rfl ?_
            show CW l yy_X8_readTest (D + 1) _ _ 67 [some (.ref k0), some (.ref k1), some (.int k2), some (.int a3), some (.int a4), some (.int (S.1 k0 8))] [] q8
            have e9 := Option.some.inj hw5
            subst e9
            exact hJ
      · rw [if_neg c30_3] at hf
        refine CW.run (blk := [(.iload 5, 0), (.sipush 315, 315)]) (pc' := 38) (ls' := [some (.ref k0), some (.ref k1), some (.int k2), some (.int a3), some (.int a4), some (.int (S.1 k0 8))]) (st' := [.int 315, .int (S.1 k0 8)]) (by decide +kernel) rfl ?_
        refine CW.icmp_eq (off := 6) (tgt := 44) (by decide +kernel) (by decide) (fun c38_14 => ?_) (fun c38_14 => ?_)
        · rw [if_pos c38_14] at hf
          refine CW.run (blk := [(.aload_n 0, 0)]) (pc' := 45) (ls' := [some (.ref k0), some (.ref k1), some (.int k2), some (.int a3), some (.int a4), some (.int (S.1 k0 8))]) (st' := [.ref k0]) (by decide +kernel) rfl ?_
          obtain ⟨q15, hq15, hf⟩ := bd_some hf
          refine CW.callV (As := []) (st := []) lv_RX8_27 hk0 (by decide) rfl rfl (by decide +kernel) (xc_X10_step hk0 hq15) (by omega) (by decide) rfl (Nat.le_of_ble_eq_true rfl) rfl ?_
          show CW l yy_X8_readTest (D + 1) _ _ 48 [some (.ref k0), some (.ref k1), some (.int k2), some (.int a3), some (.int a4), some (.int (S.1 k0 8))] [] q15
          refine CW.run (blk := [(.iload 5, 0), (.sipush 315, 315)]) (pc' := 53) (ls' := [some (.ref k0), some (.ref k1), some (.int k2), some (.int a3), some (.int a4), some (.int (S.1 k0 8))]) (st' := [.int 315, .int (S.1 k0 8)]) (by decide +kernel) rfl ?_
          obtain ⟨w16, hw16, hf⟩ := bd_some hf
          have hJ : CW l yy_X8_readTest (D + 1) r S' 67 [some (.ref k0), some (.ref k1), some (.int k2), some (.int a3), some (.int a4), some (.int (S.1 k0 8))] [] w16 := by
            refine CW.run (blk := [(.iload_n 3, 0), (.iload 5, 0), (.sipush 315, 315)]) (pc' := 73) (ls' := [some (.ref k0), some (.ref k1), some (.int k2), some (.int a3), some (.int a4), some (.int (S.1 k0 8))]) (st' := [.int 315, .int (S.1 k0 8), .int a3]) (by decide +kernel) rfl ?_
            obtain ⟨w20, hw20, hf⟩ := bd_some hf
            have hJ : CW l yy_X8_readTest (D + 1) r S' 81 [some (.ref k0), some (.ref k1), some (.int k2), some (.int a3), some (.int a4), some (.int (S.1 k0 8))] [.int w20, .int a3] w16 := by
              refine CW.run (blk := [(.ior, 0), (.istore_n 3, 0), (.aload_n 0, 0), (.aload_n 1, 0), (.iload_n 2, 0)]) (pc' := 86) (ls' := [some (.ref k0), some (.ref k1), some (.int k2), some (.int (a3 ||| w20)), some (.int a4), some (.int (S.1 k0 8))]) (st' := [.int k2, .ref k1, .ref k0]) (by decide +kernel) rfl ?_
              obtain ⟨q22, hq22, hf⟩ := bd_some hf
              refine CW.callS (As := [.ref k0, .ref k1, .int k2]) (st := []) (Y' := yyw 1) lt_RX8_48 (by decide +kernel) (hrd 1 _ _ _ _ _ hk0 hk1 hq22) (by omega) (by decide) rfl (Nat.le_of_ble_eq_true rfl) rfl ?_
              show CW l yy_X8_readTest (D + 1) _ _ 89 [some (.ref k0), some (.ref k1), some (.int k2), some (.int (a3 ||| w20)), some (.int a4), some (.int (S.1 k0 8))] [] q22
              refine CW.run (blk := [(.iload 5, 0), (.sipush 316, 316)]) (pc' := 94) (ls' := [some (.ref k0), some (.ref k1), some (.int k2), some (.int (a3 ||| w20)), some (.int a4), some (.int (S.1 k0 8))]) (st' := [.int 316, .int (S.1 k0 8)]) (by decide +kernel) rfl ?_
              refine CW.icmp_ne (off := 10) (tgt := 104) (by decide +kernel) (by decide) (fun c94_23 => ?_) (fun c94_23 => ?_)
              · rw [if_neg c94_23] at hf
                refine CW.run (blk := [(.iinc 4 1, 1), (.goto (-96), 0)]) (pc' := 11) (ls' := [some (.ref k0), some (.ref k1), some (.int k2), some (.int (a3 ||| w20)), some (.int (a4 + 1)), some (.int (S.1 k0 8))]) (st' := []) (by decide +kernel) rfl ?_
                refine CW.fgt (ls' := [some (.ref k0), some (.ref k1), some (.int k2), some (.int (a3 ||| w20)), some (.int (a4 + 1)), none]) (by repeat' (first | exact trivial | refine ⟨rfl, ?_⟩)) ?_
                exact ih _ _ _ _ hf hk_1
              · rw [if_pos c94_23] at hf
                refine CW.run (blk := [(.aload_n 1, 0), (.sipush (-316), (-316))]) (pc' := 101) (ls' := [some (.ref k0), some (.ref k1), some (.int k2), some (.int (a3 ||| w20)), some (.int a4), some (.int (S.1 k0 8))]) (st' := [.int (-316), .ref k1]) (by decide +kernel) rfl ?_
                obtain ⟨q24, hq24, hf⟩ := bd_some hf
                refine CW.callV (As := [.int (-316)]) (st := []) lv_RX8_51 hk1 (by decide) rfl rfl (by decide +kernel) (xc_X7_addCode hk1 hq24) (by omega) (by decide) rfl (Nat.le_of_ble_eq_true rfl) rfl ?_
                show CW l yy_X8_readTest (D + 1) _ _ 104 [some (.ref k0), some (.ref k1), some (.int k2), some (.int (a3 ||| w20)), some (.int a4), some (.int (S.1 k0 8))] [] q24
                refine CW.run (blk := [(.iinc 4 1, 1), (.goto (-96), 0)]) (pc' := 11) (ls' := [some (.ref k0), some (.ref k1), some (.int k2), some (.int (a3 ||| w20)), some (.int (a4 + 1)), some (.int (S.1 k0 8))]) (st' := []) (by decide +kernel) rfl ?_
                refine CW.fgt (ls' := [some (.ref k0), some (.ref k1), some (.int k2), some (.int (a3 ||| w20)), some (.int (a4 + 1)), none]) (by repeat' (first | exact trivial | refine ⟨rfl, ?_⟩)) ?_
                exact ih _ _ _ _ hf hk_1
            clear hf
            refine CW.icmp_ne (off := 7) (tgt := 80) (by decide +kernel) (by decide) (fun c73_21 => ?_) (fun c73_21 => ?_)
            · rw [if_neg c73_21] at hw20
              refine CW.run (blk := [(.iconst 0, 0)]) (pc' := 81) (ls' := [some (.ref k0), some (.ref k1), some (.int k2), some (.int a3), some (.int a4), some (.int (S.1 k0 8))]) (st' := [.int 0, .int a3]) (by decide +kernel) rfl ?_
              have e9 := Option.some.inj hw20
              subst e9
              exact hJ
            · rw [if_pos c73_21] at hw20
              refine CW.run (blk := [(.iconst 1, 1), (.goto 4, 0)]) (pc' := 81) (ls' := [some (.ref k0), some (.ref k1), some (.int k2), some (.int a3), some (.int a4), some (.int (S.1 k0 8))]) (st' := [.int 1, .int a3]) (by decide +kernel) rfl ?_
              have e9 := Option.some.inj hw20
              subst e9
              exact hJ
          clear hf
          refine CW.icmp_ne (off := 14) (tgt := 67) (by decide +kernel) (by decide) (fun c53_17 => ?_) (fun c53_17 => ?_)
          · rw [if_neg c53_17] at hw16
            have e9 := Option.some.inj hw16
            subst e9
            exact hJ
          · rw [if_pos c53_17] at hw16
            refine CW.run (blk := [(.iload_n 3, 0)]) (pc' := 57) (ls' := [some (.ref k0), some (.ref k1), some (.int k2), some (.int a3), some (.int a4), some (.int (S.1 k0 8))]) (st' := [.int a3]) (by decide +kernel) rfl ?_
            refine CW.if_eq (off := 10) (tgt := 67) (by decide +kernel) (by decide) (fun c57_18 => ?_) (fun c57_18 => ?_)
            · rw [if_pos c57_18] at hw16
              have e9 := Option.some.inj hw16
              subst e9
              exact hJ
            · rw [if_neg c57_18] at hw16
              refine CW.run (blk := [(.aload_n 1, 0), (.sipush (-315), (-315))]) (pc' := 64) (ls' := [some (.ref k0), some (.ref k1), some (.int k2), some (.int a3), some (.int a4), some (.int (S.1 k0 8))]) (st' := [.int (-315), .ref k1]) (by decide +kernel) rfl ?_
              obtain ⟨q19, hq19, hw16⟩ := bd_some hw16
              refine CW.callV (As := [.int (-315)]) (st := []) lv_RX8_51 hk1 (by decide) rfl rfl (by decide +kernel) (xc_X7_addCode hk1 hq19) (by omega) (by decide) rfl (Nat.le_of_ble_eq_true rfl) rfl ?_
              show CW l yy_X8_readTest (D + 1) _ _ 67 [some (.ref k0), some (.ref k1), some (.int k2), some (.int a3), some (.int a4), some (.int (S.1 k0 8))] [] q19
              have e9 := Option.some.inj hw16
              subst e9
              exact hJ
        · rw [if_neg c38_14] at hf
          refine CW.run (blk := [(.goto 69, 0)]) (pc' := 110) (ls' := [some (.ref k0), some (.ref k1), some (.int k2), some (.int a3), some (.int a4), some (.int (S.1 k0 8))]) (st' := []) (by decide +kernel) rfl ?_
          have e9 := Option.some.inj hf
          subst e9
          refine CW.fgt (ls' := [some (.ref k0), some (.ref k1), some (.int k2), some (.int a3), some (.int a4), none]) (by repeat' (first | exact trivial | refine ⟨rfl, ?_⟩)) ?_
          exact hk_1
theorem xc_X8_readTest {l : Launch} {D : Nat} (hD : 2 ≤ D) (rd : RD) (hrd : RDH l D rd) {p0 : Nat} {p1 : Nat} {p2 : Int32} {S : cT} {q : cT} (h0 : cK p0 = 8) (h1 : cK p1 = 6) (hf : fb_X8_readTest rd p0 p1 p2 S = some q) : COk l yy_X8_readTest (D + 1) [.ref p0, .ref p1, .int p2] S none q := by
  refine COk.of (ls := [some (.ref p0), some (.ref p1), some (.int p2), none, none, none]) (by decide +kernel) (Nat.le_of_ble_eq_true rfl) rfl ?_
  unfold fb_X8_readTest at hf
  refine CW.run (blk := [(.iconst 0, 0), (.istore_n 3, 0), (.aload_n 0, 0), (.aload_n 1, 0), (.iload_n 2, 0)]) (pc' := 5) (ls' := [some (.ref p0), some (.ref p1), some (.int p2), some (.int 0), none, none]) (st' := [.int p2, .ref p1, .ref p0]) (by decide +kernel) rfl ?_
  obtain ⟨q1, hq1, hf⟩ := bd_some hf
  refine CW.callS (As := [.ref p0, .ref p1, .int p2]) (st := []) (Y' := yyw 1) lt_RX8_48 (by decide +kernel) (hrd 1 _ _ _ _ _ h0 h1 hq1) (by omega) (by decide) rfl (Nat.le_of_ble_eq_true rfl) rfl ?_
  show CW l yy_X8_readTest (D + 1) _ _ 8 [some (.ref p0), some (.ref p1), some (.int p2), some (.int 0), none, none] [] q1
  refine CW.run (blk := [(.iconst 0, 0), (.istore 4, 0)]) (pc' := 11) (ls' := [some (.ref p0), some (.ref p1), some (.int p2), some (.int 0), some (.int 0), none]) (st' := []) (by decide +kernel) rfl ?_
  obtain ⟨w25, hw25, hf⟩ := bd_some hf
  refine xc_X8_readTest_L11 hD rd hrd p0 p1 p2 h0 h1 FU _ _ _ _ hw25 ?_
  refine CW.run (blk := [(.iload_n 3, 0)]) (pc' := 111) (ls' := [some (.ref p0), some (.ref p1), some (.int p2), some (.int w25.1), some (.int w25.2.1), none]) (st' := [.int w25.1]) (by decide +kernel) rfl ?_
  refine CW.if_eq (off := 10) (tgt := 121) (by decide +kernel) (by decide) (fun c111_26 => ?_) (fun c111_26 => ?_)
  · rw [if_pos c111_26] at hf
    have e9 := Option.some.inj hf
    subst e9
    exact CW.vret rfl (by decide +kernel)
  · rw [if_neg c111_26] at hf
    refine CW.run (blk := [(.aload_n 1, 0), (.sipush (-315), (-315))]) (pc' := 118) (ls' := [some (.ref p0), some (.ref p1), some (.int p2), some (.int w25.1), some (.int w25.2.1), none]) (st' := [.int (-315), .ref p1]) (by decide +kernel) rfl ?_
    obtain ⟨q27, hq27, hf⟩ := bd_some hf
    refine CW.callV (As := [.int (-315)]) (st := []) lv_RX8_51 h1 (by decide) rfl rfl (by decide +kernel) (xc_X7_addCode h1 hq27) (by omega) (by decide) rfl (Nat.le_of_ble_eq_true rfl) rfl ?_
    show CW l yy_X8_readTest (D + 1) _ _ 121 [some (.ref p0), some (.ref p1), some (.int p2), some (.int w25.1), some (.int w25.2.1), none] [] q27
    have e9 := Option.some.inj hf
    subst e9
    exact CW.vret rfl (by decide +kernel)
def fb_X8_readFact (rd : RD) (p0 : Nat) (p1 : Nat) (p2 : Int32) (S : cT) : Option (cT) := if (S.1 p0 8) = 317 then ((rd 2 p0 p1 p2 S).bind fun q2 => some q2) else (if (S.1 p0 8) = 91 then ((rd 2 p0 p1 p2 S).bind fun q14 => some q14) else ((fc_X8_readSum p0 p1 S).bind fun q4 => (fc_X8_isComparing (q4.1 p0 8)).bind fun q5 => if (b2i q5) = 0 then ((fc_X10_refuse p0 0 q4).bind fun q13 => some q13) else (if (q4.1 p1 7) < 60 then (letv (ca q4 p1 7 ((q4.1 p1 7) + 1)) fun S8 => (fc_X10_step p0 S8).bind fun q9 => (fc_X8_readSum p0 p1 q9).bind fun q10 => (fc_X7_addCode p1 (-(q4.1 p0 8)) q10).bind fun q11 => some q11) else ((fc_X10_refuse p0 3 q4).bind fun q12 => some q12))))
theorem xc_X8_readFact {l : Launch} {D : Nat} (hD : 2 ≤ D) (rd : RD) (hrd : RDH l D rd) {p0 : Nat} {p1 : Nat} {p2 : Int32} {S : cT} {q : cT} (h0 : cK p0 = 8) (h1 : cK p1 = 6) (hf : fb_X8_readFact rd p0 p1 p2 S = some q) : COk l yy_X8_readFact (D + 1) [.ref p0, .ref p1, .int p2] S none q := by
  refine COk.of (ls := [some (.ref p0), some (.ref p1), some (.int p2), none]) (by decide +kernel) (Nat.le_of_ble_eq_true rfl) rfl ?_
  unfold fb_X8_readFact at hf
  refine CW.run (blk := [(.aload_n 0, 0)]) (pc' := 1) (ls' := [some (.ref p0), some (.ref p1), some (.int p2), none]) (st' := [.ref p0]) (by decide +kernel) rfl ?_
  refine CW.getf (v := .int (S.1 p0 8)) h0 (by decide) fl_RX8_23 (by decide +kernel) rfl ?_
  refine CW.run (blk := [(.sipush 317, 317)]) (pc' := 7) (ls' := [some (.ref p0), some (.ref p1), some (.int p2), none]) (st' := [.int 317, .int (S.1 p0 8)]) (by decide +kernel) rfl ?_
  refine CW.icmp_eq (off := 12) (tgt := 19) (by decide +kernel) (by decide) (fun c7_1 => ?_) (fun c7_1 => ?_)
  · rw [if_pos c7_1] at hf
    refine CW.run (blk := [(.aload_n 0, 0), (.aload_n 1, 0), (.iload_n 2, 0)]) (pc' := 22) (ls' := [some (.ref p0), some (.ref p1), some (.int p2), none]) (st' := [.int p2, .ref p1, .ref p0]) (by decide +kernel) rfl ?_
    obtain ⟨q2, hq2, hf⟩ := bd_some hf
    refine CW.callS (As := [.ref p0, .ref p1, .int p2]) (st := []) (Y' := yyw 2) lt_RX8_54 (by decide +kernel) (hrd 2 _ _ _ _ _ h0 h1 hq2) (by omega) (by decide) rfl (Nat.le_of_ble_eq_true rfl) rfl ?_
    show CW l yy_X8_readFact (D + 1) _ _ 25 [some (.ref p0), some (.ref p1), some (.int p2), none] [] q2
    have e9 := Option.some.inj hf
    subst e9
    exact CW.vret rfl (by decide +kernel)
  · rw [if_neg c7_1] at hf
    refine CW.run (blk := [(.aload_n 0, 0)]) (pc' := 11) (ls' := [some (.ref p0), some (.ref p1), some (.int p2), none]) (st' := [.ref p0]) (by decide +kernel) rfl ?_
    refine CW.getf (v := .int (S.1 p0 8)) h0 (by decide) fl_RX8_23 (by decide +kernel) rfl ?_
    refine CW.run (blk := [(.bipush 91, 91)]) (pc' := 16) (ls' := [some (.ref p0), some (.ref p1), some (.int p2), none]) (st' := [.int 91, .int (S.1 p0 8)]) (by decide +kernel) rfl ?_
    refine CW.icmp_ne (off := 10) (tgt := 26) (by decide +kernel) (by decide) (fun c16_3 => ?_) (fun c16_3 => ?_)
    · rw [if_neg c16_3] at hf
      refine CW.run (blk := [(.aload_n 0, 0), (.aload_n 1, 0)]) (pc' := 28) (ls' := [some (.ref p0), some (.ref p1), some (.int p2), none]) (st' := [.ref p1, .ref p0]) (by decide +kernel) rfl ?_
      obtain ⟨q4, hq4, hf⟩ := bd_some hf
      refine CW.callS (As := [.ref p0, .ref p1]) (st := []) lt_RX8_37 (by decide +kernel) (xc_X8_readSum h0 h1 hq4) (by omega) (by decide) rfl (Nat.le_of_ble_eq_true rfl) rfl ?_
      show CW l yy_X8_readFact (D + 1) _ _ 31 [some (.ref p0), some (.ref p1), some (.int p2), none] [] q4
      refine CW.run (blk := [(.aload_n 0, 0)]) (pc' := 32) (ls' := [some (.ref p0), some (.ref p1), some (.int p2), none]) (st' := [.ref p0]) (by decide +kernel) rfl ?_
      refine CW.getf (v := .int (q4.1 p0 8)) h0 (by decide) fl_RX8_23 (by decide +kernel) rfl ?_
      refine CW.run (blk := [(.istore_n 3, 0), (.iload_n 3, 0)]) (pc' := 37) (ls' := [some (.ref p0), some (.ref p1), some (.int p2), some (.int (q4.1 p0 8))]) (st' := [.int (q4.1 p0 8)]) (by decide +kernel) rfl ?_
      obtain ⟨q5, hq5, hf⟩ := bd_some hf
      refine CW.callP (As := [.int (q4.1 p0 8)]) (st := []) lt_RX8_57 (by decide +kernel) (xc_X8_isComparing hq5) (by omega) (by decide) rfl (Nat.le_of_ble_eq_true rfl) rfl ?_
      show CW l yy_X8_readFact (D + 1) _ _ 40 [some (.ref p0), some (.ref p1), some (.int p2), some (.int (q4.1 p0 8))] [.int (b2i q5)] q4
      refine CW.if_ne (off := 9) (tgt := 49) (by decide +kernel) (by decide) (fun c40_6 => ?_) (fun c40_6 => ?_)
      · rw [if_neg c40_6] at hf
        refine CW.run (blk := [(.aload_n 1, 0)]) (pc' := 50) (ls' := [some (.ref p0), some (.ref p1), some (.int p2), some (.int (q4.1 p0 8))]) (st' := [.ref p1]) (by decide +kernel) rfl ?_
        refine CW.getf (v := .int (q4.1 p1 7)) h1 (by decide) fl_RX8_61 (by decide +kernel) rfl ?_
        refine CW.run (blk := [(.bipush 60, 60)]) (pc' := 55) (ls' := [some (.ref p0), some (.ref p1), some (.int p2), some (.int (q4.1 p0 8))]) (st' := [.int 60, .int (q4.1 p1 7)]) (by decide +kernel) rfl ?_
        refine CW.icmp_lt (off := 9) (tgt := 64) (by decide +kernel) (by decide) (fun c55_7 => ?_) (fun c55_7 => ?_)
        · rw [if_pos c55_7] at hf
          refine CW.run (blk := [(.aload_n 1, 0), (.dup, 0)]) (pc' := 66) (ls' := [some (.ref p0), some (.ref p1), some (.int p2), some (.int (q4.1 p0 8))]) (st' := [.ref p1, .ref p1]) (by decide +kernel) rfl ?_
          refine CW.getf (v := .int (q4.1 p1 7)) h1 (by decide) fl_RX8_61 (by decide +kernel) rfl ?_
          refine CW.run (blk := [(.iconst 1, 1), (.iadd, 0)]) (pc' := 71) (ls' := [some (.ref p0), some (.ref p1), some (.int p2), some (.int (q4.1 p0 8))]) (st' := [.int ((q4.1 p1 7) + 1), .ref p1]) (by decide +kernel) rfl ?_
          refine CW.putI h1 (by decide) fp_RX8_61 (by decide +kernel) (fun _ _ _ => Nat.le_of_ble_eq_true rfl) rfl rfl (fun _ _ _ => rfl) ?_
          obtain ⟨S8, hS8, hf⟩ := letv_some hf
          rw [← hS8]
          refine CW.run (blk := [(.aload_n 0, 0)]) (pc' := 75) (ls' := [some (.ref p0), some (.ref p1), some (.int p2), some (.int (q4.1 p0 8))]) (st' := [.ref p0]) (by decide +kernel) rfl ?_
          obtain ⟨q9, hq9, hf⟩ := bd_some hf
          refine CW.callV (As := []) (st := []) lv_RX8_27 h0 (by decide) rfl rfl (by decide +kernel) (xc_X10_step h0 hq9) (by omega) (by decide) rfl (Nat.le_of_ble_eq_true rfl) rfl ?_
          show CW l yy_X8_readFact (D + 1) _ _ 78 [some (.ref p0), some (.ref p1), some (.int p2), some (.int (q4.1 p0 8))] [] q9
          refine CW.run (blk := [(.aload_n 0, 0), (.aload_n 1, 0)]) (pc' := 80) (ls' := [some (.ref p0), some (.ref p1), some (.int p2), some (.int (q4.1 p0 8))]) (st' := [.ref p1, .ref p0]) (by decide +kernel) rfl ?_
          obtain ⟨q10, hq10, hf⟩ := bd_some hf
          refine CW.callS (As := [.ref p0, .ref p1]) (st := []) lt_RX8_37 (by decide +kernel) (xc_X8_readSum h0 h1 hq10) (by omega) (by decide) rfl (Nat.le_of_ble_eq_true rfl) rfl ?_
          show CW l yy_X8_readFact (D + 1) _ _ 83 [some (.ref p0), some (.ref p1), some (.int p2), some (.int (q4.1 p0 8))] [] q10
          refine CW.run (blk := [(.aload_n 1, 0), (.iload_n 3, 0), (.ineg, 0)]) (pc' := 86) (ls' := [some (.ref p0), some (.ref p1), some (.int p2), some (.int (q4.1 p0 8))]) (st' := [.int (-(q4.1 p0 8)), .ref p1]) (by decide +kernel) rfl ?_
          obtain ⟨q11, hq11, hf⟩ := bd_some hf
          refine CW.callV (As := [.int (-(q4.1 p0 8))]) (st := []) lv_RX8_51 h1 (by decide) rfl rfl (by decide +kernel) (xc_X7_addCode h1 hq11) (by omega) (by decide) rfl (Nat.le_of_ble_eq_true rfl) rfl ?_
          show CW l yy_X8_readFact (D + 1) _ _ 89 [some (.ref p0), some (.ref p1), some (.int p2), some (.int (q4.1 p0 8))] [] q11
          have e9 := Option.some.inj hf
          subst e9
          exact CW.vret rfl (by decide +kernel)
        · rw [if_neg c55_7] at hf
          refine CW.run (blk := [(.aload_n 0, 0), (.iconst 3, 3)]) (pc' := 60) (ls' := [some (.ref p0), some (.ref p1), some (.int p2), some (.int (q4.1 p0 8))]) (st' := [.int 3, .ref p0]) (by decide +kernel) rfl ?_
          obtain ⟨q12, hq12, hf⟩ := bd_some hf
          refine CW.callV (As := [.int 3]) (st := []) lv_RX8_30 h0 (by decide) rfl rfl (by decide +kernel) (xc_X10_refuse h0 hq12) (by omega) (by decide) rfl (Nat.le_of_ble_eq_true rfl) rfl ?_
          show CW l yy_X8_readFact (D + 1) _ _ 63 [some (.ref p0), some (.ref p1), some (.int p2), some (.int (q4.1 p0 8))] [] q12
          have e9 := Option.some.inj hf
          subst e9
          exact CW.vret rfl (by decide +kernel)
      · rw [if_pos c40_6] at hf
        refine CW.run (blk := [(.aload_n 0, 0), (.iconst 0, 0)]) (pc' := 45) (ls' := [some (.ref p0), some (.ref p1), some (.int p2), some (.int (q4.1 p0 8))]) (st' := [.int 0, .ref p0]) (by decide +kernel) rfl ?_
        obtain ⟨q13, hq13, hf⟩ := bd_some hf
        refine CW.callV (As := [.int 0]) (st := []) lv_RX8_30 h0 (by decide) rfl rfl (by decide +kernel) (xc_X10_refuse h0 hq13) (by omega) (by decide) rfl (Nat.le_of_ble_eq_true rfl) rfl ?_
        show CW l yy_X8_readFact (D + 1) _ _ 48 [some (.ref p0), some (.ref p1), some (.int p2), some (.int (q4.1 p0 8))] [] q13
        have e9 := Option.some.inj hf
        subst e9
        exact CW.vret rfl (by decide +kernel)
    · rw [if_pos c16_3] at hf
      refine CW.run (blk := [(.aload_n 0, 0), (.aload_n 1, 0), (.iload_n 2, 0)]) (pc' := 22) (ls' := [some (.ref p0), some (.ref p1), some (.int p2), none]) (st' := [.int p2, .ref p1, .ref p0]) (by decide +kernel) rfl ?_
      obtain ⟨q14, hq14, hf⟩ := bd_some hf
      refine CW.callS (As := [.ref p0, .ref p1, .int p2]) (st := []) (Y' := yyw 2) lt_RX8_54 (by decide +kernel) (hrd 2 _ _ _ _ _ h0 h1 hq14) (by omega) (by decide) rfl (Nat.le_of_ble_eq_true rfl) rfl ?_
      show CW l yy_X8_readFact (D + 1) _ _ 25 [some (.ref p0), some (.ref p1), some (.int p2), none] [] q14
      have e9 := Option.some.inj hf
      subst e9
      exact CW.vret rfl (by decide +kernel)
