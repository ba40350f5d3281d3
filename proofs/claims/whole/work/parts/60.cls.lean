/-! ===== the class, method by method (by program) 11 ===== -/
def fc_X8_readSum_L9 (k0 : Nat) (k1 : Nat) : Nat → Int32 → Int32 → cT → Option (Int32 × Int32 × cT)
  | 0, _, _, _ => none
  | N + 1, a2, a3, S => if 400 ≤ a3 then (some (a2, a3, S)) else (Option.bind (if (S.1 k0 8) = 43 then (some (1)) else (if (S.1 k0 8) = 45 then (some (1)) else (some (0))) : Option (Int32)) fun w3 => if w3 = 0 then (if (S.1 k0 8) = 42 then ((fc_X10_step k0 S).bind fun q16 => Option.bind (if w3 = 0 then (some (q16)) else (if a2 = 0 then (some (q16)) else ((fc_X7_addCode k1 (-a2) q16).bind fun q20 => some (q20))) : Option (cT)) fun w17 => (fc_X8_readValue k0 k1 w17).bind fun q21 => if w3 = 0 then ((fc_X7_addCode k1 (-(S.1 k0 8)) q21).bind fun q23 => fc_X8_readSum_L9 k0 k1 N a2 (a3 + 1) q23) else (fc_X8_readSum_L9 k0 k1 N (S.1 k0 8) (a3 + 1) q21)) else (if (S.1 k0 8) = 47 then ((fc_X10_step k0 S).bind fun q25 => Option.bind (if w3 = 0 then (some (q25)) else (if a2 = 0 then (some (q25)) else ((fc_X7_addCode k1 (-a2) q25).bind fun q29 => some (q29))) : Option (cT)) fun w26 => (fc_X8_readValue k0 k1 w26).bind fun q30 => if w3 = 0 then ((fc_X7_addCode k1 (-(S.1 k0 8)) q30).bind fun q32 => fc_X8_readSum_L9 k0 k1 N a2 (a3 + 1) q32) else (fc_X8_readSum_L9 k0 k1 N (S.1 k0 8) (a3 + 1) q30)) else (if (S.1 k0 8) = 37 then ((fc_X10_step k0 S).bind fun q34 => Option.bind (if w3 = 0 then (some (q34)) else (if a2 = 0 then (some (q34)) else ((fc_X7_addCode k1 (-a2) q34).bind fun q38 => some (q38))) : Option (cT)) fun w35 => (fc_X8_readValue k0 k1 w35).bind fun q39 => if w3 = 0 then ((fc_X7_addCode k1 (-(S.1 k0 8)) q39).bind fun q41 => fc_X8_readSum_L9 k0 k1 N a2 (a3 + 1) q41) else (fc_X8_readSum_L9 k0 k1 N (S.1 k0 8) (a3 + 1) q39)) else (some (a2, a3, S))))) else ((fc_X10_step k0 S).bind fun q7 => Option.bind (if w3 = 0 then (some (q7)) else (if a2 = 0 then (some (q7)) else ((fc_X7_addCode k1 (-a2) q7).bind fun q11 => some (q11))) : Option (cT)) fun w8 => (fc_X8_readValue k0 k1 w8).bind fun q12 => if w3 = 0 then ((fc_X7_addCode k1 (-(S.1 k0 8)) q12).bind fun q14 => fc_X8_readSum_L9 k0 k1 N a2 (a3 + 1) q14) else (fc_X8_readSum_L9 k0 k1 N (S.1 k0 8) (a3 + 1) q12)))
def fc_X8_readSum (p0 : Nat) (p1 : Nat) (S : cT) : Option (cT) := (fc_X8_readValue p0 p1 S).bind fun q1 => (fc_X8_readSum_L9 p0 p1 FU 0 0 q1).bind fun w42 => if w42.1 = 0 then (some w42.2.2) else ((fc_X7_addCode p1 (-w42.1) w42.2.2).bind fun q44 => some q44)
theorem xc_X8_readSum_L9 {l : Launch} {r : Option Value} {S' : cT} (k0 : Nat) (k1 : Nat) (hk0 : cK k0 = 8) (hk1 : cK k1 = 6) : ∀ (N : Nat) (a2 : Int32) (a3 : Int32) (S : cT) (W0 : Int32 × Int32 × cT) (_ : fc_X8_readSum_L9 k0 k1 N a2 a3 S = some W0) (_ : CW l yy_X8_readSum 2 r S' 120 [some (.ref k0), some (.ref k1), some (.int W0.1), some (.int W0.2.1), none, none] [] W0.2.2), CW l yy_X8_readSum 2 r S' 9 [some (.ref k0), some (.ref k1), some (.int a2), some (.int a3), none, none] [] S := by
  intro N
  induction N with
  | zero =>
    intro a2 a3 S W0 hf _
    cases hf
  | succ N ih =>
    intro a2 a3 S W0 hf hk_1
    unfold fc_X8_readSum_L9 at hf
    refine CW.run (blk := [(.iload_n 3, 0), (.sipush 400, 400)]) (pc' := 13) (ls' := [some (.ref k0), some (.ref k1), some (.int a2), some (.int a3), none, none]) (st' := [.int 400, .int a3]) (by decide +kernel) rfl ?_
    refine CW.icmp_ge (off := 107) (tgt := 120) (by decide +kernel) (by decide) (fun c13_2 => ?_) (fun c13_2 => ?_)
    · rw [if_pos c13_2] at hf
      have e9 := Option.some.inj hf
      subst e9
      exact hk_1
    · rw [if_neg c13_2] at hf
      refine CW.run (blk := [(.aload_n 0, 0)]) (pc' := 17) (ls' := [some (.ref k0), some (.ref k1), some (.int a2), some (.int a3), none, none]) (st' := [.ref k0]) (by decide +kernel) rfl ?_
      refine CW.getf (v := .int (S.1 k0 8)) hk0 (by decide) fl_RX8_23 (by decide +kernel) rfl ?_
      refine CW.run (blk := [(.istore 4, 0), (.iload 4, 0), (.bipush 43, 43)]) (pc' := 26) (ls' := [some (.ref k0), some (.ref k1), some (.int a2), some (.int a3), some (.int (S.1 k0 8)), none]) (st' := [.int 43, .int (S.1 k0 8)]) (by decide +kernel) rfl ?_
      obtain ⟨w3, hw3, hf⟩ := bd_some hf
      have hJ : CW l yy_X8_readSum 2 r S' 41 [some (.ref k0), some (.ref k1), some (.int a2), some (.int a3), some (.int (S.1 k0 8)), none] [.int w3] S := by
        refine CW.run (blk := [(.istore 5, 0), (.iload 5, 0)]) (pc' := 45) (ls' := [some (.ref k0), some (.ref k1), some (.int a2), some (.int a3), some (.int (S.1 k0 8)), some (.int w3)]) (st' := [.int w3]) (by decide +kernel) rfl ?_
        refine CW.if_ne (off := 27) (tgt := 72) (by decide +kernel) (by decide) (fun c45_6 => ?_) (fun c45_6 => ?_)
        · rw [if_neg c45_6] at hf
          refine CW.run (blk := [(.aload_n 0, 0)]) (pc' := 73) (ls' := [some (.ref k0), some (.ref k1), some (.int a2), some (.int a3), some (.int (S.1 k0 8)), some (.int w3)]) (st' := [.ref k0]) (by decide +kernel) rfl ?_
          obtain ⟨q7, hq7, hf⟩ := bd_some hf
          refine CW.callV (As := []) (st := []) lv_RX8_27 hk0 (by decide) rfl rfl (by decide +kernel) (xc_X10_step hk0 hq7) (by decide) (by decide) rfl (Nat.le_of_ble_eq_true rfl) rfl ?_
          show CW l yy_X8_readSum 2 _ _ 76 [some (.ref k0), some (.ref k1), some (.int a2), some (.int a3), some (.int (S.1 k0 8)), some (.int w3)] [] q7
          refine CW.run (blk := [(.iload 5, 0)]) (pc' := 78) (ls' := [some (.ref k0), some (.ref k1), some (.int a2), some (.int a3), some (.int (S.1 k0 8)), some (.int w3)]) (st' := [.int w3]) (by decide +kernel) rfl ?_
          obtain ⟨w8, hw8, hf⟩ := bd_some hf
          have hJ : CW l yy_X8_readSum 2 r S' 91 [some (.ref k0), some (.ref k1), some (.int a2), some (.int a3), some (.int (S.1 k0 8)), some (.int w3)] [] w8 := by
            refine CW.run (blk := [(.aload_n 0, 0), (.aload_n 1, 0)]) (pc' := 93) (ls' := [some (.ref k0), some (.ref k1), some (.int a2), some (.int a3), some (.int (S.1 k0 8)), some (.int w3)]) (st' := [.ref k1, .ref k0]) (by decide +kernel) rfl ?_
            obtain ⟨q12, hq12, hf⟩ := bd_some hf
            refine CW.callS (As := [.ref k0, .ref k1]) (st := []) lt_RX8_64 (by decide +kernel) (xc_X8_readValue hk0 hk1 hq12) (by decide) (by decide) rfl (Nat.le_of_ble_eq_true rfl) rfl ?_
            show CW l yy_X8_readSum 2 _ _ 96 [some (.ref k0), some (.ref k1), some (.int a2), some (.int a3), some (.int (S.1 k0 8)), some (.int w3)] [] q12
            refine CW.run (blk := [(.iload 5, 0)]) (pc' := 98) (ls' := [some (.ref k0), some (.ref k1), some (.int a2), some (.int a3), some (.int (S.1 k0 8)), some (.int w3)]) (st' := [.int w3]) (by decide +kernel) rfl ?_
            refine CW.if_eq (off := 9) (tgt := 107) (by decide +kernel) (by decide) (fun c98_13 => ?_) (fun c98_13 => ?_)
            · rw [if_pos c98_13] at hf
              refine CW.run (blk := [(.aload_n 1, 0), (.iload 4, 0), (.ineg, 0)]) (pc' := 111) (ls' := [some (.ref k0), some (.ref k1), some (.int a2), some (.int a3), some (.int (S.1 k0 8)), some (.int w3)]) (st' := [.int (-(S.1 k0 8)), .ref k1]) (by decide +kernel) rfl ?_
              obtain ⟨q14, hq14, hf⟩ := bd_some hf
              refine CW.callV (As := [.int (-(S.1 k0 8))]) (st := []) lv_RX8_51 hk1 (by decide) rfl rfl (by decide +kernel) (xc_X7_addCode hk1 hq14) (by decide) (by decide) rfl (Nat.le_of_ble_eq_true rfl) rfl ?_
              show CW l yy_X8_readSum 2 _ _ 114 [some (.ref k0), some (.ref k1), some (.int a2), some (.int a3), some (.int (S.1 k0 8)), some (.int w3)] [] q14
              refine CW.run (blk := [(.iinc 3 1, 1), (.goto (-108), 0)]) (pc' := 9) (ls' := [some (.ref k0), some (.ref k1), some (.int a2), some (.int (a3 + 1)), some (.int (S.1 k0 8)), some (.int w3)]) (st' := []) (by decide +kernel) rfl ?_
              refine CW.fgt (ls' := [some (.ref k0), some (.ref k1), some (.int a2), some (.int (a3 + 1)), none, none]) (by repeat' (first | exact trivial | refine ⟨rfl, ?_⟩)) ?_
              exact ih _ _ _ _ hf hk_1
            · rw [if_neg c98_13] at hf
              refine CW.run (blk := [(.iload 4, 0), (.istore_n 2, 0), (.goto 10, 0), (.iinc 3 1, 1), (.goto (-108), 0)]) (pc' := 9) (ls' := [some (.ref k0), some (.ref k1), some (.int (S.1 k0 8)), some (.int (a3 + 1)), some (.int (S.1 k0 8)), some (.int w3)]) (st' := []) (by decide +kernel) rfl ?_
              refine CW.fgt (ls' := [some (.ref k0), some (.ref k1), some (.int (S.1 k0 8)), some (.int (a3 + 1)), none, none]) (by repeat' (first | exact trivial | refine ⟨rfl, ?_⟩)) ?_
              exact ih _ _ _ _ hf hk_1
          clear hf
          refine CW.if_eq (off := 13) (tgt := 91) (by decide +kernel) (by decide) (fun c78_9 => ?_) (fun c78_9 => ?_)
          · rw [if_pos c78_9] at hw8
            have e9 := Option.some.inj hw8
            subst e9
            exact hJ
          · rw [if_neg c78_9] at hw8
            refine CW.run (blk := [(.iload_n 2, 0)]) (pc' := 82) (ls' := [some (.ref k0), some (.ref k1), some (.int a2), some (.int a3), some (.int (S.1 k0 8)), some (.int w3)]) (st' := [.int a2]) (by decide +kernel) rfl ?_
            refine CW.if_eq (off := 9) (tgt := 91) (by decide +kernel) (by decide) (fun c82_10 => ?_) (fun c82_10 => ?_)
            · rw [if_pos c82_10] at hw8
              have e9 := Option.some.inj hw8
              subst e9
              exact hJ
            · rw [if_neg c82_10] at hw8
              refine CW.run (blk := [(.aload_n 1, 0), (.iload_n 2, 0), (.ineg, 0)]) (pc' := 88) (ls' := [some (.ref k0), some (.ref k1), some (.int a2), some (.int a3), some (.int (S.1 k0 8)), some (.int w3)]) (st' := [.int (-a2), .ref k1]) (by decide +kernel) rfl ?_
              obtain ⟨q11, hq11, hw8⟩ := bd_some hw8
              refine CW.callV (As := [.int (-a2)]) (st := []) lv_RX8_51 hk1 (by decide) rfl rfl (by decide +kernel) (xc_X7_addCode hk1 hq11) (by decide) (by decide) rfl (Nat.le_of_ble_eq_true rfl) rfl ?_
              show CW l yy_X8_readSum 2 _ _ 91 [some (.ref k0), some (.ref k1), some (.int a2), some (.int a3), some (.int (S.1 k0 8)), some (.int w3)] [] q11
              have e9 := Option.some.inj hw8
              subst e9
              exact hJ
        · rw [if_pos c45_6] at hf
          refine CW.run (blk := [(.iload 4, 0), (.bipush 42, 42)]) (pc' := 52) (ls' := [some (.ref k0), some (.ref k1), some (.int a2), some (.int a3), some (.int (S.1 k0 8)), some (.int w3)]) (st' := [.int 42, .int (S.1 k0 8)]) (by decide +kernel) rfl ?_
          refine CW.icmp_eq (off := 20) (tgt := 72) (by decide +kernel) (by decide) (fun c52_15 => ?_) (fun c52_15 => ?_)
          · rw [if_pos c52_15] at hf
            refine CW.run (blk := [(.aload_n 0, 0)]) (pc' := 73) (ls' := [some (.ref k0), some (.ref k1), some (.int a2), some (.int a3), some (.int (S.1 k0 8)), some (.int w3)]) (st' := [.ref k0]) (by decide +kernel) rfl ?_
            obtain ⟨q16, hq16, hf⟩ := bd_some hf
            refine CW.callV (As := []) (st := []) lv_RX8_27 hk0 (by decide) rfl rfl (by decide +kernel) (xc_X10_step hk0 hq16) (by decide) (by decide) rfl (Nat.le_of_ble_eq_true rfl) rfl ?_
            show CW l yy_X8_readSum 2 _ _ 76 [some (.ref k0), some (.ref k1), some (.int a2), some (.int a3), some (.int (S.1 k0 8)), some (.int w3)] [] q16
            refine CW.run (blk := [(.iload 5, 0)]) (pc' := 78) (ls' := [some (.ref k0), some (.ref k1), some (.int a2), some (.int a3), some (.int (S.1 k0 8)), some (.int w3)]) (st' := [.int w3]) (by decide +kernel) rfl ?_
            obtain ⟨w17, hw17, hf⟩ := bd_some hf
            have hJ : CW l yy_X8_readSum 2 r S' 91 [some (.ref k0), some (.ref k1), some (.int a2), some (.int a3), some (.int (S.1 k0 8)), some (.int w3)] [] w17 := by
              refine CW.run (blk := [(.aload_n 0, 0), (.aload_n 1, 0)]) (pc' := 93) (ls' := [some (.ref k0), some (.ref k1), some (.int a2), some (.int a3), some (.int (S.1 k0 8)), some (.int w3)]) (st' := [.ref k1, .ref k0]) (by decide +kernel) rfl ?_
              obtain ⟨q21, hq21, hf⟩ := bd_some hf
              refine CW.callS (As := [.ref k0, .ref k1]) (st := []) lt_RX8_64 (by decide +kernel) (xc_X8_readValue hk0 hk1 hq21) (by decide) (by decide) rfl (Nat.le_of_ble_eq_true rfl) rfl ?_
              show CW l yy_X8_readSum 2 _ _ 96 [some (.ref k0), some (.ref k1), some (.int a2), some (.int a3), some (.int (S.1 k0 8)), some (.int w3)] [] q21
              refine CW.run (blk := [(.iload 5, 0)]) (pc' := 98) (ls' := [some (.ref k0), some (.ref k1), some (.int a2), some (.int a3), some (.int (S.1 k0 8)), some (.int w3)]) (st' := [.int w3]) (by decide +kernel) rfl ?_
              refine CW.if_eq (off := 9) (tgt := 107) (by decide +kernel) (by decide) (fun c98_22 => ?_) (fun c98_22 => ?_)
              · rw [if_pos c98_22] at hf
                refine CW.run (blk := [(.aload_n 1, 0), (.iload 4, 0), (.ineg, 0)]) (pc' := 111) (ls' := [some (.ref k0), some (.ref k1), some (.int a2), some (.int a3), some (.int (S.1 k0 8)), some (.int w3)]) (st' := [.int (-(S.1 k0 8)), .ref k1]) (by decide +kernel) rfl ?_
                obtain ⟨q23, hq23, hf⟩ := bd_some hf
                refine CW.callV (As := [.int (-(S.1 k0 8))]) (st := []) lv_RX8_51 hk1 (by decide) rfl rfl (by decide +kernel) (xc_X7_addCode hk1 hq23) (by decide) (by decide) rfl (Nat.le_of_ble_eq_true rfl) rfl ?_
                show CW l yy_X8_readSum 2 _ _ 114 [some (.ref k0), some (.ref k1), some (.int a2), some (.int a3), some (.int (S.1 k0 8)), some (.int w3)] [] q23
                refine CW.run (blk := [(.iinc 3 1, 1), (.goto (-108), 0)]) (pc' := 9) (ls' := [some (.ref k0), some (.ref k1), some (.int a2), some (.int (a3 + 1)), some (.int (S.1 k0 8)), some (.int w3)]) (st' := []) (by decide +kernel) rfl ?_
                refine CW.fgt (ls' := [some (.ref k0), some (.ref k1), some (.int a2), some (.int (a3 + 1)), none, none]) (by repeat' (first | exact trivial | refine ⟨rfl, ?_⟩)) ?_
                exact ih _ _ _ _ hf hk_1
              · rw [if_neg c98_22] at hf
                refine CW.run (blk := [(.iload 4, 0), (.istore_n 2, 0), (.goto 10, 0), (.iinc 3 1, 1), (.goto (-108), 0)]) (pc' := 9) (ls' := [some (.ref k0), some (.ref k1), some (.int (S.1 k0 8)), some (.int (a3 + 1)), some (.int (S.1 k0 8)), some (.int w3)]) (st' := []) (by decide +kernel) rfl ?_
                refine CW.fgt (ls' := [some (.ref k0), some (.ref k1), some (.int (S.1 k0 8)), some (.int (a3 + 1)), none, none]) (by repeat' (first | exact trivial | refine ⟨rfl, ?_⟩)) ?_
                exact ih _ _ _ _ hf hk_1
            clear hf
            refine CW.if_eq (off := 13) (tgt := 91) (by decide +kernel) (by decide) (fun c78_18 => ?_) (fun c78_18 => ?_)
            · rw [if_pos c78_18] at hw17
              have e9 := Option.some.inj hw17
              subst e9
              exact hJ
            · rw [if_neg c78_18] at hw17
              refine CW.run (blk := [(.iload_n 2, 0)]) (pc' := 82) (ls' := [some (.ref k0), some (.ref k1), some (.int a2), some (.int a3), some (.int (S.1 k0 8)), some (.int w3)]) (st' := [.int a2]) (by decide +kernel) rfl ?_
              refine CW.if_eq (off := 9) (tgt := 91) (by decide +kernel) (by decide) (fun c82_19 => ?_) (fun c82_19 => ?_)
              · rw [if_pos c82_19] at hw17
                have e9 := Option.some.inj hw17
                subst e9
                exact hJ
              · rw [if_neg c82_19] at hw17
                refine CW.run (blk := [(.aload_n 1, 0), (.iload_n 2, 0), (.ineg, 0)]) (pc' := 88) (ls' := [some (.ref k0), some (.ref k1), some (.int a2), some (.int a3), some (.int (S.1 k0 8)), some (.int w3)]) (st' := [.int (-a2), .ref k1]) (by decide +kernel) rfl ?_
                obtain ⟨q20, hq20, hw17⟩ := bd_some hw17
                refine CW.callV (As := [.int (-a2)]) (st := []) lv_RX8_51 hk1 (by decide) rfl rfl (by decide +kernel) (xc_X7_addCode hk1 hq20) (by decide) (by decide) rfl (Nat.le_of_ble_eq_true rfl) rfl ?_
                show CW l yy_X8_readSum 2 _ _ 91 [some (.ref k0), some (.ref k1), some (.int a2), some (.int a3), some (.int (S.1 k0 8)), some (.int w3)] [] q20
                have e9 := Option.some.inj hw17
                subst e9
                exact hJ
          · rw [if_neg c52_15] at hf
            refine CW.run (blk := [(.iload 4, 0), (.bipush 47, 47)]) (pc' := 59) (ls' := [some (.ref k0), some (.ref k1), some (.int a2), some (.int a3), some (.int (S.1 k0 8)), some (.int w3)]) (st' := [.int 47, .int (S.1 k0 8)]) (by decide +kernel) rfl ?_
            refine CW.icmp_eq (off := 13) (tgt := 72) (by decide +kernel) (by decide) (fun c59_24 => ?_) (fun c59_24 => ?_)
            · rw [if_pos c59_24] at hf
              refine CW.run (blk := [(.aload_n 0, 0)]) (pc' := 73) (ls' := [some (.ref k0), some (.ref k1), some (.int a2), some (.int a3), some (.int (S.1 k0 8)), some (.int w3)]) (st' := [.ref k0]) (by decide +kernel) rfl ?_
              obtain ⟨q25, hq25, hf⟩ := bd_some hf
              refine CW.callV (As := []) (st := []) lv_RX8_27 hk0 (by decide) rfl rfl (by decide +kernel) (xc_X10_step hk0 hq25) (by decide) (by decide) rfl (Nat.le_of_ble_eq_true rfl) rfl ?_
              show CW l yy_X8_readSum 2 _ _ 76 [some (.ref k0), some (.ref k1), some (.int a2), some (.int a3), some (.int (S.1 k0 8)), some (.int w3)] [] q25
              refine CW.run (blk := [(.iload 5, 0)]) (pc' := 78) (ls' := [some (.ref k0), some (.ref k1), some (.int a2), some (.int a3), some (.int (S.1 k0 8)), some (.int w3)]) (st' := [.int w3]) (by decide +kernel) rfl ?_
              obtain ⟨w26, hw26, hf⟩ := bd_some hf
              have hJ : CW l yy_X8_readSum 2 r S' 91 [some (.ref k0), some (.ref k1), some (.int a2), some (.int a3), some (.int (S.1 k0 8)), some (.int w3)] [] w26 := by
                refine CW.run (blk := [(.aload_n 0, 0), (.aload_n 1, 0)]) (pc' := 93) (ls' := [some (.ref k0), some (.ref k1), some (.int a2), some (.int a3), some (.int (S.1 k0 8)), some (.int w3)]) (st' := [.ref k1, .ref k0]) (by decide +kernel) rfl ?_
                obtain ⟨q30, hq30, hf⟩ := bd_some hf
                refine CW.callS (As := [.ref k0, .ref k1]) (st := []) lt_RX8_64 (by decide +kernel) (xc_X8_readValue hk0 hk1 hq30) (by decide) (by decide) rfl (Nat.le_of_ble_eq_true rfl) rfl ?_
                show CW l yy_X8_readSum 2 _ _ 96 [some (.ref k0), some (.ref k1), some (.int a2), some (.int a3), some (.int (S.1 k0 8)), some (.int w3)] [] q30
                refine CW.run (blk := [(.iload 5, 0)]) (pc' := 98) (ls' := [some (.ref k0), some (.ref k1), some (.int a2), some (.int a3), some (.int (S.1 k0 8)), some (.int w3)]) (st' := [.int w3]) (by decide +kernel) rfl ?_
                refine CW.if_eq (off := 9) (tgt := 107) (by decide +kernel) (by decide) (fun c98_31 => ?_) (fun c98_31 => ?_)
                · rw [if_pos c98_31] at hf
                  refine CW.run (blk := [(.aload_n 1, 0), (.iload 4, 0), (.ineg, 0)]) (pc' := 111) (ls' := [some (.ref k0), some (.ref k1), some (.int a2), some (.int a3), some (.int (S.1 k0 8)), some (.int w3)]) (st' := [.int (-(S.1 k0 8)), .ref k1]) (by decide +kernel) rfl ?_
                  obtain ⟨q32, hq32, hf⟩ := bd_some hf
                  refine CW.callV (As := [.int (-(S.1 k0 8))]) (st := []) lv_RX8_51 hk1 (by decide) rfl rfl (by decide +kernel) (xc_X7_addCode hk1 hq32) (by decide) (by decide) rfl (Nat.le_of_ble_eq_true rfl) rfl ?_
                  show CW l yy_X8_readSum 2 _ _ 114 [some (.ref k0), some (.ref k1), some (.int a2), some (.int a3), some (.int (S.1 k0 8)), some (.int w3)] [] q32
                  refine CW.run (blk := [(.iinc 3 1, 1), (.goto (-108), 0)]) (pc' := 9) (ls' := [some (.ref k0), some (.ref k1), some (.int a2), some (.int (a3 + 1)), some (.int (S.1 k0 8)), some (.int w3)]) (st' := []) (by decide +kernel) rfl ?_
                  refine CW.fgt (ls' := [some (.ref k0), some (.ref k1), some (.int a2), some (.int (a3 + 1)), none, none]) (by repeat' (first | exact trivial | refine ⟨rfl, ?_⟩)) ?_
                  exact ih _ _ _ _ hf hk_1
                · rw [if_neg c98_31] at hf
                  refine CW.run (blk := [(.iload 4, 0), (.istore_n 2, 0), (.goto 10, 0), (.iinc 3 1, 1), (.goto (-108), 0)]) (pc' := 9) (ls' := [some (.ref k0), some (.ref k1), some (.int (S.1 k0 8)), some (.int (a3 + 1)), some (.int (S.1 k0 8)), some (.int w3)]) (st' := []) (by decide +kernel) rfl ?_
                  refine CW.fgt (ls' := [some (.ref k0), some (.ref k1), some (.int (S.1 k0 8)), some (.int (a3 + 1)), none, none]) (by repeat' (first | exact trivial | refine ⟨rfl, ?_⟩)) ?_
                  exact ih _ _ _ _ hf hk_1
              clear hf
              refine CW.if_eq (off := 13) (tgt := 91) (by decide +kernel) (by decide) (fun c78_27 => ?_) (fun c78_27 => ?_)
              · rw [if_pos c78_27] at hw26
                have e9 := Option.some.inj hw26
                subst e9
                exact hJ
              · rw [if_neg c78_27] at hw26
                refine CW.run (blk := [(.iload_n 2, 0)]) (pc' := 82) (ls' := [some (.ref k0), some (.ref k1), some (.int a2), some (.int a3), some (.int (S.1 k0 8)), some (.int w3)]) (st' := [.int a2]) (by decide +kernel) rfl ?_
                refine CW.if_eq (off := 9) (tgt := 91) (by decide +kernel) (by decide) (fun c82_28 => ?_) (fun c82_28 => ?_)
                · rw [if_pos c82_28] at hw26
                  have e9 := Option.some.inj hw26
                  subst e9
                  exact hJ
                · rw [if_neg c82_28] at hw26
                  refine CW.run (blk := [(.aload_n 1, 0), (.iload_n 2, 0), (.ineg, 0)]) (pc' := 88) (ls' := [some (.ref k0), some (.ref k1), some (.int a2), some (.int a3), some (.int (S.1 k0 8)), some (.int w3)]) (st' := [.int (-a2), .ref k1]) (by decide +kernel) rfl ?_
                  obtain ⟨q29, hq29, hw26⟩ := bd_some hw26
                  refine CW.callV (As := [.int (-a2)]) (st := []) lv_RX8_51 hk1 (by decide) rfl rfl (by decide +kernel) (xc_X7_addCode hk1 hq29) (by decide) (by decide) rfl (Nat.le_of_ble_eq_true rfl) rfl ?_
                  show CW l yy_X8_readSum 2 _ _ 91 [some (.ref k0), some (.ref k1), some (.int a2), some (.int a3), some (.int (S.1 k0 8)), some (.int w3)] [] q29
                  have e9 := Option.some.inj hw26
                  subst e9
                  exact hJ
            · rw [if_neg c59_24] at hf
              refine CW.run (blk := [(.iload 4, 0), (.bipush 37, 37)]) (pc' := 66) (ls' := [some (.ref k0), some (.ref k1), some (.int a2), some (.int a3), some (.int (S.1 k0 8)), some (.int w3)]) (st' := [.int 37, .int (S.1 k0 8)]) (by decide +kernel) rfl ?_
              refine CW.icmp_eq (off := 6) (tgt := 72) (by decide +kernel) (by decide) (fun c66_33 => ?_) (fun c66_33 => ?_)
              · rw [if_pos c66_33] at hf
                refine CW.run (blk := [(.aload_n 0, 0)]) (pc' := 73) (ls' := [some (.ref k0), some (.ref k1), some (.int a2), some (.int a3), some (.int (S.1 k0 8)), some (.int w3)]) (st' := [.ref k0]) (by decide +kernel) rfl ?_
                obtain ⟨q34, hq34, hf⟩ := bd_some hf
                refine CW.callV (As := []) (st := []) lv_RX8_27 hk0 (by decide) rfl rfl (by decide +kernel) (xc_X10_step hk0 hq34) (by decide) (by decide) rfl (Nat.le_of_ble_eq_true rfl) rfl ?_
                show CW l yy_X8_readSum 2 _ _ 76 [some (.ref k0), some (.ref k1), some (.int a2), some (.int a3), some (.int (S.1 k0 8)), some (.int w3)] [] q34
                refine CW.run (blk := [(.iload 5, 0)]) (pc' := 78) (ls' := [some (.ref k0), some (.ref k1), some (.int a2), some (.int a3), some (.int (S.1 k0 8)), some (.int w3)]) (st' := [.int w3]) (by decide +kernel) rfl ?_
                obtain ⟨w35, hw35, hf⟩ := bd_some hf
                have hJ : CW l yy_X8_readSum 2 r S' 91 [some (.ref k0), some (.ref k1), some (.int a2), some (.int a3), some (.int (S.1 k0 8)), some (.int w3)] [] w35 := by
                  refine CW.run (blk := [(.aload_n 0, 0), (.aload_n 1, 0)]) (pc' := 93) (ls' := [some (.ref k0), some (.ref k1), some (.int a2), some (.int a3), some (.int (S.1 k0 8)), some (.int w3)]) (st' := [.ref k1, .ref k0]) (by decide +kernel) rfl ?_
                  obtain ⟨q39, hq39, hf⟩ := bd_some hf
                  refine CW.callS (As := [.ref k0, .ref k1]) (st := []) lt_RX8_64 (by decide +kernel) (xc_X8_readValue hk0 hk1 hq39) (by decide) (by decide) rfl (Nat.le_of_ble_eq_true rfl) rfl ?_
                  show CW l yy_X8_readSum 2 _ _ 96 [some (.ref k0), some (.ref k1), some (.int a2), some (.int a3), some (.int (S.1 k0 8)), some (.int w3)] [] q39
                  refine CW.run (blk := [(.iload 5, 0)]) (pc' := 98) (ls' := [some (.ref k0), some (.ref k1), some (.int a2), some (.int a3), some (.int (S.1 k0 8)), some (.int w3)]) (st' := [.int w3]) (by decide +kernel) rfl ?_
                  refine CW.if_eq (off := 9) (tgt := 107) (by decide +kernel) (by decide) (fun c98_40 => ?_) (fun c98_40 => ?_)
                  · rw [if_pos c98_40] at hf
                    refine CW.run (blk := [(.aload_n 1, 0), (.iload 4, 0), (.ineg, 0)]) (pc' := 111) (ls' := [some (.ref k0), some (.ref k1), some (.int a2), some (.int a3), some (.int (S.1 k0 8)), some (.int w3)]) (st' := [.int (-(S.1 k0 8)), .ref k1]) (by decide +kernel) rfl ?_
                    obtain ⟨q41, hq41, hf⟩ := bd_some hf
                    refine CW.callV (As := [.int (-(S.1 k0 8))]) (st := []) lv_RX8_51 hk1 (by decide) rfl rfl (by decide +kernel) (xc_X7_addCode hk1 hq41) (by decide) (by decide) rfl (Nat.le_of_ble_eq_true rfl) rfl ?_
                    show CW l yy_X8_readSum 2 _ _ 114 [some (.ref k0), some (.ref k1), some (.int a2), some (.int a3), some (.int (S.1 k0 8)), some (.int w3)] [] q41
                    refine CW.run (blk := [(.iinc 3 1, 1), (.goto (-108), 0)]) (pc' := 9) (ls' := [some (.ref k0), some (.ref k1), some (.int a2), some (.int (a3 + 1)), some (.int (S.1 k0 8)), some (.int w3)]) (st' := []) (by decide +kernel) rfl ?_
                    refine CW.fgt (ls' := [some (.ref k0), some (.ref k1), some (.int a2), some (.int (a3 + 1)), none, none]) (by repeat' (first | exact trivial | refine ⟨rfl, ?_⟩)) ?_
                    exact ih _ _ _ _ hf hk_1
                  · rw [if_neg c98_40] at hf
                    refine CW.run (blk := [(.iload 4, 0), (.istore_n 2, 0), (.goto 10, 0), (.iinc 3 1, 1), (.goto (-108), 0)]) (pc' := 9) (ls' := [some (.ref k0), some (.ref k1), some (.int (S.1 k0 8)), some (.int (a3 + 1)), some (.int (S.1 k0 8)), some (.int w3)]) (st' := []) (by decide +kernel) rfl ?_
                    refine CW.fgt (ls' := [some (.ref k0), some (.ref k1), some (.int (S.1 k0 8)), some (.int (a3 + 1)), none, none]) (by repeat' (first | exact trivial | refine ⟨rfl, ?_⟩)) ?_
                    exact ih _ _ _ _ hf hk_1
                clear hf
                refine CW.if_eq (off := 13) (tgt := 91) (by decide +kernel) (by decide) (fun c78_36 => ?_) (fun c78_36 => ?_)
                · rw [if_pos c78_36] at hw35
                  have e9 := Option.some.inj hw35
                  subst e9
                  exact hJ
                · rw [if_neg c78_36] at hw35
                  refine CW.run (blk := [(.iload_n 2, 0)]) (pc' := 82) (ls' := [some (.ref k0), some (.ref k1), some (.int a2), some (.int a3), some (.int (S.1 k0 8)), some (.int w3)]) (st' := [.int a2]) (by decide +kernel) rfl ?_
                  refine CW.if_eq (off := 9) (tgt := 91) (by decide +kernel) (by decide) (fun c82_37 => ?_) (fun c82_37 => ?_)
                  · rw [if_pos c82_37] at hw35
                    have e9 := Option.some.inj hw35
                    subst e9
                    exact hJ
                  · rw [if_neg c82_37] at hw35
                    refine CW.run (blk := [(.aload_n 1, 0), (.iload_n 2, 0), (.ineg, 0)]) (pc' := 88) (ls' := [some (.ref k0), some (.ref k1), some (.int a2), some (.int a3), some (.int (S.1 k0 8)), some (.int w3)]) (st' := [.int (-a2), .ref k1]) (by decide +kernel) rfl ?_
                    obtain ⟨q38, hq38, hw35⟩ := bd_some hw35
                    refine CW.callV (As := [.int (-a2)]) (st := []) lv_RX8_51 hk1 (by decide) rfl rfl (by decide +kernel) (xc_X7_addCode hk1 hq38) (by decide) (by decide) rfl (Nat.le_of_ble_eq_true rfl) rfl ?_
                    show CW l yy_X8_readSum 2 _ _ 91 [some (.ref k0), some (.ref k1), some (.int a2), some (.int a3), some (.int (S.1 k0 8)), some (.int w3)] [] q38
                    have e9 := Option.some.inj hw35
                    subst e9
                    exact hJ
              · rw [if_neg c66_33] at hf
                refine CW.run (blk := [(.goto 51, 0)]) (pc' := 120) (ls' := [some (.ref k0), some (.ref k1), some (.int a2), some (.int a3), some (.int (S.1 k0 8)), some (.int w3)]) (st' := []) (by decide +kernel) rfl ?_
                have e9 := Option.some.inj hf
                subst e9
                refine CW.fgt (ls' := [some (.ref k0), some (.ref k1), some (.int a2), some (.int a3), none, none]) (by repeat' (first | exact trivial | refine ⟨rfl, ?_⟩)) ?_
                exact hk_1
      clear hf
      refine CW.icmp_eq (off := 10) (tgt := 36) (by decide +kernel) (by decide) (fun c26_4 => ?_) (fun c26_4 => ?_)
      · rw [if_pos c26_4] at hw3
        refine CW.run (blk := [(.iconst 1, 1), (.goto 4, 0)]) (pc' := 41) (ls' := [some (.ref k0), some (.ref k1), some (.int a2), some (.int a3), some (.int (S.1 k0 8)), none]) (st' := [.int 1]) (by decide +kernel) rfl ?_
        have e9 := Option.some.inj hw3
        subst e9
        exact hJ
      · rw [if_neg c26_4] at hw3
        refine CW.run (blk := [(.iload 4, 0), (.bipush 45, 45)]) (pc' := 33) (ls' := [some (.ref k0), some (.ref k1), some (.int a2), some (.int a3), some (.int (S.1 k0 8)), none]) (st' := [.int 45, .int (S.1 k0 8)]) (by decide +kernel) rfl ?_
        refine CW.icmp_ne (off := 7) (tgt := 40) (by decide +kernel) (by decide) (fun c33_5 => ?_) (fun c33_5 => ?_)
        · rw [if_neg c33_5] at hw3
          refine CW.run (blk := [(.iconst 0, 0)]) (pc' := 41) (ls' := [some (.ref k0), some (.ref k1), some (.int a2), some (.int a3), some (.int (S.1 k0 8)), none]) (st' := [.int 0]) (by decide +kernel) rfl ?_
          have e9 := Option.some.inj hw3
          subst e9
          exact hJ
        · rw [if_pos c33_5] at hw3
          refine CW.run (blk := [(.iconst 1, 1), (.goto 4, 0)]) (pc' := 41) (ls' := [some (.ref k0), some (.ref k1), some (.int a2), some (.int a3), some (.int (S.1 k0 8)), none]) (st' := [.int 1]) (by decide +kernel) rfl ?_
          have e9 := Option.some.inj hw3
          subst e9
          exact hJ
theorem xc_X8_readSum {l : Launch} {p0 : Nat} {p1 : Nat} {S : cT} {q : cT} (h0 : cK p0 = 8) (h1 : cK p1 = 6) (hf : fc_X8_readSum p0 p1 S = some q) : COk l yy_X8_readSum 2 [.ref p0, .ref p1] S none q := by
  refine COk.of (ls := [some (.ref p0), some (.ref p1), none, none, none, none]) (by decide +kernel) (Nat.le_of_ble_eq_true rfl) rfl ?_
  unfold fc_X8_readSum at hf
  refine CW.run (blk := [(.iconst 0, 0), (.istore_n 2, 0), (.aload_n 0, 0), (.aload_n 1, 0)]) (pc' := 4) (ls' := [some (.ref p0), some (.ref p1), some (.int 0), none, none, none]) (st' := [.ref p1, .ref p0]) (by decide +kernel) rfl ?_
  obtain ⟨q1, hq1, hf⟩ := bd_some hf
  refine CW.callS (As := [.ref p0, .ref p1]) (st := []) lt_RX8_64 (by decide +kernel) (xc_X8_readValue h0 h1 hq1) (by decide) (by decide) rfl (Nat.le_of_ble_eq_true rfl) rfl ?_
  show CW l yy_X8_readSum 2 _ _ 7 [some (.ref p0), some (.ref p1), some (.int 0), none, none, none] [] q1
  refine CW.run (blk := [(.iconst 0, 0), (.istore_n 3, 0)]) (pc' := 9) (ls' := [some (.ref p0), some (.ref p1), some (.int 0), some (.int 0), none, none]) (st' := []) (by decide +kernel) rfl ?_
  obtain ⟨w42, hw42, hf⟩ := bd_some hf
  refine xc_X8_readSum_L9 p0 p1 h0 h1 FU _ _ _ _ hw42 ?_
  refine CW.run (blk := [(.iload_n 2, 0)]) (pc' := 121) (ls' := [some (.ref p0), some (.ref p1), some (.int w42.1), some (.int w42.2.1), none, none]) (st' := [.int w42.1]) (by decide +kernel) rfl ?_
  refine CW.if_eq (off := 9) (tgt := 130) (by decide +kernel) (by decide) (fun c121_43 => ?_) (fun c121_43 => ?_)
  · rw [if_pos c121_43] at hf
    have e9 := Option.some.inj hf
    subst e9
    exact CW.vret rfl (by decide +kernel)
  · rw [if_neg c121_43] at hf
    refine CW.run (blk := [(.aload_n 1, 0), (.iload_n 2, 0), (.ineg, 0)]) (pc' := 127) (ls' := [some (.ref p0), some (.ref p1), some (.int w42.1), some (.int w42.2.1), none, none]) (st' := [.int (-w42.1), .ref p1]) (by decide +kernel) rfl ?_
    obtain ⟨q44, hq44, hf⟩ := bd_some hf
    refine CW.callV (As := [.int (-w42.1)]) (st := []) lv_RX8_51 h1 (by decide) rfl rfl (by decide +kernel) (xc_X7_addCode h1 hq44) (by decide) (by decide) rfl (Nat.le_of_ble_eq_true rfl) rfl ?_
    show CW l yy_X8_readSum 2 _ _ 130 [some (.ref p0), some (.ref p1), some (.int w42.1), some (.int w42.2.1), none, none] [] q44
    have e9 := Option.some.inj hf
    subst e9
    exact CW.vret rfl (by decide +kernel)
def fc_X8_isComparing (p0 : Int32) : Option (Bool) := if p0 = 60 then (some true) else (if p0 = 61 then (some true) else (if p0 = 62 then (some true) else (if p0 = 256 then (some true) else (if p0 = 257 then (some true) else (some false)))))
theorem xc_X8_isComparing {l : Launch} {p0 : Int32} {q : Bool} (hf : fc_X8_isComparing p0 = some q) : POk l yy_X8_isComparing 0 [.int p0] (some (.int (b2i q))) := by
  refine POk.of (ls := [some (.int p0)]) (by decide +kernel) (Nat.le_of_ble_eq_true rfl) rfl ?_
  unfold fc_X8_isComparing at hf
  refine PW.run (blk := [(.iload_n 0, 0), (.bipush 60, 60)]) (pc' := 3) (ls' := [some (.int p0)]) (st' := [.int 60, .int p0]) (by decide +kernel) rfl ?_
  refine PW.icmp_eq (off := 29) (tgt := 32) (by decide +kernel) (by decide) (fun c3_1 => ?_) (fun c3_1 => ?_)
  · rw [if_pos c3_1] at hf
    refine PW.run (blk := [(.iconst 1, 1), (.goto 4, 0)]) (pc' := 37) (ls' := [some (.int p0)]) (st' := [.int 1]) (by decide +kernel) rfl ?_
    have e9 := Option.some.inj hf
    subst e9
    exact PW.zret rfl (b2i_nar _) (by decide +kernel)
  · rw [if_neg c3_1] at hf
    refine PW.run (blk := [(.iload_n 0, 0), (.bipush 61, 61)]) (pc' := 9) (ls' := [some (.int p0)]) (st' := [.int 61, .int p0]) (by decide +kernel) rfl ?_
    refine PW.icmp_eq (off := 23) (tgt := 32) (by decide +kernel) (by decide) (fun c9_2 => ?_) (fun c9_2 => ?_)
    · rw [if_pos c9_2] at hf
      refine PW.run (blk := [(.iconst 1, 1), (.goto 4, 0)]) (pc' := 37) (ls' := [some (.int p0)]) (st' := [.int 1]) (by decide +kernel) rfl ?_
      have e9 := Option.some.inj hf
      subst e9
      exact PW.zret rfl (b2i_nar _) (by decide +kernel)
    · rw [if_neg c9_2] at hf
      refine PW.run (blk := [(.iload_n 0, 0), (.bipush 62, 62)]) (pc' := 15) (ls' := [some (.int p0)]) (st' := [.int 62, .int p0]) (by decide +kernel) rfl ?_
      refine PW.icmp_eq (off := 17) (tgt := 32) (by decide +kernel) (by decide) (fun c15_3 => ?_) (fun c15_3 => ?_)
      · rw [if_pos c15_3] at hf
        refine PW.run (blk := [(.iconst 1, 1), (.goto 4, 0)]) (pc' := 37) (ls' := [some (.int p0)]) (st' := [.int 1]) (by decide +kernel) rfl ?_
        have e9 := Option.some.inj hf
        subst e9
        exact PW.zret rfl (b2i_nar _) (by decide +kernel)
      · rw [if_neg c15_3] at hf
        refine PW.run (blk := [(.iload_n 0, 0), (.sipush 256, 256)]) (pc' := 22) (ls' := [some (.int p0)]) (st' := [.int 256, .int p0]) (by decide +kernel) rfl ?_
        refine PW.icmp_eq (off := 10) (tgt := 32) (by decide +kernel) (by decide) (fun c22_4 => ?_) (fun c22_4 => ?_)
        · rw [if_pos c22_4] at hf
          refine PW.run (blk := [(.iconst 1, 1), (.goto 4, 0)]) (pc' := 37) (ls' := [some (.int p0)]) (st' := [.int 1]) (by decide +kernel) rfl ?_
          have e9 := Option.some.inj hf
          subst e9
          exact PW.zret rfl (b2i_nar _) (by decide +kernel)
        · rw [if_neg c22_4] at hf
          refine PW.run (blk := [(.iload_n 0, 0), (.sipush 257, 257)]) (pc' := 29) (ls' := [some (.int p0)]) (st' := [.int 257, .int p0]) (by decide +kernel) rfl ?_
          refine PW.icmp_ne (off := 7) (tgt := 36) (by decide +kernel) (by decide) (fun c29_5 => ?_) (fun c29_5 => ?_)
          · rw [if_neg c29_5] at hf
            refine PW.run (blk := [(.iconst 0, 0)]) (pc' := 37) (ls' := [some (.int p0)]) (st' := [.int 0]) (by decide +kernel) rfl ?_
            have e9 := Option.some.inj hf
            subst e9
            exact PW.zret rfl (b2i_nar _) (by decide +kernel)
          · rw [if_pos c29_5] at hf
            refine PW.run (blk := [(.iconst 1, 1), (.goto 4, 0)]) (pc' := 37) (ls' := [some (.int p0)]) (st' := [.int 1]) (by decide +kernel) rfl ?_
            have e9 := Option.some.inj hf
            subst e9
            exact PW.zret rfl (b2i_nar _) (by decide +kernel)
def fc_X10_append_L3 (k0 : Nat) (k1 : Int32) : Nat → Int32 → cT → Option (Int32 × cT)
  | 0, _, _ => none
  | N + 1, a2, S => if a2 < 0 then (some (a2, S)) else (if (S.1 k0 4) < 0 then (fc_X10_append_L3 k0 k1 N (a2 + (-8)) S) else (if 400 ≤ (S.1 k0 4) then (fc_X10_append_L3 k0 k1 N (a2 + (-8)) S) else (bif inb (S.1 k0 4) 400 then (letv (ca S (k0 + 1) ((S.1 k0 4) : Int32).toNatClampNeg ((((k1 : Int32).toUInt32 >>> ((a2 : Int32).toUInt32 &&& Int32.toUInt32 31)).toInt32) &&& 255)) fun S5 => letv (ca S5 k0 4 ((S5.1 k0 4) + 1)) fun S6 => fc_X10_append_L3 k0 k1 N (a2 + (-8)) S6) else none)))
def fc_X10_append (b : Nat) (p0 : Int32) (S : cT) : Option (cT) := (fc_X10_append_L3 b p0 FU 24 S).bind fun w7 => some w7.2
theorem xc_X10_append_L3 {l : Launch} {r : Option Value} {S' : cT} (k0 : Nat) (k1 : Int32) (hk0 : cK k0 = 8) : ∀ (N : Nat) (a2 : Int32) (S : cT) (W0 : Int32 × cT) (_ : fc_X10_append_L3 k0 k1 N a2 S = some W0) (_ : CW l yy_X10_append 0 r S' 56 [some (.ref k0), some (.int k1), some (.int W0.1)] [] W0.2), CW l yy_X10_append 0 r S' 3 [some (.ref k0), some (.int k1), some (.int a2)] [] S := by
  intro N
  induction N with
  | zero =>
    intro a2 S W0 hf _
    cases hf
  | succ N ih =>
    intro a2 S W0 hf hk_1
    unfold fc_X10_append_L3 at hf
    refine CW.run (blk := [(.iload_n 2, 0)]) (pc' := 4) (ls' := [some (.ref k0), some (.int k1), some (.int a2)]) (st' := [.int a2]) (by decide +kernel) rfl ?_
    refine CW.if_lt (off := 52) (tgt := 56) (by decide +kernel) (by decide) (fun c4_1 => ?_) (fun c4_1 => ?_)
    · rw [if_pos c4_1] at hf
      have e9 := Option.some.inj hf
      subst e9
      exact hk_1
    · rw [if_neg c4_1] at hf
      refine CW.run (blk := [(.aload_n 0, 0)]) (pc' := 8) (ls' := [some (.ref k0), some (.int k1), some (.int a2)]) (st' := [.ref k0]) (by decide +kernel) rfl ?_
      refine CW.getf (v := .int (S.1 k0 4)) hk0 (by decide) fl_RX10_22 (by decide +kernel) rfl ?_
      refine CW.if_lt (off := 39) (tgt := 50) (by decide +kernel) (by decide) (fun c11_2 => ?_) (fun c11_2 => ?_)
      · rw [if_pos c11_2] at hf
        refine CW.run (blk := [(.iinc 2 (-8), (-8)), (.goto (-50), 0)]) (pc' := 3) (ls' := [some (.ref k0), some (.int k1), some (.int (a2 + (-8)))]) (st' := []) (by decide +kernel) rfl ?_
        exact ih _ _ _ hf hk_1
      · rw [if_neg c11_2] at hf
        refine CW.run (blk := [(.aload_n 0, 0)]) (pc' := 15) (ls' := [some (.ref k0), some (.int k1), some (.int a2)]) (st' := [.ref k0]) (by decide +kernel) rfl ?_
        refine CW.getf (v := .int (S.1 k0 4)) hk0 (by decide) fl_RX10_22 (by decide +kernel) rfl ?_
        refine CW.run (blk := [(.sipush 400, 400)]) (pc' := 21) (ls' := [some (.ref k0), some (.int k1), some (.int a2)]) (st' := [.int 400, .int (S.1 k0 4)]) (by decide +kernel) rfl ?_
        refine CW.icmp_ge (off := 29) (tgt := 50) (by decide +kernel) (by decide) (fun c21_3 => ?_) (fun c21_3 => ?_)
        · rw [if_pos c21_3] at hf
          refine CW.run (blk := [(.iinc 2 (-8), (-8)), (.goto (-50), 0)]) (pc' := 3) (ls' := [some (.ref k0), some (.int k1), some (.int (a2 + (-8)))]) (st' := []) (by decide +kernel) rfl ?_
          exact ih _ _ _ hf hk_1
        · rw [if_neg c21_3] at hf
          refine CW.run (blk := [(.aload_n 0, 0)]) (pc' := 25) (ls' := [some (.ref k0), some (.int k1), some (.int a2)]) (st' := [.ref k0]) (by decide +kernel) rfl ?_
          refine CW.getf (v := .ref (k0 + 1)) hk0 (by decide) fl_RX10_9 (by decide +kernel) rfl ?_
          refine CW.run (blk := [(.aload_n 0, 0)]) (pc' := 29) (ls' := [some (.ref k0), some (.int k1), some (.int a2)]) (st' := [.ref k0, .ref (k0 + 1)]) (by decide +kernel) rfl ?_
          refine CW.getf (v := .int (S.1 k0 4)) hk0 (by decide) fl_RX10_22 (by decide +kernel) rfl ?_
          refine CW.run (blk := [(.iload_n 1, 0), (.iload_n 2, 0), (.iushr, 0), (.sipush 255, 255), (.iand, 0)]) (pc' := 39) (ls' := [some (.ref k0), some (.int k1), some (.int a2)]) (st' := [.int ((((k1 : Int32).toUInt32 >>> ((a2 : Int32).toUInt32 &&& Int32.toUInt32 31)).toInt32) &&& 255), .int (S.1 k0 4), .ref (k0 + 1)]) (by decide +kernel) rfl ?_
          obtain ⟨hi4, hf⟩ := bi_some hf
          refine CW.iast (kk_8_0 hk0) (kn_8_0 hk0) (by decide +kernel) (inb_in hi4) ?_
          obtain ⟨S5, hS5, hf⟩ := letv_some hf
          rw [← hS5]
          refine CW.run (blk := [(.aload_n 0, 0), (.dup, 0)]) (pc' := 42) (ls' := [some (.ref k0), some (.int k1), some (.int a2)]) (st' := [.ref k0, .ref k0]) (by decide +kernel) rfl ?_
          refine CW.getf (v := .int (S5.1 k0 4)) hk0 (by decide) fl_RX10_22 (by decide +kernel) rfl ?_
          refine CW.run (blk := [(.iconst 1, 1), (.iadd, 0)]) (pc' := 47) (ls' := [some (.ref k0), some (.int k1), some (.int a2)]) (st' := [.int ((S5.1 k0 4) + 1), .ref k0]) (by decide +kernel) rfl ?_
          refine CW.putI hk0 (by decide) fp_RX10_22 (by decide +kernel) (fun _ _ _ => Nat.le_of_ble_eq_true rfl) rfl rfl (fun _ _ _ => rfl) ?_
          obtain ⟨S6, hS6, hf⟩ := letv_some hf
          rw [← hS6]
          refine CW.run (blk := [(.iinc 2 (-8), (-8)), (.goto (-50), 0)]) (pc' := 3) (ls' := [some (.ref k0), some (.int k1), some (.int (a2 + (-8)))]) (st' := []) (by decide +kernel) rfl ?_
          exact ih _ _ _ hf hk_1
theorem xc_X10_append {l : Launch} {b : Nat} {p0 : Int32} {S : cT} {q : cT} (hb : cK b = 8) (hf : fc_X10_append b p0 S = some q) : COk l yy_X10_append 0 [.ref b, .int p0] S none q := by
  refine COk.of (ls := [some (.ref b), some (.int p0), none]) (by decide +kernel) (Nat.le_of_ble_eq_true rfl) rfl ?_
  unfold fc_X10_append at hf
  refine CW.run (blk := [(.bipush 24, 24), (.istore_n 2, 0)]) (pc' := 3) (ls' := [some (.ref b), some (.int p0), some (.int 24)]) (st' := []) (by decide +kernel) rfl ?_
  obtain ⟨w7, hw7, hf⟩ := bd_some hf
  refine xc_X10_append_L3 b p0 hb FU _ _ _ hw7 ?_
  have e9 := Option.some.inj hf
  subst e9
  exact CW.vret rfl (by decide +kernel)
def fc_X11_feed (b : Nat) (p0 : Int32) (p1 : Int32) (p2 : Int32) (p3 : Int32) (p4 : Int32) (S : cT) : Option (Int32 × cT) := if ((S.1 (b + 1) 4) + 20) ≤ 400 then ((fc_X10_append (b + 1) p0 S).bind fun q2 => (fc_X10_append (b + 1) p1 q2).bind fun q3 => (fc_X10_append (b + 1) p2 q3).bind fun q4 => (fc_X10_append (b + 1) p3 q4).bind fun q5 => (fc_X10_append (b + 1) p4 q5).bind fun q6 => some (q6.1 (b + 1) 4, q6)) else (some ((-1), S))
theorem xc_X11_feed {l : Launch} {b : Nat} {p0 : Int32} {p1 : Int32} {p2 : Int32} {p3 : Int32} {p4 : Int32} {S : cT} {q : Int32 × cT} (hb : cK b = 9) (hf : fc_X11_feed b p0 p1 p2 p3 p4 S = some q) : COk l yy_X11_feed 1 [.ref b, .int p0, .int p1, .int p2, .int p3, .int p4] S (some (.int q.1)) q.2 := by
  refine COk.of (ls := [some (.ref b), some (.int p0), some (.int p1), some (.int p2), some (.int p3), some (.int p4)]) (by decide +kernel) (Nat.le_of_ble_eq_true rfl) rfl ?_
  unfold fc_X11_feed at hf
  refine CW.run (blk := [(.aload_n 0, 0)]) (pc' := 1) (ls' := [some (.ref b), some (.int p0), some (.int p1), some (.int p2), some (.int p3), some (.int p4)]) (st' := [.ref b]) (by decide +kernel) rfl ?_
  refine CW.getf (v := .ref (b + 1)) hb (by decide) fl_RX11_10 (by decide +kernel) rfl ?_
  refine CW.getf (v := .int (S.1 (b + 1) 4)) (kk_9_0 hb) (by decide) fl_RX11_73 (by decide +kernel) rfl ?_
  refine CW.run (blk := [(.bipush 20, 20), (.iadd, 0), (.sipush 400, 400)]) (pc' := 13) (ls' := [some (.ref b), some (.int p0), some (.int p1), some (.int p2), some (.int p3), some (.int p4)]) (st' := [.int 400, .int ((S.1 (b + 1) 4) + 20)]) (by decide +kernel) rfl ?_
  refine CW.icmp_le (off := 5) (tgt := 18) (by decide +kernel) (by decide) (fun c13_1 => ?_) (fun c13_1 => ?_)
  · rw [if_pos c13_1] at hf
    refine CW.run (blk := [(.aload_n 0, 0)]) (pc' := 19) (ls' := [some (.ref b), some (.int p0), some (.int p1), some (.int p2), some (.int p3), some (.int p4)]) (st' := [.ref b]) (by decide +kernel) rfl ?_
    refine CW.getf (v := .ref (b + 1)) hb (by decide) fl_RX11_10 (by decide +kernel) rfl ?_
    refine CW.run (blk := [(.iload_n 1, 0)]) (pc' := 23) (ls' := [some (.ref b), some (.int p0), some (.int p1), some (.int p2), some (.int p3), some (.int p4)]) (st' := [.int p0, .ref (b + 1)]) (by decide +kernel) rfl ?_
    obtain ⟨q2, hq2, hf⟩ := bd_some hf
    refine CW.callV (As := [.int p0]) (st := []) lv_RX11_77 (kk_9_0 hb) (by decide) rfl rfl (by decide +kernel) (xc_X10_append (kk_9_0 hb) hq2) (by decide) (by decide) rfl (Nat.le_of_ble_eq_true rfl) rfl ?_
    show CW l yy_X11_feed 1 _ _ 26 [some (.ref b), some (.int p0), some (.int p1), some (.int p2), some (.int p3), some (.int p4)] [] q2
    refine CW.run (blk := [(.aload_n 0, 0)]) (pc' := 27) (ls' := [some (.ref b), some (.int p0), some (.int p1), some (.int p2), some (.int p3), some (.int p4)]) (st' := [.ref b]) (by decide +kernel) rfl ?_
    refine CW.getf (v := .ref (b + 1)) hb (by decide) fl_RX11_10 (by decide +kernel) rfl ?_
    refine CW.run (blk := [(.iload_n 2, 0)]) (pc' := 31) (ls' := [some (.ref b), some (.int p0), some (.int p1), some (.int p2), some (.int p3), some (.int p4)]) (st' := [.int p1, .ref (b + 1)]) (by decide +kernel) rfl ?_
    obtain ⟨q3, hq3, hf⟩ := bd_some hf
    refine CW.callV (As := [.int p1]) (st := []) lv_RX11_77 (kk_9_0 hb) (by decide) rfl rfl (by decide +kernel) (xc_X10_append (kk_9_0 hb) hq3) (by decide) (by decide) rfl (Nat.le_of_ble_eq_true rfl) rfl ?_
    show CW l yy_X11_feed 1 _ _ 34 [some (.ref b), some (.int p0), some (.int p1), some (.int p2), some (.int p3), some (.int p4)] [] q3
    refine CW.run (blk := [(.aload_n 0, 0)]) (pc' := 35) (ls' := [some (.ref b), some (.int p0), some (.int p1), some (.int p2), some (.int p3), some (.int p4)]) (st' := [.ref b]) (by decide +kernel) rfl ?_
    refine CW.getf (v := .ref (b + 1)) hb (by decide) fl_RX11_10 (by decide +kernel) rfl ?_
    refine CW.run (blk := [(.iload_n 3, 0)]) (pc' := 39) (ls' := [some (.ref b), some (.int p0), some (.int p1), some (.int p2), some (.int p3), some (.int p4)]) (st' := [.int p2, .ref (b + 1)]) (by decide +kernel) rfl ?_
    obtain ⟨q4, hq4, hf⟩ := bd_some hf
    refine CW.callV (As := [.int p2]) (st := []) lv_RX11_77 (kk_9_0 hb) (by decide) rfl rfl (by decide +kernel) (xc_X10_append (kk_9_0 hb) hq4) (by decide) (by decide) rfl (Nat.le_of_ble_eq_true rfl) rfl ?_
    show CW l yy_X11_feed 1 _ _ 42 [some (.ref b), some (.int p0), some (.int p1), some (.int p2), some (.int p3), some (.int p4)] [] q4
    refine CW.run (blk := [(.aload_n 0, 0)]) (pc' := 43) (ls' := [some (.ref b), some (.int p0), some (.int p1), some (.int p2), some (.int p3), some (.int p4)]) (st' := [.ref b]) (by decide +kernel) rfl ?_
    refine CW.getf (v := .ref (b + 1)) hb (by decide) fl_RX11_10 (by decide +kernel) rfl ?_
    refine CW.run (blk := [(.iload 4, 0)]) (pc' := 48) (ls' := [some (.ref b), some (.int p0), some (.int p1), some (.int p2), some (.int p3), some (.int p4)]) (st' := [.int p3, .ref (b + 1)]) (by decide +kernel) rfl ?_
    obtain ⟨q5, hq5, hf⟩ := bd_some hf
    refine CW.callV (As := [.int p3]) (st := []) lv_RX11_77 (kk_9_0 hb) (by decide) rfl rfl (by decide +kernel) (xc_X10_append (kk_9_0 hb) hq5) (by decide) (by decide) rfl (Nat.le_of_ble_eq_true rfl) rfl ?_
    show CW l yy_X11_feed 1 _ _ 51 [some (.ref b), some (.int p0), some (.int p1), some (.int p2), some (.int p3), some (.int p4)] [] q5
    refine CW.run (blk := [(.aload_n 0, 0)]) (pc' := 52) (ls' := [some (.ref b), some (.int p0), some (.int p1), some (.int p2), some (.int p3), some (.int p4)]) (st' := [.ref b]) (by decide +kernel) rfl ?_
    refine CW.getf (v := .ref (b + 1)) hb (by decide) fl_RX11_10 (by decide +kernel) rfl ?_
    refine CW.run (blk := [(.iload 5, 0)]) (pc' := 57) (ls' := [some (.ref b), some (.int p0), some (.int p1), some (.int p2), some (.int p3), some (.int p4)]) (st' := [.int p4, .ref (b + 1)]) (by decide +kernel) rfl ?_
    obtain ⟨q6, hq6, hf⟩ := bd_some hf
    refine CW.callV (As := [.int p4]) (st := []) lv_RX11_77 (kk_9_0 hb) (by decide) rfl rfl (by decide +kernel) (xc_X10_append (kk_9_0 hb) hq6) (by decide) (by decide) rfl (Nat.le_of_ble_eq_true rfl) rfl ?_
    show CW l yy_X11_feed 1 _ _ 60 [some (.ref b), some (.int p0), some (.int p1), some (.int p2), some (.int p3), some (.int p4)] [] q6
    refine CW.run (blk := [(.aload_n 0, 0)]) (pc' := 61) (ls' := [some (.ref b), some (.int p0), some (.int p1), some (.int p2), some (.int p3), some (.int p4)]) (st' := [.ref b]) (by decide +kernel) rfl ?_
    refine CW.getf (v := .ref (b + 1)) hb (by decide) fl_RX11_10 (by decide +kernel) rfl ?_
    refine CW.getf (v := .int (q6.1 (b + 1) 4)) (kk_9_0 hb) (by decide) fl_RX11_73 (by decide +kernel) rfl ?_
    have e9 := Option.some.inj hf
    subst e9
    exact CW.iret rfl (by decide +kernel)
  · rw [if_neg c13_1] at hf
    refine CW.run (blk := [(.iconst (-1), (-1))]) (pc' := 17) (ls' := [some (.ref b), some (.int p0), some (.int p1), some (.int p2), some (.int p3), some (.int p4)]) (st' := [.int (-1)]) (by decide +kernel) rfl ?_
    have e9 := Option.some.inj hf
    subst e9
    exact CW.iret rfl (by decide +kernel)
def fc_X11_end (b : Nat) (p0 : Int32) (S : cT) : Option (Int32 × cT) := if p0 < 0 then (some ((-1), S)) else (if p0 ≤ (S.1 (b + 1) 4) then (letv (ca S (b + 1) 4 p0) fun S3 => some (p0, S3)) else (some ((-1), S)))
theorem xc_X11_end {l : Launch} {b : Nat} {p0 : Int32} {S : cT} {q : Int32 × cT} (hb : cK b = 9) (hf : fc_X11_end b p0 S = some q) : COk l yy_X11_end 0 [.ref b, .int p0] S (some (.int q.1)) q.2 := by
  refine COk.of (ls := [some (.ref b), some (.int p0)]) (by decide +kernel) (Nat.le_of_ble_eq_true rfl) rfl ?_
  unfold fc_X11_end at hf
  refine CW.run (blk := [(.iload_n 1, 0)]) (pc' := 1) (ls' := [some (.ref b), some (.int p0)]) (st' := [.int p0]) (by decide +kernel) rfl ?_
  refine CW.if_lt (off := 14) (tgt := 15) (by decide +kernel) (by decide) (fun c1_1 => ?_) (fun c1_1 => ?_)
  · rw [if_pos c1_1] at hf
    refine CW.run (blk := [(.iconst (-1), (-1))]) (pc' := 16) (ls' := [some (.ref b), some (.int p0)]) (st' := [.int (-1)]) (by decide +kernel) rfl ?_
    have e9 := Option.some.inj hf
    subst e9
    exact CW.iret rfl (by decide +kernel)
  · rw [if_neg c1_1] at hf
    refine CW.run (blk := [(.iload_n 1, 0), (.aload_n 0, 0)]) (pc' := 6) (ls' := [some (.ref b), some (.int p0)]) (st' := [.ref b, .int p0]) (by decide +kernel) rfl ?_
    refine CW.getf (v := .ref (b + 1)) hb (by decide) fl_RX11_10 (by decide +kernel) rfl ?_
    refine CW.getf (v := .int (S.1 (b + 1) 4)) (kk_9_0 hb) (by decide) fl_RX11_73 (by decide +kernel) rfl ?_
    refine CW.icmp_le (off := 5) (tgt := 17) (by decide +kernel) (by decide) (fun c12_2 => ?_) (fun c12_2 => ?_)
    · rw [if_pos c12_2] at hf
      refine CW.run (blk := [(.aload_n 0, 0)]) (pc' := 18) (ls' := [some (.ref b), some (.int p0)]) (st' := [.ref b]) (by decide +kernel) rfl ?_
      refine CW.getf (v := .ref (b + 1)) hb (by decide) fl_RX11_10 (by decide +kernel) rfl ?_
      refine CW.run (blk := [(.iload_n 1, 0)]) (pc' := 22) (ls' := [some (.ref b), some (.int p0)]) (st' := [.int p0, .ref (b + 1)]) (by decide +kernel) rfl ?_
      refine CW.putI (kk_9_0 hb) (by decide) fp_RX11_73 (by decide +kernel) (fun _ _ _ => Nat.le_of_ble_eq_true rfl) rfl rfl (fun _ _ _ => rfl) ?_
      obtain ⟨S3, hS3, hf⟩ := letv_some hf
      rw [← hS3]
      refine CW.run (blk := [(.iload_n 1, 0)]) (pc' := 26) (ls' := [some (.ref b), some (.int p0)]) (st' := [.int p0]) (by decide +kernel) rfl ?_
      have e9 := Option.some.inj hf
      subst e9
      exact CW.iret rfl (by decide +kernel)
    · rw [if_neg c12_2] at hf
      refine CW.run (blk := [(.iconst (-1), (-1))]) (pc' := 16) (ls' := [some (.ref b), some (.int p0)]) (st' := [.int (-1)]) (by decide +kernel) rfl ?_
      have e9 := Option.some.inj hf
      subst e9
      exact CW.iret rfl (by decide +kernel)
def fc_X11_island (b : Nat) (S : cT) : Option (Int32 × cT) := bif Nat.beq (cK S.2.2.2) 2 then ((fc_X3_readAll (b + 1) S.2.2.2 S).bind fun q2 => letv (ca q2 (b + 1) 4 0) fun S3 => if (S3.1 (b + 1) 7) = 0 then (bif Nat.beq (cK S3.2.2.2) 2 then (bif Nat.beq (cK S3.2.2.1) 2 then (letv (ca S3 S3.2.2.2 13 (S3.1 S3.2.2.1 13)) fun S7 => bif Nat.beq (cK S7.2.2.2) 2 then (bif Nat.beq (cK S7.2.2.1) 2 then (letv (ca S7 S7.2.2.2 14 (S7.1 S7.2.2.1 14)) fun S10 => bif Nat.beq (cK S10.2.2.1) 2 then (bif Nat.beq (cK S10.2.2.2) 2 then (letv (cs S10 S10.2.2.2 S10.2.2.2) fun S13 => letv (cs S13 S13.2.2.1 S10.2.2.1) fun S14 => (fc_X1_forget (b + 99) S14).bind fun q15 => bif Nat.beq (cK q15.2.2.1) 2 then (some (q15.1 q15.2.2.1 9, q15)) else none) else none) else none) else none) else none) else none) else none) else (some ((-2) - (S3.1 (b + 1) 7), S3))) else none
theorem xc_X11_island {l : Launch} {b : Nat} {S : cT} {q : Int32 × cT} (hb : cK b = 9) (hf : fc_X11_island b S = some q) : COk l yy_X11_island 12 [.ref b] S (some (.int q.1)) q.2 := by
  refine COk.of (ls := [some (.ref b), none]) (by decide +kernel) (Nat.le_of_ble_eq_true rfl) rfl ?_
  unfold fc_X11_island at hf
  refine CW.run (blk := [(.aload_n 0, 0)]) (pc' := 1) (ls' := [some (.ref b), none]) (st' := [.ref b]) (by decide +kernel) rfl ?_
  refine CW.getf (v := .ref (b + 1)) hb (by decide) fl_RX11_10 (by decide +kernel) rfl ?_
  refine CW.run (blk := [(.aload_n 0, 0)]) (pc' := 5) (ls' := [some (.ref b), none]) (st' := [.ref b, .ref (b + 1)]) (by decide +kernel) rfl ?_
  refine CW.getf (v := .ref S.2.2.2) hb (by decide) fl_RX11_70 (by decide +kernel) rfl ?_
  obtain ⟨hk1, hf⟩ := bi_some hf
  obtain ⟨q2, hq2, hf⟩ := bd_some hf
  refine CW.callS (As := [.ref (b + 1), .ref S.2.2.2]) (st := []) lt_RX11_81 (by decide +kernel) (xc_X3_readAll (kk_9_0 hb) (Nat.eq_of_beq_eq_true hk1) hq2) (by decide) (by decide) rfl (Nat.le_of_ble_eq_true rfl) rfl ?_
  show CW l yy_X11_island 12 _ _ 11 [some (.ref b), none] [] q2
  refine CW.run (blk := [(.aload_n 0, 0)]) (pc' := 12) (ls' := [some (.ref b), none]) (st' := [.ref b]) (by decide +kernel) rfl ?_
  refine CW.getf (v := .ref (b + 1)) hb (by decide) fl_RX11_10 (by decide +kernel) rfl ?_
  refine CW.run (blk := [(.iconst 0, 0)]) (pc' := 16) (ls' := [some (.ref b), none]) (st' := [.int 0, .ref (b + 1)]) (by decide +kernel) rfl ?_
  refine CW.putI (kk_9_0 hb) (by decide) fp_RX11_73 (by decide +kernel) (fun _ _ _ => Nat.le_of_ble_eq_true rfl) rfl rfl (fun _ _ _ => rfl) ?_
  obtain ⟨S3, hS3, hf⟩ := letv_some hf
  rw [← hS3]
  refine CW.run (blk := [(.aload_n 0, 0)]) (pc' := 20) (ls' := [some (.ref b), none]) (st' := [.ref b]) (by decide +kernel) rfl ?_
  refine CW.getf (v := .ref (b + 1)) hb (by decide) fl_RX11_10 (by decide +kernel) rfl ?_
  refine CW.getf (v := .int (S3.1 (b + 1) 7)) (kk_9_0 hb) (by decide) fl_RX11_87 (by decide +kernel) rfl ?_
  refine CW.if_eq (off := 14) (tgt := 40) (by decide +kernel) (by decide) (fun c26_4 => ?_) (fun c26_4 => ?_)
  · rw [if_pos c26_4] at hf
    refine CW.run (blk := [(.aload_n 0, 0)]) (pc' := 41) (ls' := [some (.ref b), none]) (st' := [.ref b]) (by decide +kernel) rfl ?_
    refine CW.getf (v := .ref S3.2.2.2) hb (by decide) fl_RX11_70 (by decide +kernel) rfl ?_
    obtain ⟨hk5, hf⟩ := bi_some hf
    refine CW.run (blk := [(.aload_n 0, 0)]) (pc' := 45) (ls' := [some (.ref b), none]) (st' := [.ref b, .ref S3.2.2.2]) (by decide +kernel) rfl ?_
    refine CW.getf (v := .ref S3.2.2.1) hb (by decide) fl_RX11_66 (by decide +kernel) rfl ?_
    obtain ⟨hk6, hf⟩ := bi_some hf
    refine CW.getf (v := .int (S3.1 S3.2.2.1 13)) (Nat.eq_of_beq_eq_true hk6) (by decide) fl_RX11_90 (by decide +kernel) rfl ?_
    refine CW.putI (Nat.eq_of_beq_eq_true hk5) (by decide) fp_RX11_90 (by decide +kernel) (fun _ _ _ => Nat.le_of_ble_eq_true rfl) rfl rfl (fun _ _ _ => rfl) ?_
    obtain ⟨S7, hS7, hf⟩ := letv_some hf
    rw [← hS7]
    refine CW.run (blk := [(.aload_n 0, 0)]) (pc' := 55) (ls' := [some (.ref b), none]) (st' := [.ref b]) (by decide +kernel) rfl ?_
    refine CW.getf (v := .ref S7.2.2.2) hb (by decide) fl_RX11_70 (by decide +kernel) rfl ?_
    obtain ⟨hk8, hf⟩ := bi_some hf
    refine CW.run (blk := [(.aload_n 0, 0)]) (pc' := 59) (ls' := [some (.ref b), none]) (st' := [.ref b, .ref S7.2.2.2]) (by decide +kernel) rfl ?_
    refine CW.getf (v := .ref S7.2.2.1) hb (by decide) fl_RX11_66 (by decide +kernel) rfl ?_
    obtain ⟨hk9, hf⟩ := bi_some hf
    refine CW.getf (v := .int (S7.1 S7.2.2.1 14)) (Nat.eq_of_beq_eq_true hk9) (by decide) fl_RX11_93 (by decide +kernel) rfl ?_
    refine CW.putI (Nat.eq_of_beq_eq_true hk8) (by decide) fp_RX11_93 (by decide +kernel) (fun _ _ _ => Nat.le_of_ble_eq_true rfl) rfl rfl (fun _ _ _ => rfl) ?_
    obtain ⟨S10, hS10, hf⟩ := letv_some hf
    rw [← hS10]
    refine CW.run (blk := [(.aload_n 0, 0)]) (pc' := 69) (ls' := [some (.ref b), none]) (st' := [.ref b]) (by decide +kernel) rfl ?_
    refine CW.getf (v := .ref S10.2.2.1) hb (by decide) fl_RX11_66 (by decide +kernel) rfl ?_
    obtain ⟨hk11, hf⟩ := bi_some hf
    refine CW.run (blk := [(.astore_n 1, 0), (.aload_n 0, 0), (.aload_n 0, 0)]) (pc' := 75) (ls' := [some (.ref b), some (.ref S10.2.2.1)]) (st' := [.ref b, .ref b]) (by decide +kernel) rfl ?_
    refine CW.getf (v := .ref S10.2.2.2) hb (by decide) fl_RX11_70 (by decide +kernel) rfl ?_
    obtain ⟨hk12, hf⟩ := bi_some hf
    refine CW.putIsle hb fp_RX11_66 (by decide +kernel) (fun _ => rfl) (fun _ => rfl) ?_
    obtain ⟨S13, hS13, hf⟩ := letv_some hf
    rw [← hS13]
    refine CW.run (blk := [(.aload_n 0, 0), (.aload_n 1, 0)]) (pc' := 83) (ls' := [some (.ref b), some (.ref S10.2.2.1)]) (st' := [.ref S10.2.2.1, .ref b]) (by decide +kernel) rfl ?_
    refine CW.putSpare hb fp_RX11_70 (by decide +kernel) (fun _ => rfl) (fun _ => rfl) ?_
    obtain ⟨S14, hS14, hf⟩ := letv_some hf
    rw [← hS14]
    refine CW.run (blk := [(.aload_n 0, 0)]) (pc' := 87) (ls' := [some (.ref b), some (.ref S10.2.2.1)]) (st' := [.ref b]) (by decide +kernel) rfl ?_
    refine CW.getf (v := .ref (b + 99)) hb (by decide) fl_RX11_41 (by decide +kernel) rfl ?_
    obtain ⟨q15, hq15, hf⟩ := bd_some hf
    refine CW.callV (As := []) (st := []) lv_RX11_96 (kk_9_5 hb) (by decide) rfl rfl (by decide +kernel) (xc_X1_forget (kk_9_5 hb) hq15) (by decide) (by decide) rfl (Nat.le_of_ble_eq_true rfl) rfl ?_
    show CW l yy_X11_island 12 _ _ 93 [some (.ref b), some (.ref S10.2.2.1)] [] q15
    refine CW.run (blk := [(.aload_n 0, 0)]) (pc' := 94) (ls' := [some (.ref b), some (.ref S10.2.2.1)]) (st' := [.ref b]) (by decide +kernel) rfl ?_
    refine CW.getf (v := .ref q15.2.2.1) hb (by decide) fl_RX11_66 (by decide +kernel) rfl ?_
    obtain ⟨hk16, hf⟩ := bi_some hf
    refine CW.getf (v := .int (q15.1 q15.2.2.1 9)) (Nat.eq_of_beq_eq_true hk16) (by decide) fl_RX11_99 (by decide +kernel) rfl ?_
    have e9 := Option.some.inj hf
    subst e9
    exact CW.iret rfl (by decide +kernel)
  · rw [if_neg c26_4] at hf
    refine CW.run (blk := [(.bipush (-2), (-2)), (.aload_n 0, 0)]) (pc' := 32) (ls' := [some (.ref b), none]) (st' := [.ref b, .int (-2)]) (by decide +kernel) rfl ?_
    refine CW.getf (v := .ref (b + 1)) hb (by decide) fl_RX11_10 (by decide +kernel) rfl ?_
    refine CW.getf (v := .int (S3.1 (b + 1) 7)) (kk_9_0 hb) (by decide) fl_RX11_87 (by decide +kernel) rfl ?_
    refine CW.run (blk := [(.isub, 0)]) (pc' := 39) (ls' := [some (.ref b), none]) (st' := [.int ((-2) - (S3.1 (b + 1) 7))]) (by decide +kernel) rfl ?_
    have e9 := Option.some.inj hf
    subst e9
    exact CW.iret rfl (by decide +kernel)
def fc_X11_isRule (b : Nat) (p0 : Int32) (S : cT) : Option (Bool) := if p0 < 0 then (some false) else (if (S.1 b 11) ≤ p0 then (some false) else (if 6 ≤ p0 then (some false) else (some true)))
theorem xc_X11_isRule {l : Launch} {b : Nat} {p0 : Int32} {S : cT} {q : Bool} (hb : cK b = 9) (hf : fc_X11_isRule b p0 S = some q) : COk l yy_X11_isRule 0 [.ref b, .int p0] S (some (.int (b2i q))) S := by
  refine COk.of (ls := [some (.ref b), some (.int p0)]) (by decide +kernel) (Nat.le_of_ble_eq_true rfl) rfl ?_
  unfold fc_X11_isRule at hf
  refine CW.run (blk := [(.iload_n 1, 0)]) (pc' := 1) (ls' := [some (.ref b), some (.int p0)]) (st' := [.int p0]) (by decide +kernel) rfl ?_
  refine CW.if_lt (off := 21) (tgt := 22) (by decide +kernel) (by decide) (fun c1_1 => ?_) (fun c1_1 => ?_)
  · rw [if_pos c1_1] at hf
    refine CW.run (blk := [(.iconst 0, 0)]) (pc' := 23) (ls' := [some (.ref b), some (.int p0)]) (st' := [.int 0]) (by decide +kernel) rfl ?_
    have e9 := Option.some.inj hf
    subst e9
    exact CW.zret rfl (b2i_nar _) (by decide +kernel)
  · rw [if_neg c1_1] at hf
    refine CW.run (blk := [(.iload_n 1, 0), (.aload_n 0, 0)]) (pc' := 6) (ls' := [some (.ref b), some (.int p0)]) (st' := [.ref b, .int p0]) (by decide +kernel) rfl ?_
    refine CW.getf (v := .int (S.1 b 11)) hb (by decide) fl_RX11_102 (by decide +kernel) rfl ?_
    refine CW.icmp_ge (off := 13) (tgt := 22) (by decide +kernel) (by decide) (fun c9_2 => ?_) (fun c9_2 => ?_)
    · rw [if_pos c9_2] at hf
      refine CW.run (blk := [(.iconst 0, 0)]) (pc' := 23) (ls' := [some (.ref b), some (.int p0)]) (st' := [.int 0]) (by decide +kernel) rfl ?_
      have e9 := Option.some.inj hf
      subst e9
      exact CW.zret rfl (b2i_nar _) (by decide +kernel)
    · rw [if_neg c9_2] at hf
      refine CW.run (blk := [(.iload_n 1, 0), (.bipush 6, 6)]) (pc' := 15) (ls' := [some (.ref b), some (.int p0)]) (st' := [.int 6, .int p0]) (by decide +kernel) rfl ?_
      refine CW.icmp_ge (off := 7) (tgt := 22) (by decide +kernel) (by decide) (fun c15_3 => ?_) (fun c15_3 => ?_)
      · rw [if_pos c15_3] at hf
        refine CW.run (blk := [(.iconst 0, 0)]) (pc' := 23) (ls' := [some (.ref b), some (.int p0)]) (st' := [.int 0]) (by decide +kernel) rfl ?_
        have e9 := Option.some.inj hf
        subst e9
        exact CW.zret rfl (b2i_nar _) (by decide +kernel)
      · rw [if_neg c15_3] at hf
        refine CW.run (blk := [(.iconst 1, 1), (.goto 4, 0)]) (pc' := 23) (ls' := [some (.ref b), some (.int p0)]) (st' := [.int 1]) (by decide +kernel) rfl ?_
        have e9 := Option.some.inj hf
        subst e9
        exact CW.zret rfl (b2i_nar _) (by decide +kernel)
