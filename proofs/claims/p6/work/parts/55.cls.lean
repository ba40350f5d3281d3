/-! ===== the class, method by method (by program) 6 ===== -/
def fc_X3_readClause (p0 : Nat) (p1 : Nat) (p2 : Int32) (S : cT) : Option (cT) := Option.bind (if (S.1 p0 8) = 308 then (some (1)) else (some (0)) : Option (Int32)) fun w1 => if w1 = 0 then (if (S.1 p0 8) = 309 then (Option.bind (if (S.1 p0 8) = 309 then (if (S.1 p1 9) < 8 then (some (0)) else (some (1))) else (some (0)) : Option (Int32)) fun w30 => if 40 ≤ p2 then ((fc_X10_refuse p0 4 S).bind fun q34 => some q34) else (Option.bind (if p2 = 0 then (some (1)) else (some (0)) : Option (Int32)) fun w35 => if w1 = w35 then (if w30 = 0 then ((fc_X10_step p0 S).bind fun q40 => if (S.1 p0 8) = 305 then ((fc_X3_readTie p0 p1 q40).bind fun q42 => some q42) else (if (S.1 p0 8) = 308 then ((fc_X10_takeNumber p0 1 6 q40).bind fun q44 => letv (ca q44.2 p1 8 q44.1) fun S45 => some S45) else (if (S.1 p0 8) = 309 then ((fc_X3_readPerson p0 p1 q40).bind fun q47 => some q47) else (if (S.1 p0 8) = 310 then ((fc_X3_readBoat p0 p1 q40).bind fun q49 => some q49) else ((fc_X10_takeNumber p0 0 ((q40.1 p1 9) - 1) q40).bind fun q50 => letv (ca q50.2 p1 10 q50.1) fun S51 => some S51))))) else ((fc_X10_refuse p0 4 S).bind fun q54 => some q54)) else ((fc_X10_refuse p0 4 S).bind fun q38 => some q38))) else (if (S.1 p0 8) = 305 then (Option.bind (if (S.1 p0 8) = 309 then (if (S.1 p1 9) < 8 then (some (0)) else (some (1))) else (some (0)) : Option (Int32)) fun w56 => if 40 ≤ p2 then ((fc_X10_refuse p0 4 S).bind fun q60 => some q60) else (Option.bind (if p2 = 0 then (some (1)) else (some (0)) : Option (Int32)) fun w61 => if w1 = w61 then (if w56 = 0 then ((fc_X10_step p0 S).bind fun q66 => if (S.1 p0 8) = 305 then ((fc_X3_readTie p0 p1 q66).bind fun q68 => some q68) else (if (S.1 p0 8) = 308 then ((fc_X10_takeNumber p0 1 6 q66).bind fun q70 => letv (ca q70.2 p1 8 q70.1) fun S71 => some S71) else (if (S.1 p0 8) = 309 then ((fc_X3_readPerson p0 p1 q66).bind fun q73 => some q73) else (if (S.1 p0 8) = 310 then ((fc_X3_readBoat p0 p1 q66).bind fun q75 => some q75) else ((fc_X10_takeNumber p0 0 ((q66.1 p1 9) - 1) q66).bind fun q76 => letv (ca q76.2 p1 10 q76.1) fun S77 => some S77))))) else ((fc_X10_refuse p0 4 S).bind fun q80 => some q80)) else ((fc_X10_refuse p0 4 S).bind fun q64 => some q64))) else (if (S.1 p0 8) = 310 then (Option.bind (if (S.1 p0 8) = 309 then (if (S.1 p1 9) < 8 then (some (0)) else (some (1))) else (some (0)) : Option (Int32)) fun w82 => if 40 ≤ p2 then ((fc_X10_refuse p0 4 S).bind fun q86 => some q86) else (Option.bind (if p2 = 0 then (some (1)) else (some (0)) : Option (Int32)) fun w87 => if w1 = w87 then (if w82 = 0 then ((fc_X10_step p0 S).bind fun q92 => if (S.1 p0 8) = 305 then ((fc_X3_readTie p0 p1 q92).bind fun q94 => some q94) else (if (S.1 p0 8) = 308 then ((fc_X10_takeNumber p0 1 6 q92).bind fun q96 => letv (ca q96.2 p1 8 q96.1) fun S97 => some S97) else (if (S.1 p0 8) = 309 then ((fc_X3_readPerson p0 p1 q92).bind fun q99 => some q99) else (if (S.1 p0 8) = 310 then ((fc_X3_readBoat p0 p1 q92).bind fun q101 => some q101) else ((fc_X10_takeNumber p0 0 ((q92.1 p1 9) - 1) q92).bind fun q102 => letv (ca q102.2 p1 10 q102.1) fun S103 => some S103))))) else ((fc_X10_refuse p0 4 S).bind fun q106 => some q106)) else ((fc_X10_refuse p0 4 S).bind fun q90 => some q90))) else (if (S.1 p0 8) = 311 then (Option.bind (if (S.1 p0 8) = 309 then (if (S.1 p1 9) < 8 then (some (0)) else (some (1))) else (some (0)) : Option (Int32)) fun w108 => if 40 ≤ p2 then ((fc_X10_refuse p0 4 S).bind fun q112 => some q112) else (Option.bind (if p2 = 0 then (some (1)) else (some (0)) : Option (Int32)) fun w113 => if w1 = w113 then (if w108 = 0 then ((fc_X10_step p0 S).bind fun q118 => if (S.1 p0 8) = 305 then ((fc_X3_readTie p0 p1 q118).bind fun q120 => some q120) else (if (S.1 p0 8) = 308 then ((fc_X10_takeNumber p0 1 6 q118).bind fun q122 => letv (ca q122.2 p1 8 q122.1) fun S123 => some S123) else (if (S.1 p0 8) = 309 then ((fc_X3_readPerson p0 p1 q118).bind fun q125 => some q125) else (if (S.1 p0 8) = 310 then ((fc_X3_readBoat p0 p1 q118).bind fun q127 => some q127) else ((fc_X10_takeNumber p0 0 ((q118.1 p1 9) - 1) q118).bind fun q128 => letv (ca q128.2 p1 10 q128.1) fun S129 => some S129))))) else ((fc_X10_refuse p0 4 S).bind fun q132 => some q132)) else ((fc_X10_refuse p0 4 S).bind fun q116 => some q116))) else ((fc_X10_refuse p0 0 S).bind fun q133 => some q133))))) else (Option.bind (if (S.1 p0 8) = 309 then (if (S.1 p1 9) < 8 then (some (0)) else (some (1))) else (some (0)) : Option (Int32)) fun w4 => if 40 ≤ p2 then ((fc_X10_refuse p0 4 S).bind fun q8 => some q8) else (Option.bind (if p2 = 0 then (some (1)) else (some (0)) : Option (Int32)) fun w9 => if w1 = w9 then (if w4 = 0 then ((fc_X10_step p0 S).bind fun q14 => if (S.1 p0 8) = 305 then ((fc_X3_readTie p0 p1 q14).bind fun q16 => some q16) else (if (S.1 p0 8) = 308 then ((fc_X10_takeNumber p0 1 6 q14).bind fun q18 => letv (ca q18.2 p1 8 q18.1) fun S19 => some S19) else (if (S.1 p0 8) = 309 then ((fc_X3_readPerson p0 p1 q14).bind fun q21 => some q21) else (if (S.1 p0 8) = 310 then ((fc_X3_readBoat p0 p1 q14).bind fun q23 => some q23) else ((fc_X10_takeNumber p0 0 ((q14.1 p1 9) - 1) q14).bind fun q24 => letv (ca q24.2 p1 10 q24.1) fun S25 => some S25))))) else ((fc_X10_refuse p0 4 S).bind fun q28 => some q28)) else ((fc_X10_refuse p0 4 S).bind fun q12 => some q12)))
theorem xc_X3_readClause {l : Launch} {p0 : Nat} {p1 : Nat} {p2 : Int32} {S : cT} {q : cT} (h0 : cK p0 = 8) (h1 : cK p1 = 2) (hf : fc_X3_readClause p0 p1 p2 S = some q) : COk l yy_X3_readClause 4 [.ref p0, .ref p1, .int p2] S none q := by
  refine COk.of (ls := [some (.ref p0), some (.ref p1), some (.int p2), none, none, none]) (by decide +kernel) (Nat.le_of_ble_eq_true rfl) rfl ?_
  unfold fc_X3_readClause at hf
  refine CW.run (blk := [(.aload_n 0, 0)]) (pc' := 1) (ls' := [some (.ref p0), some (.ref p1), some (.int p2), none, none, none]) (st' := [.ref p0]) (by decide +kernel) rfl ?_
  refine CW.getf (v := .int (S.1 p0 8)) h0 (by decide) fl_RX3_23 (by decide +kernel) rfl ?_
  refine CW.run (blk := [(.istore_n 3, 0), (.iload_n 3, 0), (.sipush 308, 308)]) (pc' := 9) (ls' := [some (.ref p0), some (.ref p1), some (.int p2), some (.int (S.1 p0 8)), none, none]) (st' := [.int 308, .int (S.1 p0 8)]) (by decide +kernel) rfl ?_
  obtain ⟨w1, hw1, hf⟩ := bd_some hf
  have hJ : CW l yy_X3_readClause 4 none q 17 [some (.ref p0), some (.ref p1), some (.int p2), some (.int (S.1 p0 8)), none, none] [.int w1] S := by
    refine CW.run (blk := [(.istore 4, 0), (.iload 4, 0)]) (pc' := 21) (ls' := [some (.ref p0), some (.ref p1), some (.int p2), some (.int (S.1 p0 8)), some (.int w1), none]) (st' := [.int w1]) (by decide +kernel) rfl ?_
    refine CW.if_ne (off := 37) (tgt := 58) (by decide +kernel) (by decide) (fun c21_3 => ?_) (fun c21_3 => ?_)
    · rw [if_neg c21_3] at hf
      refine CW.run (blk := [(.iload_n 3, 0), (.sipush 309, 309)]) (pc' := 62) (ls' := [some (.ref p0), some (.ref p1), some (.int p2), some (.int (S.1 p0 8)), some (.int w1), none]) (st' := [.int 309, .int (S.1 p0 8)]) (by decide +kernel) rfl ?_
      obtain ⟨w4, hw4, hf⟩ := bd_some hf
      have hJ : CW l yy_X3_readClause 4 none q 79 [some (.ref p0), some (.ref p1), some (.int p2), some (.int (S.1 p0 8)), some (.int w1), none] [.int w4] S := by
        refine CW.run (blk := [(.istore 5, 0), (.iload_n 2, 0), (.bipush 40, 40)]) (pc' := 84) (ls' := [some (.ref p0), some (.ref p1), some (.int p2), some (.int (S.1 p0 8)), some (.int w1), some (.int w4)]) (st' := [.int 40, .int p2]) (by decide +kernel) rfl ?_
        refine CW.icmp_ge (off := 22) (tgt := 106) (by decide +kernel) (by decide) (fun c84_7 => ?_) (fun c84_7 => ?_)
        · rw [if_pos c84_7] at hf
          refine CW.run (blk := [(.aload_n 0, 0), (.iconst 4, 4)]) (pc' := 108) (ls' := [some (.ref p0), some (.ref p1), some (.int p2), some (.int (S.1 p0 8)), some (.int w1), some (.int w4)]) (st' := [.int 4, .ref p0]) (by decide +kernel) rfl ?_
          obtain ⟨q8, hq8, hf⟩ := bd_some hf
          refine CW.callV (As := [.int 4]) (st := []) lv_RX3_33 h0 (by decide) rfl rfl (by decide +kernel) (xc_X10_refuse h0 hq8) (by decide) (by decide) rfl (Nat.le_of_ble_eq_true rfl) rfl ?_
          show CW l yy_X3_readClause 4 _ _ 111 [some (.ref p0), some (.ref p1), some (.int p2), some (.int (S.1 p0 8)), some (.int w1), some (.int w4)] [] q8
          have e9 := Option.some.inj hf
          subst e9
          exact CW.vret rfl (by decide +kernel)
        · rw [if_neg c84_7] at hf
          refine CW.run (blk := [(.iload 4, 0), (.iload_n 2, 0)]) (pc' := 90) (ls' := [some (.ref p0), some (.ref p1), some (.int p2), some (.int (S.1 p0 8)), some (.int w1), some (.int w4)]) (st' := [.int p2, .int w1]) (by decide +kernel) rfl ?_
          obtain ⟨w9, hw9, hf⟩ := bd_some hf
          have hJ : CW l yy_X3_readClause 4 none q 98 [some (.ref p0), some (.ref p1), some (.int p2), some (.int (S.1 p0 8)), some (.int w1), some (.int w4)] [.int w9, .int w1] S := by
            refine CW.icmp_ne (off := 8) (tgt := 106) (by decide +kernel) (by decide) (fun c98_11 => ?_) (fun c98_11 => ?_)
            · rw [if_neg c98_11] at hf
              refine CW.run (blk := [(.aload_n 0, 0), (.iconst 4, 4)]) (pc' := 108) (ls' := [some (.ref p0), some (.ref p1), some (.int p2), some (.int (S.1 p0 8)), some (.int w1), some (.int w4)]) (st' := [.int 4, .ref p0]) (by decide +kernel) rfl ?_
              obtain ⟨q12, hq12, hf⟩ := bd_some hf
              refine CW.callV (As := [.int 4]) (st := []) lv_RX3_33 h0 (by decide) rfl rfl (by decide +kernel) (xc_X10_refuse h0 hq12) (by decide) (by decide) rfl (Nat.le_of_ble_eq_true rfl) rfl ?_
              show CW l yy_X3_readClause 4 _ _ 111 [some (.ref p0), some (.ref p1), some (.int p2), some (.int (S.1 p0 8)), some (.int w1), some (.int w4)] [] q12
              have e9 := Option.some.inj hf
              subst e9
              exact CW.vret rfl (by decide +kernel)
            · rw [if_pos c98_11] at hf
              refine CW.run (blk := [(.iload 5, 0)]) (pc' := 103) (ls' := [some (.ref p0), some (.ref p1), some (.int p2), some (.int (S.1 p0 8)), some (.int w1), some (.int w4)]) (st' := [.int w4]) (by decide +kernel) rfl ?_
              refine CW.if_eq (off := 9) (tgt := 112) (by decide +kernel) (by decide) (fun c103_13 => ?_) (fun c103_13 => ?_)
              · rw [if_pos c103_13] at hf
                refine CW.run (blk := [(.aload_n 0, 0)]) (pc' := 113) (ls' := [some (.ref p0), some (.ref p1), some (.int p2), some (.int (S.1 p0 8)), some (.int w1), some (.int w4)]) (st' := [.ref p0]) (by decide +kernel) rfl ?_
                obtain ⟨q14, hq14, hf⟩ := bd_some hf
                refine CW.callV (As := []) (st := []) lv_RX3_27 h0 (by decide) rfl rfl (by decide +kernel) (xc_X10_step h0 hq14) (by decide) (by decide) rfl (Nat.le_of_ble_eq_true rfl) rfl ?_
                show CW l yy_X3_readClause 4 _ _ 116 [some (.ref p0), some (.ref p1), some (.int p2), some (.int (S.1 p0 8)), some (.int w1), some (.int w4)] [] q14
                refine CW.run (blk := [(.iload_n 3, 0)]) (pc' := 117) (ls' := [some (.ref p0), some (.ref p1), some (.int p2), some (.int (S.1 p0 8)), some (.int w1), some (.int w4)]) (st' := [.int (S.1 p0 8)]) (by decide +kernel) rfl ?_
                by_cases c117_305_15 : (S.1 p0 8) = 305
                · rw [if_pos c117_305_15] at hf
                  refine CW.tableIn (dflt := 77) (lo := 305) (hi := 310) (offs := #[61, 77, 77, 39, 53, 69]) (len := 39) (off := 61) (tgt := 178) (by decide +kernel) (by rw [c117_305_15]; decide) (by rw [c117_305_15]; decide) (by rw [c117_305_15]; decide) (by decide) ?_
                  refine CW.run (blk := [(.aload_n 0, 0), (.aload_n 1, 0)]) (pc' := 180) (ls' := [some (.ref p0), some (.ref p1), some (.int p2), some (.int (S.1 p0 8)), some (.int w1), some (.int w4)]) (st' := [.ref p1, .ref p0]) (by decide +kernel) rfl ?_
                  obtain ⟨q16, hq16, hf⟩ := bd_some hf
                  refine CW.callS (As := [.ref p0, .ref p1]) (st := []) lt_RX3_48 (by decide +kernel) (xc_X3_readTie h0 h1 hq16) (by decide) (by decide) rfl (Nat.le_of_ble_eq_true rfl) rfl ?_
                  show CW l yy_X3_readClause 4 _ _ 183 [some (.ref p0), some (.ref p1), some (.int p2), some (.int (S.1 p0 8)), some (.int w1), some (.int w4)] [] q16
                  refine CW.run (blk := [(.goto 26, 0)]) (pc' := 209) (ls' := [some (.ref p0), some (.ref p1), some (.int p2), some (.int (S.1 p0 8)), some (.int w1), some (.int w4)]) (st' := []) (by decide +kernel) rfl ?_
                  have e9 := Option.some.inj hf
                  subst e9
                  exact CW.vret rfl (by decide +kernel)
                rw [if_neg c117_305_15] at hf
                by_cases c117_308_17 : (S.1 p0 8) = 308
                · rw [if_pos c117_308_17] at hf
                  refine CW.tableIn (dflt := 77) (lo := 305) (hi := 310) (offs := #[61, 77, 77, 39, 53, 69]) (len := 39) (off := 39) (tgt := 156) (by decide +kernel) (by rw [c117_308_17]; decide) (by rw [c117_308_17]; decide) (by rw [c117_308_17]; decide) (by decide) ?_
                  refine CW.run (blk := [(.aload_n 1, 0), (.aload_n 0, 0), (.iconst 1, 1), (.bipush 6, 6)]) (pc' := 161) (ls' := [some (.ref p0), some (.ref p1), some (.int p2), some (.int (S.1 p0 8)), some (.int w1), some (.int w4)]) (st' := [.int 6, .int 1, .ref p0, .ref p1]) (by decide +kernel) rfl ?_
                  obtain ⟨q18, hq18, hf⟩ := bd_some hf
                  refine CW.callV (As := [.int 1, .int 6]) (st := [.ref p1]) lv_RX3_37 h0 (by decide) rfl rfl (by decide +kernel) (xc_X10_takeNumber h0 hq18) (by decide) (by decide) rfl (Nat.le_of_ble_eq_true rfl) rfl ?_
                  show CW l yy_X3_readClause 4 _ _ 164 [some (.ref p0), some (.ref p1), some (.int p2), some (.int (S.1 p0 8)), some (.int w1), some (.int w4)] [.int q18.1, .ref p1] q18.2
                  refine CW.putI h1 (by decide) fp_RX3_41 (by decide +kernel) (fun _ _ _ => Nat.le_of_ble_eq_true rfl) rfl rfl (fun _ _ _ => rfl) ?_
                  obtain ⟨S19, hS19, hf⟩ := letv_some hf
                  rw [← hS19]
                  refine CW.run (blk := [(.goto 42, 0)]) (pc' := 209) (ls' := [some (.ref p0), some (.ref p1), some (.int p2), some (.int (S.1 p0 8)), some (.int w1), some (.int w4)]) (st' := []) (by decide +kernel) rfl ?_
                  have e9 := Option.some.inj hf
                  subst e9
                  exact CW.vret rfl (by decide +kernel)
                rw [if_neg c117_308_17] at hf
                by_cases c117_309_20 : (S.1 p0 8) = 309
                · rw [if_pos c117_309_20] at hf
                  refine CW.tableIn (dflt := 77) (lo := 305) (hi := 310) (offs := #[61, 77, 77, 39, 53, 69]) (len := 39) (off := 53) (tgt := 170) (by decide +kernel) (by rw [c117_309_20]; decide) (by rw [c117_309_20]; decide) (by rw [c117_309_20]; decide) (by decide) ?_
                  refine CW.run (blk := [(.aload_n 0, 0), (.aload_n 1, 0)]) (pc' := 172) (ls' := [some (.ref p0), some (.ref p1), some (.int p2), some (.int (S.1 p0 8)), some (.int w1), some (.int w4)]) (st' := [.ref p1, .ref p0]) (by decide +kernel) rfl ?_
                  obtain ⟨q21, hq21, hf⟩ := bd_some hf
                  refine CW.callS (As := [.ref p0, .ref p1]) (st := []) lt_RX3_44 (by decide +kernel) (xc_X3_readPerson h0 h1 hq21) (by decide) (by decide) rfl (Nat.le_of_ble_eq_true rfl) rfl ?_
                  show CW l yy_X3_readClause 4 _ _ 175 [some (.ref p0), some (.ref p1), some (.int p2), some (.int (S.1 p0 8)), some (.int w1), some (.int w4)] [] q21
                  refine CW.run (blk := [(.goto 34, 0)]) (pc' := 209) (ls' := [some (.ref p0), some (.ref p1), some (.int p2), some (.int (S.1 p0 8)), some (.int w1), some (.int w4)]) (st' := []) (by decide +kernel) rfl ?_
                  have e9 := Option.some.inj hf
                  subst e9
                  exact CW.vret rfl (by decide +kernel)
                rw [if_neg c117_309_20] at hf
                by_cases c117_310_22 : (S.1 p0 8) = 310
                · rw [if_pos c117_310_22] at hf
                  refine CW.tableIn (dflt := 77) (lo := 305) (hi := 310) (offs := #[61, 77, 77, 39, 53, 69]) (len := 39) (off := 69) (tgt := 186) (by decide +kernel) (by rw [c117_310_22]; decide) (by rw [c117_310_22]; decide) (by rw [c117_310_22]; decide) (by decide) ?_
                  refine CW.run (blk := [(.aload_n 0, 0), (.aload_n 1, 0)]) (pc' := 188) (ls' := [some (.ref p0), some (.ref p1), some (.int p2), some (.int (S.1 p0 8)), some (.int w1), some (.int w4)]) (st' := [.ref p1, .ref p0]) (by decide +kernel) rfl ?_
                  obtain ⟨q23, hq23, hf⟩ := bd_some hf
                  refine CW.callS (As := [.ref p0, .ref p1]) (st := []) lt_RX3_51 (by decide +kernel) (xc_X3_readBoat h0 h1 hq23) (by decide) (by decide) rfl (Nat.le_of_ble_eq_true rfl) rfl ?_
                  show CW l yy_X3_readClause 4 _ _ 191 [some (.ref p0), some (.ref p1), some (.int p2), some (.int (S.1 p0 8)), some (.int w1), some (.int w4)] [] q23
                  refine CW.run (blk := [(.goto 18, 0)]) (pc' := 209) (ls' := [some (.ref p0), some (.ref p1), some (.int p2), some (.int (S.1 p0 8)), some (.int w1), some (.int w4)]) (st' := []) (by decide +kernel) rfl ?_
                  have e9 := Option.some.inj hf
                  subst e9
                  exact CW.vret rfl (by decide +kernel)
                rw [if_neg c117_310_22] at hf
                by_cases c117_306_26 : (S.1 p0 8) = 306
                · refine CW.tableIn (dflt := 77) (lo := 305) (hi := 310) (offs := #[61, 77, 77, 39, 53, 69]) (len := 39) (off := 77) (tgt := 194) (by decide +kernel) (by rw [c117_306_26]; decide) (by rw [c117_306_26]; decide) (by rw [c117_306_26]; decide) (by decide) ?_
                  refine CW.run (blk := [(.aload_n 1, 0), (.aload_n 0, 0), (.iconst 0, 0), (.aload_n 1, 0)]) (pc' := 198) (ls' := [some (.ref p0), some (.ref p1), some (.int p2), some (.int (S.1 p0 8)), some (.int w1), some (.int w4)]) (st' := [.ref p1, .int 0, .ref p0, .ref p1]) (by decide +kernel) rfl ?_
                  refine CW.getf (v := .int (q14.1 p1 9)) h1 (by decide) fl_RX3_30 (by decide +kernel) rfl ?_
                  refine CW.run (blk := [(.iconst 1, 1), (.isub, 0)]) (pc' := 203) (ls' := [some (.ref p0), some (.ref p1), some (.int p2), some (.int (S.1 p0 8)), some (.int w1), some (.int w4)]) (st' := [.int ((q14.1 p1 9) - 1), .int 0, .ref p0, .ref p1]) (by decide +kernel) rfl ?_
                  obtain ⟨q24, hq24, hf⟩ := bd_some hf
                  refine CW.callV (As := [.int 0, .int ((q14.1 p1 9) - 1)]) (st := [.ref p1]) lv_RX3_37 h0 (by decide) rfl rfl (by decide +kernel) (xc_X10_takeNumber h0 hq24) (by decide) (by decide) rfl (Nat.le_of_ble_eq_true rfl) rfl ?_
                  show CW l yy_X3_readClause 4 _ _ 206 [some (.ref p0), some (.ref p1), some (.int p2), some (.int (S.1 p0 8)), some (.int w1), some (.int w4)] [.int q24.1, .ref p1] q24.2
                  refine CW.putI h1 (by decide) fp_RX3_54 (by decide +kernel) (fun _ _ _ => Nat.le_of_ble_eq_true rfl) rfl rfl (fun _ _ _ => rfl) ?_
                  obtain ⟨S25, hS25, hf⟩ := letv_some hf
                  rw [← hS25]
                  have e9 := Option.some.inj hf
                  subst e9
                  exact CW.vret rfl (by decide +kernel)
                by_cases c117_307_27 : (S.1 p0 8) = 307
                · refine CW.tableIn (dflt := 77) (lo := 305) (hi := 310) (offs := #[61, 77, 77, 39, 53, 69]) (len := 39) (off := 77) (tgt := 194) (by decide +kernel) (by rw [c117_307_27]; decide) (by rw [c117_307_27]; decide) (by rw [c117_307_27]; decide) (by decide) ?_
                  refine CW.run (blk := [(.aload_n 1, 0), (.aload_n 0, 0), (.iconst 0, 0), (.aload_n 1, 0)]) (pc' := 198) (ls' := [some (.ref p0), some (.ref p1), some (.int p2), some (.int (S.1 p0 8)), some (.int w1), some (.int w4)]) (st' := [.ref p1, .int 0, .ref p0, .ref p1]) (by decide +kernel) rfl ?_
                  refine CW.getf (v := .int (q14.1 p1 9)) h1 (by decide) fl_RX3_30 (by decide +kernel) rfl ?_
                  refine CW.run (blk := [(.iconst 1, 1), (.isub, 0)]) (pc' := 203) (ls' := [some (.ref p0), some (.ref p1), some (.int p2), some (.int (S.1 p0 8)), some (.int w1), some (.int w4)]) (st' := [.int ((q14.1 p1 9) - 1), .int 0, .ref p0, .ref p1]) (by decide +kernel) rfl ?_
                  obtain ⟨q24, hq24, hf⟩ := bd_some hf
                  refine CW.callV (As := [.int 0, .int ((q14.1 p1 9) - 1)]) (st := [.ref p1]) lv_RX3_37 h0 (by decide) rfl rfl (by decide +kernel) (xc_X10_takeNumber h0 hq24) (by decide) (by decide) rfl (Nat.le_of_ble_eq_true rfl) rfl ?_
                  show CW l yy_X3_readClause 4 _ _ 206 [some (.ref p0), some (.ref p1), some (.int p2), some (.int (S.1 p0 8)), some (.int w1), some (.int w4)] [.int q24.1, .ref p1] q24.2
                  refine CW.putI h1 (by decide) fp_RX3_54 (by decide +kernel) (fun _ _ _ => Nat.le_of_ble_eq_true rfl) rfl rfl (fun _ _ _ => rfl) ?_
                  obtain ⟨S25, hS25, hf⟩ := letv_some hf
                  rw [← hS25]
                  have e9 := Option.some.inj hf
                  subst e9
                  exact CW.vret rfl (by decide +kernel)
                refine CW.tableOut (dflt := 77) (lo := 305) (hi := 310) (offs := #[61, 77, 77, 39, 53, 69]) (len := 39) (tgt := 194) (by decide +kernel) (by have := ne_toInt c117_305_15 (k := 305) rfl; have := ne_toInt c117_308_17 (k := 308) rfl; have := ne_toInt c117_309_20 (k := 309) rfl; have := ne_toInt c117_310_22 (k := 310) rfl; have := ne_toInt c117_306_26 (k := 306) rfl; have := ne_toInt c117_307_27 (k := 307) rfl; omega) (by decide) ?_
                refine CW.run (blk := [(.aload_n 1, 0), (.aload_n 0, 0), (.iconst 0, 0), (.aload_n 1, 0)]) (pc' := 198) (ls' := [some (.ref p0), some (.ref p1), some (.int p2), some (.int (S.1 p0 8)), some (.int w1), some (.int w4)]) (st' := [.ref p1, .int 0, .ref p0, .ref p1]) (by decide +kernel) rfl ?_
                refine CW.getf (v := .int (q14.1 p1 9)) h1 (by decide) fl_RX3_30 (by decide +kernel) rfl ?_
                refine CW.run (blk := [(.iconst 1, 1), (.isub, 0)]) (pc' := 203) (ls' := [some (.ref p0), some (.ref p1), some (.int p2), some (.int (S.1 p0 8)), some (.int w1), some (.int w4)]) (st' := [.int ((q14.1 p1 9) - 1), .int 0, .ref p0, .ref p1]) (by decide +kernel) rfl ?_
                obtain ⟨q24, hq24, hf⟩ := bd_some hf
                refine CW.callV (As := [.int 0, .int ((q14.1 p1 9) - 1)]) (st := [.ref p1]) lv_RX3_37 h0 (by decide) rfl rfl (by decide +kernel) (xc_X10_takeNumber h0 hq24) (by decide) (by decide) rfl (Nat.le_of_ble_eq_true rfl) rfl ?_
                show CW l yy_X3_readClause 4 _ _ 206 [some (.ref p0), some (.ref p1), some (.int p2), some (.int (S.1 p0 8)), some (.int w1), some (.int w4)] [.int q24.1, .ref p1] q24.2
                refine CW.putI h1 (by decide) fp_RX3_54 (by decide +kernel) (fun _ _ _ => Nat.le_of_ble_eq_true rfl) rfl rfl (fun _ _ _ => rfl) ?_
                obtain ⟨S25, hS25, hf⟩ := letv_some hf
                rw [← hS25]
                have e9 := Option.some.inj hf
                subst e9
                exact CW.vret rfl (by decide +kernel)
              · rw [if_neg c103_13] at hf
                refine CW.run (blk := [(.aload_n 0, 0), (.iconst 4, 4)]) (pc' := 108) (ls' := [some (.ref p0), some (.ref p1), some (.int p2), some (.int (S.1 p0 8)), some (.int w1), some (.int w4)]) (st' := [.int 4, .ref p0]) (by decide +kernel) rfl ?_
                obtain ⟨q28, hq28, hf⟩ := bd_some hf
                refine CW.callV (As := [.int 4]) (st := []) lv_RX3_33 h0 (by decide) rfl rfl (by decide +kernel) (xc_X10_refuse h0 hq28) (by decide) (by decide) rfl (Nat.le_of_ble_eq_true rfl) rfl ?_
                show CW l yy_X3_readClause 4 _ _ 111 [some (.ref p0), some (.ref p1), some (.int p2), some (.int (S.1 p0 8)), some (.int w1), some (.int w4)] [] q28
                have e9 := Option.some.inj hf
                subst e9
                exact CW.vret rfl (by decide +kernel)
          clear hf
          refine CW.if_ne (off := 7) (tgt := 97) (by decide +kernel) (by decide) (fun c90_10 => ?_) (fun c90_10 => ?_)
          · rw [if_neg c90_10] at hw9
            refine CW.run (blk := [(.iconst 0, 0)]) (pc' := 98) (ls' := [some (.ref p0), some (.ref p1), some (.int p2), some (.int (S.1 p0 8)), some (.int w1), some (.int w4)]) (st' := [.int 0, .int w1]) (by decide +kernel) rfl ?_
            have e9 := Option.some.inj hw9
            subst e9
            exact hJ
          · rw [if_pos c90_10] at hw9
            refine CW.run (blk := [(.iconst 1, 1), (.goto 4, 0)]) (pc' := 98) (ls' := [some (.ref p0), some (.ref p1), some (.int p2), some (.int (S.1 p0 8)), some (.int w1), some (.int w4)]) (st' := [.int 1, .int w1]) (by decide +kernel) rfl ?_
            have e9 := Option.some.inj hw9
            subst e9
            exact hJ
      clear hf
      refine CW.icmp_ne (off := 16) (tgt := 78) (by decide +kernel) (by decide) (fun c62_5 => ?_) (fun c62_5 => ?_)
      · rw [if_neg c62_5] at hw4
        refine CW.run (blk := [(.iconst 0, 0)]) (pc' := 79) (ls' := [some (.ref p0), some (.ref p1), some (.int p2), some (.int (S.1 p0 8)), some (.int w1), none]) (st' := [.int 0]) (by decide +kernel) rfl ?_
        have e9 := Option.some.inj hw4
        subst e9
        exact hJ
      · rw [if_pos c62_5] at hw4
        refine CW.run (blk := [(.aload_n 1, 0)]) (pc' := 66) (ls' := [some (.ref p0), some (.ref p1), some (.int p2), some (.int (S.1 p0 8)), some (.int w1), none]) (st' := [.ref p1]) (by decide +kernel) rfl ?_
        refine CW.getf (v := .int (S.1 p1 9)) h1 (by decide) fl_RX3_30 (by decide +kernel) rfl ?_
        refine CW.run (blk := [(.bipush 8, 8)]) (pc' := 71) (ls' := [some (.ref p0), some (.ref p1), some (.int p2), some (.int (S.1 p0 8)), some (.int w1), none]) (st' := [.int 8, .int (S.1 p1 9)]) (by decide +kernel) rfl ?_
        refine CW.icmp_lt (off := 7) (tgt := 78) (by decide +kernel) (by decide) (fun c71_6 => ?_) (fun c71_6 => ?_)
        · rw [if_pos c71_6] at hw4
          refine CW.run (blk := [(.iconst 0, 0)]) (pc' := 79) (ls' := [some (.ref p0), some (.ref p1), some (.int p2), some (.int (S.1 p0 8)), some (.int w1), none]) (st' := [.int 0]) (by decide +kernel) rfl ?_
          have e9 := Option.some.inj hw4
          subst e9
          exact hJ
        · rw [if_neg c71_6] at hw4
          refine CW.run (blk := [(.iconst 1, 1), (.goto 4, 0)]) (pc' := 79) (ls' := [some (.ref p0), some (.ref p1), some (.int p2), some (.int (S.1 p0 8)), some (.int w1), none]) (st' := [.int 1]) (by decide +kernel) rfl ?_
          have e9 := Option.some.inj hw4
          subst e9
          exact hJ
    · rw [if_pos c21_3] at hf
      refine CW.run (blk := [(.iload_n 3, 0), (.sipush 309, 309)]) (pc' := 28) (ls' := [some (.ref p0), some (.ref p1), some (.int p2), some (.int (S.1 p0 8)), some (.int w1), none]) (st' := [.int 309, .int (S.1 p0 8)]) (by decide +kernel) rfl ?_
      refine CW.icmp_eq (off := 30) (tgt := 58) (by decide +kernel) (by decide) (fun c28_29 => ?_) (fun c28_29 => ?_)
      · rw [if_pos c28_29] at hf
        refine CW.run (blk := [(.iload_n 3, 0), (.sipush 309, 309)]) (pc' := 62) (ls' := [some (.ref p0), some (.ref p1), some (.int p2), some (.int (S.1 p0 8)), some (.int w1), none]) (st' := [.int 309, .int (S.1 p0 8)]) (by decide +kernel) rfl ?_
        obtain ⟨w30, hw30, hf⟩ := bd_some hf
        have hJ : CW l yy_X3_readClause 4 none q 79 [some (.ref p0), some (.ref p1), some (.int p2), some (.int (S.1 p0 8)), some (.int w1), none] [.int w30] S := by
          refine CW.run (blk := [(.istore 5, 0), (.iload_n 2, 0), (.bipush 40, 40)]) (pc' := 84) (ls' := [some (.ref p0), some (.ref p1), some (.int p2), some (.int (S.1 p0 8)), some (.int w1), some (.int w30)]) (st' := [.int 40, .int p2]) (by decide +kernel) rfl ?_
          refine CW.icmp_ge (off := 22) (tgt := 106) (by decide +kernel) (by decide) (fun c84_33 => ?_) (fun c84_33 => ?_)
          · rw [if_pos c84_33] at hf
            refine CW.run (blk := [(.aload_n 0, 0), (.iconst 4, 4)]) (pc' := 108) (ls' := [some (.ref p0), some (.ref p1), some (.int p2), some (.int (S.1 p0 8)), some (.int w1), some (.int w30)]) (st' := [.int 4, .ref p0]) (by decide +kernel) rfl ?_
            obtain ⟨q34, hq34, hf⟩ := bd_some hf
            refine CW.callV (As := [.int 4]) (st := []) lv_RX3_33 h0 (by decide) rfl rfl (by decide +kernel) (xc_X10_refuse h0 hq34) (by decide) (by decide) rfl (Nat.le_of_ble_eq_true rfl) rfl ?_
            show CW l yy_X3_readClause 4 _ _ 111 [some (.ref p0), some (.ref p1), some (.int p2), some (.int (S.1 p0 8)), some (.int w1), some (.int w30)] [] q34
            have e9 := Option.some.inj hf
            subst e9
            exact CW.vret rfl (by decide +kernel)
          · rw [if_neg c84_33] at hf
            refine CW.run (blk := [(.iload 4, 0), (.iload_n 2, 0)]) (pc' := 90) (ls' := [some (.ref p0), some (.ref p1), some (.int p2), some (.int (S.1 p0 8)), some (.int w1), some (.int w30)]) (st' := [.int p2, .int w1]) (by decide +kernel) rfl ?_
            obtain ⟨w35, hw35, hf⟩ := bd_some hf
            have hJ : CW l yy_X3_readClause 4 none q 98 [some (.ref p0), some (.ref p1), some (.int p2), some (.int (S.1 p0 8)), some (.int w1), some (.int w30)] [.int w35, .int w1] S := by
              refine CW.icmp_ne (off := 8) (tgt := 106) (by decide +kernel) (by decide) (fun c98_37 => ?_) (fun c98_37 => ?_)
              · rw [if_neg c98_37] at hf
                refine CW.run (blk := [(.aload_n 0, 0), (.iconst 4, 4)]) (pc' := 108) (ls' := [some (.ref p0), some (.ref p1), some (.int p2), some (.int (S.1 p0 8)), some (.int w1), some (.int w30)]) (st' := [.int 4, .ref p0]) (by decide +kernel) rfl ?_
                obtain ⟨q38, hq38, hf⟩ := bd_some hf
                refine CW.callV (As := [.int 4]) (st := []) lv_RX3_33 h0 (by decide) rfl rfl (by decide +kernel) (xc_X10_refuse h0 hq38) (by decide) (by decide) rfl (Nat.le_of_ble_eq_true rfl) rfl ?_
                show CW l yy_X3_readClause 4 _ _ 111 [some (.ref p0), some (.ref p1), some (.int p2), some (.int (S.1 p0 8)), some (.int w1), some (.int w30)] [] q38
                have e9 := Option.some.inj hf
                subst e9
                exact CW.vret rfl (by decide +kernel)
              · rw [if_pos c98_37] at hf
                refine CW.run (blk := [(.iload 5, 0)]) (pc' := 103) (ls' := [some (.ref p0), some (.ref p1), some (.int p2), some (.int (S.1 p0 8)), some (.int w1), some (.int w30)]) (st' := [.int w30]) (by decide +kernel) rfl ?_
                refine CW.if_eq (off := 9) (tgt := 112) (by decide +kernel) (by decide) (fun c103_39 => ?_) (fun c103_39 => ?_)
                · rw [if_pos c103_39] at hf
                  refine CW.run (blk := [(.aload_n 0, 0)]) (pc' := 113) (ls' := [some (.ref p0), some (.ref p1), some (.int p2), some (.int (S.1 p0 8)), some (.int w1), some (.int w30)]) (st' := [.ref p0]) (by decide +kernel) rfl ?_
                  obtain ⟨q40, hq40, hf⟩ := bd_some hf
                  refine CW.callV (As := []) (st := []) lv_RX3_27 h0 (by decide) rfl rfl (by decide +kernel) (xc_X10_step h0 hq40) (by decide) (by decide) rfl (Nat.le_of_ble_eq_true rfl) rfl ?_
                  show CW l yy_X3_readClause 4 _ _ 116 [some (.ref p0), some (.ref p1), some (.int p2), some (.int (S.1 p0 8)), some (.int w1), some (.int w30)] [] q40
                  refine CW.run (blk := [(.iload_n 3, 0)]) (pc' := 117) (ls' := [some (.ref p0), some (.ref p1), some (.int p2), some (.int (S.1 p0 8)), some (.int w1), some (.int w30)]) (st' := [.int (S.1 p0 8)]) (by decide +kernel) rfl ?_
                  by_cases c117_305_41 : (S.1 p0 8) = 305
                  · rw [if_pos c117_305_41] at hf
                    refine CW.tableIn (dflt := 77) (lo := 305) (hi := 310) (offs := #[61, 77, 77, 39, 53, 69]) (len := 39) (off := 61) (tgt := 178) (by decide +kernel) (by rw [c117_305_41]; decide) (by rw [c117_305_41]; decide) (by rw [c117_305_41]; decide) (by decide) ?_
                    refine CW.run (blk := [(.aload_n 0, 0), (.aload_n 1, 0)]) (pc' := 180) (ls' := [some (.ref p0), some (.ref p1), some (.int p2), some (.int (S.1 p0 8)), some (.int w1), some (.int w30)]) (st' := [.ref p1, .ref p0]) (by decide +kernel) rfl ?_
                    obtain ⟨q42, hq42, hf⟩ := bd_some hf
                    refine CW.callS (As := [.ref p0, .ref p1]) (st := []) lt_RX3_48 (by decide +kernel) (xc_X3_readTie h0 h1 hq42) (by decide) (by decide) rfl (Nat.le_of_ble_eq_true rfl) rfl ?_
                    show CW l yy_X3_readClause 4 _ _ 183 [some (.ref p0), some (.ref p1), some (.int p2), some (.int (S.1 p0 8)), some (.int w1), some (.int w30)] [] q42
                    refine CW.run (blk := [(.goto 26, 0)]) (pc' := 209) (ls' := [some (.ref p0), some (.ref p1), some (.int p2), some (.int (S.1 p0 8)), some (.int w1), some (.int w30)]) (st' := []) (by decide +kernel) rfl ?_
                    have e9 := Option.some.inj hf
                    subst e9
                    exact CW.vret rfl (by decide +kernel)
                  rw [if_neg c117_305_41] at hf
                  by_cases c117_308_43 : (S.1 p0 8) = 308
                  · rw [if_pos c117_308_43] at hf
                    refine CW.tableIn (dflt := 77) (lo := 305) (hi := 310) (offs := #[61, 77, 77, 39, 53, 69]) (len := 39) (off := 39) (tgt := 156) (by decide +kernel) (by rw [c117_308_43]; decide) (by rw [c117_308_43]; decide) (by rw [c117_308_43]; decide) (by decide) ?_
                    refine CW.run (blk := [(.aload_n 1, 0), (.aload_n 0, 0), (.iconst 1, 1), (.bipush 6, 6)]) (pc' := 161) (ls' := [some (.ref p0), some (.ref p1), some (.int p2), some (.int (S.1 p0 8)), some (.int w1), some (.int w30)]) (st' := [.int 6, .int 1, .ref p0, .ref p1]) (by decide +kernel) rfl ?_
                    obtain ⟨q44, hq44, hf⟩ := bd_some hf
                    refine CW.callV (As := [.int 1, .int 6]) (st := [.ref p1]) lv_RX3_37 h0 (by decide) rfl rfl (by decide +kernel) (xc_X10_takeNumber h0 hq44) (by decide) (by decide) rfl (Nat.le_of_ble_eq_true rfl) rfl ?_
                    show CW l yy_X3_readClause 4 _ _ 164 [some (.ref p0), some (.ref p1), some (.int p2), some (.int (S.1 p0 8)), some (.int w1), some (.int w30)] [.int q44.1, .ref p1] q44.2
                    refine CW.putI h1 (by decide) fp_RX3_41 (by decide +kernel) (fun _ _ _ => Nat.le_of_ble_eq_true rfl) rfl rfl (fun _ _ _ => rfl) ?_
                    obtain ⟨S45, hS45, hf⟩ := letv_some hf
                    rw [← hS45]
                    refine CW.run (blk := [(.goto 42, 0)]) (pc' := 209) (ls' := [some (.ref p0), some (.ref p1), some (.int p2), some (.int (S.1 p0 8)), some (.int w1), some (.int w30)]) (st' := []) (by decide +kernel) rfl ?_
                    have e9 := Option.some.inj hf
                    subst e9
                    exact CW.vret rfl (by decide +kernel)
                  rw [if_neg c117_308_43] at hf
                  by_cases c117_309_46 : (S.1 p0 8) = 309
                  · rw [if_pos c117_309_46] at hf
                    refine CW.tableIn (dflt := 77) (lo := 305) (hi := 310) (offs := #[61, 77, 77, 39, 53, 69]) (len := 39) (off := 53) (tgt := 170) (by decide +kernel) (by rw [c117_309_46]; decide) (by rw [c117_309_46]; decide) (by rw [c117_309_46]; decide) (by decide) ?_
                    refine CW.run (blk := [(.aload_n 0, 0), (.aload_n 1, 0)]) (pc' := 172) (ls' := [some (.ref p0), some (.ref p1), some (.int p2), some (.int (S.1 p0 8)), some (.int w1), some (.int w30)]) (st' := [.ref p1, .ref p0]) (by decide +kernel) rfl ?_
                    obtain ⟨q47, hq47, hf⟩ := bd_some hf
                    refine CW.callS (As := [.ref p0, .ref p1]) (st := []) lt_RX3_44 (by decide +kernel) (xc_X3_readPerson h0 h1 hq47) (by decide) (by decide) rfl (Nat.le_of_ble_eq_true rfl) rfl ?_
                    show CW l yy_X3_readClause 4 _ _ 175 [some (.ref p0), some (.ref p1), some (.int p2), some (.int (S.1 p0 8)), some (.int w1), some (.int w30)] [] q47
                    refine CW.run (blk := [(.goto 34, 0)]) (pc' := 209) (ls' := [some (.ref p0), some (.ref p1), some (.int p2), some (.int (S.1 p0 8)), some (.int w1), some (.int w30)]) (st' := []) (by decide +kernel) rfl ?_
                    have e9 := Option.some.inj hf
                    subst e9
                    exact CW.vret rfl (by decide +kernel)
                  rw [if_neg c117_309_46] at hf
                  by_cases c117_310_48 : (S.1 p0 8) = 310
                  · rw [if_pos c117_310_48] at hf
                    refine CW.tableIn (dflt := 77) (lo := 305) (hi := 310) (offs := #[61, 77, 77, 39, 53, 69]) (len := 39) (off := 69) (tgt := 186) (by decide +kernel) (by rw [c117_310_48]; decide) (by rw [c117_310_48]; decide) (by rw [c117_310_48]; decide) (by decide) ?_
                    refine CW.run (blk := [(.aload_n 0, 0), (.aload_n 1, 0)]) (pc' := 188) (ls' := [some (.ref p0), some (.ref p1), some (.int p2), some (.int (S.1 p0 8)), some (.int w1), some (.int w30)]) (st' := [.ref p1, .ref p0]) (by decide +kernel) rfl ?_
                    obtain ⟨q49, hq49, hf⟩ := bd_some hf
                    refine CW.callS (As := [.ref p0, .ref p1]) (st := []) lt_RX3_51 (by decide +kernel) (xc_X3_readBoat h0 h1 hq49) (by decide) (by decide) rfl (Nat.le_of_ble_eq_true rfl) rfl ?_
                    show CW l yy_X3_readClause 4 _ _ 191 [some (.ref p0), some (.ref p1), some (.int p2), some (.int (S.1 p0 8)), some (.int w1), some (.int w30)] [] q49
                    refine CW.run (blk := [(.goto 18, 0)]) (pc' := 209) (ls' := [some (.ref p0), some (.ref p1), some (.int p2), some (.int (S.1 p0 8)), some (.int w1), some (.int w30)]) (st' := []) (by decide +kernel) rfl ?_
                    have e9 := Option.some.inj hf
                    subst e9
                    exact CW.vret rfl (by decide +kernel)
                  rw [if_neg c117_310_48] at hf
                  by_cases c117_306_52 : (S.1 p0 8) = 306
                  · refine CW.tableIn (dflt := 77) (lo := 305) (hi := 310) (offs := #[61, 77, 77, 39, 53, 69]) (len := 39) (off := 77) (tgt := 194) (by decide +kernel) (by rw [c117_306_52]; decide) (by rw [c117_306_52]; decide) (by rw [c117_306_52]; decide) (by decide) ?_
                    refine CW.run (blk := [(.aload_n 1, 0), (.aload_n 0, 0), (.iconst 0, 0), (.aload_n 1, 0)]) (pc' := 198) (ls' := [some (.ref p0), some (.ref p1), some (.int p2), some (.int (S.1 p0 8)), some (.int w1), some (.int w30)]) (st' := [.ref p1, .int 0, .ref p0, .ref p1]) (by decide +kernel) rfl ?_
                    refine CW.getf (v := .int (q40.1 p1 9)) h1 (by decide) fl_RX3_30 (by decide +kernel) rfl ?_
                    refine CW.run (blk := [(.iconst 1, 1), (.isub, 0)]) (pc' := 203) (ls' := [some (.ref p0), some (.ref p1), some (.int p2), some (.int (S.1 p0 8)), some (.int w1), some (.int w30)]) (st' := [.int ((q40.1 p1 9) - 1), .int 0, .ref p0, .ref p1]) (by decide +kernel) rfl ?_
                    obtain ⟨q50, hq50, hf⟩ := bd_some hf
                    refine CW.callV (As := [.int 0, .int ((q40.1 p1 9) - 1)]) (st := [.ref p1]) lv_RX3_37 h0 (by decide) rfl rfl (by decide +kernel) (xc_X10_takeNumber h0 hq50) (by decide) (by decide) rfl (Nat.le_of_ble_eq_true rfl) rfl ?_
                    show CW l yy_X3_readClause 4 _ _ 206 [some (.ref p0), some (.ref p1), some (.int p2), some (.int (S.1 p0 8)), some (.int w1), some (.int w30)] [.int q50.1, .ref p1] q50.2
                    refine CW.putI h1 (by decide) fp_RX3_54 (by decide +kernel) (fun _ _ _ => Nat.le_of_ble_eq_true rfl) rfl rfl (fun _ _ _ => rfl) ?_
                    obtain ⟨S51, hS51, hf⟩ := letv_some hf
                    rw [← hS51]
                    have e9 := Option.some.inj hf
                    subst e9
                    exact CW.vret rfl (by decide +kernel)
                  by_cases c117_307_53 : (S.1 p0 8) = 307
                  · refine CW.tableIn (dflt := 77) (lo := 305) (hi := 310) (offs := #[61, 77, 77, 39, 53, 69]) (len := 39) (off := 77) (tgt := 194) (by decide +kernel) (by rw [c117_307_53]; decide) (by rw [c117_307_53]; decide) (by rw [c117_307_53]; decide) (by decide) ?_
                    refine CW.run (blk := [(.aload_n 1, 0), (.aload_n 0, 0), (.iconst 0, 0), (.aload_n 1, 0)]) (pc' := 198) (ls' := [some (.ref p0), some (.ref p1), some (.int p2), some (.int (S.1 p0 8)), some (.int w1), some (.int w30)]) (st' := [.ref p1, .int 0, .ref p0, .ref p1]) (by decide +kernel) rfl ?_
                    refine CW.getf (v := .int (q40.1 p1 9)) h1 (by decide) fl_RX3_30 (by decide +kernel) rfl ?_
                    refine CW.run (blk := [(.iconst 1, 1), (.isub, 0)]) (pc' := 203) (ls' := [some (.ref p0), some (.ref p1), some (.int p2), some (.int (S.1 p0 8)), some (.int w1), some (.int w30)]) (st' := [.int ((q40.1 p1 9) - 1), .int 0, .ref p0, .ref p1]) (by decide +kernel) rfl ?_
                    obtain ⟨q50, hq50, hf⟩ := bd_some hf
                    refine CW.callV (As := [.int 0, .int ((q40.1 p1 9) - 1)]) (st := [.ref p1]) lv_RX3_37 h0 (by decide) rfl rfl (by decide +kernel) (xc_X10_takeNumber h0 hq50) (by decide) (by decide) rfl (Nat.le_of_ble_eq_true rfl) rfl ?_
                    show CW l yy_X3_readClause 4 _ _ 206 [some (.ref p0), some (.ref p1), some (.int p2), some (.int (S.1 p0 8)), some (.int w1), some (.int w30)] [.int q50.1, .ref p1] q50.2
                    refine CW.putI h1 (by decide) fp_RX3_54 (by decide +kernel) (fun _ _ _ => Nat.le_of_ble_eq_true rfl) rfl rfl (fun _ _ _ => rfl) ?_
                    obtain ⟨S51, hS51, hf⟩ := letv_some hf
                    rw [← hS51]
                    have e9 := Option.some.inj hf
                    subst e9
                    exact CW.vret rfl (by decide +kernel)
                  refine CW.tableOut (dflt := 77) (lo := 305) (hi := 310) (offs := #[61, 77, 77, 39, 53, 69]) (len := 39) (tgt := 194) (by decide +kernel) (by have := ne_toInt c117_305_41 (k := 305) rfl; have := ne_toInt c117_308_43 (k := 308) rfl; have := ne_toInt c117_309_46 (k := 309) rfl; have := ne_toInt c117_310_48 (k := 310) rfl; have := ne_toInt c117_306_52 (k := 306) rfl; have := ne_toInt c117_307_53 (k := 307) rfl; omega) (by decide) ?_
                  refine CW.run (blk := [(.aload_n 1, 0), (.aload_n 0, 0), (.iconst 0, 0), (.aload_n 1, 0)]) (pc' := 198) (ls' := [some (.ref p0), some (.ref p1), some (.int p2), some (.int (S.1 p0 8)), some (.int w1), some (.int w30)]) (st' := [.ref p1, .int 0, .ref p0, .ref p1]) (by decide +kernel) rfl ?_
                  refine CW.getf (v := .int (q40.1 p1 9)) h1 (by decide) fl_RX3_30 (by decide +kernel) rfl ?_
                  refine CW.run (blk := [(.iconst 1, 1), (.isub, 0)]) (pc' := 203) (ls' := [some (.ref p0), some (.ref p1), some (.int p2), some (.int (S.1 p0 8)), some (.int w1), some (.int w30)]) (st' := [.int ((q40.1 p1 9) - 1), .int 0, .ref p0, .ref p1]) (by decide +kernel) rfl ?_
                  obtain ⟨q50, hq50, hf⟩ := bd_some hf
                  refine CW.callV (As := [.int 0, .int ((q40.1 p1 9) - 1)]) (st := [.ref p1]) lv_RX3_37 h0 (by decide) rfl rfl (by decide +kernel) (xc_X10_takeNumber h0 hq50) (by decide) (by decide) rfl (Nat.le_of_ble_eq_true rfl) rfl ?_
                  show CW l yy_X3_readClause 4 _ _ 206 [some (.ref p0), some (.ref p1), some (.int p2), some (.int (S.1 p0 8)), some (.int w1), some (.int w30)] [.int q50.1, .ref p1] q50.2
                  refine CW.putI h1 (by decide) fp_RX3_54 (by decide +kernel) (fun _ _ _ => Nat.le_of_ble_eq_true rfl) rfl rfl (fun _ _ _ => rfl) ?_
                  obtain ⟨S51, hS51, hf⟩ := letv_some hf
                  rw [← hS51]
                  have e9 := Option.some.inj hf
                  subst e9
                  exact CW.vret rfl (by decide +kernel)
                · rw [if_neg c103_39] at hf
                  refine CW.run (blk := [(.aload_n 0, 0), (.iconst 4, 4)]) (pc' := 108) (ls' := [some (.ref p0), some (.ref p1), some (.int p2), some (.int (S.1 p0 8)), some (.int w1), some (.int w30)]) (st' := [.int 4, .ref p0]) (by decide +kernel) rfl ?_
                  obtain ⟨q54, hq54, hf⟩ := bd_some hf
                  refine CW.callV (As := [.int 4]) (st := []) lv_RX3_33 h0 (by decide) rfl rfl (by decide +kernel) (xc_X10_refuse h0 hq54) (by decide) (by decide) rfl (Nat.le_of_ble_eq_true rfl) rfl ?_
                  show CW l yy_X3_readClause 4 _ _ 111 [some (.ref p0), some (.ref p1), some (.int p2), some (.int (S.1 p0 8)), some (.int w1), some (.int w30)] [] q54
                  have e9 := Option.some.inj hf
                  subst e9
                  exact CW.vret rfl (by decide +kernel)
            clear hf
            refine CW.if_ne (off := 7) (tgt := 97) (by decide +kernel) (by decide) (fun c90_36 => ?_) (fun c90_36 => ?_)
            · rw [if_neg c90_36] at hw35
              refine CW.run (blk := [(.iconst 0, 0)]) (pc' := 98) (ls' := [some (.ref p0), some (.ref p1), some (.int p2), some (.int (S.1 p0 8)), some (.int w1), some (.int w30)]) (st' := [.int 0, .int w1]) (by decide +kernel) rfl ?_
              have e9 := Option.some.inj hw35
              subst e9
              exact hJ
            · rw [if_pos c90_36] at hw35
              refine CW.run (blk := [(.iconst 1, 1), (.goto 4, 0)]) (pc' := 98) (ls' := [some (.ref p0), some (.ref p1), some (.int p2), some (.int (S.1 p0 8)), some (.int w1), some (.int w30)]) (st' := [.int 1, .int w1]) (by decide +kernel) rfl ?_
              have e9 := Option.some.inj hw35
              subst e9
              exact hJ
        clear hf
        refine CW.icmp_ne (off := 16) (tgt := 78) (by decide +kernel) (by decide) (fun c62_31 => ?_) (fun c62_31 => ?_)
        · rw [if_neg c62_31] at hw30
          refine CW.run (blk := [(.iconst 0, 0)]) (pc' := 79) (ls' := [some (.ref p0), some (.ref p1), some (.int p2), some (.int (S.1 p0 8)), some (.int w1), none]) (st' := [.int 0]) (by decide +kernel) rfl ?_
          have e9 := Option.some.inj hw30
          subst e9
          exact hJ
        · rw [if_pos c62_31] at hw30
          refine CW.run (blk := [(.aload_n 1, 0)]) (pc' := 66) (ls' := [some (.ref p0), some (.ref p1), some (.int p2), some (.int (S.1 p0 8)), some (.int w1), none]) (st' := [.ref p1]) (by decide +kernel) rfl ?_
          refine CW.getf (v := .int (S.1 p1 9)) h1 (by decide) fl_RX3_30 (by decide +kernel) rfl ?_
          refine CW.run (blk := [(.bipush 8, 8)]) (pc' := 71) (ls' := [some (.ref p0), some (.ref p1), some (.int p2), some (.int (S.1 p0 8)), some (.int w1), none]) (st' := [.int 8, .int (S.1 p1 9)]) (by decide +kernel) rfl ?_
          refine CW.icmp_lt (off := 7) (tgt := 78) (by decide +kernel) (by decide) (fun c71_32 => ?_) (fun c71_32 => ?_)
          · rw [if_pos c71_32] at hw30
            refine CW.run (blk := [(.iconst 0, 0)]) (pc' := 79) (ls' := [some (.ref p0), some (.ref p1), some (.int p2), some (.int (S.1 p0 8)), some (.int w1), none]) (st' := [.int 0]) (by decide +kernel) rfl ?_
            have e9 := Option.some.inj hw30
            subst e9
            exact hJ
          · rw [if_neg c71_32] at hw30
            refine CW.run (blk := [(.iconst 1, 1), (.goto 4, 0)]) (pc' := 79) (ls' := [some (.ref p0), some (.ref p1), some (.int p2), some (.int (S.1 p0 8)), some (.int w1), none]) (st' := [.int 1]) (by decide +kernel) rfl ?_
            have e9 := Option.some.inj hw30
            subst e9
            exact hJ
      · rw [if_neg c28_29] at hf
        refine CW.run (blk := [(.iload_n 3, 0), (.sipush 305, 305)]) (pc' := 35) (ls' := [some (.ref p0), some (.ref p1), some (.int p2), some (.int (S.1 p0 8)), some (.int w1), none]) (st' := [.int 305, .int (S.1 p0 8)]) (by decide +kernel) rfl ?_
        refine CW.icmp_eq (off := 23) (tgt := 58) (by decide +kernel) (by decide) (fun c35_55 => ?_) (fun c35_55 => ?_)
        · rw [if_pos c35_55] at hf
          refine CW.run (blk := [(.iload_n 3, 0), (.sipush 309, 309)]) (pc' := 62) (ls' := [some (.ref p0), some (.ref p1), some (.int p2), some (.int (S.1 p0 8)), some (.int w1), none]) (st' := [.int 309, .int (S.1 p0 8)]) (by decide +kernel) rfl ?_
          obtain ⟨w56, hw56, hf⟩ := bd_some hf
          have hJ : CW l yy_X3_readClause 4 none q 79 [some (.ref p0), some (.ref p1), some (.int p2), some (.int (S.1 p0 8)), some (.int w1), none] [.int w56] S := by
            refine CW.run (blk := [(.istore 5, 0), (.iload_n 2, 0), (.bipush 40, 40)]) (pc' := 84) (ls' := [some (.ref p0), some (.ref p1), some (.int p2), some (.int (S.1 p0 8)), some (.int w1), some (.int w56)]) (st' := [.int 40, .int p2]) (by decide +kernel) rfl ?_
            refine CW.icmp_ge (off := 22) (tgt := 106) (by decide +kernel) (by decide) (fun c84_59 => ?_) (fun c84_59 => ?_)
            · rw [if_pos c84_59] at hf
              refine CW.run (blk := [(.aload_n 0, 0), (.iconst 4, 4)]) (pc' := 108) (ls' := [some (.ref p0), some (.ref p1), some (.int p2), some (.int (S.1 p0 8)), some (.int w1), some (.int w56)]) (st' := [.int 4, .ref p0]) (by decide +kernel) rfl ?_
              obtain ⟨q60, hq60, hf⟩ := bd_some hf
              refine CW.callV (As := [.int 4]) (st := []) lv_RX3_33 h0 (by decide) rfl rfl (by decide +kernel) (xc_X10_refuse h0 hq60) (by decide) (by decide) rfl (Nat.le_of_ble_eq_true rfl) rfl ?_
              show CW l yy_X3_readClause 4 _ _ 111 [some (.ref p0), some (.ref p1), some (.int p2), some (.int (S.1 p0 8)), some (.int w1), some (.int w56)] [] q60
              have e9 := Option.some.inj hf
              subst e9
              exact CW.vret rfl (by decide +kernel)
            · rw [if_neg c84_59] at hf
              refine CW.run (blk := [(.iload 4, 0), (.iload_n 2, 0)]) (pc' := 90) (ls' := [some (.ref p0), some (.ref p1), some (.int p2), some (.int (S.1 p0 8)), some (.int w1), some (.int w56)]) (st' := [.int p2, .int w1]) (by decide +kernel) rfl ?_
              obtain ⟨w61, hw61, hf⟩ := bd_some hf
              have hJ : CW l yy_X3_readClause 4 none q 98 [some (.ref p0), some (.ref p1), some (.int p2), some (.int (S.1 p0 8)), some (.int w1), some (.int w56)] [.int w61, .int w1] S := by
                refine CW.icmp_ne (off := 8) (tgt := 106) (by decide +kernel) (by decide) (fun c98_63 => ?_) (fun c98_63 => ?_)
                · rw [if_neg c98_63] at hf
                  refine CW.run (blk := [(.aload_n 0, 0), (.iconst 4, 4)]) (pc' := 108) (ls' := [some (.ref p0), some (.ref p1), some (.int p2), some (.int (S.1 p0 8)), some (.int w1), some (.int w56)]) (st' := [.int 4, .ref p0]) (by decide +kernel) rfl ?_
                  obtain ⟨q64, hq64, hf⟩ := bd_some hf
                  refine CW.callV (As := [.int 4]) (st := []) lv_RX3_33 h0 (by decide) rfl rfl (by decide +kernel) (xc_X10_refuse h0 hq64) (by decide) (by decide) rfl (Nat.le_of_ble_eq_true rfl) rfl ?_
                  show CW l yy_X3_readClause 4 _ _ 111 [some (.ref p0), some (.ref p1), some (.int p2), some (.int (S.1 p0 8)), some (.int w1), some (.int w56)] [] q64
                  have e9 := Option.some.inj hf
                  subst e9
                  exact CW.vret rfl (by decide +kernel)
                · rw [if_pos c98_63] at hf
                  refine CW.run (blk := [(.iload 5, 0)]) (pc' := 103) (ls' := [some (.ref p0), some (.ref p1), some (.int p2), some (.int (S.1 p0 8)), some (.int w1), some (.int w56)]) (st' := [.int w56]) (by decide +kernel) rfl ?_
                  refine CW.if_eq (off := 9) (tgt := 112) (by decide +kernel) (by decide) (fun c103_65 => ?_) (fun c103_65 => ?_)
                  · rw [if_pos c103_65] at hf
                    refine CW.run (blk := [(.aload_n 0, 0)]) (pc' := 113) (ls' := [some (.ref p0), some (.ref p1), some (.int p2), some (.int (S.1 p0 8)), some (.int w1), some (.int w56)]) (st' := [.ref p0]) (by decide +kernel) rfl ?_
                    obtain ⟨q66, hq66, hf⟩ := bd_some hf
                    refine CW.callV (As := []) (st := []) lv_RX3_27 h0 (by decide) rfl rfl (by decide +kernel) (xc_X10_step h0 hq66) (by decide) (by decide) rfl (Nat.le_of_ble_eq_true rfl) rfl ?_
                    show CW l yy_X3_readClause 4 _ _ 116 [some (.ref p0), some (.ref p1), some (.int p2), some (.int (S.1 p0 8)), some (.int w1), some (.int w56)] [] q66
                    refine CW.run (blk := [(.iload_n 3, 0)]) (pc' := 117) (ls' := [some (.ref p0), some (.ref p1), some (.int p2), some (.int (S.1 p0 8)), some (.int w1), some (.int w56)]) (st' := [.int (S.1 p0 8)]) (by decide +kernel) rfl ?_
                    by_cases c117_305_67 : (S.1 p0 8) = 305
                    · rw [if_pos c117_305_67] at hf
                      refine CW.tableIn (dflt := 77) (lo := 305) (hi := 310) (offs := #[61, 77, 77, 39, 53, 69]) (len := 39) (off := 61) (tgt := 178) (by decide +kernel) (by rw [c117_305_67]; decide) (by rw [c117_305_67]; decide) (by rw [c117_305_67]; decide) (by decide) ?_
                      refine CW.run (blk := [(.aload_n 0, 0), (.aload_n 1, 0)]) (pc' := 180) (ls' := [some (.ref p0), some (.ref p1), some (.int p2), some (.int (S.1 p0 8)), some (.int w1), some (.int w56)]) (st' := [.ref p1, .ref p0]) (by decide +kernel) rfl ?_
                      obtain ⟨q68, hq68, hf⟩ := bd_some hf
                      refine CW.callS (As := [.ref p0, .ref p1]) (st := []) lt_RX3_48 (by decide +kernel) (xc_X3_readTie h0 h1 hq68) (by decide) (by decide) rfl (Nat.le_of_ble_eq_true rfl) rfl ?_
                      show CW l yy_X3_readClause 4 _ _ 183 [some (.ref p0), some (.ref p1), some (.int p2), some (.int (S.1 p0 8)), some (.int w1), some (.int w56)] [] q68
                      refine CW.run (blk := [(.goto 26, 0)]) (pc' := 209) (ls' := [some (.ref p0), some (.ref p1), some (.int p2), some (.int (S.1 p0 8)), some (.int w1), some (.int w56)]) (st' := []) (by decide +kernel) rfl ?_
                      have e9 := Option.some.inj hf
                      subst e9
                      exact CW.vret rfl (by decide +kernel)
                    rw [if_neg c117_305_67] at hf
                    by_cases c117_308_69 : (S.1 p0 8) = 308
                    · rw [if_pos c117_308_69] at hf
                      refine CW.tableIn (dflt := 77) (lo := 305) (hi := 310) (offs := #[61, 77, 77, 39, 53, 69]) (len := 39) (off := 39) (tgt := 156) (by decide +kernel) (by rw [c117_308_69]; decide) (by rw [c117_308_69]; decide) (by rw [c117_308_69]; decide) (by decide) ?_
                      refine CW.run (blk := [(.aload_n 1, 0), (.aload_n 0, 0), (.iconst 1, 1), (.bipush 6, 6)]) (pc' := 161) (ls' := [some (.ref p0), some (.ref p1), some (.int p2), some (.int (S.1 p0 8)), some (.int w1), some (.int w56)]) (st' := [.int 6, .int 1, .ref p0, .ref p1]) (by decide +kernel) rfl ?_
                      obtain ⟨q70, hq70, hf⟩ := bd_some hf
                      refine CW.callV (As := [.int 1, .int 6]) (st := [.ref p1]) lv_RX3_37 h0 (by decide) rfl rfl (by decide +kernel) (xc_X10_takeNumber h0 hq70) (by decide) (by decide) rfl (Nat.le_of_ble_eq_true rfl) rfl ?_
                      show CW l yy_X3_readClause 4 _ _ 164 [some (.ref p0), some (.ref p1), some (.int p2), some (.int (S.1 p0 8)), some (.int w1), some (.int w56)] [.int q70.1, .ref p1] q70.2
                      refine CW.putI h1 (by decide) fp_RX3_41 (by decide +kernel) (fun _ _ _ => Nat.le_of_ble_eq_true rfl) rfl rfl (fun _ _ _ => rfl) ?_
                      obtain ⟨S71, hS71, hf⟩ := letv_some hf
                      rw [← hS71]
                      refine CW.run (blk := [(.goto 42, 0)]) (pc' := 209) (ls' := [some (.ref p0), some (.ref p1), some (.int p2), some (.int (S.1 p0 8)), some (.int w1), some (.int w56)]) (st' := []) (by decide +kernel) rfl ?_
                      have e9 := Option.some.inj hf
                      subst e9
                      exact CW.vret rfl (by decide +kernel)
                    rw [if_neg c117_308_69] at hf
                    by_cases c117_309_72 : (S.1 p0 8) = 309
                    · rw [if_pos c117_309_72] at hf
                      refine CW.tableIn (dflt := 77) (lo := 305) (hi := 310) (offs := #[61, 77, 77, 39, 53, 69]) (len := 39) (off := 53) (tgt := 170) (by decide +kernel) (by rw [c117_309_72]; decide) (by rw [c117_309_72]; decide) (by rw [c117_309_72]; decide) (by decide) ?_
                      refine CW.run (blk := [(.aload_n 0, 0), (.aload_n 1, 0)]) (pc' := 172) (ls' := [some (.ref p0), some (.ref p1), some (.int p2), some (.int (S.1 p0 8)), some (.int w1), some (.int w56)]) (st' := [.ref p1, .ref p0]) (by decide +kernel) rfl ?_
                      obtain ⟨q73, hq73, hf⟩ := bd_some hf
                      refine CW.callS (As := [.ref p0, .ref p1]) (st := []) lt_RX3_44 (by decide +kernel) (xc_X3_readPerson h0 h1 hq73) (by decide) (by decide) rfl (Nat.le_of_ble_eq_true rfl) rfl ?_
                      show CW l yy_X3_readClause 4 _ _ 175 [some (.ref p0), some (.ref p1), some (.int p2), some (.int (S.1 p0 8)), some (.int w1), some (.int w56)] [] q73
                      refine CW.run (blk := [(.goto 34, 0)]) (pc' := 209) (ls' := [some (.ref p0), some (.ref p1), some (.int p2), some (.int (S.1 p0 8)), some (.int w1), some (.int w56)]) (st' := []) (by decide +kernel) rfl ?_
                      have e9 := Option.some.inj hf
                      subst e9
                      exact CW.vret rfl (by decide +kernel)
                    rw [if_neg c117_309_72] at hf
                    by_cases c117_310_74 : (S.1 p0 8) = 310
                    · rw [if_pos c117_310_74] at hf
                      refine CW.tableIn (dflt := 77) (lo := 305) (hi := 310) (offs := #[61, 77, 77, 39, 53, 69]) (len := 39) (off := 69) (tgt := 186) (by decide +kernel) (by rw [c117_310_74]; decide) (by rw [c117_310_74]; decide) (by rw [c117_310_74]; decide) (by decide) ?_
                      refine CW.run (blk := [(.aload_n 0, 0), (.aload_n 1, 0)]) (pc' := 188) (ls' := [some (.ref p0), some (.ref p1), some (.int p2), some (.int (S.1 p0 8)), some (.int w1), some (.int w56)]) (st' := [.ref p1, .ref p0]) (by decide +kernel) rfl ?_
                      obtain ⟨q75, hq75, hf⟩ := bd_some hf
                      refine CW.callS (As := [.ref p0, .ref p1]) (st := []) lt_RX3_51 (by decide +kernel) (xc_X3_readBoat h0 h1 hq75) (by decide) (by decide) rfl (Nat.le_of_ble_eq_true rfl) rfl ?_
                      show CW l yy_X3_readClause 4 _ _ 191 [some (.ref p0), some (.ref p1), some (.int p2), some (.int (S.1 p0 8)), some (.int w1), some (.int w56)] [] q75
                      refine CW.run (blk := [(.goto 18, 0)]) (pc' := 209) (ls' := [some (.ref p0), some (.ref p1), some (.int p2), some (.int (S.1 p0 8)), some (.int w1), some (.int w56)]) (st' := []) (by decide +kernel) rfl ?_
                      have e9 := Option.some.inj hf
                      subst e9
                      exact CW.vret rfl (by decide +kernel)
                    rw [if_neg c117_310_74] at hf
                    by_cases c117_306_78 : (S.1 p0 8) = 306
                    · refine CW.tableIn (dflt := 77) (lo := 305) (hi := 310) (offs := #[61, 77, 77, 39, 53, 69]) (len := 39) (off := 77) (tgt := 194) (by decide +kernel) (by rw [c117_306_78]; decide) (by rw [c117_306_78]; decide) (by rw [c117_306_78]; decide) (by decide) ?_
                      refine CW.run (blk := [(.aload_n 1, 0), (.aload_n 0, 0), (.iconst 0, 0), (.aload_n 1, 0)]) (pc' := 198) (ls' := [some (.ref p0), some (.ref p1), some (.int p2), some (.int (S.1 p0 8)), some (.int w1), some (.int w56)]) (st' := [.ref p1, .int 0, .ref p0, .ref p1]) (by decide +kernel) rfl ?_
                      refine CW.getf (v := .int (q66.1 p1 9)) h1 (by decide) fl_RX3_30 (by decide +kernel) rfl ?_
                      refine CW.run (blk := [(.iconst 1, 1), (.isub, 0)]) (pc' := 203) (ls' := [some (.ref p0), some (.ref p1), some (.int p2), some (.int (S.1 p0 8)), some (.int w1), some (.int w56)]) (st' := [.int ((q66.1 p1 9) - 1), .int 0, .ref p0, .ref p1]) (by decide +kernel) rfl ?_
                      obtain ⟨q76, hq76, hf⟩ := bd_some hf
                      refine CW.callV (As := [.int 0, .int ((q66.1 p1 9) - 1)]) (st := [.ref p1]) lv_RX3_37 h0 (by decide) rfl rfl (by decide +kernel) (xc_X10_takeNumber h0 hq76) (by decide) (by decide) rfl (Nat.le_of_ble_eq_true rfl) rfl ?_
                      show CW l yy_X3_readClause 4 _ _ 206 [some (.ref p0), some (.ref p1), some (.int p2), some (.int (S.1 p0 8)), some (.int w1), some (.int w56)] [.int q76.1, .ref p1] q76.2
                      refine CW.putI h1 (by decide) fp_RX3_54 (by decide +kernel) (fun _ _ _ => Nat.le_of_ble_eq_true rfl) rfl rfl (fun _ _ _ => rfl) ?_
                      obtain ⟨S77, hS77, hf⟩ := letv_some hf
                      rw [← hS77]
                      have e9 := Option.some.inj hf
                      subst e9
                      exact CW.vret rfl (by decide +kernel)
                    by_cases c117_307_79 : (S.1 p0 8) = 307
                    · refine CW.tableIn (dflt := 77) (lo := 305) (hi := 310) (offs := #[61, 77, 77, 39, 53, 69]) (len := 39) (off := 77) (tgt := 194) (by decide +kernel) (by rw [c117_307_79]; decide) (by rw [c117_307_79]; decide) (by rw [c117_307_79]; decide) (by decide) ?_
                      refine CW.run (blk := [(.aload_n 1, 0), (.aload_n 0, 0), (.iconst 0, 0), (.aload_n 1, 0)]) (pc' := 198) (ls' := [some (.ref p0), some (.ref p1), some (.int p2), some (.int (S.1 p0 8)), some (.int w1), some (.int w56)]) (st' := [.ref p1, .int 0, .ref p0, .ref p1]) (by decide +kernel) rfl ?_
                      refine CW.getf (v := .int (q66.1 p1 9)) h1 (by decide) fl_RX3_30 (by decide +kernel) rfl ?_
                      refine CW.run (blk := [(.iconst 1, 1), (.isub, 0)]) (pc' := 203) (ls' := [some (.ref p0), some (.ref p1), some (.int p2), some (.int (S.1 p0 8)), some (.int w1), some (.int w56)]) (st' := [.int ((q66.1 p1 9) - 1), .int 0, .ref p0, .ref p1]) (by decide +kernel) rfl ?_
                      obtain ⟨q76, hq76, hf⟩ := bd_some hf
                      refine CW.callV (As := [.int 0, .int ((q66.1 p1 9) - 1)]) (st := [.ref p1]) lv_RX3_37 h0 (by decide) rfl rfl (by decide +kernel) (xc_X10_takeNumber h0 hq76) (by decide) (by decide) rfl (Nat.le_of_ble_eq_true rfl) rfl ?_
                      show CW l yy_X3_readClause 4 _ _ 206 [some (.ref p0), some (.ref p1), some (.int p2), some (.int (S.1 p0 8)), some (.int w1), some (.int w56)] [.int q76.1, .ref p1] q76.2
                      refine CW.putI h1 (by decide) fp_RX3_54 (by decide +kernel) (fun _ _ _ => Nat.le_of_ble_eq_true rfl) rfl rfl (fun _ _ _ => rfl) ?_
                      obtain ⟨S77, hS77, hf⟩ := letv_some hf
                      rw [← hS77]
                      have e9 := Option.some.inj hf
                      subst e9
                      exact CW.vret rfl (by decide +kernel)
                    refine CW.tableOut (dflt := 77) (lo := 305) (hi := 310) (offs := #[61, 77, 77, 39, 53, 69]) (len := 39) (tgt := 194) (by decide +kernel) (by have := ne_toInt c117_305_67 (k := 305) rfl; have := ne_toInt c117_308_69 (k := 308) rfl; have := ne_toInt c117_309_72 (k := 309) rfl; have := ne_toInt c117_310_74 (k := 310) rfl; have := ne_toInt c117_306_78 (k := 306) rfl; have := ne_toInt c117_307_79 (k := 307) rfl; omega) (by decide) ?_
                    refine CW.run (blk := [(.aload_n 1, 0), (.aload_n 0, 0), (.iconst 0, 0), (.aload_n 1, 0)]) (pc' := 198) (ls' := [some (.ref p0), some (.ref p1), some (.int p2), some (.int (S.1 p0 8)), some (.int w1), some (.int w56)]) (st' := [.ref p1, .int 0, .ref p0, .ref p1]) (by decide +kernel) rfl ?_
                    refine CW.getf (v := .int (q66.1 p1 9)) h1 (by decide) fl_RX3_30 (by decide +kernel) rfl ?_
                    refine CW.run (blk := [(.iconst 1, 1), (.isub, 0)]) (pc' := 203) (ls' := [some (.ref p0), some (.ref p1), some (.int p2), some (.int (S.1 p0 8)), some (.int w1), some (.int w56)]) (st' := [.int ((q66.1 p1 9) - 1), .int 0, .ref p0, .ref p1]) (by decide +kernel) rfl ?_
                    obtain ⟨q76, hq76, hf⟩ := bd_some hf
                    refine CW.callV (As := [.int 0, .int ((q66.1 p1 9) - 1)]) (st := [.ref p1]) lv_RX3_37 h0 (by decide) rfl rfl (by decide +kernel) (xc_X10_takeNumber h0 hq76) (by decide) (by decide) rfl (Nat.le_of_ble_eq_true rfl) rfl ?_
                    show CW l yy_X3_readClause 4 _ _ 206 [some (.ref p0), some (.ref p1), some (.int p2), some (.int (S.1 p0 8)), some (.int w1), some (.int w56)] [.int q76.1, .ref p1] q76.2
                    refine CW.putI h1 (by decide) fp_RX3_54 (by decide +kernel) (fun _ _ _ => Nat.le_of_ble_eq_true rfl) rfl rfl (fun _ _ _ => rfl) ?_
                    obtain ⟨S77, hS77, hf⟩ := letv_some hf
                    rw [← hS77]
                    have e9 := Option.some.inj hf
                    subst e9
                    exact CW.vret rfl (by decide +kernel)
                  · rw [if_neg c103_65] at hf
                    refine CW.run (blk := [(.aload_n 0, 0), (.iconst 4, 4)]) (pc' := 108) (ls' := [some (.ref p0), some (.ref p1), some (.int p2), some (.int (S.1 p0 8)), some (.int w1), some (.int w56)]) (st' := [.int 4, .ref p0]) (by decide +kernel) rfl ?_
                    obtain ⟨q80, hq80, hf⟩ := bd_some hf
                    refine CW.callV (As := [.int 4]) (st := []) lv_RX3_33 h0 (by decide) rfl rfl (by decide +kernel) (xc_X10_refuse h0 hq80) (by decide) (by decide) rfl (Nat.le_of_ble_eq_true rfl) rfl ?_
                    show CW l yy_X3_readClause 4 _ _ 111 [some (.ref p0), some (.ref p1), some (.int p2), some (.int (S.1 p0 8)), some (.int w1), some (.int w56)] [] q80
                    have e9 := Option.some.inj hf
                    subst e9
                    exact CW.vret rfl (by decide +kernel)
              clear hf
              refine CW.if_ne (off := 7) (tgt := 97) (by decide +kernel) (by decide) (fun c90_62 => ?_) (fun c90_62 => ?_)
              · rw [if_neg c90_62] at hw61
                refine CW.run (blk := [(.iconst 0, 0)]) (pc' := 98) (ls' := [some (.ref p0), some (.ref p1), some (.int p2), some (.int (S.1 p0 8)), some (.int w1), some (.int w56)]) (st' := [.int 0, .int w1]) (by decide +kernel) rfl ?_
                have e9 := Option.some.inj hw61
                subst e9
                exact hJ
              · rw [if_pos c90_62] at hw61
                refine CW.run (blk := [(.iconst 1, 1), (.goto 4, 0)]) (pc' := 98) (ls' := [some (.ref p0), some (.ref p1), some (.int p2), some (.int (S.1 p0 8)), some (.int w1), some (.int w56)]) (st' := [.int 1, .int w1]) (by decide +kernel) rfl ?_
                have e9 := Option.some.inj hw61
                subst e9
                exact hJ
          clear hf
          refine CW.icmp_ne (off := 16) (tgt := 78) (by decide +kernel) (by decide) (fun c62_57 => ?_) (fun c62_57 => ?_)
          · rw [if_neg c62_57] at hw56
            refine CW.run (blk := [(.iconst 0, 0)]) (pc' := 79) (ls' := [some (.ref p0), some (.ref p1), some (.int p2), some (.int (S.1 p0 8)), some (.int w1), none]) (st' := [.int 0]) (by decide +kernel) rfl ?_
            have e9 := Option.some.inj hw56
            subst e9
            exact hJ
          · rw [if_pos c62_57] at hw56
            refine CW.run (blk := [(.aload_n 1, 0)]) (pc' := 66) (ls' := [some (.ref p0), some (.ref p1), some (.int p2), some (.int (S.1 p0 8)), some (.int w1), none]) (st' := [.ref p1]) (by decide +kernel) rfl ?_
            refine CW.getf (v := .int (S.1 p1 9)) h1 (by decide) fl_RX3_30 (by decide +kernel) rfl ?_
            refine CW.run (blk := [(.bipush 8, 8)]) (pc' := 71) (ls' := [some (.ref p0), some (.ref p1), some (.int p2), some (.int (S.1 p0 8)), some (.int w1), none]) (st' := [.int 8, .int (S.1 p1 9)]) (by decide +kernel) rfl ?_
            refine CW.icmp_lt (off := 7) (tgt := 78) (by decide +kernel) (by decide) (fun c71_58 => ?_) (fun c71_58 => ?_)
            · rw [if_pos c71_58] at hw56
              refine CW.run (blk := [(.iconst 0, 0)]) (pc' := 79) (ls' := [some (.ref p0), some (.ref p1), some (.int p2), some (.int (S.1 p0 8)), some (.int w1), none]) (st' := [.int 0]) (by decide +kernel) rfl ?_
              have e9 := Option.some.inj hw56
              subst e9
              exact hJ
            · rw [if_neg c71_58] at hw56
              refine CW.run (blk := [(.iconst 1, 1), (.goto 4, 0)]) (pc' := 79) (ls' := [some (.ref p0), some (.ref p1), some (.int p2), some (.int (S.1 p0 8)), some (.int w1), none]) (st' := [.int 1]) (by decide +kernel) rfl ?_
              have e9 := Option.some.inj hw56
              subst e9
              exact hJ
        · rw [if_neg c35_55] at hf
          refine CW.run (blk := [(.iload_n 3, 0), (.sipush 310, 310)]) (pc' := 42) (ls' := [some (.ref p0), some (.ref p1), some (.int p2), some (.int (S.1 p0 8)), some (.int w1), none]) (st' := [.int 310, .int (S.1 p0 8)]) (by decide +kernel) rfl ?_
          refine CW.icmp_eq (off := 16) (tgt := 58) (by decide +kernel) (by decide) (fun c42_81 => ?_) (fun c42_81 => ?_)
          · rw [if_pos c42_81] at hf
            refine CW.run (blk := [(.iload_n 3, 0), (.sipush 309, 309)]) (pc' := 62) (ls' := [some (.ref p0), some (.ref p1), some (.int p2), some (.int (S.1 p0 8)), some (.int w1), none]) (st' := [.int 309, .int (S.1 p0 8)]) (by decide +kernel) rfl ?_
            obtain ⟨w82, hw82, hf⟩ := bd_some hf
            have hJ : CW l yy_X3_readClause 4 none q 79 [some (.ref p0), some (.ref p1), some (.int p2), some (.int (S.1 p0 8)), some (.int w1), none] [.int w82] S := by
              refine CW.run (blk := [(.istore 5, 0), (.iload_n 2, 0), (.bipush 40, 40)]) (pc' := 84) (ls' := [some (.ref p0), some (.ref p1), some (.int p2), some (.int (S.1 p0 8)), some (.int w1), some (.int w82)]) (st' := [.int 40, .int p2]) (by decide +kernel) rfl ?_
              refine CW.icmp_ge (off := 22) (tgt := 106) (by decide +kernel) (by decide) (fun c84_85 => ?_) (fun c84_85 => ?_)
              · rw [if_pos c84_85] at hf
                refine CW.run (blk := [(.aload_n 0, 0), (.iconst 4, 4)]) (pc' := 108) (ls' := [some (.ref p0), some (.ref p1), some (.int p2), some (.int (S.1 p0 8)), some (.int w1), some (.int w82)]) (st' := [.int 4, .ref p0]) (by decide +kernel) rfl ?_
                obtain ⟨q86, hq86, hf⟩ := bd_some hf
                refine CW.callV (As := [.int 4]) (st := []) lv_RX3_33 h0 (by decide) rfl rfl (by decide +kernel) (xc_X10_refuse h0 hq86) (by decide) (by decide) rfl (Nat.le_of_ble_eq_true rfl) rfl ?_
                show CW l yy_X3_readClause 4 _ _ 111 [some (.ref p0), some (.ref p1), some (.int p2), some (.int (S.1 p0 8)), some (.int w1), some (.int w82)] [] q86
                have e9 := Option.some.inj hf
                subst e9
                exact CW.vret rfl (by decide +kernel)
              · rw [if_neg c84_85] at hf
                refine CW.run (blk := [(.iload 4, 0), (.iload_n 2, 0)]) (pc' := 90) (ls' := [some (.ref p0), some (.ref p1), some (.int p2), some (.int (S.1 p0 8)), some (.int w1), some (.int w82)]) (st' := [.int p2, .int w1]) (by decide +kernel) rfl ?_
                obtain ⟨w87, hw87, hf⟩ := bd_some hf
                have hJ : CW l yy_X3_readClause 4 none q 98 [some (.ref p0), some (.ref p1), some (.int p2), some (.int (S.1 p0 8)), some (.int w1), some (.int w82)] [.int w87, .int w1] S := by
                  refine CW.icmp_ne (off := 8) (tgt := 106) (by decide +kernel) (by decide) (fun c98_89 => ?_) (fun c98_89 => ?_)
                  · rw [if_neg c98_89] at hf
                    refine CW.run (blk := [(.aload_n 0, 0), (.iconst 4, 4)]) (pc' := 108) (ls' := [some (.ref p0), some (.ref p1), some (.int p2), some (.int (S.1 p0 8)), some (.int w1), some (.int w82)]) (st' := [.int 4, .ref p0]) (by decide +kernel) rfl ?_
                    obtain ⟨q90, hq90, hf⟩ := bd_some hf
                    refine CW.callV (As := [.int 4]) (st := []) lv_RX3_33 h0 (by decide) rfl rfl (by decide +kernel) (xc_X10_refuse h0 hq90) (by decide) (by decide) rfl (Nat.le_of_ble_eq_true rfl) rfl ?_
                    show CW l yy_X3_readClause 4 _ _ 111 [some (.ref p0), some (.ref p1), some (.int p2), some (.int (S.1 p0 8)), some (.int w1), some (.int w82)] [] q90
                    have e9 := Option.some.inj hf
                    subst e9
                    exact CW.vret rfl (by decide +kernel)
                  · rw [if_pos c98_89] at hf
                    refine CW.run (blk := [(.iload 5, 0)]) (pc' := 103) (ls' := [some (.ref p0), some (.ref p1), some (.int p2), some (.int (S.1 p0 8)), some (.int w1), some (.int w82)]) (st' := [.int w82]) (by decide +kernel) rfl ?_
                    refine CW.if_eq (off := 9) (tgt := 112) (by decide +kernel) (by decide) (fun c103_91 => ?_) (fun c103_91 => ?_)
                    · rw [if_pos c103_91] at hf
                      refine CW.run (blk := [(.aload_n 0, 0)]) (pc' := 113) (ls' := [some (.ref p0), some (.ref p1), some (.int p2), some (.int (S.1 p0 8)), some (.int w1), some (.int w82)]) (st' := [.ref p0]) (by decide +kernel) rfl ?_
                      obtain ⟨q92, hq92, hf⟩ := bd_some hf
                      refine CW.callV (As := []) (st := []) lv_RX3_27 h0 (by decide) rfl rfl (by decide +kernel) (xc_X10_step h0 hq92) (by decide) (by decide) rfl (Nat.le_of_ble_eq_true rfl) rfl ?_
                      show CW l yy_X3_readClause 4 _ _ 116 [some (.ref p0), some (.ref p1), some (.int p2), some (.int (S.1 p0 8)), some (.int w1), some (.int w82)] [] q92
                      refine CW.run (blk := [(.iload_n 3, 0)]) (pc' := 117) (ls' := [some (.ref p0), some (.ref p1), some (.int p2), some (.int (S.1 p0 8)), some (.int w1), some (.int w82)]) (st' := [.int (S.1 p0 8)]) (by decide +kernel) rfl ?_
                      by_cases c117_305_93 : (S.1 p0 8) = 305
                      · rw [if_pos c117_305_93] at hf
                        refine CW.tableIn (dflt := 77) (lo := 305) (hi := 310) (offs := #[61, 77, 77, 39, 53, 69]) (len := 39) (off := 61) (tgt := 178) (by decide +kernel) (by rw [c117_305_93]; decide) (by rw [c117_305_93]; decide) (by rw [c117_305_93]; decide) (by decide) ?_
                        refine CW.run (blk := [(.aload_n 0, 0), (.aload_n 1, 0)]) (pc' := 180) (ls' := [some (.ref p0), some (.ref p1), some (.int p2), some (.int (S.1 p0 8)), some (.int w1), some (.int w82)]) (st' := [.ref p1, .ref p0]) (by decide +kernel) rfl ?_
                        obtain ⟨q94, hq94, hf⟩ := bd_some hf
                        refine CW.callS (As := [.ref p0, .ref p1]) (st := []) lt_RX3_48 (by decide +kernel) (xc_X3_readTie h0 h1 hq94) (by decide) (by decide) rfl (Nat.le_of_ble_eq_true rfl) rfl ?_
                        show CW l yy_X3_readClause 4 _ _ 183 [some (.ref p0), some (.ref p1), some (.int p2), some (.int (S.1 p0 8)), some (.int w1), some (.int w82)] [] q94
                        refine CW.run (blk := [(.goto 26, 0)]) (pc' := 209) (ls' := [some (.ref p0), some (.ref p1), some (.int p2), some (.int (S.1 p0 8)), some (.int w1), some (.int w82)]) (st' := []) (by decide +kernel) rfl ?_
                        have e9 := Option.some.inj hf
                        subst e9
                        exact CW.vret rfl (by decide +kernel)
                      rw [if_neg c117_305_93] at hf
                      by_cases c117_308_95 : (S.1 p0 8) = 308
                      · rw [if_pos c117_308_95] at hf
                        refine CW.tableIn (dflt := 77) (lo := 305) (hi := 310) (offs := #[61, 77, 77, 39, 53, 69]) (len := 39) (off := 39) (tgt := 156) (by decide +kernel) (by rw [c117_308_95]; decide) (by rw [c117_308_95]; decide) (by rw [c117_308_95]; decide) (by decide) ?_
                        refine CW.run (blk := [(.aload_n 1, 0), (.aload_n 0, 0), (.iconst 1, 1), (.bipush 6, 6)]) (pc' := 161) (ls' := [some (.ref p0), some (.ref p1), some (.int p2), some (.int (S.1 p0 8)), some (.int w1), some (.int w82)]) (st' := [.int 6, .int 1, .ref p0, .ref p1]) (by decide +kernel) rfl ?_
                        obtain ⟨q96, hq96, hf⟩ := bd_some hf
                        refine CW.callV (As := [.int 1, .int 6]) (st := [.ref p1]) lv_RX3_37 h0 (by decide) rfl rfl (by decide +kernel) (xc_X10_takeNumber h0 hq96) (by decide) (by decide) rfl (Nat.le_of_ble_eq_true rfl) rfl ?_
                        show CW l yy_X3_readClause 4 _ _ 164 [some (.ref p0), some (.ref p1), some (.int p2), some (.int (S.1 p0 8)), some (.int w1), some (.int w82)] [.int q96.1, .ref p1] q96.2
                        refine CW.putI h1 (by decide) fp_RX3_41 (by decide +kernel) (fun _ _ _ => Nat.le_of_ble_eq_true rfl) rfl rfl (fun _ _ _ => rfl) ?_
                        obtain ⟨S97, hS97, hf⟩ := letv_some hf
                        rw [← hS97]
                        refine CW.run (blk := [(.goto 42, 0)]) (pc' := 209) (ls' := [some (.ref p0), some (.ref p1), some (.int p2), some (.int (S.1 p0 8)), some (.int w1), some (.int w82)]) (st' := []) (by decide +kernel) rfl ?_
                        have e9 := Option.some.inj hf
                        subst e9
                        exact CW.vret rfl (by decide +kernel)
                      rw [if_neg c117_308_95] at hf
                      by_cases c117_309_98 : (S.1 p0 8) = 309
                      · rw [if_pos c117_309_98] at hf
                        refine CW.tableIn (dflt := 77) (lo := 305) (hi := 310) (offs := #[61, 77, 77, 39, 53, 69]) (len := 39) (off := 53) (tgt := 170) (by decide +kernel) (by rw [c117_309_98]; decide) (by rw [c117_309_98]; decide) (by rw [c117_309_98]; decide) (by decide) ?_
                        refine CW.run (blk := [(.aload_n 0, 0), (.aload_n 1, 0)]) (pc' := 172) (ls' := [some (.ref p0), some (.ref p1), some (.int p2), some (.int (S.1 p0 8)), some (.int w1), some (.int w82)]) (st' := [.ref p1, .ref p0]) (by decide +kernel) rfl ?_
                        obtain ⟨q99, hq99, hf⟩ := bd_some hf
                        refine CW.callS (As := [.ref p0, .ref p1]) (st := []) lt_RX3_44 (by decide +kernel) (xc_X3_readPerson h0 h1 hq99) (by decide) (by decide) rfl (Nat.le_of_ble_eq_true rfl) rfl ?_
                        show CW l yy_X3_readClause 4 _ _ 175 [some (.ref p0), some (.ref p1), some (.int p2), some (.int (S.1 p0 8)), some (.int w1), some (.int w82)] [] q99
                        refine CW.run (blk := [(.goto 34, 0)]) (pc' := 209) (ls' := [some (.ref p0), some (.ref p1), some (.int p2), some (.int (S.1 p0 8)), some (.int w1), some (.int w82)]) (st' := []) (by decide +kernel) rfl ?_
                        have e9 := Option.some.inj hf
                        subst e9
                        exact CW.vret rfl (by decide +kernel)
                      rw [if_neg c117_309_98] at hf
                      by_cases c117_310_100 : (S.1 p0 8) = 310
                      · rw [if_pos c117_310_100] at hf
                        refine CW.tableIn (dflt := 77) (lo := 305) (hi := 310) (offs := #[61, 77, 77, 39, 53, 69]) (len := 39) (off := 69) (tgt := 186) (by decide +kernel) (by rw [c117_310_100]; decide) (by rw [c117_310_100]; decide) (by rw [c117_310_100]; decide) (by decide) ?_
                        refine CW.run (blk := [(.aload_n 0, 0), (.aload_n 1, 0)]) (pc' := 188) (ls' := [some (.ref p0), some (.ref p1), some (.int p2), some (.int (S.1 p0 8)), some (.int w1), some (.int w82)]) (st' := [.ref p1, .ref p0]) (by decide +kernel) rfl ?_
                        obtain ⟨q101, hq101, hf⟩ := bd_some hf
                        refine CW.callS (As := [.ref p0, .ref p1]) (st := []) lt_RX3_51 (by decide +kernel) (xc_X3_readBoat h0 h1 hq101) (by decide) (by decide) rfl (Nat.le_of_ble_eq_true rfl) rfl ?_
                        show CW l yy_X3_readClause 4 _ _ 191 [some (.ref p0), some (.ref p1), some (.int p2), some (.int (S.1 p0 8)), some (.int w1), some (.int w82)] [] q101
                        refine CW.run (blk := [(.goto 18, 0)]) (pc' := 209) (ls' := [some (.ref p0), some (.ref p1), some (.int p2), some (.int (S.1 p0 8)), some (.int w1), some (.int w82)]) (st' := []) (by decide +kernel) rfl ?_
                        have e9 := Option.some.inj hf
                        subst e9
                        exact CW.vret rfl (by decide +kernel)
                      rw [if_neg c117_310_100] at hf
                      by_cases c117_306_104 : (S.1 p0 8) = 306
                      · refine CW.tableIn (dflt := 77) (lo := 305) (hi := 310) (offs := #[61, 77, 77, 39, 53, 69]) (len := 39) (off := 77) (tgt := 194) (by decide +kernel) (by rw [c117_306_104]; decide) (by rw [c117_306_104]; decide) (by rw [c117_306_104]; decide) (by decide) ?_
                        refine CW.run (blk := [(.aload_n 1, 0), (.aload_n 0, 0), (.iconst 0, 0), (.aload_n 1, 0)]) (pc' := 198) (ls' := [some (.ref p0), some (.ref p1), some (.int p2), some (.int (S.1 p0 8)), some (.int w1), some (.int w82)]) (st' := [.ref p1, .int 0, .ref p0, .ref p1]) (by decide +kernel) rfl ?_
                        refine CW.getf (v := .int (q92.1 p1 9)) h1 (by decide) fl_RX3_30 (by decide +kernel) rfl ?_
                        refine CW.run (blk := [(.iconst 1, 1), (.isub, 0)]) (pc' := 203) (ls' := [some (.ref p0), some (.ref p1), some (.int p2), some (.int (S.1 p0 8)), some (.int w1), some (.int w82)]) (st' := [.int ((q92.1 p1 9) - 1), .int 0, .ref p0, .ref p1]) (by decide +kernel) rfl ?_
                        obtain ⟨q102, hq102, hf⟩ := bd_some hf
                        refine CW.callV (As := [.int 0, .int ((q92.1 p1 9) - 1)]) (st := [.ref p1]) lv_RX3_37 h0 (by decide) rfl rfl (by decide +kernel) (xc_X10_takeNumber h0 hq102) (by decide) (by decide) rfl (Nat.le_of_ble_eq_true rfl) rfl ?_
                        show CW l yy_X3_readClause 4 _ _ 206 [some (.ref p0), some (.ref p1), some (.int p2), some (.int (S.1 p0 8)), some (.int w1), some (.int w82)] [.int q102.1, .ref p1] q102.2
                        refine CW.putI h1 (by decide) fp_RX3_54 (by decide +kernel) (fun _ _ _ => Nat.le_of_ble_eq_true rfl) rfl rfl (fun _ _ _ => rfl) ?_
                        obtain ⟨S103, hS103, hf⟩ := letv_some hf
                        rw [← hS103]
                        have e9 := Option.some.inj hf
                        subst e9
                        exact CW.vret rfl (by decide +kernel)
                      by_cases c117_307_105 : (S.1 p0 8) = 307
                      · refine CW.tableIn (dflt := 77) (lo := 305) (hi := 310) (offs := #[61, 77, 77, 39, 53, 69]) (len := 39) (off := 77) (tgt := 194) (by decide +kernel) (by rw [c117_307_105]; decide) (by rw [c117_307_105]; decide) (by rw [c117_307_105]; decide) (by decide) ?_
                        refine CW.run (blk := [(.aload_n 1, 0), (.aload_n 0, 0), (.iconst 0, 0), (.aload_n 1, 0)]) (pc' := 198) (ls' := [some (.ref p0), some (.ref p1), some (.int p2), some (.int (S.1 p0 8)), some (.int w1), some (.int w82)]) (st' := [.ref p1, .int 0, .ref p0, .ref p1]) (by decide +kernel) rfl ?_
                        refine CW.getf (v := .int (q92.1 p1 9)) h1 (by decide) fl_RX3_30 (by decide +kernel) rfl ?_
                        refine CW.run (blk := [(.iconst 1, 1), (.isub, 0)]) (pc' := 203) (ls' := [some (.ref p0), some (.ref p1), some (.int p2), some (.int (S.1 p0 8)), some (.int w1), some (.int w82)]) (st' := [.int ((q92.1 p1 9) - 1), .int 0, .ref p0, .ref p1]) (by decide +kernel) rfl ?_
                        obtain ⟨q102, hq102, hf⟩ := bd_some hf
                        refine CW.callV (As := [.int 0, .int ((q92.1 p1 9) - 1)]) (st := [.ref p1]) lv_RX3_37 h0 (by decide) rfl rfl (by decide +kernel) (xc_X10_takeNumber h0 hq102) (by decide) (by decide) rfl (Nat.le_of_ble_eq_true rfl) rfl ?_
                        show CW l yy_X3_readClause 4 _ _ 206 [some (.ref p0), some (.ref p1), some (.int p2), some (.int (S.1 p0 8)), some (.int w1), some (.int w82)] [.int q102.1, .ref p1] q102.2
                        refine CW.putI h1 (by decide) fp_RX3_54 (by decide +kernel) (fun _ _ _ => Nat.le_of_ble_eq_true rfl) rfl rfl (fun _ _ _ => rfl) ?_
                        obtain ⟨S103, hS103, hf⟩ := letv_some hf
                        rw [← hS103]
                        have e9 := Option.some.inj hf
                        subst e9
                        exact CW.vret rfl (by decide +kernel)
                      refine CW.tableOut (dflt := 77) (lo := 305) (hi := 310) (offs := #[61, 77, 77, 39, 53, 69]) (len := 39) (tgt := 194) (by decide +kernel) (by have := ne_toInt c117_305_93 (k := 305) rfl; have := ne_toInt c117_308_95 (k := 308) rfl; have := ne_toInt c117_309_98 (k := 309) rfl; have := ne_toInt c117_310_100 (k := 310) rfl; have := ne_toInt c117_306_104 (k := 306) rfl; have := ne_toInt c117_307_105 (k := 307) rfl; omega) (by decide) ?_
                      refine CW.run (blk := [(.aload_n 1, 0), (.aload_n 0, 0), (.iconst 0, 0), (.aload_n 1, 0)]) (pc' := 198) (ls' := [some (.ref p0), some (.ref p1), some (.int p2), some (.int (S.1 p0 8)), some (.int w1), some (.int w82)]) (st' := [.ref p1, .int 0, .ref p0, .ref p1]) (by decide +kernel) rfl ?_
                      refine CW.getf (v := .int (q92.1 p1 9)) h1 (by decide) fl_RX3_30 (by decide +kernel) rfl ?_
                      refine CW.run (blk := [(.iconst 1, 1), (.isub, 0)]) (pc' := 203) (ls' := [some (.ref p0), some (.ref p1), some (.int p2), some (.int (S.1 p0 8)), some (.int w1), some (.int w82)]) (st' := [.int ((q92.1 p1 9) - 1), .int 0, .ref p0, .ref p1]) (by decide +kernel) rfl ?_
                      obtain ⟨q102, hq102, hf⟩ := bd_some hf
                      refine CW.callV (As := [.int 0, .int ((q92.1 p1 9) - 1)]) (st := [.ref p1]) lv_RX3_37 h0 (by decide) rfl rfl (by decide +kernel) (xc_X10_takeNumber h0 hq102) (by decide) (by decide) rfl (Nat.le_of_ble_eq_true rfl) rfl ?_
                      show CW l yy_X3_readClause 4 _ _ 206 [some (.ref p0), some (.ref p1), some (.int p2), some (.int (S.1 p0 8)), some (.int w1), some (.int w82)] [.int q102.1, .ref p1] q102.2
                      refine CW.putI h1 (by decide) fp_RX3_54 (by decide +kernel) (fun _ _ _ => Nat.le_of_ble_eq_true rfl) rfl rfl (fun _ _ _ => rfl) ?_
                      obtain ⟨S103, hS103, hf⟩ := letv_some hf
                      rw [← hS103]
                      have e9 := Option.some.inj hf
                      subst e9
                      exact CW.vret rfl (by decide +kernel)
                    · rw [if_neg c103_91] at hf
                      refine CW.run (blk := [(.aload_n 0, 0), (.iconst 4, 4)]) (pc' := 108) (ls' := [some (.ref p0), some (.ref p1), some (.int p2), some (.int (S.1 p0 8)), some (.int w1), some (.int w82)]) (st' := [.int 4, .ref p0]) (by decide +kernel) rfl ?_
                      obtain ⟨q106, hq106, hf⟩ := bd_some hf
                      refine CW.callV (As := [.int 4]) (st := []) lv_RX3_33 h0 (by decide) rfl rfl (by decide +kernel) (xc_X10_refuse h0 hq106) (by decide) (by decide) rfl (Nat.le_of_ble_eq_true rfl) rfl ?_
                      show CW l yy_X3_readClause 4 _ _ 111 [some (.ref p0), some (.ref p1), some (.int p2), some (.int (S.1 p0 8)), some (.int w1), some (.int w82)] [] q106
                      have e9 := Option.some.inj hf
                      subst e9
                      exact CW.vret rfl (by decide +kernel)
                clear hf
                refine CW.if_ne (off := 7) (tgt := 97) (by decide +kernel) (by decide) (fun c90_88 => ?_) (fun c90_88 => ?_)
                · rw [if_neg c90_88] at hw87
                  refine CW.run (blk := [(.iconst 0, 0)]) (pc' := 98) (ls' := [some (.ref p0), some (.ref p1), some (.int p2), some (.int (S.1 p0 8)), some (.int w1), some (.int w82)]) (st' := [.int 0, .int w1]) (by decide +kernel) rfl ?_
                  have e9 := Option.some.inj hw87
                  subst e9
                  exact hJ
                · rw [if_pos c90_88] at hw87
                  refine CW.run (blk := [(.iconst 1, 1), (.goto 4, 0)]) (pc' := 98) (ls' := [some (.ref p0), some (.ref p1), some (.int p2), some (.int (S.1 p0 8)), some (.int w1), some (.int w82)]) (st' := [.int 1, .int w1]) (by decide +kernel) rfl ?_
                  have e9 := Option.some.inj hw87
                  subst e9
                  exact hJ
            clear hf
            refine CW.icmp_ne (off := 16) (tgt := 78) (by decide +kernel) (by decide) (fun c62_83 => ?_) (fun c62_83 => ?_)
            · rw [if_neg c62_83] at hw82
              refine CW.run (blk := [(.iconst 0, 0)]) (pc' := 79) (ls' := [some (.ref p0), some (.ref p1), some (.int p2), some (.int (S.1 p0 8)), some (.int w1), none]) (st' := [.int 0]) (by decide +kernel) rfl ?_
              have e9 := Option.some.inj hw82
              subst e9
              exact hJ
            · rw [if_pos c62_83] at hw82
              refine CW.run (blk := [(.aload_n 1, 0)]) (pc' := 66) (ls' := [some (.ref p0), some (.ref p1), some (.int p2), some (.int (S.1 p0 8)), some (.int w1), none]) (st' := [.ref p1]) (by decide +kernel) rfl ?_
              refine CW.getf (v := .int (S.1 p1 9)) h1 (by decide) fl_RX3_30 (by decide +kernel) rfl ?_
              refine CW.run (blk := [(.bipush 8, 8)]) (pc' := 71) (ls' := [some (.ref p0), some (.ref p1), some (.int p2), some (.int (S.1 p0 8)), some (.int w1), none]) (st' := [.int 8, .int (S.1 p1 9)]) (by decide +kernel) rfl ?_
              refine CW.icmp_lt (off := 7) (tgt := 78) (by decide +kernel) (by decide) (fun c71_84 => ?_) (fun c71_84 => ?_)
              · rw [if_pos c71_84] at hw82
                refine CW.run (blk := [(.iconst 0, 0)]) (pc' := 79) (ls' := [some (.ref p0), some (.ref p1), some (.int p2), some (.int (S.1 p0 8)), some (.int w1), none]) (st' := [.int 0]) (by decide +kernel) rfl ?_
                have e9 := Option.some.inj hw82
                subst e9
                exact hJ
              · rw [if_neg c71_84] at hw82
                refine CW.run (blk := [(.iconst 1, 1), (.goto 4, 0)]) (pc' := 79) (ls' := [some (.ref p0), some (.ref p1), some (.int p2), some (.int (S.1 p0 8)), some (.int w1), none]) (st' := [.int 1]) (by decide +kernel) rfl ?_
                have e9 := Option.some.inj hw82
                subst e9
                exact hJ
          · rw [if_neg c42_81] at hf
            refine CW.run (blk := [(.iload_n 3, 0), (.sipush 311, 311)]) (pc' := 49) (ls' := [some (.ref p0), some (.ref p1), some (.int p2), some (.int (S.1 p0 8)), some (.int w1), none]) (st' := [.int 311, .int (S.1 p0 8)]) (by decide +kernel) rfl ?_
            refine CW.icmp_eq (off := 9) (tgt := 58) (by decide +kernel) (by decide) (fun c49_107 => ?_) (fun c49_107 => ?_)
            · rw [if_pos c49_107] at hf
              refine CW.run (blk := [(.iload_n 3, 0), (.sipush 309, 309)]) (pc' := 62) (ls' := [some (.ref p0), some (.ref p1), some (.int p2), some (.int (S.1 p0 8)), some (.int w1), none]) (st' := [.int 309, .int (S.1 p0 8)]) (by decide +kernel) rfl ?_
              obtain ⟨w108, hw108, hf⟩ := bd_some hf
              have hJ : CW l yy_X3_readClause 4 none q 79 [some (.ref p0), some (.ref p1), some (.int p2), some (.int (S.1 p0 8)), some (.int w1), none] [.int w108] S := by
                refine CW.run (blk := [(.istore 5, 0), (.iload_n 2, 0), (.bipush 40, 40)]) (pc' := 84) (ls' := [some (.ref p0), some (.ref p1), some (.int p2), some (.int (S.1 p0 8)), some (.int w1), some (.int w108)]) (st' := [.int 40, .int p2]) (by decide +kernel) rfl ?_
                refine CW.icmp_ge (off := 22) (tgt := 106) (by decide +kernel) (by decide) (fun c84_111 => ?_) (fun c84_111 => ?_)
                · rw [if_pos c84_111] at hf
                  refine CW.run (blk := [(.aload_n 0, 0), (.iconst 4, 4)]) (pc' := 108) (ls' := [some (.ref p0), some (.ref p1), some (.int p2), some (.int (S.1 p0 8)), some (.int w1), some (.int w108)]) (st' := [.int 4, .ref p0]) (by decide +kernel) rfl ?_
                  obtain ⟨q112, hq112, hf⟩ := bd_some hf
                  refine CW.callV (As := [.int 4]) (st := []) lv_RX3_33 h0 (by decide) rfl rfl (by decide +kernel) (xc_X10_refuse h0 hq112) (by decide) (by decide) rfl (Nat.le_of_ble_eq_true rfl) rfl ?_
                  show CW l yy_X3_readClause 4 _ _ 111 [some (.ref p0), some (.ref p1), some (.int p2), some (.int (S.1 p0 8)), some (.int w1), some (.int w108)] [] q112
                  have e9 := Option.some.inj hf
                  subst e9
                  exact CW.vret rfl (by decide +kernel)
                · rw [if_neg c84_111] at hf
                  refine CW.run (blk := [(.iload 4, 0), (.iload_n 2, 0)]) (pc' := 90) (ls' := [some (.ref p0), some (.ref p1), some (.int p2), some (.int (S.1 p0 8)), some (.int w1), some (.int w108)]) (st' := [.int p2, .int w1]) (by decide +kernel) rfl ?_
                  obtain ⟨w113, hw113, hf⟩ := bd_some hf
                  have hJ : CW l yy_X3_readClause 4 none q 98 [some (.ref p0), some (.ref p1), some (.int p2), some (.int (S.1 p0 8)), some (.int w1), some (.int w108)] [.int w113, .int w1] S := by
                    refine CW.icmp_ne (off := 8) (tgt := 106) (by decide +kernel) (by decide) (fun c98_115 => ?_) (fun c98_115 => ?_)
                    · rw [if_neg c98_115] at hf
                      refine CW.run (blk := [(.aload_n 0, 0), (.iconst 4, 4)]) (pc' := 108) (ls' := [some (.ref p0), some (.ref p1), some (.int p2), some (.int (S.1 p0 8)), some (.int w1), some (.int w108)]) (st' := [.int 4, .ref p0]) (by decide +kernel) rfl ?_
                      obtain ⟨q116, hq116, hf⟩ := bd_some hf
                      refine CW.callV (As := [.int 4]) (st := []) lv_RX3_33 h0 (by decide) rfl rfl (by decide +kernel) (xc_X10_refuse h0 hq116) (by decide) (by decide) rfl (Nat.le_of_ble_eq_true rfl) rfl ?_
                      show CW l yy_X3_readClause 4 _ _ 111 [some (.ref p0), some (.ref p1), some (.int p2), some (.int (S.1 p0 8)), some (.int w1), some (.int w108)] [] q116
                      have e9 := Option.some.inj hf
                      subst e9
                      exact CW.vret rfl (by decide +kernel)
                    · rw [if_pos c98_115] at hf
                      refine CW.run (blk := [(.iload 5, 0)]) (pc' := 103) (ls' := [some (.ref p0), some (.ref p1), some (.int p2), some (.int (S.1 p0 8)), some (.int w1), some (.int w108)]) (st' := [.int w108]) (by decide +kernel) rfl ?_
                      refine CW.if_eq (off := 9) (tgt := 112) (by decide +kernel) (by decide) (fun c103_117 => ?_) (fun c103_117 => ?_)
                      · rw [if_pos c103_117] at hf
                        refine CW.run (blk := [(.aload_n 0, 0)]) (pc' := 113) (ls' := [some (.ref p0), some (.ref p1), some (.int p2), some (.int (S.1 p0 8)), some (.int w1), some (.int w108)]) (st' := [.ref p0]) (by decide +kernel) rfl ?_
                        obtain ⟨q118, hq118, hf⟩ := bd_some hf
                        refine CW.callV (As := []) (st := []) lv_RX3_27 h0 (by decide) rfl rfl (by decide +kernel) (xc_X10_step h0 hq118) (by decide) (by decide) rfl (Nat.le_of_ble_eq_true rfl) rfl ?_
                        show CW l yy_X3_readClause 4 _ _ 116 [some (.ref p0), some (.ref p1), some (.int p2), some (.int (S.1 p0 8)), some (.int w1), some (.int w108)] [] q118
                        refine CW.run (blk := [(.iload_n 3, 0)]) (pc' := 117) (ls' := [some (.ref p0), some (.ref p1), some (.int p2), some (.int (S.1 p0 8)), some (.int w1), some (.int w108)]) (st' := [.int (S.1 p0 8)]) (by decide +kernel) rfl ?_
                        by_cases c117_305_119 : (S.1 p0 8) = 305
                        · rw [if_pos c117_305_119] at hf
                          refine CW.tableIn (dflt := 77) (lo := 305) (hi := 310) (offs := #[61, 77, 77, 39, 53, 69]) (len := 39) (off := 61) (tgt := 178) (by decide +kernel) (by rw [c117_305_119]; decide) (by rw [c117_305_119]; decide) (by rw [c117_305_119]; decide) (by decide) ?_
                          refine CW.run (blk := [(.aload_n 0, 0), (.aload_n 1, 0)]) (pc' := 180) (ls' := [some (.ref p0), some (.ref p1), some (.int p2), some (.int (S.1 p0 8)), some (.int w1), some (.int w108)]) (st' := [.ref p1, .ref p0]) (by decide +kernel) rfl ?_
                          obtain ⟨q120, hq120, hf⟩ := bd_some hf
                          refine CW.callS (As := [.ref p0, .ref p1]) (st := []) lt_RX3_48 (by decide +kernel) (xc_X3_readTie h0 h1 hq120) (by decide) (by decide) rfl (Nat.le_of_ble_eq_true rfl) rfl ?_
                          show CW l yy_X3_readClause 4 _ _ 183 [some (.ref p0), some (.ref p1), some (.int p2), some (.int (S.1 p0 8)), some (.int w1), some (.int w108)] [] q120
                          refine CW.run (blk := [(.goto 26, 0)]) (pc' := 209) (ls' := [some (.ref p0), some (.ref p1), some (.int p2), some (.int (S.1 p0 8)), some (.int w1), some (.int w108)]) (st' := []) (by decide +kernel) rfl ?_
                          have e9 := Option.some.inj hf
                          subst e9
                          exact CW.vret rfl (by decide +kernel)
                        rw [if_neg c117_305_119] at hf
                        by_cases c117_308_121 : (S.1 p0 8) = 308
                        · rw [if_pos c117_308_121] at hf
                          refine CW.tableIn (dflt := 77) (lo := 305) (hi := 310) (offs := #[61, 77, 77, 39, 53, 69]) (len := 39) (off := 39) (tgt := 156) (by decide +kernel) (by rw [c117_308_121]; decide) (by rw [c117_308_121]; decide) (by rw [c117_308_121]; decide) (by decide) ?_
                          refine CW.run (blk := [(.aload_n 1, 0), (.aload_n 0, 0), (.iconst 1, 1), (.bipush 6, 6)]) (pc' := 161) (ls' := [some (.ref p0), some (.ref p1), some (.int p2), some (.int (S.1 p0 8)), some (.int w1), some (.int w108)]) (st' := [.int 6, .int 1, .ref p0, .ref p1]) (by decide +kernel) rfl ?_
                          obtain ⟨q122, hq122, hf⟩ := bd_some hf
                          refine CW.callV (As := [.int 1, .int 6]) (st := [.ref p1]) lv_RX3_37 h0 (by decide) rfl rfl (by decide +kernel) (xc_X10_takeNumber h0 hq122) (by decide) (by decide) rfl (Nat.le_of_ble_eq_true rfl) rfl ?_
                          show CW l yy_X3_readClause 4 _ _ 164 [some (.ref p0), some (.ref p1), some (.int p2), some (.int (S.1 p0 8)), some (.int w1), some (.int w108)] [.int q122.1, .ref p1] q122.2
                          refine CW.putI h1 (by decide) fp_RX3_41 (by decide +kernel) (fun _ _ _ => Nat.le_of_ble_eq_true rfl) rfl rfl (fun _ _ _ => rfl) ?_
                          obtain ⟨S123, hS123, hf⟩ := letv_some hf
                          rw [← hS123]
                          refine CW.run (blk := [(.goto 42, 0)]) (pc' := 209) (ls' := [some (.ref p0), some (.ref p1), some (.int p2), some (.int (S.1 p0 8)), some (.int w1), some (.int w108)]) (st' := []) (by decide +kernel) rfl ?_
                          have e9 := Option.some.inj hf
                          subst e9
                          exact CW.vret rfl (by decide +kernel)
                        rw [if_neg c117_308_121] at hf
                        by_cases c117_309_124 : (S.1 p0 8) = 309
                        · rw [if_pos c117_309_124] at hf
                          refine CW.tableIn (dflt := 77) (lo := 305) (hi := 310) (offs := #[61, 77, 77, 39, 53, 69]) (len := 39) (off := 53) (tgt := 170) (by decide +kernel) (by rw [c117_309_124]; decide) (by rw [c117_309_124]; decide) (by rw [c117_309_124]; decide) (by decide) ?_
                          refine CW.run (blk := [(.aload_n 0, 0), (.aload_n 1, 0)]) (pc' := 172) (ls' := [some (.ref p0), some (.ref p1), some (.int p2), some (.int (S.1 p0 8)), some (.int w1), some (.int w108)]) (st' := [.ref p1, .ref p0]) (by decide +kernel) rfl ?_
                          obtain ⟨q125, hq125, hf⟩ := bd_some hf
                          refine CW.callS (As := [.ref p0, .ref p1]) (st := []) lt_RX3_44 (by decide +kernel) (xc_X3_readPerson h0 h1 hq125) (by decide) (by decide) rfl (Nat.le_of_ble_eq_true rfl) rfl ?_
                          show CW l yy_X3_readClause 4 _ _ 175 [some (.ref p0), some (.ref p1), some (.int p2), some (.int (S.1 p0 8)), some (.int w1), some (.int w108)] [] q125
                          refine CW.run (blk := [(.goto 34, 0)]) (pc' := 209) (ls' := [some (.ref p0), some (.ref p1), some (.int p2), some (.int (S.1 p0 8)), some (.int w1), some (.int w108)]) (st' := []) (by decide +kernel) rfl ?_
                          have e9 := Option.some.inj hf
                          subst e9
                          exact CW.vret rfl (by decide +kernel)
                        rw [if_neg c117_309_124] at hf
                        by_cases c117_310_126 : (S.1 p0 8) = 310
                        · rw [if_pos c117_310_126] at hf
                          refine CW.tableIn (dflt := 77) (lo := 305) (hi := 310) (offs := #[61, 77, 77, 39, 53, 69]) (len := 39) (off := 69) (tgt := 186) (by decide +kernel) (by rw [c117_310_126]; decide) (by rw [c117_310_126]; decide) (by rw [c117_310_126]; decide) (by decide) ?_
                          refine CW.run (blk := [(.aload_n 0, 0), (.aload_n 1, 0)]) (pc' := 188) (ls' := [some (.ref p0), some (.ref p1), some (.int p2), some (.int (S.1 p0 8)), some (.int w1), some (.int w108)]) (st' := [.ref p1, .ref p0]) (by decide +kernel) rfl ?_
                          obtain ⟨q127, hq127, hf⟩ := bd_some hf
                          refine CW.callS (As := [.ref p0, .ref p1]) (st := []) lt_RX3_51 (by decide +kernel) (xc_X3_readBoat h0 h1 hq127) (by decide) (by decide) rfl (Nat.le_of_ble_eq_true rfl) rfl ?_
                          show CW l yy_X3_readClause 4 _ _ 191 [some (.ref p0), some (.ref p1), some (.int p2), some (.int (S.1 p0 8)), some (.int w1), some (.int w108)] [] q127
                          refine CW.run (blk := [(.goto 18, 0)]) (pc' := 209) (ls' := [some (.ref p0), some (.ref p1), some (.int p2), some (.int (S.1 p0 8)), some (.int w1), some (.int w108)]) (st' := []) (by decide +kernel) rfl ?_
                          have e9 := Option.some.inj hf
                          subst e9
                          exact CW.vret rfl (by decide +kernel)
                        rw [if_neg c117_310_126] at hf
                        by_cases c117_306_130 : (S.1 p0 8) = 306
                        · refine CW.tableIn (dflt := 77) (lo := 305) (hi := 310) (offs := #[61, 77, 77, 39, 53, 69]) (len := 39) (off := 77) (tgt := 194) (by decide +kernel) (by rw [c117_306_130]; decide) (by rw [c117_306_130]; decide) (by rw [c117_306_130]; decide) (by decide) ?_
                          refine CW.run (blk := [(.aload_n 1, 0), (.aload_n 0, 0), (.iconst 0, 0), (.aload_n 1, 0)]) (pc' := 198) (ls' := [some (.ref p0), some (.ref p1), some (.int p2), some (.int (S.1 p0 8)), some (.int w1), some (.int w108)]) (st' := [.ref p1, .int 0, .ref p0, .ref p1]) (by decide +kernel) rfl ?_
                          refine CW.getf (v := .int (q118.1 p1 9)) h1 (by decide) fl_RX3_30 (by decide +kernel) rfl ?_
                          refine CW.run (blk := [(.iconst 1, 1), (.isub, 0)]) (pc' := 203) (ls' := [some (.ref p0), some (.ref p1), some (.int p2), some (.int (S.1 p0 8)), some (.int w1), some (.int w108)]) (st' := [.int ((q118.1 p1 9) - 1), .int 0, .ref p0, .ref p1]) (by decide +kernel) rfl ?_
                          obtain ⟨q128, hq128, hf⟩ := bd_some hf
                          refine CW.callV (As := [.int 0, .int ((q118.1 p1 9) - 1)]) (st := [.ref p1]) lv_RX3_37 h0 (by decide) rfl rfl (by decide +kernel) (xc_X10_takeNumber h0 hq128) (by decide) (by decide) rfl (Nat.le_of_ble_eq_true rfl) rfl ?_
                          show CW l yy_X3_readClause 4 _ _ 206 [some (.ref p0), some (.ref p1), some (.int p2), some (.int (S.1 p0 8)), some (.int w1), some (.int w108)] [.int q128.1, .ref p1] q128.2
                          refine CW.putI h1 (by decide) fp_RX3_54 (by decide +kernel) (fun _ _ _ => Nat.le_of_ble_eq_true rfl) rfl rfl (fun _ _ _ => rfl) ?_
                          obtain ⟨S129, hS129, hf⟩ := letv_some hf
                          rw [← hS129]
                          have e9 := Option.some.inj hf
                          subst e9
                          exact CW.vret rfl (by decide +kernel)
                        by_cases c117_307_131 : (S.1 p0 8) = 307
                        · refine CW.tableIn (dflt := 77) (lo := 305) (hi := 310) (offs := #[61, 77, 77, 39, 53, 69]) (len := 39) (off := 77) (tgt := 194) (by decide +kernel) (by rw [c117_307_131]; decide) (by rw [c117_307_131]; decide) (by rw [c117_307_131]; decide) (by decide) ?_
                          refine CW.run (blk := [(.aload_n 1, 0), (.aload_n 0, 0), (.iconst 0, 0), (.aload_n 1, 0)]) (pc' := 198) (ls' := [some (.ref p0), some (.ref p1), some (.int p2), some (.int (S.1 p0 8)), some (.int w1), some (.int w108)]) (st' := [.ref p1, .int 0, .ref p0, .ref p1]) (by decide +kernel) rfl ?_
                          refine CW.getf (v := .int (q118.1 p1 9)) h1 (by decide) fl_RX3_30 (by decide +kernel) rfl ?_
                          refine CW.run (blk := [(.iconst 1, 1), (.isub, 0)]) (pc' := 203) (ls' := [some (.ref p0), some (.ref p1), some (.int p2), some (.int (S.1 p0 8)), some (.int w1), some (.int w108)]) (st' := [.int ((q118.1 p1 9) - 1), .int 0, .ref p0, .ref p1]) (by decide +kernel) rfl ?_
                          obtain ⟨q128, hq128, hf⟩ := bd_some hf
                          refine CW.callV (As := [.int 0, .int ((q118.1 p1 9) - 1)]) (st := [.ref p1]) lv_RX3_37 h0 (by decide) rfl rfl (by decide +kernel) (xc_X10_takeNumber h0 hq128) (by decide) (by decide) rfl (Nat.le_of_ble_eq_true rfl) rfl ?_
                          show CW l yy_X3_readClause 4 _ _ 206 [some (.ref p0), some (.ref p1), some (.int p2), some (.int (S.1 p0 8)), some (.int w1), some (.int w108)] [.int q128.1, .ref p1] q128.2
                          refine CW.putI h1 (by decide) fp_RX3_54 (by decide +kernel) (fun _ _ _ => Nat.le_of_ble_eq_true rfl) rfl rfl (fun _ _ _ => rfl) ?_
                          obtain ⟨S129, hS129, hf⟩ := letv_some hf
                          rw [← hS129]
                          have e9 := Option.some.inj hf
                          subst e9
                          exact CW.vret rfl (by decide +kernel)
                        refine CW.tableOut (dflt := 77) (lo := 305) (hi := 310) (offs := #[61, 77, 77, 39, 53, 69]) (len := 39) (tgt := 194) (by decide +kernel) (by have := ne_toInt c117_305_119 (k := 305) rfl; have := ne_toInt c117_308_121 (k := 308) rfl; have := ne_toInt c117_309_124 (k := 309) rfl; have := ne_toInt c117_310_126 (k := 310) rfl; have := ne_toInt c117_306_130 (k := 306) rfl; have := ne_toInt c117_307_131 (k := 307) rfl; omega) (by decide) ?_
                        refine CW.run (blk := [(.aload_n 1, 0), (.aload_n 0, 0), (.iconst 0, 0), (.aload_n 1, 0)]) (pc' := 198) (ls' := [some (.ref p0), some (.ref p1), some (.int p2), some (.int (S.1 p0 8)), some (.int w1), some (.int w108)]) (st' := [.ref p1, .int 0, .ref p0, .ref p1]) (by decide +kernel) rfl ?_
                        refine CW.getf (v := .int (q118.1 p1 9)) h1 (by decide) fl_RX3_30 (by decide +kernel) rfl ?_
                        refine CW.run (blk := [(.iconst 1, 1), (.isub, 0)]) (pc' := 203) (ls' := [some (.ref p0), some (.ref p1), some (.int p2), some (.int (S.1 p0 8)), some (.int w1), some (.int w108)]) (st' := [.int ((q118.1 p1 9) - 1), .int 0, .ref p0, .ref p1]) (by decide +kernel) rfl ?_
                        obtain ⟨q128, hq128, hf⟩ := bd_some hf
                        refine CW.callV (As := [.int 0, .int ((q118.1 p1 9) - 1)]) (st := [.ref p1]) lv_RX3_37 h0 (by decide) rfl rfl (by decide +kernel) (xc_X10_takeNumber h0 hq128) (by decide) (by decide) rfl (Nat.le_of_ble_eq_true rfl) rfl ?_
                        show CW l yy_X3_readClause 4 _ _ 206 [some (.ref p0), some (.ref p1), some (.int p2), some (.int (S.1 p0 8)), some (.int w1), some (.int w108)] [.int q128.1, .ref p1] q128.2
                        refine CW.putI h1 (by decide) fp_RX3_54 (by decide +kernel) (fun _ _ _ => Nat.le_of_ble_eq_true rfl) rfl rfl (fun _ _ _ => rfl) ?_
                        obtain ⟨S129, hS129, hf⟩ := letv_some hf
                        rw [← hS129]
                        have e9 := Option.some.inj hf
                        subst e9
                        exact CW.vret rfl (by decide +kernel)
                      · rw [if_neg c103_117] at hf
                        refine CW.run (blk := [(.aload_n 0, 0), (.iconst 4, 4)]) (pc' := 108) (ls' := [some (.ref p0), some (.ref p1), some (.int p2), some (.int (S.1 p0 8)), some (.int w1), some (.int w108)]) (st' := [.int 4, .ref p0]) (by decide +kernel) rfl ?_
                        obtain ⟨q132, hq132, hf⟩ := bd_some hf
                        refine CW.callV (As := [.int 4]) (st := []) lv_RX3_33 h0 (by decide) rfl rfl (by decide +kernel) (xc_X10_refuse h0 hq132) (by decide) (by decide) rfl (Nat.le_of_ble_eq_true rfl) rfl ?_
                        show CW l yy_X3_readClause 4 _ _ 111 [some (.ref p0), some (.ref p1), some (.int p2), some (.int (S.1 p0 8)), some (.int w1), some (.int w108)] [] q132
                        have e9 := Option.some.inj hf
                        subst e9
                        exact CW.vret rfl (by decide +kernel)
                  clear hf
                  refine CW.if_ne (off := 7) (tgt := 97) (by decide +kernel) (by decide) (fun c90_114 => ?_) (fun c90_114 => ?_)
                  · rw [if_neg c90_114] at hw113
                    refine CW.run (blk := [(.iconst 0, 0)]) (pc' := 98) (ls' := [some (.ref p0), some (.ref p1), some (.int p2), some (.int (S.1 p0 8)), some (.int w1), some (.int w108)]) (st' := [.int 0, .int w1]) (by decide +kernel) rfl ?_
                    have e9 := Option.some.inj hw113
                    subst e9
                    exact hJ
                  · rw [if_pos c90_114] at hw113
                    refine CW.run (blk := [(.iconst 1, 1), (.goto 4, 0)]) (pc' := 98) (ls' := [some (.ref p0), some (.ref p1), some (.int p2), some (.int (S.1 p0 8)), some (.int w1), some (.int w108)]) (st' := [.int 1, .int w1]) (by decide +kernel) rfl ?_
                    have e9 := Option.some.inj hw113
                    subst e9
                    exact hJ
              clear hf
              refine CW.icmp_ne (off := 16) (tgt := 78) (by decide +kernel) (by decide) (fun c62_109 => ?_) (fun c62_109 => ?_)
              · rw [if_neg c62_109] at hw108
                refine CW.run (blk := [(.iconst 0, 0)]) (pc' := 79) (ls' := [some (.ref p0), some (.ref p1), some (.int p2), some (.int (S.1 p0 8)), some (.int w1), none]) (st' := [.int 0]) (by decide +kernel) rfl ?_
                have e9 := Option.some.inj hw108
                subst e9
                exact hJ
              · rw [if_pos c62_109] at hw108
                refine CW.run (blk := [(.aload_n 1, 0)]) (pc' := 66) (ls' := [some (.ref p0), some (.ref p1), some (.int p2), some (.int (S.1 p0 8)), some (.int w1), none]) (st' := [.ref p1]) (by decide +kernel) rfl ?_
                refine CW.getf (v := .int (S.1 p1 9)) h1 (by decide) fl_RX3_30 (by decide +kernel) rfl ?_
                refine CW.run (blk := [(.bipush 8, 8)]) (pc' := 71) (ls' := [some (.ref p0), some (.ref p1), some (.int p2), some (.int (S.1 p0 8)), some (.int w1), none]) (st' := [.int 8, .int (S.1 p1 9)]) (by decide +kernel) rfl ?_
                refine CW.icmp_lt (off := 7) (tgt := 78) (by decide +kernel) (by decide) (fun c71_110 => ?_) (fun c71_110 => ?_)
                · rw [if_pos c71_110] at hw108
                  refine CW.run (blk := [(.iconst 0, 0)]) (pc' := 79) (ls' := [some (.ref p0), some (.ref p1), some (.int p2), some (.int (S.1 p0 8)), some (.int w1), none]) (st' := [.int 0]) (by decide +kernel) rfl ?_
                  have e9 := Option.some.inj hw108
                  subst e9
                  exact hJ
                · rw [if_neg c71_110] at hw108
                  refine CW.run (blk := [(.iconst 1, 1), (.goto 4, 0)]) (pc' := 79) (ls' := [some (.ref p0), some (.ref p1), some (.int p2), some (.int (S.1 p0 8)), some (.int w1), none]) (st' := [.int 1]) (by decide +kernel) rfl ?_
                  have e9 := Option.some.inj hw108
                  subst e9
                  exact hJ
            · rw [if_neg c49_107] at hf
              refine CW.run (blk := [(.aload_n 0, 0), (.iconst 0, 0)]) (pc' := 54) (ls' := [some (.ref p0), some (.ref p1), some (.int p2), some (.int (S.1 p0 8)), some (.int w1), none]) (st' := [.int 0, .ref p0]) (by decide +kernel) rfl ?_
              obtain ⟨q133, hq133, hf⟩ := bd_some hf
              refine CW.callV (As := [.int 0]) (st := []) lv_RX3_33 h0 (by decide) rfl rfl (by decide +kernel) (xc_X10_refuse h0 hq133) (by decide) (by decide) rfl (Nat.le_of_ble_eq_true rfl) rfl ?_
              show CW l yy_X3_readClause 4 _ _ 57 [some (.ref p0), some (.ref p1), some (.int p2), some (.int (S.1 p0 8)), some (.int w1), none] [] q133
              have e9 := Option.some.inj hf
              subst e9
              exact CW.vret rfl (by decide +kernel)
  clear hf
  refine CW.icmp_ne (off := 7) (tgt := 16) (by decide +kernel) (by decide) (fun c9_2 => ?_) (fun c9_2 => ?_)
  · rw [if_neg c9_2] at hw1
    refine CW.run (blk := [(.iconst 0, 0)]) (pc' := 17) (ls' := [some (.ref p0), some (.ref p1), some (.int p2), some (.int (S.1 p0 8)), none, none]) (st' := [.int 0]) (by decide +kernel) rfl ?_
    have e9 := Option.some.inj hw1
    subst e9
    exact hJ
  · rw [if_pos c9_2] at hw1
    refine CW.run (blk := [(.iconst 1, 1), (.goto 4, 0)]) (pc' := 17) (ls' := [some (.ref p0), some (.ref p1), some (.int p2), some (.int (S.1 p0 8)), none, none]) (st' := [.int 1]) (by decide +kernel) rfl ?_
    have e9 := Option.some.inj hw1
    subst e9
    exact hJ
