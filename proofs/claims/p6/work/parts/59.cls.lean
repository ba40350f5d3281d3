/-! ===== the class, method by method (by program) 10 ===== -/
def fc_X5_serveByWords_L2 (k0 : Nat) (k1 : Int32) (k2 : Int32) : Nat → Int32 → cT → Option (Int32 × cT)
  | 0, _, _ => none
  | N + 1, a3, S => if (S.1 k0 3) ≤ (a3 + k2) then (some (a3, S)) else (if (a3 &&& k2) = 0 then (bif inb ((k1 + a3) + k2) 2048 then (letv (S.2.1 (k0 + 1) (((k1 + a3) + k2) : Int32).toNatClampNeg) fun v3 => bif inb (k1 + a3) 2048 then (letv (S.2.1 (k0 + 1) ((k1 + a3) : Int32).toNatClampNeg) fun v4 => bif inb ((k1 + a3) + k2) 2048 then (letv (cb S (k0 + 1) (((k1 + a3) + k2) : Int32).toNatClampNeg (v3 ||| v4)) fun S6 => bif inb (k1 + a3) 2048 then (letv (cb S6 (k0 + 1) ((k1 + a3) : Int32).toNatClampNeg 0) fun S8 => fc_X5_serveByWords_L2 k0 k1 k2 N (a3 + 1) S8) else none) else none) else none) else none) else (fc_X5_serveByWords_L2 k0 k1 k2 N (a3 + 1) S))
def fc_X5_serveByWords (b : Nat) (p0 : Int32) (p1 : Int32) (S : cT) : Option (cT) := (fc_X5_serveByWords_L2 b p0 p1 FU 0 S).bind fun w9 => some w9.2
theorem xc_X5_serveByWords_L2 {l : Launch} {r : Option Value} {S' : cT} (k0 : Nat) (k1 : Int32) (k2 : Int32) (hk0 : cK k0 = 4) : ∀ (N : Nat) (a3 : Int32) (S : cT) (W0 : Int32 × cT) (_ : fc_X5_serveByWords_L2 k0 k1 k2 N a3 S = some W0) (_ : CW l yy_X5_serveByWords 0 r S' 54 [some (.ref k0), some (.int k1), some (.int k2), some (.int W0.1)] [] W0.2), CW l yy_X5_serveByWords 0 r S' 2 [some (.ref k0), some (.int k1), some (.int k2), some (.int a3)] [] S := by
  intro N
  induction N with
  | zero =>
    intro a3 S W0 hf _
    cases hf
  | succ N ih =>
    intro a3 S W0 hf hk_1
    unfold fc_X5_serveByWords_L2 at hf
    refine CW.run (blk := [(.iload_n 3, 0), (.iload_n 2, 0), (.iadd, 0), (.aload_n 0, 0)]) (pc' := 6) (ls' := [some (.ref k0), some (.int k1), some (.int k2), some (.int a3)]) (st' := [.ref k0, .int (a3 + k2)]) (by decide +kernel) rfl ?_
    refine CW.getf (v := .int (S.1 k0 3)) hk0 (by decide) fl_RX5_58 (by decide +kernel) rfl ?_
    refine CW.icmp_ge (off := 45) (tgt := 54) (by decide +kernel) (by decide) (fun c9_1 => ?_) (fun c9_1 => ?_)
    · rw [if_pos c9_1] at hf
      have e9 := Option.some.inj hf
      subst e9
      exact hk_1
    · rw [if_neg c9_1] at hf
      refine CW.run (blk := [(.iload_n 3, 0), (.iload_n 2, 0), (.iand, 0)]) (pc' := 15) (ls' := [some (.ref k0), some (.int k1), some (.int k2), some (.int a3)]) (st' := [.int (a3 &&& k2)]) (by decide +kernel) rfl ?_
      refine CW.if_ne (off := 33) (tgt := 48) (by decide +kernel) (by decide) (fun c15_2 => ?_) (fun c15_2 => ?_)
      · rw [if_neg c15_2] at hf
        refine CW.run (blk := [(.iinc 3 1, 1), (.goto (-49), 0)]) (pc' := 2) (ls' := [some (.ref k0), some (.int k1), some (.int k2), some (.int (a3 + 1))]) (st' := []) (by decide +kernel) rfl ?_
        exact ih _ _ _ hf hk_1
      · rw [if_pos c15_2] at hf
        refine CW.run (blk := [(.aload_n 0, 0)]) (pc' := 19) (ls' := [some (.ref k0), some (.int k1), some (.int k2), some (.int a3)]) (st' := [.ref k0]) (by decide +kernel) rfl ?_
        refine CW.getf (v := .ref (k0 + 1)) hk0 (by decide) fl_RX5_11 (by decide +kernel) rfl ?_
        refine CW.run (blk := [(.iload_n 1, 0), (.iload_n 3, 0), (.iadd, 0), (.iload_n 2, 0), (.iadd, 0), (.dup2, 0)]) (pc' := 28) (ls' := [some (.ref k0), some (.int k1), some (.int k2), some (.int a3)]) (st' := [.int ((k1 + a3) + k2), .ref (k0 + 1), .int ((k1 + a3) + k2), .ref (k0 + 1)]) (by decide +kernel) rfl ?_
        obtain ⟨hi_v3, hf⟩ := bi_some hf
        obtain ⟨v3, hv3, hf⟩ := letv_some hf
        refine CW.lald (kk_4_0 hk0) (kn_4_0 hk0) (by decide +kernel) (inb_in hi_v3) ?_
        rw [← hv3]
        refine CW.run (blk := [(.aload_n 0, 0)]) (pc' := 30) (ls' := [some (.ref k0), some (.int k1), some (.int k2), some (.int a3)]) (st' := [.ref k0, .long v3, .int ((k1 + a3) + k2), .ref (k0 + 1)]) (by decide +kernel) rfl ?_
        refine CW.getf (v := .ref (k0 + 1)) hk0 (by decide) fl_RX5_11 (by decide +kernel) rfl ?_
        refine CW.run (blk := [(.iload_n 1, 0), (.iload_n 3, 0), (.iadd, 0)]) (pc' := 36) (ls' := [some (.ref k0), some (.int k1), some (.int k2), some (.int a3)]) (st' := [.int (k1 + a3), .ref (k0 + 1), .long v3, .int ((k1 + a3) + k2), .ref (k0 + 1)]) (by decide +kernel) rfl ?_
        obtain ⟨hi_v4, hf⟩ := bi_some hf
        obtain ⟨v4, hv4, hf⟩ := letv_some hf
        refine CW.lald (kk_4_0 hk0) (kn_4_0 hk0) (by decide +kernel) (inb_in hi_v4) ?_
        rw [← hv4]
        refine CW.run (blk := [(.lor, 0)]) (pc' := 38) (ls' := [some (.ref k0), some (.int k1), some (.int k2), some (.int a3)]) (st' := [.long (v3 ||| v4), .int ((k1 + a3) + k2), .ref (k0 + 1)]) (by decide +kernel) rfl ?_
        obtain ⟨hi5, hf⟩ := bi_some hf
        refine CW.last (kk_4_0 hk0) (kn_4_0 hk0) (by decide +kernel) (inb_in hi5) ?_
        obtain ⟨S6, hS6, hf⟩ := letv_some hf
        rw [← hS6]
        refine CW.run (blk := [(.aload_n 0, 0)]) (pc' := 40) (ls' := [some (.ref k0), some (.int k1), some (.int k2), some (.int a3)]) (st' := [.ref k0]) (by decide +kernel) rfl ?_
        refine CW.getf (v := .ref (k0 + 1)) hk0 (by decide) fl_RX5_11 (by decide +kernel) rfl ?_
        refine CW.run (blk := [(.iload_n 1, 0), (.iload_n 3, 0), (.iadd, 0), (.lconst 0, 0)]) (pc' := 47) (ls' := [some (.ref k0), some (.int k1), some (.int k2), some (.int a3)]) (st' := [.long 0, .int (k1 + a3), .ref (k0 + 1)]) (by decide +kernel) rfl ?_
        obtain ⟨hi7, hf⟩ := bi_some hf
        refine CW.last (kk_4_0 hk0) (kn_4_0 hk0) (by decide +kernel) (inb_in hi7) ?_
        obtain ⟨S8, hS8, hf⟩ := letv_some hf
        rw [← hS8]
        refine CW.run (blk := [(.iinc 3 1, 1), (.goto (-49), 0)]) (pc' := 2) (ls' := [some (.ref k0), some (.int k1), some (.int k2), some (.int (a3 + 1))]) (st' := []) (by decide +kernel) rfl ?_
        exact ih _ _ _ hf hk_1
theorem xc_X5_serveByWords {l : Launch} {b : Nat} {p0 : Int32} {p1 : Int32} {S : cT} {q : cT} (hb : cK b = 4) (hf : fc_X5_serveByWords b p0 p1 S = some q) : COk l yy_X5_serveByWords 0 [.ref b, .int p0, .int p1] S none q := by
  refine COk.of (ls := [some (.ref b), some (.int p0), some (.int p1), none]) (by decide +kernel) (Nat.le_of_ble_eq_true rfl) rfl ?_
  unfold fc_X5_serveByWords at hf
  refine CW.run (blk := [(.iconst 0, 0), (.istore_n 3, 0)]) (pc' := 2) (ls' := [some (.ref b), some (.int p0), some (.int p1), some (.int 0)]) (st' := []) (by decide +kernel) rfl ?_
  obtain ⟨w9, hw9, hf⟩ := bd_some hf
  refine xc_X5_serveByWords_L2 b p0 p1 hb FU _ _ _ hw9 ?_
  have e9 := Option.some.inj hf
  subst e9
  exact CW.vret rfl (by decide +kernel)
def fc_X5_serve_L2 (k0 : Nat) (k1 : Int32) (k2 : Int32) : Nat → Int32 → cT → Option (Int32 × cT)
  | 0, _, _ => none
  | N + 1, a3, S => if 10 ≤ a3 then (some (a3, S)) else (if (((k2 : Int32) >>> (a3 &&& 31)) &&& 1) = 0 then (fc_X5_serve_L2 k0 k1 k2 N (a3 + 1) S) else (if 6 ≤ a3 then ((fc_X5_serveByWords k0 k1 ((1 : Int32) <<< ((a3 - 6) &&& 31)) S).bind fun q4 => fc_X5_serve_L2 k0 k1 k2 N (a3 + 1) q4) else ((fc_X5_serveWithinWords k0 k1 a3 S).bind fun q5 => fc_X5_serve_L2 k0 k1 k2 N (a3 + 1) q5)))
def fc_X5_serve (b : Nat) (p0 : Int32) (p1 : Int32) (S : cT) : Option (cT) := (fc_X5_serve_L2 b p0 p1 FU 0 S).bind fun w6 => some w6.2
theorem xc_X5_serve_L2 {l : Launch} {r : Option Value} {S' : cT} (k0 : Nat) (k1 : Int32) (k2 : Int32) (hk0 : cK k0 = 4) : ∀ (N : Nat) (a3 : Int32) (S : cT) (W0 : Int32 × cT) (_ : fc_X5_serve_L2 k0 k1 k2 N a3 S = some W0) (_ : CW l yy_X5_serve 1 r S' 48 [some (.ref k0), some (.int k1), some (.int k2), some (.int W0.1)] [] W0.2), CW l yy_X5_serve 1 r S' 2 [some (.ref k0), some (.int k1), some (.int k2), some (.int a3)] [] S := by
  intro N
  induction N with
  | zero =>
    intro a3 S W0 hf _
    cases hf
  | succ N ih =>
    intro a3 S W0 hf hk_1
    unfold fc_X5_serve_L2 at hf
    refine CW.run (blk := [(.iload_n 3, 0), (.bipush 10, 10)]) (pc' := 5) (ls' := [some (.ref k0), some (.int k1), some (.int k2), some (.int a3)]) (st' := [.int 10, .int a3]) (by decide +kernel) rfl ?_
    refine CW.icmp_ge (off := 43) (tgt := 48) (by decide +kernel) (by decide) (fun c5_1 => ?_) (fun c5_1 => ?_)
    · rw [if_pos c5_1] at hf
      have e9 := Option.some.inj hf
      subst e9
      exact hk_1
    · rw [if_neg c5_1] at hf
      refine CW.run (blk := [(.iload_n 2, 0), (.iload_n 3, 0), (.ishr, 0), (.iconst 1, 1), (.iand, 0)]) (pc' := 13) (ls' := [some (.ref k0), some (.int k1), some (.int k2), some (.int a3)]) (st' := [.int (((k2 : Int32) >>> (a3 &&& 31)) &&& 1)]) (by decide +kernel) rfl ?_
      refine CW.if_eq (off := 29) (tgt := 42) (by decide +kernel) (by decide) (fun c13_2 => ?_) (fun c13_2 => ?_)
      · rw [if_pos c13_2] at hf
        refine CW.run (blk := [(.iinc 3 1, 1), (.goto (-43), 0)]) (pc' := 2) (ls' := [some (.ref k0), some (.int k1), some (.int k2), some (.int (a3 + 1))]) (st' := []) (by decide +kernel) rfl ?_
        exact ih _ _ _ hf hk_1
      · rw [if_neg c13_2] at hf
        refine CW.run (blk := [(.iload_n 3, 0), (.bipush 6, 6)]) (pc' := 19) (ls' := [some (.ref k0), some (.int k1), some (.int k2), some (.int a3)]) (st' := [.int 6, .int a3]) (by decide +kernel) rfl ?_
        refine CW.icmp_ge (off := 12) (tgt := 31) (by decide +kernel) (by decide) (fun c19_3 => ?_) (fun c19_3 => ?_)
        · rw [if_pos c19_3] at hf
          refine CW.run (blk := [(.aload_n 0, 0), (.iload_n 1, 0), (.iconst 1, 1), (.iload_n 3, 0), (.bipush 6, 6), (.isub, 0), (.ishl, 0)]) (pc' := 39) (ls' := [some (.ref k0), some (.int k1), some (.int k2), some (.int a3)]) (st' := [.int ((1 : Int32) <<< ((a3 - 6) &&& 31)), .int k1, .ref k0]) (by decide +kernel) rfl ?_
          obtain ⟨q4, hq4, hf⟩ := bd_some hf
          refine CW.callV (As := [.int k1, .int ((1 : Int32) <<< ((a3 - 6) &&& 31))]) (st := []) lv_RX5_84 hk0 (by decide) rfl rfl (by decide +kernel) (xc_X5_serveByWords hk0 hq4) (by decide) (by decide) rfl (Nat.le_of_ble_eq_true rfl) rfl ?_
          show CW l yy_X5_serve 1 _ _ 42 [some (.ref k0), some (.int k1), some (.int k2), some (.int a3)] [] q4
          refine CW.run (blk := [(.iinc 3 1, 1), (.goto (-43), 0)]) (pc' := 2) (ls' := [some (.ref k0), some (.int k1), some (.int k2), some (.int (a3 + 1))]) (st' := []) (by decide +kernel) rfl ?_
          exact ih _ _ _ hf hk_1
        · rw [if_neg c19_3] at hf
          refine CW.run (blk := [(.aload_n 0, 0), (.iload_n 1, 0), (.iload_n 3, 0)]) (pc' := 25) (ls' := [some (.ref k0), some (.int k1), some (.int k2), some (.int a3)]) (st' := [.int a3, .int k1, .ref k0]) (by decide +kernel) rfl ?_
          obtain ⟨q5, hq5, hf⟩ := bd_some hf
          refine CW.callV (As := [.int k1, .int a3]) (st := []) lv_RX5_81 hk0 (by decide) rfl rfl (by decide +kernel) (xc_X5_serveWithinWords hk0 hq5) (by decide) (by decide) rfl (Nat.le_of_ble_eq_true rfl) rfl ?_
          show CW l yy_X5_serve 1 _ _ 28 [some (.ref k0), some (.int k1), some (.int k2), some (.int a3)] [] q5
          refine CW.run (blk := [(.goto 14, 0), (.iinc 3 1, 1), (.goto (-43), 0)]) (pc' := 2) (ls' := [some (.ref k0), some (.int k1), some (.int k2), some (.int (a3 + 1))]) (st' := []) (by decide +kernel) rfl ?_
          exact ih _ _ _ hf hk_1
theorem xc_X5_serve {l : Launch} {b : Nat} {p0 : Int32} {p1 : Int32} {S : cT} {q : cT} (hb : cK b = 4) (hf : fc_X5_serve b p0 p1 S = some q) : COk l yy_X5_serve 1 [.ref b, .int p0, .int p1] S none q := by
  refine COk.of (ls := [some (.ref b), some (.int p0), some (.int p1), none]) (by decide +kernel) (Nat.le_of_ble_eq_true rfl) rfl ?_
  unfold fc_X5_serve at hf
  refine CW.run (blk := [(.iconst 0, 0), (.istore_n 3, 0)]) (pc' := 2) (ls' := [some (.ref b), some (.int p0), some (.int p1), some (.int 0)]) (st' := []) (by decide +kernel) rfl ?_
  obtain ⟨w6, hw6, hf⟩ := bd_some hf
  refine xc_X5_serve_L2 b p0 p1 hb FU _ _ _ hw6 ?_
  have e9 := Option.some.inj hf
  subst e9
  exact CW.vret rfl (by decide +kernel)
def fc_X5_mostWith_L28 (k0 : Nat) (k2 : Int32) (k4 : Int32) (S : cT) : Nat → Int32 → Int64 → Int32 → Option (Int32 × Int64 × Int32)
  | 0, _, _, _ => none
  | N + 1, a3, a5, a7 => if 64 ≤ a7 then (some (a3, a5, a7)) else (if (lg_cmp a5 0) = 0 then (some (a3, a5, a7)) else (Option.bind (if (lg_cmp (a5 &&& 1) 0) = 0 then (some (a3)) else (bif inb ((((k4 * 64) + a7) ||| k2) &&& 1023) 1024 then (letv (S.1 (k0 + 2) (((((k4 * 64) + a7) ||| k2) &&& 1023) : Int32).toNatClampNeg) fun v7 => some (mxI a3 v7)) else none) : Option (Int32)) fun w5 => fc_X5_mostWith_L28 k0 k2 k4 S N w5 (((a5 : Int64).toUInt64 >>> ((1 : Int32).toInt64.toUInt64 &&& Int64.toUInt64 63)).toInt64) (a7 + 1)))
def fc_X5_mostWith_L5 (k0 : Nat) (k1 : Int32) (k2 : Int32) (S : cT) : Nat → Int32 → Int32 → Option (Int32 × Int32)
  | 0, _, _ => none
  | N + 1, a3, a4 => if (S.1 k0 3) ≤ a4 then (some (a3, a4)) else (bif inb (k1 + a4) 2048 then (letv (S.2.1 (k0 + 1) ((k1 + a4) : Int32).toNatClampNeg) fun v2 => (fc_X5_mostWith_L28 k0 k2 a4 S FU a3 v2 0).bind fun w8 => fc_X5_mostWith_L5 k0 k1 k2 S N w8.1 (a4 + 1)) else none)
def fc_X5_mostWith (b : Nat) (p0 : Int32) (p1 : Int32) (S : cT) : Option (Int32) := (fc_X5_mostWith_L5 b p0 p1 S FU 0 0).bind fun w9 => some w9.1
theorem xc_X5_mostWith_L28 {l : Launch} {r : Option Value} {S' : cT} (k0 : Nat) (k1 : Int32) (k2 : Int32) (k4 : Int32) (S : cT) (hk0 : cK k0 = 4) : ∀ (N : Nat) (a3 : Int32) (a5 : Int64) (a7 : Int32) (W0 : Int32 × Int64 × Int32) (_ : fc_X5_mostWith_L28 k0 k2 k4 S N a3 a5 a7 = some W0) (_ : CW l yy_X5_mostWith 1 r S' 87 [some (.ref k0), some (.int k1), some (.int k2), some (.int W0.1), some (.int k4), some (.long W0.2.1), none, some (.int W0.2.2)] [] S), CW l yy_X5_mostWith 1 r S' 28 [some (.ref k0), some (.int k1), some (.int k2), some (.int a3), some (.int k4), some (.long a5), none, some (.int a7)] [] S := by
  intro N
  induction N with
  | zero =>
    intro a3 a5 a7 W0 hf _
    cases hf
  | succ N ih =>
    intro a3 a5 a7 W0 hf hk_1
    unfold fc_X5_mostWith_L28 at hf
    refine CW.run (blk := [(.iload 7, 0), (.bipush 64, 64)]) (pc' := 32) (ls' := [some (.ref k0), some (.int k1), some (.int k2), some (.int a3), some (.int k4), some (.long a5), none, some (.int a7)]) (st' := [.int 64, .int a7]) (by decide +kernel) rfl ?_
    refine CW.icmp_ge (off := 55) (tgt := 87) (by decide +kernel) (by decide) (fun c32_3 => ?_) (fun c32_3 => ?_)
    · rw [if_pos c32_3] at hf
      have e9 := Option.some.inj hf
      subst e9
      exact hk_1
    · rw [if_neg c32_3] at hf
      refine CW.run (blk := [(.lload 5, 0), (.lconst 0, 0), (.lcmp, 0)]) (pc' := 39) (ls' := [some (.ref k0), some (.int k1), some (.int k2), some (.int a3), some (.int k4), some (.long a5), none, some (.int a7)]) (st' := [.int (lg_cmp a5 0)]) (by decide +kernel) rfl ?_
      refine CW.if_eq (off := 48) (tgt := 87) (by decide +kernel) (by decide) (fun c39_4 => ?_) (fun c39_4 => ?_)
      · rw [if_pos c39_4] at hf
        have e9 := Option.some.inj hf
        subst e9
        exact hk_1
      · rw [if_neg c39_4] at hf
        refine CW.run (blk := [(.lload 5, 0), (.lconst 1, 0), (.land, 0), (.lconst 0, 0), (.lcmp, 0)]) (pc' := 48) (ls' := [some (.ref k0), some (.int k1), some (.int k2), some (.int a3), some (.int k4), some (.long a5), none, some (.int a7)]) (st' := [.int (lg_cmp (a5 &&& 1) 0)]) (by decide +kernel) rfl ?_
        obtain ⟨w5, hw5, hf⟩ := bd_some hf
        have hJ : CW l yy_X5_mostWith 1 r S' 75 [some (.ref k0), some (.int k1), some (.int k2), some (.int w5), some (.int k4), some (.long a5), none, some (.int a7)] [] S := by
          refine CW.run (blk := [(.lload 5, 0), (.iconst 1, 1), (.lushr, 0), (.lstore 5, 0), (.iinc 7 1, 1), (.goto (-56), 0)]) (pc' := 28) (ls' := [some (.ref k0), some (.int k1), some (.int k2), some (.int w5), some (.int k4), some (.long (((a5 : Int64).toUInt64 >>> ((1 : Int32).toInt64.toUInt64 &&& Int64.toUInt64 63)).toInt64)), none, some (.int (a7 + 1))]) (st' := []) (by decide +kernel) rfl ?_
          exact ih _ _ _ _ hf hk_1
        clear hf
        refine CW.if_eq (off := 27) (tgt := 75) (by decide +kernel) (by decide) (fun c48_6 => ?_) (fun c48_6 => ?_)
        · rw [if_pos c48_6] at hw5
          have e9 := Option.some.inj hw5
          subst e9
          exact hJ
        · rw [if_neg c48_6] at hw5
          refine CW.run (blk := [(.iload_n 3, 0), (.aload_n 0, 0)]) (pc' := 53) (ls' := [some (.ref k0), some (.int k1), some (.int k2), some (.int a3), some (.int k4), some (.long a5), none, some (.int a7)]) (st' := [.ref k0, .int a3]) (by decide +kernel) rfl ?_
          refine CW.getf (v := .ref (k0 + 2)) hk0 (by decide) fl_RX5_15 (by decide +kernel) rfl ?_
          refine CW.run (blk := [(.iload 4, 0), (.bipush 64, 64), (.imul, 0), (.iload 7, 0), (.iadd, 0), (.iload_n 2, 0), (.ior, 0), (.sipush 1023, 1023), (.iand, 0)]) (pc' := 70) (ls' := [some (.ref k0), some (.int k1), some (.int k2), some (.int a3), some (.int k4), some (.long a5), none, some (.int a7)]) (st' := [.int ((((k4 * 64) + a7) ||| k2) &&& 1023), .ref (k0 + 2), .int a3]) (by decide +kernel) rfl ?_
          obtain ⟨hi_v7, hw5⟩ := bi_some hw5
          obtain ⟨v7, hv7, hw5⟩ := letv_some hw5
          refine CW.iald (kk_4_1 hk0) (kn_4_1 hk0) (by decide +kernel) (inb_in hi_v7) ?_
          rw [← hv7]
          refine CW.mmax (idx := 28) (tb_in 899 (by decide +kernel) (by decide +kernel)) (by decide +kernel) (by decide) (Nat.le_of_ble_eq_true rfl) ?_
          refine CW.run (blk := [(.istore_n 3, 0)]) (pc' := 75) (ls' := [some (.ref k0), some (.int k1), some (.int k2), some (.int (mxI a3 v7)), some (.int k4), some (.long a5), none, some (.int a7)]) (st' := []) (by decide +kernel) rfl ?_
          have e9 := Option.some.inj hw5
          subst e9
          exact hJ
theorem xc_X5_mostWith_L5 {l : Launch} {r : Option Value} {S' : cT} (k0 : Nat) (k1 : Int32) (k2 : Int32) (S : cT) (hk0 : cK k0 = 4) : ∀ (N : Nat) (a3 : Int32) (a4 : Int32) (W0 : Int32 × Int32) (_ : fc_X5_mostWith_L5 k0 k1 k2 S N a3 a4 = some W0) (_ : CW l yy_X5_mostWith 1 r S' 93 [some (.ref k0), some (.int k1), some (.int k2), some (.int W0.1), some (.int W0.2), none, none, none] [] S), CW l yy_X5_mostWith 1 r S' 5 [some (.ref k0), some (.int k1), some (.int k2), some (.int a3), some (.int a4), none, none, none] [] S := by
  intro N
  induction N with
  | zero =>
    intro a3 a4 W0 hf _
    cases hf
  | succ N ih =>
    intro a3 a4 W0 hf hk_1
    unfold fc_X5_mostWith_L5 at hf
    refine CW.run (blk := [(.iload 4, 0), (.aload_n 0, 0)]) (pc' := 8) (ls' := [some (.ref k0), some (.int k1), some (.int k2), some (.int a3), some (.int a4), none, none, none]) (st' := [.ref k0, .int a4]) (by decide +kernel) rfl ?_
    refine CW.getf (v := .int (S.1 k0 3)) hk0 (by decide) fl_RX5_58 (by decide +kernel) rfl ?_
    refine CW.icmp_ge (off := 82) (tgt := 93) (by decide +kernel) (by decide) (fun c11_1 => ?_) (fun c11_1 => ?_)
    · rw [if_pos c11_1] at hf
      have e9 := Option.some.inj hf
      subst e9
      exact hk_1
    · rw [if_neg c11_1] at hf
      refine CW.run (blk := [(.aload_n 0, 0)]) (pc' := 15) (ls' := [some (.ref k0), some (.int k1), some (.int k2), some (.int a3), some (.int a4), none, none, none]) (st' := [.ref k0]) (by decide +kernel) rfl ?_
      refine CW.getf (v := .ref (k0 + 1)) hk0 (by decide) fl_RX5_11 (by decide +kernel) rfl ?_
      refine CW.run (blk := [(.iload_n 1, 0), (.iload 4, 0), (.iadd, 0)]) (pc' := 22) (ls' := [some (.ref k0), some (.int k1), some (.int k2), some (.int a3), some (.int a4), none, none, none]) (st' := [.int (k1 + a4), .ref (k0 + 1)]) (by decide +kernel) rfl ?_
      obtain ⟨hi_v2, hf⟩ := bi_some hf
      obtain ⟨v2, hv2, hf⟩ := letv_some hf
      refine CW.lald (kk_4_0 hk0) (kn_4_0 hk0) (by decide +kernel) (inb_in hi_v2) ?_
      rw [← hv2]
      refine CW.run (blk := [(.lstore 5, 0), (.iconst 0, 0), (.istore 7, 0)]) (pc' := 28) (ls' := [some (.ref k0), some (.int k1), some (.int k2), some (.int a3), some (.int a4), some (.long v2), none, some (.int 0)]) (st' := []) (by decide +kernel) rfl ?_
      obtain ⟨w8, hw8, hf⟩ := bd_some hf
      refine xc_X5_mostWith_L28 k0 k1 k2 a4 S hk0 FU _ _ _ _ hw8 ?_
      refine CW.run (blk := [(.iinc 4 1, 1), (.goto (-85), 0)]) (pc' := 5) (ls' := [some (.ref k0), some (.int k1), some (.int k2), some (.int w8.1), some (.int (a4 + 1)), some (.long w8.2.1), none, some (.int w8.2.2)]) (st' := []) (by decide +kernel) rfl ?_
      refine CW.fgt (ls' := [some (.ref k0), some (.int k1), some (.int k2), some (.int w8.1), some (.int (a4 + 1)), none, none, none]) (by repeat' (first | exact trivial | refine ⟨rfl, ?_⟩)) ?_
      exact ih _ _ _ hf hk_1
theorem xc_X5_mostWith {l : Launch} {b : Nat} {p0 : Int32} {p1 : Int32} {S : cT} {q : Int32} (hb : cK b = 4) (hf : fc_X5_mostWith b p0 p1 S = some q) : COk l yy_X5_mostWith 1 [.ref b, .int p0, .int p1] S (some (.int q)) S := by
  refine COk.of (ls := [some (.ref b), some (.int p0), some (.int p1), none, none, none, none, none]) (by decide +kernel) (Nat.le_of_ble_eq_true rfl) rfl ?_
  unfold fc_X5_mostWith at hf
  refine CW.run (blk := [(.iconst 0, 0), (.istore_n 3, 0), (.iconst 0, 0), (.istore 4, 0)]) (pc' := 5) (ls' := [some (.ref b), some (.int p0), some (.int p1), some (.int 0), some (.int 0), none, none, none]) (st' := []) (by decide +kernel) rfl ?_
  obtain ⟨w9, hw9, hf⟩ := bd_some hf
  refine xc_X5_mostWith_L5 b p0 p1 S hb FU _ _ _ hw9 ?_
  refine CW.run (blk := [(.iload_n 3, 0)]) (pc' := 94) (ls' := [some (.ref b), some (.int p0), some (.int p1), some (.int w9.1), some (.int w9.2), none, none, none]) (st' := [.int w9.1]) (by decide +kernel) rfl ?_
  have e9 := Option.some.inj hf
  subst e9
  exact CW.iret rfl (by decide +kernel)
def fc_X5_follow_L53 (k0 : Nat) (k1 : Nat) (k4 : Int32) (k5 : Int32) (S : cT) : Nat → Int32 → Int32 → Option (Int32 × Int32)
  | 0, _, _ => none
  | N + 1, a3, a6 => if (S.1 k1 9) ≤ a6 then (some (a3, a6)) else ((fc_X5_canGo k1 a3 a6 S).bind fun q10 => if (b2i q10) = 0 then (fc_X5_follow_L53 k0 k1 k4 k5 S N a3 (a6 + 1)) else ((fc_X5_start k5 a6 S).bind fun q12 => (fc_X5_mostWith k0 q12 k4 S).bind fun q13 => if q13 = (S.1 k0 4) then (some (a6, a6)) else (fc_X5_follow_L53 k0 k1 k4 k5 S N a3 (a6 + 1))))
def fc_X5_follow_L37 (k0 : Nat) (k1 : Nat) (k2 : Int32) : Nat → Int32 → Int32 → Int32 → cT → Option (Int32 × Int32 × Int32 × cT)
  | 0, _, _, _, _ => none
  | N + 1, a3, a4, a5, S => if k2 ≤ a5 then (some (a3, a4, a5, S)) else (if 16 ≤ a5 then (some (a3, a4, a5, S)) else ((fc_X5_follow_L53 k0 k1 a4 a5 S FU a3 0).bind fun w15 => (fc_X5_served k1 a5 w15.1 S).bind fun q16 => bif inb a5 16 then (letv (ca S (k0 + 3) (a5 : Int32).toNatClampNeg w15.1) fun S18 => fc_X5_follow_L37 k0 k1 k2 N w15.1 (a4 ||| q16) (a5 + 1) S18) else none))
def fc_X5_follow (b : Nat) (p0 : Nat) (p1 : Int32) (S : cT) : Option (cT) := (fc_X5_served p0 0 (S.1 p0 10) S).bind fun q1 => (fc_X5_start 0 (S.1 p0 10) S).bind fun q2 => (fc_X5_mostWith b q2 0 S).bind fun q3 => letv (ca S b 4 q3) fun S4 => bif inb 0 16 then (letv (ca S4 (b + 3) (0 : Int32).toNatClampNeg (S.1 p0 10)) fun S6 => (fc_X5_follow_L37 b p0 p1 FU (S.1 p0 10) q1 1 S6).bind fun w19 => some w19.2.2.2) else none
theorem xc_X5_follow_L53 {l : Launch} {r : Option Value} {S' : cT} (k0 : Nat) (k1 : Nat) (k2 : Int32) (k4 : Int32) (k5 : Int32) (S : cT) (hk0 : cK k0 = 4) (hk1 : cK k1 = 2) : ∀ (N : Nat) (a3 : Int32) (a6 : Int32) (W0 : Int32 × Int32) (_ : fc_X5_follow_L53 k0 k1 k4 k5 S N a3 a6 = some W0) (_ : CW l yy_X5_follow 4 r S' 104 [some (.ref k0), some (.ref k1), some (.int k2), some (.int W0.1), some (.int k4), some (.int k5), some (.int W0.2)] [] S), CW l yy_X5_follow 4 r S' 53 [some (.ref k0), some (.ref k1), some (.int k2), some (.int a3), some (.int k4), some (.int k5), some (.int a6)] [] S := by
  intro N
  induction N with
  | zero =>
    intro a3 a6 W0 hf _
    cases hf
  | succ N ih =>
    intro a3 a6 W0 hf hk_1
    unfold fc_X5_follow_L53 at hf
    refine CW.run (blk := [(.iload 6, 0), (.aload_n 1, 0)]) (pc' := 56) (ls' := [some (.ref k0), some (.ref k1), some (.int k2), some (.int a3), some (.int k4), some (.int k5), some (.int a6)]) (st' := [.ref k1, .int a6]) (by decide +kernel) rfl ?_
    refine CW.getf (v := .int (S.1 k1 9)) hk1 (by decide) fl_RX5_35 (by decide +kernel) rfl ?_
    refine CW.icmp_ge (off := 45) (tgt := 104) (by decide +kernel) (by decide) (fun c59_9 => ?_) (fun c59_9 => ?_)
    · rw [if_pos c59_9] at hf
      have e9 := Option.some.inj hf
      subst e9
      exact hk_1
    · rw [if_neg c59_9] at hf
      refine CW.run (blk := [(.aload_n 1, 0), (.iload_n 3, 0), (.iload 6, 0)]) (pc' := 66) (ls' := [some (.ref k0), some (.ref k1), some (.int k2), some (.int a3), some (.int k4), some (.int k5), some (.int a6)]) (st' := [.int a6, .int a3, .ref k1]) (by decide +kernel) rfl ?_
      obtain ⟨q10, hq10, hf⟩ := bd_some hf
      refine CW.callS (As := [.ref k1, .int a3, .int a6]) (st := []) lt_RX5_77 (by decide +kernel) (xc_X5_canGo hk1 hq10) (by decide) (by decide) rfl (Nat.le_of_ble_eq_true rfl) rfl ?_
      show CW l yy_X5_follow 4 _ _ 69 [some (.ref k0), some (.ref k1), some (.int k2), some (.int a3), some (.int k4), some (.int k5), some (.int a6)] [.int (b2i q10)] S
      refine CW.if_eq (off := 29) (tgt := 98) (by decide +kernel) (by decide) (fun c69_11 => ?_) (fun c69_11 => ?_)
      · rw [if_pos c69_11] at hf
        refine CW.run (blk := [(.iinc 6 1, 1), (.goto (-48), 0)]) (pc' := 53) (ls' := [some (.ref k0), some (.ref k1), some (.int k2), some (.int a3), some (.int k4), some (.int k5), some (.int (a6 + 1))]) (st' := []) (by decide +kernel) rfl ?_
        exact ih _ _ _ hf hk_1
      · rw [if_neg c69_11] at hf
        refine CW.run (blk := [(.aload_n 0, 0), (.iload 5, 0), (.iload 6, 0)]) (pc' := 77) (ls' := [some (.ref k0), some (.ref k1), some (.int k2), some (.int a3), some (.int k4), some (.int k5), some (.int a6)]) (st' := [.int a6, .int k5, .ref k0]) (by decide +kernel) rfl ?_
        obtain ⟨q12, hq12, hf⟩ := bd_some hf
        refine CW.callS (As := [.int k5, .int a6]) (st := [.ref k0]) lt_RX5_43 (by decide +kernel) (xc_X5_start hq12) (by decide) (by decide) rfl (Nat.le_of_ble_eq_true rfl) rfl ?_
        show CW l yy_X5_follow 4 _ _ 80 [some (.ref k0), some (.ref k1), some (.int k2), some (.int a3), some (.int k4), some (.int k5), some (.int a6)] [.int q12, .ref k0] S
        refine CW.run (blk := [(.iload 4, 0)]) (pc' := 82) (ls' := [some (.ref k0), some (.ref k1), some (.int k2), some (.int a3), some (.int k4), some (.int k5), some (.int a6)]) (st' := [.int k4, .int q12, .ref k0]) (by decide +kernel) rfl ?_
        obtain ⟨q13, hq13, hf⟩ := bd_some hf
        refine CW.callV (As := [.int q12, .int k4]) (st := []) lv_RX5_95 hk0 (by decide) rfl rfl (by decide +kernel) (xc_X5_mostWith hk0 hq13) (by decide) (by decide) rfl (Nat.le_of_ble_eq_true rfl) rfl ?_
        show CW l yy_X5_follow 4 _ _ 85 [some (.ref k0), some (.ref k1), some (.int k2), some (.int a3), some (.int k4), some (.int k5), some (.int a6)] [.int q13] S
        refine CW.run (blk := [(.aload_n 0, 0)]) (pc' := 86) (ls' := [some (.ref k0), some (.ref k1), some (.int k2), some (.int a3), some (.int k4), some (.int k5), some (.int a6)]) (st' := [.ref k0, .int q13]) (by decide +kernel) rfl ?_
        refine CW.getf (v := .int (S.1 k0 4)) hk0 (by decide) fl_RX5_98 (by decide +kernel) rfl ?_
        refine CW.icmp_ne (off := 9) (tgt := 98) (by decide +kernel) (by decide) (fun c89_14 => ?_) (fun c89_14 => ?_)
        · rw [if_neg c89_14] at hf
          refine CW.run (blk := [(.iinc 6 1, 1), (.goto (-48), 0)]) (pc' := 53) (ls' := [some (.ref k0), some (.ref k1), some (.int k2), some (.int a3), some (.int k4), some (.int k5), some (.int (a6 + 1))]) (st' := []) (by decide +kernel) rfl ?_
          exact ih _ _ _ hf hk_1
        · rw [if_pos c89_14] at hf
          refine CW.run (blk := [(.iload 6, 0), (.istore_n 3, 0), (.goto 9, 0)]) (pc' := 104) (ls' := [some (.ref k0), some (.ref k1), some (.int k2), some (.int a6), some (.int k4), some (.int k5), some (.int a6)]) (st' := []) (by decide +kernel) rfl ?_
          have e9 := Option.some.inj hf
          subst e9
          exact hk_1
theorem xc_X5_follow_L37 {l : Launch} {r : Option Value} {S' : cT} (k0 : Nat) (k1 : Nat) (k2 : Int32) (hk0 : cK k0 = 4) (hk1 : cK k1 = 2) : ∀ (N : Nat) (a3 : Int32) (a4 : Int32) (a5 : Int32) (S : cT) (W0 : Int32 × Int32 × Int32 × cT) (_ : fc_X5_follow_L37 k0 k1 k2 N a3 a4 a5 S = some W0) (_ : CW l yy_X5_follow 4 r S' 130 [some (.ref k0), some (.ref k1), some (.int k2), some (.int W0.1), some (.int W0.2.1), some (.int W0.2.2.1), none] [] W0.2.2.2), CW l yy_X5_follow 4 r S' 37 [some (.ref k0), some (.ref k1), some (.int k2), some (.int a3), some (.int a4), some (.int a5), none] [] S := by
  intro N
  induction N with
  | zero =>
    intro a3 a4 a5 S W0 hf _
    cases hf
  | succ N ih =>
    intro a3 a4 a5 S W0 hf hk_1
    unfold fc_X5_follow_L37 at hf
    refine CW.run (blk := [(.iload 5, 0), (.iload_n 2, 0)]) (pc' := 40) (ls' := [some (.ref k0), some (.ref k1), some (.int k2), some (.int a3), some (.int a4), some (.int a5), none]) (st' := [.int k2, .int a5]) (by decide +kernel) rfl ?_
    refine CW.icmp_ge (off := 90) (tgt := 130) (by decide +kernel) (by decide) (fun c40_7 => ?_) (fun c40_7 => ?_)
    · rw [if_pos c40_7] at hf
      have e9 := Option.some.inj hf
      subst e9
      exact hk_1
    · rw [if_neg c40_7] at hf
      refine CW.run (blk := [(.iload 5, 0), (.bipush 16, 16)]) (pc' := 47) (ls' := [some (.ref k0), some (.ref k1), some (.int k2), some (.int a3), some (.int a4), some (.int a5), none]) (st' := [.int 16, .int a5]) (by decide +kernel) rfl ?_
      refine CW.icmp_ge (off := 83) (tgt := 130) (by decide +kernel) (by decide) (fun c47_8 => ?_) (fun c47_8 => ?_)
      · rw [if_pos c47_8] at hf
        have e9 := Option.some.inj hf
        subst e9
        exact hk_1
      · rw [if_neg c47_8] at hf
        refine CW.run (blk := [(.iconst 0, 0), (.istore 6, 0)]) (pc' := 53) (ls' := [some (.ref k0), some (.ref k1), some (.int k2), some (.int a3), some (.int a4), some (.int a5), some (.int 0)]) (st' := []) (by decide +kernel) rfl ?_
        obtain ⟨w15, hw15, hf⟩ := bd_some hf
        refine xc_X5_follow_L53 k0 k1 k2 a4 a5 S hk0 hk1 FU _ _ _ hw15 ?_
        refine CW.run (blk := [(.iload 4, 0), (.aload_n 1, 0), (.iload 5, 0), (.iload_n 3, 0)]) (pc' := 110) (ls' := [some (.ref k0), some (.ref k1), some (.int k2), some (.int w15.1), some (.int a4), some (.int a5), some (.int w15.2)]) (st' := [.int w15.1, .int a5, .ref k1, .int a4]) (by decide +kernel) rfl ?_
        obtain ⟨q16, hq16, hf⟩ := bd_some hf
        refine CW.callS (As := [.ref k1, .int a5, .int w15.1]) (st := [.int a4]) lt_RX5_46 (by decide +kernel) (xc_X5_served hk1 hq16) (by decide) (by decide) rfl (Nat.le_of_ble_eq_true rfl) rfl ?_
        show CW l yy_X5_follow 4 _ _ 113 [some (.ref k0), some (.ref k1), some (.int k2), some (.int w15.1), some (.int a4), some (.int a5), some (.int w15.2)] [.int q16, .int a4] S
        refine CW.run (blk := [(.ior, 0), (.istore 4, 0), (.aload_n 0, 0)]) (pc' := 117) (ls' := [some (.ref k0), some (.ref k1), some (.int k2), some (.int w15.1), some (.int (a4 ||| q16)), some (.int a5), some (.int w15.2)]) (st' := [.ref k0]) (by decide +kernel) rfl ?_
        refine CW.getf (v := .ref (k0 + 3)) hk0 (by decide) fl_RX5_19 (by decide +kernel) rfl ?_
        refine CW.run (blk := [(.iload 5, 0), (.iload_n 3, 0)]) (pc' := 123) (ls' := [some (.ref k0), some (.ref k1), some (.int k2), some (.int w15.1), some (.int (a4 ||| q16)), some (.int a5), some (.int w15.2)]) (st' := [.int w15.1, .int a5, .ref (k0 + 3)]) (by decide +kernel) rfl ?_
        obtain ⟨hi17, hf⟩ := bi_some hf
        refine CW.iast (kk_4_2 hk0) (kn_4_2 hk0) (by decide +kernel) (inb_in hi17) ?_
        obtain ⟨S18, hS18, hf⟩ := letv_some hf
        rw [← hS18]
        refine CW.run (blk := [(.iinc 5 1, 1), (.goto (-90), 0)]) (pc' := 37) (ls' := [some (.ref k0), some (.ref k1), some (.int k2), some (.int w15.1), some (.int (a4 ||| q16)), some (.int (a5 + 1)), some (.int w15.2)]) (st' := []) (by decide +kernel) rfl ?_
        refine CW.fgt (ls' := [some (.ref k0), some (.ref k1), some (.int k2), some (.int w15.1), some (.int (a4 ||| q16)), some (.int (a5 + 1)), none]) (by repeat' (first | exact trivial | refine ⟨rfl, ?_⟩)) ?_
        exact ih _ _ _ _ _ hf hk_1
theorem xc_X5_follow {l : Launch} {b : Nat} {p0 : Nat} {p1 : Int32} {S : cT} {q : cT} (hb : cK b = 4) (h0 : cK p0 = 2) (hf : fc_X5_follow b p0 p1 S = some q) : COk l yy_X5_follow 4 [.ref b, .ref p0, .int p1] S none q := by
  refine COk.of (ls := [some (.ref b), some (.ref p0), some (.int p1), none, none, none, none]) (by decide +kernel) (Nat.le_of_ble_eq_true rfl) rfl ?_
  unfold fc_X5_follow at hf
  refine CW.run (blk := [(.aload_n 1, 0)]) (pc' := 1) (ls' := [some (.ref b), some (.ref p0), some (.int p1), none, none, none, none]) (st' := [.ref p0]) (by decide +kernel) rfl ?_
  refine CW.getf (v := .int (S.1 p0 10)) h0 (by decide) fl_RX5_92 (by decide +kernel) rfl ?_
  refine CW.run (blk := [(.istore_n 3, 0), (.aload_n 1, 0), (.iconst 0, 0), (.iload_n 3, 0)]) (pc' := 8) (ls' := [some (.ref b), some (.ref p0), some (.int p1), some (.int (S.1 p0 10)), none, none, none]) (st' := [.int (S.1 p0 10), .int 0, .ref p0]) (by decide +kernel) rfl ?_
  obtain ⟨q1, hq1, hf⟩ := bd_some hf
  refine CW.callS (As := [.ref p0, .int 0, .int (S.1 p0 10)]) (st := []) lt_RX5_46 (by decide +kernel) (xc_X5_served h0 hq1) (by decide) (by decide) rfl (Nat.le_of_ble_eq_true rfl) rfl ?_
  show CW l yy_X5_follow 4 _ _ 11 [some (.ref b), some (.ref p0), some (.int p1), some (.int (S.1 p0 10)), none, none, none] [.int q1] S
  refine CW.run (blk := [(.istore 4, 0), (.aload_n 0, 0), (.aload_n 0, 0), (.iconst 0, 0), (.iload_n 3, 0)]) (pc' := 17) (ls' := [some (.ref b), some (.ref p0), some (.int p1), some (.int (S.1 p0 10)), some (.int q1), none, none]) (st' := [.int (S.1 p0 10), .int 0, .ref b, .ref b]) (by decide +kernel) rfl ?_
  obtain ⟨q2, hq2, hf⟩ := bd_some hf
  refine CW.callS (As := [.int 0, .int (S.1 p0 10)]) (st := [.ref b, .ref b]) lt_RX5_43 (by decide +kernel) (xc_X5_start hq2) (by decide) (by decide) rfl (Nat.le_of_ble_eq_true rfl) rfl ?_
  show CW l yy_X5_follow 4 _ _ 20 [some (.ref b), some (.ref p0), some (.int p1), some (.int (S.1 p0 10)), some (.int q1), none, none] [.int q2, .ref b, .ref b] S
  refine CW.run (blk := [(.iconst 0, 0)]) (pc' := 21) (ls' := [some (.ref b), some (.ref p0), some (.int p1), some (.int (S.1 p0 10)), some (.int q1), none, none]) (st' := [.int 0, .int q2, .ref b, .ref b]) (by decide +kernel) rfl ?_
  obtain ⟨q3, hq3, hf⟩ := bd_some hf
  refine CW.callV (As := [.int q2, .int 0]) (st := [.ref b]) lv_RX5_95 hb (by decide) rfl rfl (by decide +kernel) (xc_X5_mostWith hb hq3) (by decide) (by decide) rfl (Nat.le_of_ble_eq_true rfl) rfl ?_
  show CW l yy_X5_follow 4 _ _ 24 [some (.ref b), some (.ref p0), some (.int p1), some (.int (S.1 p0 10)), some (.int q1), none, none] [.int q3, .ref b] S
  refine CW.putI hb (by decide) fp_RX5_98 (by decide +kernel) (fun _ _ _ => Nat.le_of_ble_eq_true rfl) rfl rfl (fun _ _ _ => rfl) ?_
  obtain ⟨S4, hS4, hf⟩ := letv_some hf
  rw [← hS4]
  refine CW.run (blk := [(.aload_n 0, 0)]) (pc' := 28) (ls' := [some (.ref b), some (.ref p0), some (.int p1), some (.int (S.1 p0 10)), some (.int q1), none, none]) (st' := [.ref b]) (by decide +kernel) rfl ?_
  refine CW.getf (v := .ref (b + 3)) hb (by decide) fl_RX5_19 (by decide +kernel) rfl ?_
  refine CW.run (blk := [(.iconst 0, 0), (.iload_n 3, 0)]) (pc' := 33) (ls' := [some (.ref b), some (.ref p0), some (.int p1), some (.int (S.1 p0 10)), some (.int q1), none, none]) (st' := [.int (S.1 p0 10), .int 0, .ref (b + 3)]) (by decide +kernel) rfl ?_
  obtain ⟨hi5, hf⟩ := bi_some hf
  refine CW.iast (kk_4_2 hb) (kn_4_2 hb) (by decide +kernel) (inb_in hi5) ?_
  obtain ⟨S6, hS6, hf⟩ := letv_some hf
  rw [← hS6]
  refine CW.run (blk := [(.iconst 1, 1), (.istore 5, 0)]) (pc' := 37) (ls' := [some (.ref b), some (.ref p0), some (.int p1), some (.int (S.1 p0 10)), some (.int q1), some (.int 1), none]) (st' := []) (by decide +kernel) rfl ?_
  obtain ⟨w19, hw19, hf⟩ := bd_some hf
  refine xc_X5_follow_L37 b p0 p1 hb h0 FU _ _ _ _ _ hw19 ?_
  have e9 := Option.some.inj hf
  subst e9
  exact CW.vret rfl (by decide +kernel)
def fc_X5_plan_L29 (k0 : Nat) (k1 : Nat) (k3 : Int32) (k4 : Int32) : Nat → Int32 → cT → Option (Int32 × cT)
  | 0, _, _ => none
  | N + 1, a5, S => if (S.1 k1 9) ≤ a5 then (some (a5, S)) else (Option.bind (if k4 = (k3 - 1) then (some (1)) else (some (0)) : Option (Int32)) fun w4 => (fc_X5_gather k0 k1 k4 a5 w4 S).bind fun q6 => (fc_X5_start k4 a5 q6).bind fun q7 => (fc_X5_served k1 k4 a5 q6).bind fun q8 => (fc_X5_serve k0 q7 q8 q6).bind fun q9 => fc_X5_plan_L29 k0 k1 k3 k4 N (a5 + 1) q9)
def fc_X5_plan_L21 (k0 : Nat) (k1 : Nat) (k3 : Int32) : Nat → Int32 → cT → Option (Int32 × cT)
  | 0, _, _ => none
  | N + 1, a4, S => if a4 < 0 then (some (a4, S)) else ((fc_X5_plan_L29 k0 k1 k3 a4 FU 0 S).bind fun w10 => fc_X5_plan_L21 k0 k1 k3 N (a4 + (-1)) w10.2)
def fc_X5_plan (b : Nat) (p0 : Nat) (p1 : Int32) (S : cT) : Option (cT) := (fc_X5_addWorths b p0 S).bind fun q1 => (fc_X5_plan_L21 b p0 (mxI 1 (mnI p1 16)) FU ((mxI 1 (mnI p1 16)) - 1) q1).bind fun w11 => (fc_X5_follow b p0 (mxI 1 (mnI p1 16)) w11.2).bind fun q12 => some q12
theorem xc_X5_plan_L29 {l : Launch} {r : Option Value} {S' : cT} (k0 : Nat) (k1 : Nat) (k2 : Int32) (k3 : Int32) (k4 : Int32) (hk0 : cK k0 = 4) (hk1 : cK k1 = 2) : ∀ (N : Nat) (a5 : Int32) (S : cT) (W0 : Int32 × cT) (_ : fc_X5_plan_L29 k0 k1 k3 k4 N a5 S = some W0) (_ : CW l yy_X5_plan 5 r S' 85 [some (.ref k0), some (.ref k1), some (.int k2), some (.int k3), some (.int k4), some (.int W0.1)] [] W0.2), CW l yy_X5_plan 5 r S' 29 [some (.ref k0), some (.ref k1), some (.int k2), some (.int k3), some (.int k4), some (.int a5)] [] S := by
  intro N
  induction N with
  | zero =>
    intro a5 S W0 hf _
    cases hf
  | succ N ih =>
    intro a5 S W0 hf hk_1
    unfold fc_X5_plan_L29 at hf
    refine CW.run (blk := [(.iload 5, 0), (.aload_n 1, 0)]) (pc' := 32) (ls' := [some (.ref k0), some (.ref k1), some (.int k2), some (.int k3), some (.int k4), some (.int a5)]) (st' := [.ref k1, .int a5]) (by decide +kernel) rfl ?_
    refine CW.getf (v := .int (S.1 k1 9)) hk1 (by decide) fl_RX5_35 (by decide +kernel) rfl ?_
    refine CW.icmp_ge (off := 50) (tgt := 85) (by decide +kernel) (by decide) (fun c35_3 => ?_) (fun c35_3 => ?_)
    · rw [if_pos c35_3] at hf
      have e9 := Option.some.inj hf
      subst e9
      exact hk_1
    · rw [if_neg c35_3] at hf
      refine CW.run (blk := [(.aload_n 0, 0), (.aload_n 1, 0), (.iload 4, 0), (.iload 5, 0), (.iload 4, 0), (.iload_n 3, 0), (.iconst 1, 1), (.isub, 0)]) (pc' := 49) (ls' := [some (.ref k0), some (.ref k1), some (.int k2), some (.int k3), some (.int k4), some (.int a5)]) (st' := [.int (k3 - 1), .int k4, .int a5, .int k4, .ref k1, .ref k0]) (by decide +kernel) rfl ?_
      obtain ⟨w4, hw4, hf⟩ := bd_some hf
      have hJ : CW l yy_X5_plan 5 r S' 57 [some (.ref k0), some (.ref k1), some (.int k2), some (.int k3), some (.int k4), some (.int a5)] [.int w4, .int a5, .int k4, .ref k1, .ref k0] S := by
        obtain ⟨q6, hq6, hf⟩ := bd_some hf
        refine CW.callV (As := [.ref k1, .int k4, .int a5, .int w4]) (st := []) lv_RX5_39 hk0 (by decide) rfl rfl (by decide +kernel) (xc_X5_gather hk0 hk1 hq6) (by decide) (by decide) rfl (Nat.le_of_ble_eq_true rfl) rfl ?_
        show CW l yy_X5_plan 5 _ _ 60 [some (.ref k0), some (.ref k1), some (.int k2), some (.int k3), some (.int k4), some (.int a5)] [] q6
        refine CW.run (blk := [(.aload_n 0, 0), (.iload 4, 0), (.iload 5, 0)]) (pc' := 65) (ls' := [some (.ref k0), some (.ref k1), some (.int k2), some (.int k3), some (.int k4), some (.int a5)]) (st' := [.int a5, .int k4, .ref k0]) (by decide +kernel) rfl ?_
        obtain ⟨q7, hq7, hf⟩ := bd_some hf
        refine CW.callS (As := [.int k4, .int a5]) (st := [.ref k0]) lt_RX5_43 (by decide +kernel) (xc_X5_start hq7) (by decide) (by decide) rfl (Nat.le_of_ble_eq_true rfl) rfl ?_
        show CW l yy_X5_plan 5 _ _ 68 [some (.ref k0), some (.ref k1), some (.int k2), some (.int k3), some (.int k4), some (.int a5)] [.int q7, .ref k0] q6
        refine CW.run (blk := [(.aload_n 1, 0), (.iload 4, 0), (.iload 5, 0)]) (pc' := 73) (ls' := [some (.ref k0), some (.ref k1), some (.int k2), some (.int k3), some (.int k4), some (.int a5)]) (st' := [.int a5, .int k4, .ref k1, .int q7, .ref k0]) (by decide +kernel) rfl ?_
        obtain ⟨q8, hq8, hf⟩ := bd_some hf
        refine CW.callS (As := [.ref k1, .int k4, .int a5]) (st := [.int q7, .ref k0]) lt_RX5_46 (by decide +kernel) (xc_X5_served hk1 hq8) (by decide) (by decide) rfl (Nat.le_of_ble_eq_true rfl) rfl ?_
        show CW l yy_X5_plan 5 _ _ 76 [some (.ref k0), some (.ref k1), some (.int k2), some (.int k3), some (.int k4), some (.int a5)] [.int q8, .int q7, .ref k0] q6
        obtain ⟨q9, hq9, hf⟩ := bd_some hf
        refine CW.callV (As := [.int q7, .int q8]) (st := []) lv_RX5_50 hk0 (by decide) rfl rfl (by decide +kernel) (xc_X5_serve hk0 hq9) (by decide) (by decide) rfl (Nat.le_of_ble_eq_true rfl) rfl ?_
        show CW l yy_X5_plan 5 _ _ 79 [some (.ref k0), some (.ref k1), some (.int k2), some (.int k3), some (.int k4), some (.int a5)] [] q9
        refine CW.run (blk := [(.iinc 5 1, 1), (.goto (-53), 0)]) (pc' := 29) (ls' := [some (.ref k0), some (.ref k1), some (.int k2), some (.int k3), some (.int k4), some (.int (a5 + 1))]) (st' := []) (by decide +kernel) rfl ?_
        exact ih _ _ _ hf hk_1
      clear hf
      refine CW.icmp_ne (off := 7) (tgt := 56) (by decide +kernel) (by decide) (fun c49_5 => ?_) (fun c49_5 => ?_)
      · rw [if_neg c49_5] at hw4
        refine CW.run (blk := [(.iconst 0, 0)]) (pc' := 57) (ls' := [some (.ref k0), some (.ref k1), some (.int k2), some (.int k3), some (.int k4), some (.int a5)]) (st' := [.int 0, .int a5, .int k4, .ref k1, .ref k0]) (by decide +kernel) rfl ?_
        have e9 := Option.some.inj hw4
        subst e9
        exact hJ
      · rw [if_pos c49_5] at hw4
        refine CW.run (blk := [(.iconst 1, 1), (.goto 4, 0)]) (pc' := 57) (ls' := [some (.ref k0), some (.ref k1), some (.int k2), some (.int k3), some (.int k4), some (.int a5)]) (st' := [.int 1, .int a5, .int k4, .ref k1, .ref k0]) (by decide +kernel) rfl ?_
        have e9 := Option.some.inj hw4
        subst e9
        exact hJ
theorem xc_X5_plan_L21 {l : Launch} {r : Option Value} {S' : cT} (k0 : Nat) (k1 : Nat) (k2 : Int32) (k3 : Int32) (hk0 : cK k0 = 4) (hk1 : cK k1 = 2) : ∀ (N : Nat) (a4 : Int32) (S : cT) (W0 : Int32 × cT) (_ : fc_X5_plan_L21 k0 k1 k3 N a4 S = some W0) (_ : CW l yy_X5_plan 5 r S' 91 [some (.ref k0), some (.ref k1), some (.int k2), some (.int k3), some (.int W0.1), none] [] W0.2), CW l yy_X5_plan 5 r S' 21 [some (.ref k0), some (.ref k1), some (.int k2), some (.int k3), some (.int a4), none] [] S := by
  intro N
  induction N with
  | zero =>
    intro a4 S W0 hf _
    cases hf
  | succ N ih =>
    intro a4 S W0 hf hk_1
    unfold fc_X5_plan_L21 at hf
    refine CW.run (blk := [(.iload 4, 0)]) (pc' := 23) (ls' := [some (.ref k0), some (.ref k1), some (.int k2), some (.int k3), some (.int a4), none]) (st' := [.int a4]) (by decide +kernel) rfl ?_
    refine CW.if_lt (off := 68) (tgt := 91) (by decide +kernel) (by decide) (fun c23_2 => ?_) (fun c23_2 => ?_)
    · rw [if_pos c23_2] at hf
      have e9 := Option.some.inj hf
      subst e9
      exact hk_1
    · rw [if_neg c23_2] at hf
      refine CW.run (blk := [(.iconst 0, 0), (.istore 5, 0)]) (pc' := 29) (ls' := [some (.ref k0), some (.ref k1), some (.int k2), some (.int k3), some (.int a4), some (.int 0)]) (st' := []) (by decide +kernel) rfl ?_
      obtain ⟨w10, hw10, hf⟩ := bd_some hf
      refine xc_X5_plan_L29 k0 k1 k2 k3 a4 hk0 hk1 FU _ _ _ hw10 ?_
      refine CW.run (blk := [(.iinc 4 (-1), (-1)), (.goto (-67), 0)]) (pc' := 21) (ls' := [some (.ref k0), some (.ref k1), some (.int k2), some (.int k3), some (.int (a4 + (-1))), some (.int w10.1)]) (st' := []) (by decide +kernel) rfl ?_
      refine CW.fgt (ls' := [some (.ref k0), some (.ref k1), some (.int k2), some (.int k3), some (.int (a4 + (-1))), none]) (by repeat' (first | exact trivial | refine ⟨rfl, ?_⟩)) ?_
      exact ih _ _ _ hf hk_1
theorem xc_X5_plan {l : Launch} {b : Nat} {p0 : Nat} {p1 : Int32} {S : cT} {q : cT} (hb : cK b = 4) (h0 : cK p0 = 2) (hf : fc_X5_plan b p0 p1 S = some q) : COk l yy_X5_plan 5 [.ref b, .ref p0, .int p1] S none q := by
  refine COk.of (ls := [some (.ref b), some (.ref p0), some (.int p1), none, none, none]) (by decide +kernel) (Nat.le_of_ble_eq_true rfl) rfl ?_
  unfold fc_X5_plan at hf
  refine CW.run (blk := [(.iconst 1, 1), (.iload_n 2, 0), (.bipush 16, 16)]) (pc' := 4) (ls' := [some (.ref b), some (.ref p0), some (.int p1), none, none, none]) (st' := [.int 16, .int p1, .int 1]) (by decide +kernel) rfl ?_
  refine CW.mmin (idx := 22) (tb_in 898 (by decide +kernel) (by decide +kernel)) (by decide +kernel) (by decide) (Nat.le_of_ble_eq_true rfl) ?_
  refine CW.mmax (idx := 28) (tb_in 899 (by decide +kernel) (by decide +kernel)) (by decide +kernel) (by decide) (Nat.le_of_ble_eq_true rfl) ?_
  refine CW.run (blk := [(.istore_n 3, 0), (.aload_n 0, 0), (.aload_n 1, 0)]) (pc' := 13) (ls' := [some (.ref b), some (.ref p0), some (.int p1), some (.int (mxI 1 (mnI p1 16))), none, none]) (st' := [.ref p0, .ref b]) (by decide +kernel) rfl ?_
  obtain ⟨q1, hq1, hf⟩ := bd_some hf
  refine CW.callV (As := [.ref p0]) (st := []) lv_RX5_31 hb (by decide) rfl rfl (by decide +kernel) (xc_X5_addWorths hb h0 hq1) (by decide) (by decide) rfl (Nat.le_of_ble_eq_true rfl) rfl ?_
  show CW l yy_X5_plan 5 _ _ 16 [some (.ref b), some (.ref p0), some (.int p1), some (.int (mxI 1 (mnI p1 16))), none, none] [] q1
  refine CW.run (blk := [(.iload_n 3, 0), (.iconst 1, 1), (.isub, 0), (.istore 4, 0)]) (pc' := 21) (ls' := [some (.ref b), some (.ref p0), some (.int p1), some (.int (mxI 1 (mnI p1 16))), some (.int ((mxI 1 (mnI p1 16)) - 1)), none]) (st' := []) (by decide +kernel) rfl ?_
  obtain ⟨w11, hw11, hf⟩ := bd_some hf
  refine xc_X5_plan_L21 b p0 p1 (mxI 1 (mnI p1 16)) hb h0 FU _ _ _ hw11 ?_
  refine CW.run (blk := [(.aload_n 0, 0), (.aload_n 1, 0), (.iload_n 3, 0)]) (pc' := 94) (ls' := [some (.ref b), some (.ref p0), some (.int p1), some (.int (mxI 1 (mnI p1 16))), some (.int w11.1), none]) (st' := [.int (mxI 1 (mnI p1 16)), .ref p0, .ref b]) (by decide +kernel) rfl ?_
  obtain ⟨q12, hq12, hf⟩ := bd_some hf
  refine CW.callV (As := [.ref p0, .int (mxI 1 (mnI p1 16))]) (st := []) lv_RX5_54 hb (by decide) rfl rfl (by decide +kernel) (xc_X5_follow hb h0 hq12) (by decide) (by decide) rfl (Nat.le_of_ble_eq_true rfl) rfl ?_
  show CW l yy_X5_plan 5 _ _ 97 [some (.ref b), some (.ref p0), some (.int p1), some (.int (mxI 1 (mnI p1 16))), some (.int w11.1), none] [] q12
  have e9 := Option.some.inj hf
  subst e9
  exact CW.vret rfl (by decide +kernel)
def fc_X6_isFull (b : Nat) (S : cT) : Option (Bool) := if (S.1 b 3) < (S.1 b 2) then (some false) else (some true)
theorem xc_X6_isFull {l : Launch} {b : Nat} {S : cT} {q : Bool} (hb : cK b = 5) (hf : fc_X6_isFull b S = some q) : COk l yy_X6_isFull 0 [.ref b] S (some (.int (b2i q))) S := by
  refine COk.of (ls := [some (.ref b)]) (by decide +kernel) (Nat.le_of_ble_eq_true rfl) rfl ?_
  unfold fc_X6_isFull at hf
  refine CW.run (blk := [(.aload_n 0, 0)]) (pc' := 1) (ls' := [some (.ref b)]) (st' := [.ref b]) (by decide +kernel) rfl ?_
  refine CW.getf (v := .int (S.1 b 3)) hb (by decide) fl_RX6_22 (by decide +kernel) rfl ?_
  refine CW.run (blk := [(.aload_n 0, 0)]) (pc' := 5) (ls' := [some (.ref b)]) (st' := [.ref b, .int (S.1 b 3)]) (by decide +kernel) rfl ?_
  refine CW.getf (v := .int (S.1 b 2)) hb (by decide) fl_RX6_9 (by decide +kernel) rfl ?_
  refine CW.icmp_lt (off := 7) (tgt := 15) (by decide +kernel) (by decide) (fun c8_1 => ?_) (fun c8_1 => ?_)
  · rw [if_pos c8_1] at hf
    refine CW.run (blk := [(.iconst 0, 0)]) (pc' := 16) (ls' := [some (.ref b)]) (st' := [.int 0]) (by decide +kernel) rfl ?_
    have e9 := Option.some.inj hf
    subst e9
    exact CW.zret rfl (b2i_nar _) (by decide +kernel)
  · rw [if_neg c8_1] at hf
    refine CW.run (blk := [(.iconst 1, 1), (.goto 4, 0)]) (pc' := 16) (ls' := [some (.ref b)]) (st' := [.int 1]) (by decide +kernel) rfl ?_
    have e9 := Option.some.inj hf
    subst e9
    exact CW.zret rfl (b2i_nar _) (by decide +kernel)
def fc_X7_clear (b : Nat) (S : cT) : Option (cT) := letv (ca S b 5 0) fun S1 => letv (ca S1 b 6 0) fun S2 => letv (ca S2 b 7 0) fun S3 => some S3
theorem xc_X7_clear {l : Launch} {b : Nat} {S : cT} {q : cT} (hb : cK b = 6) (hf : fc_X7_clear b S = some q) : COk l yy_X7_clear 0 [.ref b] S none q := by
  refine COk.of (ls := [some (.ref b)]) (by decide +kernel) (Nat.le_of_ble_eq_true rfl) rfl ?_
  unfold fc_X7_clear at hf
  refine CW.run (blk := [(.aload_n 0, 0), (.iconst 0, 0)]) (pc' := 2) (ls' := [some (.ref b)]) (st' := [.int 0, .ref b]) (by decide +kernel) rfl ?_
  refine CW.putI hb (by decide) fp_RX7_27 (by decide +kernel) (fun _ _ _ => Nat.le_of_ble_eq_true rfl) rfl rfl (fun _ _ _ => rfl) ?_
  obtain ⟨S1, hS1, hf⟩ := letv_some hf
  rw [← hS1]
  refine CW.run (blk := [(.aload_n 0, 0), (.iconst 0, 0)]) (pc' := 7) (ls' := [some (.ref b)]) (st' := [.int 0, .ref b]) (by decide +kernel) rfl ?_
  refine CW.putI hb (by decide) fp_RX7_31 (by decide +kernel) (fun _ _ _ => Nat.le_of_ble_eq_true rfl) rfl rfl (fun _ _ _ => rfl) ?_
  obtain ⟨S2, hS2, hf⟩ := letv_some hf
  rw [← hS2]
  refine CW.run (blk := [(.aload_n 0, 0), (.iconst 0, 0)]) (pc' := 12) (ls' := [some (.ref b)]) (st' := [.int 0, .ref b]) (by decide +kernel) rfl ?_
  refine CW.putI hb (by decide) fp_RX7_34 (by decide +kernel) (fun _ _ _ => Nat.le_of_ble_eq_true rfl) rfl rfl (fun _ _ _ => rfl) ?_
  obtain ⟨S3, hS3, hf⟩ := letv_some hf
  rw [← hS3]
  have e9 := Option.some.inj hf
  subst e9
  exact CW.vret rfl (by decide +kernel)
def fc_X7_addCode (b : Nat) (p0 : Int32) (S : cT) : Option (cT) := if (S.1 b 5) < 0 then (some S) else (if 400 ≤ (S.1 b 5) then (some S) else (bif inb (S.1 b 5) 400 then (letv (ca S (b + 1) ((S.1 b 5) : Int32).toNatClampNeg p0) fun S4 => letv (ca S4 b 5 ((S4.1 b 5) + 1)) fun S5 => some S5) else none))
theorem xc_X7_addCode {l : Launch} {b : Nat} {p0 : Int32} {S : cT} {q : cT} (hb : cK b = 6) (hf : fc_X7_addCode b p0 S = some q) : COk l yy_X7_addCode 0 [.ref b, .int p0] S none q := by
  refine COk.of (ls := [some (.ref b), some (.int p0)]) (by decide +kernel) (Nat.le_of_ble_eq_true rfl) rfl ?_
  unfold fc_X7_addCode at hf
  refine CW.run (blk := [(.aload_n 0, 0)]) (pc' := 1) (ls' := [some (.ref b), some (.int p0)]) (st' := [.ref b]) (by decide +kernel) rfl ?_
  refine CW.getf (v := .int (S.1 b 5)) hb (by decide) fl_RX7_27 (by decide +kernel) rfl ?_
  refine CW.if_lt (off := 33) (tgt := 37) (by decide +kernel) (by decide) (fun c4_1 => ?_) (fun c4_1 => ?_)
  · rw [if_pos c4_1] at hf
    have e9 := Option.some.inj hf
    subst e9
    exact CW.vret rfl (by decide +kernel)
  · rw [if_neg c4_1] at hf
    refine CW.run (blk := [(.aload_n 0, 0)]) (pc' := 8) (ls' := [some (.ref b), some (.int p0)]) (st' := [.ref b]) (by decide +kernel) rfl ?_
    refine CW.getf (v := .int (S.1 b 5)) hb (by decide) fl_RX7_27 (by decide +kernel) rfl ?_
    refine CW.run (blk := [(.sipush 400, 400)]) (pc' := 14) (ls' := [some (.ref b), some (.int p0)]) (st' := [.int 400, .int (S.1 b 5)]) (by decide +kernel) rfl ?_
    refine CW.icmp_ge (off := 23) (tgt := 37) (by decide +kernel) (by decide) (fun c14_2 => ?_) (fun c14_2 => ?_)
    · rw [if_pos c14_2] at hf
      have e9 := Option.some.inj hf
      subst e9
      exact CW.vret rfl (by decide +kernel)
    · rw [if_neg c14_2] at hf
      refine CW.run (blk := [(.aload_n 0, 0)]) (pc' := 18) (ls' := [some (.ref b), some (.int p0)]) (st' := [.ref b]) (by decide +kernel) rfl ?_
      refine CW.getf (v := .ref (b + 1)) hb (by decide) fl_RX7_9 (by decide +kernel) rfl ?_
      refine CW.run (blk := [(.aload_n 0, 0)]) (pc' := 22) (ls' := [some (.ref b), some (.int p0)]) (st' := [.ref b, .ref (b + 1)]) (by decide +kernel) rfl ?_
      refine CW.getf (v := .int (S.1 b 5)) hb (by decide) fl_RX7_27 (by decide +kernel) rfl ?_
      refine CW.run (blk := [(.iload_n 1, 0)]) (pc' := 26) (ls' := [some (.ref b), some (.int p0)]) (st' := [.int p0, .int (S.1 b 5), .ref (b + 1)]) (by decide +kernel) rfl ?_
      obtain ⟨hi3, hf⟩ := bi_some hf
      refine CW.iast (kk_6_0 hb) (kn_6_0 hb) (by decide +kernel) (inb_in hi3) ?_
      obtain ⟨S4, hS4, hf⟩ := letv_some hf
      rw [← hS4]
      refine CW.run (blk := [(.aload_n 0, 0), (.dup, 0)]) (pc' := 29) (ls' := [some (.ref b), some (.int p0)]) (st' := [.ref b, .ref b]) (by decide +kernel) rfl ?_
      refine CW.getf (v := .int (S4.1 b 5)) hb (by decide) fl_RX7_27 (by decide +kernel) rfl ?_
      refine CW.run (blk := [(.iconst 1, 1), (.iadd, 0)]) (pc' := 34) (ls' := [some (.ref b), some (.int p0)]) (st' := [.int ((S4.1 b 5) + 1), .ref b]) (by decide +kernel) rfl ?_
      refine CW.putI hb (by decide) fp_RX7_27 (by decide +kernel) (fun _ _ _ => Nat.le_of_ble_eq_true rfl) rfl rfl (fun _ _ _ => rfl) ?_
      obtain ⟨S5, hS5, hf⟩ := letv_some hf
      rw [← hS5]
      have e9 := Option.some.inj hf
      subst e9
      exact CW.vret rfl (by decide +kernel)
def fc_X7_addClause (b : Nat) (p0 : Int32) (p1 : Int32) (p2 : Int32) (S : cT) : Option (cT) := if (S.1 b 6) < 0 then (some S) else (if 12 ≤ (S.1 b 6) then (some S) else (bif inb (S.1 b 6) 12 then (letv (ca S (b + 2) ((S.1 b 6) : Int32).toNatClampNeg p0) fun S4 => bif inb (S4.1 b 6) 12 then (letv (ca S4 (b + 3) ((S4.1 b 6) : Int32).toNatClampNeg p1) fun S6 => bif inb (S6.1 b 6) 12 then (letv (ca S6 (b + 4) ((S6.1 b 6) : Int32).toNatClampNeg p2) fun S8 => bif inb (S8.1 b 6) 12 then (letv (ca S8 (b + 5) ((S8.1 b 6) : Int32).toNatClampNeg (S8.1 b 5)) fun S10 => letv (ca S10 b 6 ((S10.1 b 6) + 1)) fun S11 => some S11) else none) else none) else none) else none))
theorem xc_X7_addClause {l : Launch} {b : Nat} {p0 : Int32} {p1 : Int32} {p2 : Int32} {S : cT} {q : cT} (hb : cK b = 6) (hf : fc_X7_addClause b p0 p1 p2 S = some q) : COk l yy_X7_addClause 0 [.ref b, .int p0, .int p1, .int p2] S none q := by
  refine COk.of (ls := [some (.ref b), some (.int p0), some (.int p1), some (.int p2)]) (by decide +kernel) (Nat.le_of_ble_eq_true rfl) rfl ?_
  unfold fc_X7_addClause at hf
  refine CW.run (blk := [(.aload_n 0, 0)]) (pc' := 1) (ls' := [some (.ref b), some (.int p0), some (.int p1), some (.int p2)]) (st' := [.ref b]) (by decide +kernel) rfl ?_
  refine CW.getf (v := .int (S.1 b 6)) hb (by decide) fl_RX7_31 (by decide +kernel) rfl ?_
  refine CW.if_lt (off := 65) (tgt := 69) (by decide +kernel) (by decide) (fun c4_1 => ?_) (fun c4_1 => ?_)
  · rw [if_pos c4_1] at hf
    have e9 := Option.some.inj hf
    subst e9
    exact CW.vret rfl (by decide +kernel)
  · rw [if_neg c4_1] at hf
    refine CW.run (blk := [(.aload_n 0, 0)]) (pc' := 8) (ls' := [some (.ref b), some (.int p0), some (.int p1), some (.int p2)]) (st' := [.ref b]) (by decide +kernel) rfl ?_
    refine CW.getf (v := .int (S.1 b 6)) hb (by decide) fl_RX7_31 (by decide +kernel) rfl ?_
    refine CW.run (blk := [(.bipush 12, 12)]) (pc' := 13) (ls' := [some (.ref b), some (.int p0), some (.int p1), some (.int p2)]) (st' := [.int 12, .int (S.1 b 6)]) (by decide +kernel) rfl ?_
    refine CW.icmp_ge (off := 56) (tgt := 69) (by decide +kernel) (by decide) (fun c13_2 => ?_) (fun c13_2 => ?_)
    · rw [if_pos c13_2] at hf
      have e9 := Option.some.inj hf
      subst e9
      exact CW.vret rfl (by decide +kernel)
    · rw [if_neg c13_2] at hf
      refine CW.run (blk := [(.aload_n 0, 0)]) (pc' := 17) (ls' := [some (.ref b), some (.int p0), some (.int p1), some (.int p2)]) (st' := [.ref b]) (by decide +kernel) rfl ?_
      refine CW.getf (v := .ref (b + 2)) hb (by decide) fl_RX7_15 (by decide +kernel) rfl ?_
      refine CW.run (blk := [(.aload_n 0, 0)]) (pc' := 21) (ls' := [some (.ref b), some (.int p0), some (.int p1), some (.int p2)]) (st' := [.ref b, .ref (b + 2)]) (by decide +kernel) rfl ?_
      refine CW.getf (v := .int (S.1 b 6)) hb (by decide) fl_RX7_31 (by decide +kernel) rfl ?_
      refine CW.run (blk := [(.iload_n 1, 0)]) (pc' := 25) (ls' := [some (.ref b), some (.int p0), some (.int p1), some (.int p2)]) (st' := [.int p0, .int (S.1 b 6), .ref (b + 2)]) (by decide +kernel) rfl ?_
      obtain ⟨hi3, hf⟩ := bi_some hf
      refine CW.iast (kk_6_1 hb) (kn_6_1 hb) (by decide +kernel) (inb_in hi3) ?_
      obtain ⟨S4, hS4, hf⟩ := letv_some hf
      rw [← hS4]
      refine CW.run (blk := [(.aload_n 0, 0)]) (pc' := 27) (ls' := [some (.ref b), some (.int p0), some (.int p1), some (.int p2)]) (st' := [.ref b]) (by decide +kernel) rfl ?_
      refine CW.getf (v := .ref (b + 3)) hb (by decide) fl_RX7_18 (by decide +kernel) rfl ?_
      refine CW.run (blk := [(.aload_n 0, 0)]) (pc' := 31) (ls' := [some (.ref b), some (.int p0), some (.int p1), some (.int p2)]) (st' := [.ref b, .ref (b + 3)]) (by decide +kernel) rfl ?_
      refine CW.getf (v := .int (S4.1 b 6)) hb (by decide) fl_RX7_31 (by decide +kernel) rfl ?_
      refine CW.run (blk := [(.iload_n 2, 0)]) (pc' := 35) (ls' := [some (.ref b), some (.int p0), some (.int p1), some (.int p2)]) (st' := [.int p1, .int (S4.1 b 6), .ref (b + 3)]) (by decide +kernel) rfl ?_
      obtain ⟨hi5, hf⟩ := bi_some hf
      refine CW.iast (kk_6_2 hb) (kn_6_2 hb) (by decide +kernel) (inb_in hi5) ?_
      obtain ⟨S6, hS6, hf⟩ := letv_some hf
      rw [← hS6]
      refine CW.run (blk := [(.aload_n 0, 0)]) (pc' := 37) (ls' := [some (.ref b), some (.int p0), some (.int p1), some (.int p2)]) (st' := [.ref b]) (by decide +kernel) rfl ?_
      refine CW.getf (v := .ref (b + 4)) hb (by decide) fl_RX7_21 (by decide +kernel) rfl ?_
      refine CW.run (blk := [(.aload_n 0, 0)]) (pc' := 41) (ls' := [some (.ref b), some (.int p0), some (.int p1), some (.int p2)]) (st' := [.ref b, .ref (b + 4)]) (by decide +kernel) rfl ?_
      refine CW.getf (v := .int (S6.1 b 6)) hb (by decide) fl_RX7_31 (by decide +kernel) rfl ?_
      refine CW.run (blk := [(.iload_n 3, 0)]) (pc' := 45) (ls' := [some (.ref b), some (.int p0), some (.int p1), some (.int p2)]) (st' := [.int p2, .int (S6.1 b 6), .ref (b + 4)]) (by decide +kernel) rfl ?_
      obtain ⟨hi7, hf⟩ := bi_some hf
      refine CW.iast (kk_6_3 hb) (kn_6_3 hb) (by decide +kernel) (inb_in hi7) ?_
      obtain ⟨S8, hS8, hf⟩ := letv_some hf
      rw [← hS8]
      refine CW.run (blk := [(.aload_n 0, 0)]) (pc' := 47) (ls' := [some (.ref b), some (.int p0), some (.int p1), some (.int p2)]) (st' := [.ref b]) (by decide +kernel) rfl ?_
      refine CW.getf (v := .ref (b + 5)) hb (by decide) fl_RX7_24 (by decide +kernel) rfl ?_
      refine CW.run (blk := [(.aload_n 0, 0)]) (pc' := 51) (ls' := [some (.ref b), some (.int p0), some (.int p1), some (.int p2)]) (st' := [.ref b, .ref (b + 5)]) (by decide +kernel) rfl ?_
      refine CW.getf (v := .int (S8.1 b 6)) hb (by decide) fl_RX7_31 (by decide +kernel) rfl ?_
      refine CW.run (blk := [(.aload_n 0, 0)]) (pc' := 55) (ls' := [some (.ref b), some (.int p0), some (.int p1), some (.int p2)]) (st' := [.ref b, .int (S8.1 b 6), .ref (b + 5)]) (by decide +kernel) rfl ?_
      refine CW.getf (v := .int (S8.1 b 5)) hb (by decide) fl_RX7_27 (by decide +kernel) rfl ?_
      obtain ⟨hi9, hf⟩ := bi_some hf
      refine CW.iast (kk_6_4 hb) (kn_6_4 hb) (by decide +kernel) (inb_in hi9) ?_
      obtain ⟨S10, hS10, hf⟩ := letv_some hf
      rw [← hS10]
      refine CW.run (blk := [(.aload_n 0, 0), (.dup, 0)]) (pc' := 61) (ls' := [some (.ref b), some (.int p0), some (.int p1), some (.int p2)]) (st' := [.ref b, .ref b]) (by decide +kernel) rfl ?_
      refine CW.getf (v := .int (S10.1 b 6)) hb (by decide) fl_RX7_31 (by decide +kernel) rfl ?_
      refine CW.run (blk := [(.iconst 1, 1), (.iadd, 0)]) (pc' := 66) (ls' := [some (.ref b), some (.int p0), some (.int p1), some (.int p2)]) (st' := [.int ((S10.1 b 6) + 1), .ref b]) (by decide +kernel) rfl ?_
      refine CW.putI hb (by decide) fp_RX7_31 (by decide +kernel) (fun _ _ _ => Nat.le_of_ble_eq_true rfl) rfl rfl (fun _ _ _ => rfl) ?_
      obtain ⟨S11, hS11, hf⟩ := letv_some hf
      rw [← hS11]
      have e9 := Option.some.inj hf
      subst e9
      exact CW.vret rfl (by decide +kernel)
def fc_X8_readValue (p0 : Nat) (p1 : Nat) (S : cT) : Option (cT) := Option.bind (if (S.1 p0 8) = 258 then (some (1)) else (some (0)) : Option (Int32)) fun w1 => if w1 = 0 then (if ((S.1 p0 8) - 300) < 0 then ((fc_X10_refuse p0 0 S).bind fun q24 => some q24) else (if ((S.1 p0 8) - 300) < 8 then (if w1 = 0 then (if (S.1 p1 7) < 60 then (letv (ca S p1 7 ((S.1 p1 7) + 1)) fun S28 => if w1 = 0 then ((fc_X7_addCode p1 ((-1) - ((S.1 p0 8) - 300)) S28).bind fun q30 => (fc_X10_step p0 q30).bind fun q31 => some q31) else ((fc_X7_addCode p1 (S28.1 p0 9) S28).bind fun q32 => (fc_X10_step p0 q32).bind fun q33 => some q33)) else ((fc_X10_refuse p0 3 S).bind fun q34 => some q34)) else (if (S.1 p0 9) = (-1) then ((fc_X10_refuse p0 1 S).bind fun q44 => some q44) else (if (S.1 p1 7) < 60 then (letv (ca S p1 7 ((S.1 p1 7) + 1)) fun S37 => if w1 = 0 then ((fc_X7_addCode p1 ((-1) - ((S.1 p0 8) - 300)) S37).bind fun q39 => (fc_X10_step p0 q39).bind fun q40 => some q40) else ((fc_X7_addCode p1 (S37.1 p0 9) S37).bind fun q41 => (fc_X10_step p0 q41).bind fun q42 => some q42)) else ((fc_X10_refuse p0 3 S).bind fun q43 => some q43)))) else ((fc_X10_refuse p0 0 S).bind fun q45 => some q45))) else (if w1 = 0 then (if (S.1 p1 7) < 60 then (letv (ca S p1 7 ((S.1 p1 7) + 1)) fun S6 => if w1 = 0 then ((fc_X7_addCode p1 ((-1) - ((S.1 p0 8) - 300)) S6).bind fun q8 => (fc_X10_step p0 q8).bind fun q9 => some q9) else ((fc_X7_addCode p1 (S6.1 p0 9) S6).bind fun q10 => (fc_X10_step p0 q10).bind fun q11 => some q11)) else ((fc_X10_refuse p0 3 S).bind fun q12 => some q12)) else (if (S.1 p0 9) = (-1) then ((fc_X10_refuse p0 1 S).bind fun q22 => some q22) else (if (S.1 p1 7) < 60 then (letv (ca S p1 7 ((S.1 p1 7) + 1)) fun S15 => if w1 = 0 then ((fc_X7_addCode p1 ((-1) - ((S.1 p0 8) - 300)) S15).bind fun q17 => (fc_X10_step p0 q17).bind fun q18 => some q18) else ((fc_X7_addCode p1 (S15.1 p0 9) S15).bind fun q19 => (fc_X10_step p0 q19).bind fun q20 => some q20)) else ((fc_X10_refuse p0 3 S).bind fun q21 => some q21))))
theorem xc_X8_readValue {l : Launch} {p0 : Nat} {p1 : Nat} {S : cT} {q : cT} (h0 : cK p0 = 8) (h1 : cK p1 = 6) (hf : fc_X8_readValue p0 p1 S = some q) : COk l yy_X8_readValue 1 [.ref p0, .ref p1] S none q := by
  refine COk.of (ls := [some (.ref p0), some (.ref p1), none, none]) (by decide +kernel) (Nat.le_of_ble_eq_true rfl) rfl ?_
  unfold fc_X8_readValue at hf
  refine CW.run (blk := [(.aload_n 0, 0)]) (pc' := 1) (ls' := [some (.ref p0), some (.ref p1), none, none]) (st' := [.ref p0]) (by decide +kernel) rfl ?_
  refine CW.getf (v := .int (S.1 p0 8)) h0 (by decide) fl_RX8_23 (by decide +kernel) rfl ?_
  refine CW.run (blk := [(.sipush 300, 300), (.isub, 0), (.istore_n 2, 0), (.aload_n 0, 0)]) (pc' := 10) (ls' := [some (.ref p0), some (.ref p1), some (.int ((S.1 p0 8) - 300)), none]) (st' := [.ref p0]) (by decide +kernel) rfl ?_
  refine CW.getf (v := .int (S.1 p0 8)) h0 (by decide) fl_RX8_23 (by decide +kernel) rfl ?_
  refine CW.run (blk := [(.sipush 258, 258)]) (pc' := 16) (ls' := [some (.ref p0), some (.ref p1), some (.int ((S.1 p0 8) - 300)), none]) (st' := [.int 258, .int (S.1 p0 8)]) (by decide +kernel) rfl ?_
  obtain ⟨w1, hw1, hf⟩ := bd_some hf
  have hJ : CW l yy_X8_readValue 1 none q 24 [some (.ref p0), some (.ref p1), some (.int ((S.1 p0 8) - 300)), none] [.int w1] S := by
    refine CW.run (blk := [(.istore_n 3, 0), (.iload_n 3, 0)]) (pc' := 26) (ls' := [some (.ref p0), some (.ref p1), some (.int ((S.1 p0 8) - 300)), some (.int w1)]) (st' := [.int w1]) (by decide +kernel) rfl ?_
    refine CW.if_ne (off := 19) (tgt := 45) (by decide +kernel) (by decide) (fun c26_3 => ?_) (fun c26_3 => ?_)
    · rw [if_neg c26_3] at hf
      refine CW.run (blk := [(.iload_n 3, 0)]) (pc' := 46) (ls' := [some (.ref p0), some (.ref p1), some (.int ((S.1 p0 8) - 300)), some (.int w1)]) (st' := [.int w1]) (by decide +kernel) rfl ?_
      refine CW.if_eq (off := 17) (tgt := 63) (by decide +kernel) (by decide) (fun c46_4 => ?_) (fun c46_4 => ?_)
      · rw [if_pos c46_4] at hf
        refine CW.run (blk := [(.aload_n 1, 0)]) (pc' := 64) (ls' := [some (.ref p0), some (.ref p1), some (.int ((S.1 p0 8) - 300)), some (.int w1)]) (st' := [.ref p1]) (by decide +kernel) rfl ?_
        refine CW.getf (v := .int (S.1 p1 7)) h1 (by decide) fl_RX8_61 (by decide +kernel) rfl ?_
        refine CW.run (blk := [(.bipush 60, 60)]) (pc' := 69) (ls' := [some (.ref p0), some (.ref p1), some (.int ((S.1 p0 8) - 300)), some (.int w1)]) (st' := [.int 60, .int (S.1 p1 7)]) (by decide +kernel) rfl ?_
        refine CW.icmp_lt (off := 9) (tgt := 78) (by decide +kernel) (by decide) (fun c69_5 => ?_) (fun c69_5 => ?_)
        · rw [if_pos c69_5] at hf
          refine CW.run (blk := [(.aload_n 1, 0), (.dup, 0)]) (pc' := 80) (ls' := [some (.ref p0), some (.ref p1), some (.int ((S.1 p0 8) - 300)), some (.int w1)]) (st' := [.ref p1, .ref p1]) (by decide +kernel) rfl ?_
          refine CW.getf (v := .int (S.1 p1 7)) h1 (by decide) fl_RX8_61 (by decide +kernel) rfl ?_
          refine CW.run (blk := [(.iconst 1, 1), (.iadd, 0)]) (pc' := 85) (ls' := [some (.ref p0), some (.ref p1), some (.int ((S.1 p0 8) - 300)), some (.int w1)]) (st' := [.int ((S.1 p1 7) + 1), .ref p1]) (by decide +kernel) rfl ?_
          refine CW.putI h1 (by decide) fp_RX8_61 (by decide +kernel) (fun _ _ _ => Nat.le_of_ble_eq_true rfl) rfl rfl (fun _ _ _ => rfl) ?_
          obtain ⟨S6, hS6, hf⟩ := letv_some hf
          rw [← hS6]
          refine CW.run (blk := [(.aload_n 1, 0), (.iload_n 3, 0)]) (pc' := 90) (ls' := [some (.ref p0), some (.ref p1), some (.int ((S.1 p0 8) - 300)), some (.int w1)]) (st' := [.int w1, .ref p1]) (by decide +kernel) rfl ?_
          refine CW.if_eq (off := 10) (tgt := 100) (by decide +kernel) (by decide) (fun c90_7 => ?_) (fun c90_7 => ?_)
          · rw [if_pos c90_7] at hf
            refine CW.run (blk := [(.iconst (-1), (-1)), (.iload_n 2, 0), (.isub, 0)]) (pc' := 103) (ls' := [some (.ref p0), some (.ref p1), some (.int ((S.1 p0 8) - 300)), some (.int w1)]) (st' := [.int ((-1) - ((S.1 p0 8) - 300)), .ref p1]) (by decide +kernel) rfl ?_
            obtain ⟨q8, hq8, hf⟩ := bd_some hf
            refine CW.callV (As := [.int ((-1) - ((S.1 p0 8) - 300))]) (st := []) lv_RX8_51 h1 (by decide) rfl rfl (by decide +kernel) (xc_X7_addCode h1 hq8) (by decide) (by decide) rfl (Nat.le_of_ble_eq_true rfl) rfl ?_
            show CW l yy_X8_readValue 1 _ _ 106 [some (.ref p0), some (.ref p1), some (.int ((S.1 p0 8) - 300)), some (.int w1)] [] q8
            refine CW.run (blk := [(.aload_n 0, 0)]) (pc' := 107) (ls' := [some (.ref p0), some (.ref p1), some (.int ((S.1 p0 8) - 300)), some (.int w1)]) (st' := [.ref p0]) (by decide +kernel) rfl ?_
            obtain ⟨q9, hq9, hf⟩ := bd_some hf
            refine CW.callV (As := []) (st := []) lv_RX8_27 h0 (by decide) rfl rfl (by decide +kernel) (xc_X10_step h0 hq9) (by decide) (by decide) rfl (Nat.le_of_ble_eq_true rfl) rfl ?_
            show CW l yy_X8_readValue 1 _ _ 110 [some (.ref p0), some (.ref p1), some (.int ((S.1 p0 8) - 300)), some (.int w1)] [] q9
            have e9 := Option.some.inj hf
            subst e9
            exact CW.vret rfl (by decide +kernel)
          · rw [if_neg c90_7] at hf
            refine CW.run (blk := [(.aload_n 0, 0)]) (pc' := 94) (ls' := [some (.ref p0), some (.ref p1), some (.int ((S.1 p0 8) - 300)), some (.int w1)]) (st' := [.ref p0, .ref p1]) (by decide +kernel) rfl ?_
            refine CW.getf (v := .int (S6.1 p0 9)) h0 (by decide) fl_RX8_67 (by decide +kernel) rfl ?_
            refine CW.run (blk := [(.goto 6, 0)]) (pc' := 103) (ls' := [some (.ref p0), some (.ref p1), some (.int ((S.1 p0 8) - 300)), some (.int w1)]) (st' := [.int (S6.1 p0 9), .ref p1]) (by decide +kernel) rfl ?_
            obtain ⟨q10, hq10, hf⟩ := bd_some hf
            refine CW.callV (As := [.int (S6.1 p0 9)]) (st := []) lv_RX8_51 h1 (by decide) rfl rfl (by decide +kernel) (xc_X7_addCode h1 hq10) (by decide) (by decide) rfl (Nat.le_of_ble_eq_true rfl) rfl ?_
            show CW l yy_X8_readValue 1 _ _ 106 [some (.ref p0), some (.ref p1), some (.int ((S.1 p0 8) - 300)), some (.int w1)] [] q10
            refine CW.run (blk := [(.aload_n 0, 0)]) (pc' := 107) (ls' := [some (.ref p0), some (.ref p1), some (.int ((S.1 p0 8) - 300)), some (.int w1)]) (st' := [.ref p0]) (by decide +kernel) rfl ?_
            obtain ⟨q11, hq11, hf⟩ := bd_some hf
            refine CW.callV (As := []) (st := []) lv_RX8_27 h0 (by decide) rfl rfl (by decide +kernel) (xc_X10_step h0 hq11) (by decide) (by decide) rfl (Nat.le_of_ble_eq_true rfl) rfl ?_
            show CW l yy_X8_readValue 1 _ _ 110 [some (.ref p0), some (.ref p1), some (.int ((S.1 p0 8) - 300)), some (.int w1)] [] q11
            have e9 := Option.some.inj hf
            subst e9
            exact CW.vret rfl (by decide +kernel)
        · rw [if_neg c69_5] at hf
          refine CW.run (blk := [(.aload_n 0, 0), (.iconst 3, 3)]) (pc' := 74) (ls' := [some (.ref p0), some (.ref p1), some (.int ((S.1 p0 8) - 300)), some (.int w1)]) (st' := [.int 3, .ref p0]) (by decide +kernel) rfl ?_
          obtain ⟨q12, hq12, hf⟩ := bd_some hf
          refine CW.callV (As := [.int 3]) (st := []) lv_RX8_30 h0 (by decide) rfl rfl (by decide +kernel) (xc_X10_refuse h0 hq12) (by decide) (by decide) rfl (Nat.le_of_ble_eq_true rfl) rfl ?_
          show CW l yy_X8_readValue 1 _ _ 77 [some (.ref p0), some (.ref p1), some (.int ((S.1 p0 8) - 300)), some (.int w1)] [] q12
          have e9 := Option.some.inj hf
          subst e9
          exact CW.vret rfl (by decide +kernel)
      · rw [if_neg c46_4] at hf
        refine CW.run (blk := [(.aload_n 0, 0)]) (pc' := 50) (ls' := [some (.ref p0), some (.ref p1), some (.int ((S.1 p0 8) - 300)), some (.int w1)]) (st' := [.ref p0]) (by decide +kernel) rfl ?_
        refine CW.getf (v := .int (S.1 p0 9)) h0 (by decide) fl_RX8_67 (by decide +kernel) rfl ?_
        refine CW.run (blk := [(.iconst (-1), (-1))]) (pc' := 54) (ls' := [some (.ref p0), some (.ref p1), some (.int ((S.1 p0 8) - 300)), some (.int w1)]) (st' := [.int (-1), .int (S.1 p0 9)]) (by decide +kernel) rfl ?_
        refine CW.icmp_ne (off := 9) (tgt := 63) (by decide +kernel) (by decide) (fun c54_13 => ?_) (fun c54_13 => ?_)
        · rw [if_neg c54_13] at hf
          refine CW.run (blk := [(.aload_n 1, 0)]) (pc' := 64) (ls' := [some (.ref p0), some (.ref p1), some (.int ((S.1 p0 8) - 300)), some (.int w1)]) (st' := [.ref p1]) (by decide +kernel) rfl ?_
          refine CW.getf (v := .int (S.1 p1 7)) h1 (by decide) fl_RX8_61 (by decide +kernel) rfl ?_
          refine CW.run (blk := [(.bipush 60, 60)]) (pc' := 69) (ls' := [some (.ref p0), some (.ref p1), some (.int ((S.1 p0 8) - 300)), some (.int w1)]) (st' := [.int 60, .int (S.1 p1 7)]) (by decide +kernel) rfl ?_
          refine CW.icmp_lt (off := 9) (tgt := 78) (by decide +kernel) (by decide) (fun c69_14 => ?_) (fun c69_14 => ?_)
          · rw [if_pos c69_14] at hf
            refine CW.run (blk := [(.aload_n 1, 0), (.dup, 0)]) (pc' := 80) (ls' := [some (.ref p0), some (.ref p1), some (.int ((S.1 p0 8) - 300)), some (.int w1)]) (st' := [.ref p1, .ref p1]) (by decide +kernel) rfl ?_
            refine CW.getf (v := .int (S.1 p1 7)) h1 (by decide) fl_RX8_61 (by decide +kernel) rfl ?_
            refine CW.run (blk := [(.iconst 1, 1), (.iadd, 0)]) (pc' := 85) (ls' := [some (.ref p0), some (.ref p1), some (.int ((S.1 p0 8) - 300)), some (.int w1)]) (st' := [.int ((S.1 p1 7) + 1), .ref p1]) (by decide +kernel) rfl ?_
            refine CW.putI h1 (by decide) fp_RX8_61 (by decide +kernel) (fun _ _ _ => Nat.le_of_ble_eq_true rfl) rfl rfl (fun _ _ _ => rfl) ?_
            obtain ⟨S15, hS15, hf⟩ := letv_some hf
            rw [← hS15]
            refine CW.run (blk := [(.aload_n 1, 0), (.iload_n 3, 0)]) (pc' := 90) (ls' := [some (.ref p0), some (.ref p1), some (.int ((S.1 p0 8) - 300)), some (.int w1)]) (st' := [.int w1, .ref p1]) (by decide +kernel) rfl ?_
            refine CW.if_eq (off := 10) (tgt := 100) (by decide +kernel) (by decide) (fun c90_16 => ?_) (fun c90_16 => ?_)
            · rw [if_pos c90_16] at hf
              refine CW.run (blk := [(.iconst (-1), (-1)), (.iload_n 2, 0), (.isub, 0)]) (pc' := 103) (ls' := [some (.ref p0), some (.ref p1), some (.int ((S.1 p0 8) - 300)), some (.int w1)]) (st' := [.int ((-1) - ((S.1 p0 8) - 300)), .ref p1]) (by decide +kernel) rfl ?_
              obtain ⟨q17, hq17, hf⟩ := bd_some hf
              refine CW.callV (As := [.int ((-1) - ((S.1 p0 8) - 300))]) (st := []) lv_RX8_51 h1 (by decide) rfl rfl (by decide +kernel) (xc_X7_addCode h1 hq17) (by decide) (by decide) rfl (Nat.le_of_ble_eq_true rfl) rfl ?_
              show CW l yy_X8_readValue 1 _ _ 106 [some (.ref p0), some (.ref p1), some (.int ((S.1 p0 8) - 300)), some (.int w1)] [] q17
              refine CW.run (blk := [(.aload_n 0, 0)]) (pc' := 107) (ls' := [some (.ref p0), some (.ref p1), some (.int ((S.1 p0 8) - 300)), some (.int w1)]) (st' := [.ref p0]) (by decide +kernel) rfl ?_
              obtain ⟨q18, hq18, hf⟩ := bd_some hf
              refine CW.callV (As := []) (st := []) lv_RX8_27 h0 (by decide) rfl rfl (by decide +kernel) (xc_X10_step h0 hq18) (by decide) (by decide) rfl (Nat.le_of_ble_eq_true rfl) rfl ?_
              show CW l yy_X8_readValue 1 _ _ 110 [some (.ref p0), some (.ref p1), some (.int ((S.1 p0 8) - 300)), some (.int w1)] [] q18
              have e9 := Option.some.inj hf
              subst e9
              exact CW.vret rfl (by decide +kernel)
            · rw [if_neg c90_16] at hf
              refine CW.run (blk := [(.aload_n 0, 0)]) (pc' := 94) (ls' := [some (.ref p0), some (.ref p1), some (.int ((S.1 p0 8) - 300)), some (.int w1)]) (st' := [.ref p0, .ref p1]) (by decide +kernel) rfl ?_
              refine CW.getf (v := .int (S15.1 p0 9)) h0 (by decide) fl_RX8_67 (by decide +kernel) rfl ?_
              refine CW.run (blk := [(.goto 6, 0)]) (pc' := 103) (ls' := [some (.ref p0), some (.ref p1), some (.int ((S.1 p0 8) - 300)), some (.int w1)]) (st' := [.int (S15.1 p0 9), .ref p1]) (by decide +kernel) rfl ?_
              obtain ⟨q19, hq19, hf⟩ := bd_some hf
              refine CW.callV (As := [.int (S15.1 p0 9)]) (st := []) lv_RX8_51 h1 (by decide) rfl rfl (by decide +kernel) (xc_X7_addCode h1 hq19) (by decide) (by decide) rfl (Nat.le_of_ble_eq_true rfl) rfl ?_
              show CW l yy_X8_readValue 1 _ _ 106 [some (.ref p0), some (.ref p1), some (.int ((S.1 p0 8) - 300)), some (.int w1)] [] q19
              refine CW.run (blk := [(.aload_n 0, 0)]) (pc' := 107) (ls' := [some (.ref p0), some (.ref p1), some (.int ((S.1 p0 8) - 300)), some (.int w1)]) (st' := [.ref p0]) (by decide +kernel) rfl ?_
              obtain ⟨q20, hq20, hf⟩ := bd_some hf
              refine CW.callV (As := []) (st := []) lv_RX8_27 h0 (by decide) rfl rfl (by decide +kernel) (xc_X10_step h0 hq20) (by decide) (by decide) rfl (Nat.le_of_ble_eq_true rfl) rfl ?_
              show CW l yy_X8_readValue 1 _ _ 110 [some (.ref p0), some (.ref p1), some (.int ((S.1 p0 8) - 300)), some (.int w1)] [] q20
              have e9 := Option.some.inj hf
              subst e9
              exact CW.vret rfl (by decide +kernel)
          · rw [if_neg c69_14] at hf
            refine CW.run (blk := [(.aload_n 0, 0), (.iconst 3, 3)]) (pc' := 74) (ls' := [some (.ref p0), some (.ref p1), some (.int ((S.1 p0 8) - 300)), some (.int w1)]) (st' := [.int 3, .ref p0]) (by decide +kernel) rfl ?_
            obtain ⟨q21, hq21, hf⟩ := bd_some hf
            refine CW.callV (As := [.int 3]) (st := []) lv_RX8_30 h0 (by decide) rfl rfl (by decide +kernel) (xc_X10_refuse h0 hq21) (by decide) (by decide) rfl (Nat.le_of_ble_eq_true rfl) rfl ?_
            show CW l yy_X8_readValue 1 _ _ 77 [some (.ref p0), some (.ref p1), some (.int ((S.1 p0 8) - 300)), some (.int w1)] [] q21
            have e9 := Option.some.inj hf
            subst e9
            exact CW.vret rfl (by decide +kernel)
        · rw [if_pos c54_13] at hf
          refine CW.run (blk := [(.aload_n 0, 0), (.iconst 1, 1)]) (pc' := 59) (ls' := [some (.ref p0), some (.ref p1), some (.int ((S.1 p0 8) - 300)), some (.int w1)]) (st' := [.int 1, .ref p0]) (by decide +kernel) rfl ?_
          obtain ⟨q22, hq22, hf⟩ := bd_some hf
          refine CW.callV (As := [.int 1]) (st := []) lv_RX8_30 h0 (by decide) rfl rfl (by decide +kernel) (xc_X10_refuse h0 hq22) (by decide) (by decide) rfl (Nat.le_of_ble_eq_true rfl) rfl ?_
          show CW l yy_X8_readValue 1 _ _ 62 [some (.ref p0), some (.ref p1), some (.int ((S.1 p0 8) - 300)), some (.int w1)] [] q22
          have e9 := Option.some.inj hf
          subst e9
          exact CW.vret rfl (by decide +kernel)
    · rw [if_pos c26_3] at hf
      refine CW.run (blk := [(.iload_n 2, 0)]) (pc' := 30) (ls' := [some (.ref p0), some (.ref p1), some (.int ((S.1 p0 8) - 300)), some (.int w1)]) (st' := [.int ((S.1 p0 8) - 300)]) (by decide +kernel) rfl ?_
      refine CW.if_lt (off := 9) (tgt := 39) (by decide +kernel) (by decide) (fun c30_23 => ?_) (fun c30_23 => ?_)
      · rw [if_pos c30_23] at hf
        refine CW.run (blk := [(.aload_n 0, 0), (.iconst 0, 0)]) (pc' := 41) (ls' := [some (.ref p0), some (.ref p1), some (.int ((S.1 p0 8) - 300)), some (.int w1)]) (st' := [.int 0, .ref p0]) (by decide +kernel) rfl ?_
        obtain ⟨q24, hq24, hf⟩ := bd_some hf
        refine CW.callV (As := [.int 0]) (st := []) lv_RX8_30 h0 (by decide) rfl rfl (by decide +kernel) (xc_X10_refuse h0 hq24) (by decide) (by decide) rfl (Nat.le_of_ble_eq_true rfl) rfl ?_
        show CW l yy_X8_readValue 1 _ _ 44 [some (.ref p0), some (.ref p1), some (.int ((S.1 p0 8) - 300)), some (.int w1)] [] q24
        have e9 := Option.some.inj hf
        subst e9
        exact CW.vret rfl (by decide +kernel)
      · rw [if_neg c30_23] at hf
        refine CW.run (blk := [(.iload_n 2, 0), (.bipush 8, 8)]) (pc' := 36) (ls' := [some (.ref p0), some (.ref p1), some (.int ((S.1 p0 8) - 300)), some (.int w1)]) (st' := [.int 8, .int ((S.1 p0 8) - 300)]) (by decide +kernel) rfl ?_
        refine CW.icmp_lt (off := 9) (tgt := 45) (by decide +kernel) (by decide) (fun c36_25 => ?_) (fun c36_25 => ?_)
        · rw [if_pos c36_25] at hf
          refine CW.run (blk := [(.iload_n 3, 0)]) (pc' := 46) (ls' := [some (.ref p0), some (.ref p1), some (.int ((S.1 p0 8) - 300)), some (.int w1)]) (st' := [.int w1]) (by decide +kernel) rfl ?_
          refine CW.if_eq (off := 17) (tgt := 63) (by decide +kernel) (by decide) (fun c46_26 => ?_) (fun c46_26 => ?_)
          · rw [if_pos c46_26] at hf
            refine CW.run (blk := [(.aload_n 1, 0)]) (pc' := 64) (ls' := [some (.ref p0), some (.ref p1), some (.int ((S.1 p0 8) - 300)), some (.int w1)]) (st' := [.ref p1]) (by decide +kernel) rfl ?_
            refine CW.getf (v := .int (S.1 p1 7)) h1 (by decide) fl_RX8_61 (by decide +kernel) rfl ?_
            refine CW.run (blk := [(.bipush 60, 60)]) (pc' := 69) (ls' := [some (.ref p0), some (.ref p1), some (.int ((S.1 p0 8) - 300)), some (.int w1)]) (st' := [.int 60, .int (S.1 p1 7)]) (by decide +kernel) rfl ?_
            refine CW.icmp_lt (off := 9) (tgt := 78) (by decide +kernel) (by decide) (fun c69_27 => ?_) (fun c69_27 => ?_)
            · rw [if_pos c69_27] at hf
              refine CW.run (blk := [(.aload_n 1, 0), (.dup, 0)]) (pc' := 80) (ls' := [some (.ref p0), some (.ref p1), some (.int ((S.1 p0 8) - 300)), some (.int w1)]) (st' := [.ref p1, .ref p1]) (by decide +kernel) rfl ?_
              refine CW.getf (v := .int (S.1 p1 7)) h1 (by decide) fl_RX8_61 (by decide +kernel) rfl ?_
              refine CW.run (blk := [(.iconst 1, 1), (.iadd, 0)]) (pc' := 85) (ls' := [some (.ref p0), some (.ref p1), some (.int ((S.1 p0 8) - 300)), some (.int w1)]) (st' := [.int ((S.1 p1 7) + 1), .ref p1]) (by decide +kernel) rfl ?_
              refine CW.putI h1 (by decide) fp_RX8_61 (by decide +kernel) (fun _ _ _ => Nat.le_of_ble_eq_true rfl) rfl rfl (fun _ _ _ => rfl) ?_
              obtain ⟨S28, hS28, hf⟩ := letv_some hf
              rw [← hS28]
              refine CW.run (blk := [(.aload_n 1, 0), (.iload_n 3, 0)]) (pc' := 90) (ls' := [some (.ref p0), some (.ref p1), some (.int ((S.1 p0 8) - 300)), some (.int w1)]) (st' := [.int w1, .ref p1]) (by decide +kernel) rfl ?_
              refine CW.if_eq (off := 10) (tgt := 100) (by decide +kernel) (by decide) (fun c90_29 => ?_) (fun c90_29 => ?_)
              · rw [if_pos c90_29] at hf
                refine CW.run (blk := [(.iconst (-1), (-1)), (.iload_n 2, 0), (.isub, 0)]) (pc' := 103) (ls' := [some (.ref p0), some (.ref p1), some (.int ((S.1 p0 8) - 300)), some (.int w1)]) (st' := [.int ((-1) - ((S.1 p0 8) - 300)), .ref p1]) (by decide +kernel) rfl ?_
                obtain ⟨q30, hq30, hf⟩ := bd_some hf
                refine CW.callV (As := [.int ((-1) - ((S.1 p0 8) - 300))]) (st := []) lv_RX8_51 h1 (by decide) rfl rfl (by decide +kernel) (xc_X7_addCode h1 hq30) (by decide) (by decide) rfl (Nat.le_of_ble_eq_true rfl) rfl ?_
                show CW l yy_X8_readValue 1 _ _ 106 [some (.ref p0), some (.ref p1), some (.int ((S.1 p0 8) - 300)), some (.int w1)] [] q30
                refine CW.run (blk := [(.aload_n 0, 0)]) (pc' := 107) (ls' := [some (.ref p0), some (.ref p1), some (.int ((S.1 p0 8) - 300)), some (.int w1)]) (st' := [.ref p0]) (by decide +kernel) rfl ?_
                obtain ⟨q31, hq31, hf⟩ := bd_some hf
                refine CW.callV (As := []) (st := []) lv_RX8_27 h0 (by decide) rfl rfl (by decide +kernel) (xc_X10_step h0 hq31) (by decide) (by decide) rfl (Nat.le_of_ble_eq_true rfl) rfl ?_
                show CW l yy_X8_readValue 1 _ _ 110 [some (.ref p0), some (.ref p1), some (.int ((S.1 p0 8) - 300)), some (.int w1)] [] q31
                have e9 := Option.some.inj hf
                subst e9
                exact CW.vret rfl (by decide +kernel)
              · rw [if_neg c90_29] at hf
                refine CW.run (blk := [(.aload_n 0, 0)]) (pc' := 94) (ls' := [some (.ref p0), some (.ref p1), some (.int ((S.1 p0 8) - 300)), some (.int w1)]) (st' := [.ref p0, .ref p1]) (by decide +kernel) rfl ?_
                refine CW.getf (v := .int (S28.1 p0 9)) h0 (by decide) fl_RX8_67 (by decide +kernel) rfl ?_
                refine CW.run (blk := [(.goto 6, 0)]) (pc' := 103) (ls' := [some (.ref p0), some (.ref p1), some (.int ((S.1 p0 8) - 300)), some (.int w1)]) (st' := [.int (S28.1 p0 9), .ref p1]) (by decide +kernel) rfl ?_
                obtain ⟨q32, hq32, hf⟩ := bd_some hf
                refine CW.callV (As := [.int (S28.1 p0 9)]) (st := []) lv_RX8_51 h1 (by decide) rfl rfl (by decide +kernel) (xc_X7_addCode h1 hq32) (by decide) (by decide) rfl (Nat.le_of_ble_eq_true rfl) rfl ?_
                show CW l yy_X8_readValue 1 _ _ 106 [some (.ref p0), some (.ref p1), some (.int ((S.1 p0 8) - 300)), some (.int w1)] [] q32
                refine CW.run (blk := [(.aload_n 0, 0)]) (pc' := 107) (ls' := [some (.ref p0), some (.ref p1), some (.int ((S.1 p0 8) - 300)), some (.int w1)]) (st' := [.ref p0]) (by decide +kernel) rfl ?_
                obtain ⟨q33, hq33, hf⟩ := bd_some hf
                refine CW.callV (As := []) (st := []) lv_RX8_27 h0 (by decide) rfl rfl (by decide +kernel) (xc_X10_step h0 hq33) (by decide) (by decide) rfl (Nat.le_of_ble_eq_true rfl) rfl ?_
                show CW l yy_X8_readValue 1 _ _ 110 [some (.ref p0), some (.ref p1), some (.int ((S.1 p0 8) - 300)), some (.int w1)] [] q33
                have e9 := Option.some.inj hf
                subst e9
                exact CW.vret rfl (by decide +kernel)
            · rw [if_neg c69_27] at hf
              refine CW.run (blk := [(.aload_n 0, 0), (.iconst 3, 3)]) (pc' := 74) (ls' := [some (.ref p0), some (.ref p1), some (.int ((S.1 p0 8) - 300)), some (.int w1)]) (st' := [.int 3, .ref p0]) (by decide +kernel) rfl ?_
              obtain ⟨q34, hq34, hf⟩ := bd_some hf
              refine CW.callV (As := [.int 3]) (st := []) lv_RX8_30 h0 (by decide) rfl rfl (by decide +kernel) (xc_X10_refuse h0 hq34) (by decide) (by decide) rfl (Nat.le_of_ble_eq_true rfl) rfl ?_
              show CW l yy_X8_readValue 1 _ _ 77 [some (.ref p0), some (.ref p1), some (.int ((S.1 p0 8) - 300)), some (.int w1)] [] q34
              have e9 := Option.some.inj hf
              subst e9
              exact CW.vret rfl (by decide +kernel)
          · rw [if_neg c46_26] at hf
            refine CW.run (blk := [(.aload_n 0, 0)]) (pc' := 50) (ls' := [some (.ref p0), some (.ref p1), some (.int ((S.1 p0 8) - 300)), some (.int w1)]) (st' := [.ref p0]) (by decide +kernel) rfl ?_
            refine CW.getf (v := .int (S.1 p0 9)) h0 (by decide) fl_RX8_67 (by decide +kernel) rfl ?_
            refine CW.run (blk := [(.iconst (-1), (-1))]) (pc' := 54) (ls' := [some (.ref p0), some (.ref p1), some (.int ((S.1 p0 8) - 300)), some (.int w1)]) (st' := [.int (-1), .int (S.1 p0 9)]) (by decide +kernel) rfl ?_
            refine CW.icmp_ne (off := 9) (tgt := 63) (by decide +kernel) (by decide) (fun c54_35 => ?_) (fun c54_35 => ?_)
            · rw [if_neg c54_35] at hf
              refine CW.run (blk := [(.aload_n 1, 0)]) (pc' := 64) (ls' := [some (.ref p0), some (.ref p1), some (.int ((S.1 p0 8) - 300)), some (.int w1)]) (st' := [.ref p1]) (by decide +kernel) rfl ?_
              refine CW.getf (v := .int (S.1 p1 7)) h1 (by decide) fl_RX8_61 (by decide +kernel) rfl ?_
              refine CW.run (blk := [(.bipush 60, 60)]) (pc' := 69) (ls' := [some (.ref p0), some (.ref p1), some (.int ((S.1 p0 8) - 300)), some (.int w1)]) (st' := [.int 60, .int (S.1 p1 7)]) (by decide +kernel) rfl ?_
              refine CW.icmp_lt (off := 9) (tgt := 78) (by decide +kernel) (by decide) (fun c69_36 => ?_) (fun c69_36 => ?_)
              · rw [if_pos c69_36] at hf
                refine CW.run (blk := [(.aload_n 1, 0), (.dup, 0)]) (pc' := 80) (ls' := [some (.ref p0), some (.ref p1), some (.int ((S.1 p0 8) - 300)), some (.int w1)]) (st' := [.ref p1, .ref p1]) (by decide +kernel) rfl ?_
                refine CW.getf (v := .int (S.1 p1 7)) h1 (by decide) fl_RX8_61 (by decide +kernel) rfl ?_
                refine CW.run (blk := [(.iconst 1, 1), (.iadd, 0)]) (pc' := 85) (ls' := [some (.ref p0), some (.ref p1), some (.int ((S.1 p0 8) - 300)), some (.int w1)]) (st' := [.int ((S.1 p1 7) + 1), .ref p1]) (by decide +kernel) rfl ?_
                refine CW.putI h1 (by decide) fp_RX8_61 (by decide +kernel) (fun _ _ _ => Nat.le_of_ble_eq_true rfl) rfl rfl (fun _ _ _ => rfl) ?_
                obtain ⟨S37, hS37, hf⟩ := letv_some hf
                rw [← hS37]
                refine CW.run (blk := [(.aload_n 1, 0), (.iload_n 3, 0)]) (pc' := 90) (ls' := [some (.ref p0), some (.ref p1), some (.int ((S.1 p0 8) - 300)), some (.int w1)]) (st' := [.int w1, .ref p1]) (by decide +kernel) rfl ?_
                refine CW.if_eq (off := 10) (tgt := 100) (by decide +kernel) (by decide) (fun c90_38 => ?_) (fun c90_38 => ?_)
                · rw [if_pos c90_38] at hf
                  refine CW.run (blk := [(.iconst (-1), (-1)), (.iload_n 2, 0), (.isub, 0)]) (pc' := 103) (ls' := [some (.ref p0), some (.ref p1), some (.int ((S.1 p0 8) - 300)), some (.int w1)]) (st' := [.int ((-1) - ((S.1 p0 8) - 300)), .ref p1]) (by decide +kernel) rfl ?_
                  obtain ⟨q39, hq39, hf⟩ := bd_some hf
                  refine CW.callV (As := [.int ((-1) - ((S.1 p0 8) - 300))]) (st := []) lv_RX8_51 h1 (by decide) rfl rfl (by decide +kernel) (xc_X7_addCode h1 hq39) (by decide) (by decide) rfl (Nat.le_of_ble_eq_true rfl) rfl ?_
                  show CW l yy_X8_readValue 1 _ _ 106 [some (.ref p0), some (.ref p1), some (.int ((S.1 p0 8) - 300)), some (.int w1)] [] q39
                  refine CW.run (blk := [(.aload_n 0, 0)]) (pc' := 107) (ls' := [some (.ref p0), some (.ref p1), some (.int ((S.1 p0 8) - 300)), some (.int w1)]) (st' := [.ref p0]) (by decide +kernel) rfl ?_
                  obtain ⟨q40, hq40, hf⟩ := bd_some hf
                  refine CW.callV (As := []) (st := []) lv_RX8_27 h0 (by decide) rfl rfl (by decide +kernel) (xc_X10_step h0 hq40) (by decide) (by decide) rfl (Nat.le_of_ble_eq_true rfl) rfl ?_
                  show CW l yy_X8_readValue 1 _ _ 110 [some (.ref p0), some (.ref p1), some (.int ((S.1 p0 8) - 300)), some (.int w1)] [] q40
                  have e9 := Option.some.inj hf
                  subst e9
                  exact CW.vret rfl (by decide +kernel)
                · rw [if_neg c90_38] at hf
                  refine CW.run (blk := [(.aload_n 0, 0)]) (pc' := 94) (ls' := [some (.ref p0), some (.ref p1), some (.int ((S.1 p0 8) - 300)), some (.int w1)]) (st' := [.ref p0, .ref p1]) (by decide +kernel) rfl ?_
                  refine CW.getf (v := .int (S37.1 p0 9)) h0 (by decide) fl_RX8_67 (by decide +kernel) rfl ?_
                  refine CW.run (blk := [(.goto 6, 0)]) (pc' := 103) (ls' := [some (.ref p0), some (.ref p1), some (.int ((S.1 p0 8) - 300)), some (.int w1)]) (st' := [.int (S37.1 p0 9), .ref p1]) (by decide +kernel) rfl ?_
                  obtain ⟨q41, hq41, hf⟩ := bd_some hf
                  refine CW.callV (As := [.int (S37.1 p0 9)]) (st := []) lv_RX8_51 h1 (by decide) rfl rfl (by decide +kernel) (xc_X7_addCode h1 hq41) (by decide) (by decide) rfl (Nat.le_of_ble_eq_true rfl) rfl ?_
                  show CW l yy_X8_readValue 1 _ _ 106 [some (.ref p0), some (.ref p1), some (.int ((S.1 p0 8) - 300)), some (.int w1)] [] q41
                  refine CW.run (blk := [(.aload_n 0, 0)]) (pc' := 107) (ls' := [some (.ref p0), some (.ref p1), some (.int ((S.1 p0 8) - 300)), some (.int w1)]) (st' := [.ref p0]) (by decide +kernel) rfl ?_
                  obtain ⟨q42, hq42, hf⟩ := bd_some hf
                  refine CW.callV (As := []) (st := []) lv_RX8_27 h0 (by decide) rfl rfl (by decide +kernel) (xc_X10_step h0 hq42) (by decide) (by decide) rfl (Nat.le_of_ble_eq_true rfl) rfl ?_
                  show CW l yy_X8_readValue 1 _ _ 110 [some (.ref p0), some (.ref p1), some (.int ((S.1 p0 8) - 300)), some (.int w1)] [] q42
                  have e9 := Option.some.inj hf
                  subst e9
                  exact CW.vret rfl (by decide +kernel)
              · rw [if_neg c69_36] at hf
                refine CW.run (blk := [(.aload_n 0, 0), (.iconst 3, 3)]) (pc' := 74) (ls' := [some (.ref p0), some (.ref p1), some (.int ((S.1 p0 8) - 300)), some (.int w1)]) (st' := [.int 3, .ref p0]) (by decide +kernel) rfl ?_
                obtain ⟨q43, hq43, hf⟩ := bd_some hf
                refine CW.callV (As := [.int 3]) (st := []) lv_RX8_30 h0 (by decide) rfl rfl (by decide +kernel) (xc_X10_refuse h0 hq43) (by decide) (by decide) rfl (Nat.le_of_ble_eq_true rfl) rfl ?_
                show CW l yy_X8_readValue 1 _ _ 77 [some (.ref p0), some (.ref p1), some (.int ((S.1 p0 8) - 300)), some (.int w1)] [] q43
                have e9 := Option.some.inj hf
                subst e9
                exact CW.vret rfl (by decide +kernel)
            · rw [if_pos c54_35] at hf
              refine CW.run (blk := [(.aload_n 0, 0), (.iconst 1, 1)]) (pc' := 59) (ls' := [some (.ref p0), some (.ref p1), some (.int ((S.1 p0 8) - 300)), some (.int w1)]) (st' := [.int 1, .ref p0]) (by decide +kernel) rfl ?_
              obtain ⟨q44, hq44, hf⟩ := bd_some hf
              refine CW.callV (As := [.int 1]) (st := []) lv_RX8_30 h0 (by decide) rfl rfl (by decide +kernel) (xc_X10_refuse h0 hq44) (by decide) (by decide) rfl (Nat.le_of_ble_eq_true rfl) rfl ?_
              show CW l yy_X8_readValue 1 _ _ 62 [some (.ref p0), some (.ref p1), some (.int ((S.1 p0 8) - 300)), some (.int w1)] [] q44
              have e9 := Option.some.inj hf
              subst e9
              exact CW.vret rfl (by decide +kernel)
        · rw [if_neg c36_25] at hf
          refine CW.run (blk := [(.aload_n 0, 0), (.iconst 0, 0)]) (pc' := 41) (ls' := [some (.ref p0), some (.ref p1), some (.int ((S.1 p0 8) - 300)), some (.int w1)]) (st' := [.int 0, .ref p0]) (by decide +kernel) rfl ?_
          obtain ⟨q45, hq45, hf⟩ := bd_some hf
          refine CW.callV (As := [.int 0]) (st := []) lv_RX8_30 h0 (by decide) rfl rfl (by decide +kernel) (xc_X10_refuse h0 hq45) (by decide) (by decide) rfl (Nat.le_of_ble_eq_true rfl) rfl ?_
          show CW l yy_X8_readValue 1 _ _ 44 [some (.ref p0), some (.ref p1), some (.int ((S.1 p0 8) - 300)), some (.int w1)] [] q45
          have e9 := Option.some.inj hf
          subst e9
          exact CW.vret rfl (by decide +kernel)
  clear hf
  refine CW.icmp_ne (off := 7) (tgt := 23) (by decide +kernel) (by decide) (fun c16_2 => ?_) (fun c16_2 => ?_)
  · rw [if_neg c16_2] at hw1
    refine CW.run (blk := [(.iconst 0, 0)]) (pc' := 24) (ls' := [some (.ref p0), some (.ref p1), some (.int ((S.1 p0 8) - 300)), none]) (st' := [.int 0]) (by decide +kernel) rfl ?_
    have e9 := Option.some.inj hw1
    subst e9
    exact hJ
  · rw [if_pos c16_2] at hw1
    refine CW.run (blk := [(.iconst 1, 1), (.goto 4, 0)]) (pc' := 24) (ls' := [some (.ref p0), some (.ref p1), some (.int ((S.1 p0 8) - 300)), none]) (st' := [.int 1]) (by decide +kernel) rfl ?_
    have e9 := Option.some.inj hw1
    subst e9
    exact hJ
