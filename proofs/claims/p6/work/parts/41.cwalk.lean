/-! ===== walks of the class over its picture ===== -/
def cQ (M : mT) (r : Option Value) (S : cT) : aQ := fun r' n' h' => r' = r ∧ n' = 156 ∧ h' = hM (cC S) M
def COk (l : Launch) (Y : aY) (d : Nat) (As : List Value) (S : cT) (r : Option Value) (S' : cT) : Prop := ∀ M : mT, AOk l Y (rmD d) (cQ M r S') As 156 (hM (cC S) M)
def CW (l : Launch) (Y : aY) (d : Nat) (r : Option Value) (S' : cT) (pc : Nat) (ls : List (Option Value)) (st : List Value) (S : cT) : Prop := ∀ M : mT, AW l Y (rmD d) (cQ M r S') 0 0 pc ls st 156 (hM (cC S) M)
section CWR
variable {l : Launch} {Y : aY} {d : Nat} {r : Option Value} {S' : cT} {pc : Nat} {ls : List (Option Value)} {st : List Value} {S : cT}
theorem CW.run {blk : List (Instr × Int32)} {pc' : Nat} {ls' : List (Option Value)} {st' : List Value} (hd : dec Y.2.1 pc blk = some pc') (hp : pxs blk ls st = some (ls', st')) (k : CW l Y d r S' pc' ls' st' S) : CW l Y d r S' pc ls st S := fun M => AW.run blk hd hp (k M)
theorem CW.fgt {ls' : List (Option Value)} (hs : sbL ls' ls) (k : CW l Y d r S' pc ls' st S) : CW l Y d r S' pc ls st S := fun M => AW.fgt hs (k M)
theorem CW.if_eq {x : Int32} {off : Int} {tgt : Nat} (hd : decode Y.2.1 pc = .ok (.ifCond .eq off, 3)) (ht : (pc : Int) + off = (tgt : Int)) (kt : x = 0 → CW l Y d r S' tgt ls st S) (kf : ¬ x = 0 → CW l Y d r S' (pc + 3) ls st S) : CW l Y d r S' pc ls (.int x :: st) S := fun M => AW.if_eq hd ht (fun q => kt q M) (fun q => kf q M)
theorem CW.if_ne {x : Int32} {off : Int} {tgt : Nat} (hd : decode Y.2.1 pc = .ok (.ifCond .ne off, 3)) (ht : (pc : Int) + off = (tgt : Int)) (kt : ¬ x = 0 → CW l Y d r S' tgt ls st S) (kf : x = 0 → CW l Y d r S' (pc + 3) ls st S) : CW l Y d r S' pc ls (.int x :: st) S := fun M => AW.if_ne hd ht (fun q => kt q M) (fun q => kf q M)
theorem CW.if_lt {x : Int32} {off : Int} {tgt : Nat} (hd : decode Y.2.1 pc = .ok (.ifCond .lt off, 3)) (ht : (pc : Int) + off = (tgt : Int)) (kt : x < 0 → CW l Y d r S' tgt ls st S) (kf : ¬ x < 0 → CW l Y d r S' (pc + 3) ls st S) : CW l Y d r S' pc ls (.int x :: st) S := fun M => AW.if_lt hd ht (fun q => kt q M) (fun q => kf q M)
theorem CW.if_ge {x : Int32} {off : Int} {tgt : Nat} (hd : decode Y.2.1 pc = .ok (.ifCond .ge off, 3)) (ht : (pc : Int) + off = (tgt : Int)) (kt : 0 ≤ x → CW l Y d r S' tgt ls st S) (kf : ¬ 0 ≤ x → CW l Y d r S' (pc + 3) ls st S) : CW l Y d r S' pc ls (.int x :: st) S := fun M => AW.if_ge hd ht (fun q => kt q M) (fun q => kf q M)
theorem CW.if_gt {x : Int32} {off : Int} {tgt : Nat} (hd : decode Y.2.1 pc = .ok (.ifCond .gt off, 3)) (ht : (pc : Int) + off = (tgt : Int)) (kt : 0 < x → CW l Y d r S' tgt ls st S) (kf : ¬ 0 < x → CW l Y d r S' (pc + 3) ls st S) : CW l Y d r S' pc ls (.int x :: st) S := fun M => AW.if_gt hd ht (fun q => kt q M) (fun q => kf q M)
theorem CW.if_le {x : Int32} {off : Int} {tgt : Nat} (hd : decode Y.2.1 pc = .ok (.ifCond .le off, 3)) (ht : (pc : Int) + off = (tgt : Int)) (kt : x ≤ 0 → CW l Y d r S' tgt ls st S) (kf : ¬ x ≤ 0 → CW l Y d r S' (pc + 3) ls st S) : CW l Y d r S' pc ls (.int x :: st) S := fun M => AW.if_le hd ht (fun q => kt q M) (fun q => kf q M)
theorem CW.icmp_eq {x y : Int32} {off : Int} {tgt : Nat} (hd : decode Y.2.1 pc = .ok (.if_icmp .eq off, 3)) (ht : (pc : Int) + off = (tgt : Int)) (kt : x = y → CW l Y d r S' tgt ls st S) (kf : ¬ x = y → CW l Y d r S' (pc + 3) ls st S) : CW l Y d r S' pc ls (.int y :: .int x :: st) S := fun M => AW.icmp_eq hd ht (fun q => kt q M) (fun q => kf q M)
theorem CW.icmp_ne {x y : Int32} {off : Int} {tgt : Nat} (hd : decode Y.2.1 pc = .ok (.if_icmp .ne off, 3)) (ht : (pc : Int) + off = (tgt : Int)) (kt : ¬ x = y → CW l Y d r S' tgt ls st S) (kf : x = y → CW l Y d r S' (pc + 3) ls st S) : CW l Y d r S' pc ls (.int y :: .int x :: st) S := fun M => AW.icmp_ne hd ht (fun q => kt q M) (fun q => kf q M)
theorem CW.icmp_lt {x y : Int32} {off : Int} {tgt : Nat} (hd : decode Y.2.1 pc = .ok (.if_icmp .lt off, 3)) (ht : (pc : Int) + off = (tgt : Int)) (kt : x < y → CW l Y d r S' tgt ls st S) (kf : ¬ x < y → CW l Y d r S' (pc + 3) ls st S) : CW l Y d r S' pc ls (.int y :: .int x :: st) S := fun M => AW.icmp_lt hd ht (fun q => kt q M) (fun q => kf q M)
theorem CW.icmp_ge {x y : Int32} {off : Int} {tgt : Nat} (hd : decode Y.2.1 pc = .ok (.if_icmp .ge off, 3)) (ht : (pc : Int) + off = (tgt : Int)) (kt : y ≤ x → CW l Y d r S' tgt ls st S) (kf : ¬ y ≤ x → CW l Y d r S' (pc + 3) ls st S) : CW l Y d r S' pc ls (.int y :: .int x :: st) S := fun M => AW.icmp_ge hd ht (fun q => kt q M) (fun q => kf q M)
theorem CW.icmp_gt {x y : Int32} {off : Int} {tgt : Nat} (hd : decode Y.2.1 pc = .ok (.if_icmp .gt off, 3)) (ht : (pc : Int) + off = (tgt : Int)) (kt : y < x → CW l Y d r S' tgt ls st S) (kf : ¬ y < x → CW l Y d r S' (pc + 3) ls st S) : CW l Y d r S' pc ls (.int y :: .int x :: st) S := fun M => AW.icmp_gt hd ht (fun q => kt q M) (fun q => kf q M)
theorem CW.icmp_le {x y : Int32} {off : Int} {tgt : Nat} (hd : decode Y.2.1 pc = .ok (.if_icmp .le off, 3)) (ht : (pc : Int) + off = (tgt : Int)) (kt : x ≤ y → CW l Y d r S' tgt ls st S) (kf : ¬ x ≤ y → CW l Y d r S' (pc + 3) ls st S) : CW l Y d r S' pc ls (.int y :: .int x :: st) S := fun M => AW.icmp_le hd ht (fun q => kt q M) (fun q => kf q M)
theorem CW.idiv {x y : Int32} (hne : ¬ y = 0) (hd : decode Y.2.1 pc = .ok (.idiv, 1)) (k : CW l Y d r S' (pc + 1) ls (.int (x / y) :: st) S) : CW l Y d r S' pc ls (.int y :: .int x :: st) S := fun M => AW.idiv hne hd (k M)
theorem CW.irem {x y : Int32} (hne : ¬ y = 0) (hd : decode Y.2.1 pc = .ok (.irem, 1)) (k : CW l Y d r S' (pc + 1) ls (.int (x - x / y * y) :: st) S) : CW l Y d r S' pc ls (.int y :: .int x :: st) S := fun M => AW.irem hne hd (k M)
theorem CW.ldiv {x y : Int64} (hne : ¬ y = 0) (hd : decode Y.2.1 pc = .ok (.ldiv, 1)) (k : CW l Y d r S' (pc + 1) ls (.long (x / y) :: st) S) : CW l Y d r S' pc ls (.long y :: .long x :: st) S := fun M => AW.ldiv hne hd (k M)
theorem CW.lrem {x y : Int64} (hne : ¬ y = 0) (hd : decode Y.2.1 pc = .ok (.lrem, 1)) (k : CW l Y d r S' (pc + 1) ls (.long (x - x / y * y) :: st) S) : CW l Y d r S' pc ls (.long y :: .long x :: st) S := fun M => AW.lrem hne hd (k M)
theorem CW.ldc {idx : Nat} {v : Int32} (hw : Cond.constant Y.1.cls idx v ∈ wG) (hd : decode Y.2.1 pc = .ok (.ldc idx, 2)) (k : CW l Y d r S' (pc + 2) ls (.int v :: st) S) : CW l Y d r S' pc ls st S := fun M => AW.ldc hw hd (k M)
theorem CW.ldcw {idx : Nat} {v : Int32} (hw : Cond.constant Y.1.cls idx v ∈ wG) (hd : decode Y.2.1 pc = .ok (.ldc_w idx, 3)) (k : CW l Y d r S' (pc + 3) ls (.int v :: st) S) : CW l Y d r S' pc ls st S := fun M => AW.ldcw hw hd (k M)
theorem CW.ldc2 {idx : Nat} {v : Int64} (hw : Cond.constantLong Y.1.cls idx v ∈ wG) (hd : decode Y.2.1 pc = .ok (.ldc2_w idx, 3)) (k : CW l Y d r S' (pc + 3) ls (.long v :: st) S) : CW l Y d r S' pc ls st S := fun M => AW.ldc2 hw hd (k M)
theorem CW.lookup {dflt : Int} {ps : Array (Int × Int)} {len : Nat} {x : Int32} {off : Int} {tgt : Nat} (hd : decode Y.2.1 pc = .ok (.lookupswitch dflt ps, len)) (hp : (ps.toList.zip (ps.toList.drop 1)).all (fun (a, next) => a.1 < next.1) = true) (ho : Op.lookupswitch.offset ps.toList dflt x.toInt = off) (ht : (pc : Int) + off = (tgt : Int)) (k : CW l Y d r S' tgt ls st S) : CW l Y d r S' pc ls (.int x :: st) S := fun M => AW.lookup hd hp ho ht (k M)
theorem CW.tableIn {dflt lo hi : Int} {offs : Array Int} {len : Nat} {x : Int32} {off : Int} {tgt : Nat} (hd : decode Y.2.1 pc = .ok (.tableswitch dflt lo hi offs, len)) (h1 : ¬ x.toInt < lo) (h2 : ¬ hi < x.toInt) (ho : offs[(x.toInt - lo).toNat]? = some off) (ht : (pc : Int) + off = (tgt : Int)) (k : CW l Y d r S' tgt ls st S) : CW l Y d r S' pc ls (.int x :: st) S := fun M => AW.tableIn hd h1 h2 ho ht (k M)
theorem CW.tableOut {dflt lo hi : Int} {offs : Array Int} {len : Nat} {x : Int32} {tgt : Nat} (hd : decode Y.2.1 pc = .ok (.tableswitch dflt lo hi offs, len)) (h0 : x.toInt < lo ∨ hi < x.toInt) (ht : (pc : Int) + dflt = (tgt : Int)) (k : CW l Y d r S' tgt ls st S) : CW l Y d r S' pc ls (.int x :: st) S := fun M => AW.tableOut hd h0 ht (k M)
theorem CW.iret {v : Int32} (hr : Y.2.2.2 = some .int) (hd : decode Y.2.1 pc = .ok (.ireturn, 1)) : CW l Y d (some (.int v)) S pc ls [.int v] S := fun M => AW.iret hr hd (Nat.le_refl _) (Nat.le_refl _) ⟨rfl, rfl, rfl⟩
theorem CW.zret {v : Int32} {ty : FieldType} (hr : Y.2.2.2 = some ty) (hn : narrow ty (.int v) = .int v) (hd : decode Y.2.1 pc = .ok (.ireturn, 1)) : CW l Y d (some (.int v)) S pc ls [.int v] S := fun M => AW.zret hr hn hd (Nat.le_refl _) (Nat.le_refl _) ⟨rfl, rfl, rfl⟩
theorem CW.lret {v : Int64} (hr : Y.2.2.2 = some .long) (hd : decode Y.2.1 pc = .ok (.lreturn, 1)) : CW l Y d (some (.long v)) S pc ls [.long v] S := fun M => AW.lret hr hd (Nat.le_refl _) (Nat.le_refl _) ⟨rfl, rfl, rfl⟩
theorem CW.vret  (hr : Y.2.2.2 = none) (hd : decode Y.2.1 pc = .ok (.return_, 1)) : CW l Y d (none) S pc ls [] S := fun M => AW.vret hr hd (Nat.le_refl _) (Nat.le_refl _) ⟨rfl, rfl, rfl⟩
theorem CW.aret {v : Nat} {C : String} (hr : Y.2.2.2 = some (.object C)) (hd : decode Y.2.1 pc = .ok (.areturn, 1)) : CW l Y d (some (.ref v)) S pc ls [.ref v] S := fun M => AW.aret hr hd (Nat.le_refl _) (Nat.le_refl _) ⟨rfl, rfl, rfl⟩
theorem CW.getf {idx ci f q : Nat} {v : Value} (hk : cK q = ci) (hc : ci < 20) (hL : FL Y.1.cls idx ci f) (hd : decode Y.2.1 pc = .ok (.getfield idx, 3)) (hv : (cObj ci (S.1 q) q S.2.2.1 S.2.2.2)[f]? = some v) (k : CW l Y d r S' (pc + 3) ls (v :: st) S) : CW l Y d r S' pc ls (.ref q :: st) S := fun M => AW.getf hL hd (Nat.lt_trans (cK_lt hk (by omega)) (by decide)) (hC_o hk hc) hv (k M)
theorem CW.putI {idx ci f q : Nat} {v : Int32} {ty : FieldType} (hk : cK q = ci) (hc : ci < 20) (hL : FP Y.1.cls idx ci f ty false) (hd : decode Y.2.1 pc = .ok (.putfield idx, 3)) (hl : ∀ F i s, f < (cObj ci F q i s).length) (hn : narrow ty (.int v) = .int v) (hf : fits ty (.int v) = true) (hset : ∀ F i s, (cObj ci F q i s).set f (.int v) = cObj ci (upd F f v) q i s) (k : CW l Y d r S' (pc + 3) ls st (ca S q f v)) : CW l Y d r S' pc ls (.int v :: .ref q :: st) S := by
  intro M
  have hq := cK_lt hk (by omega)
  refine AW.putf hL hd (Nat.lt_trans hq (by decide)) (hC_o hk hc) (hl _ _ _) (fun _ => hn) (fun _ => hf) ?_
  rw [hC_up (S' := ca S q f v) hq (by rw [cC_o hk hc, hset]; simp only [ca, va_up_self]) (fun p hp => ca_o S q f v p hp)]
  exact k M

theorem k9_0 {b : Nat} (h : cK b = 9) : b = 0 := by
  have := cK_all (P := fun b => Nat.beq (cK b) 9 == false || Nat.beq b 0) (by decide +kernel) (cK_lt h (by decide))
  simpa [h] using this
theorem cObj_is {ci : Nat} (h : ci ≠ 9) (F : Nat → Int32) (q i s i' s' : Nat) : cObj ci F q i s = cObj ci F q i' s' := by
  unfold cObj
  split <;> first | rfl | exact absurd rfl h
theorem cs_o (S : cT) (i s : Nat) (p : Nat) (h : p ≠ 0) : cC (cs S i s) p = cC S p := by
  have h9 : cK p ≠ 9 := fun e => h (k9_0 e)
  unfold cC
  rw [cObj_is h9 _ _ _ _ S.2.2.1 S.2.2.2]
  rfl
theorem CW.putIsle {idx b v : Nat} {ty : FieldType} (hb : cK b = 9) (hL : FP Y.1.cls idx 9 9 ty false) (hd : decode Y.2.1 pc = .ok (.putfield idx, 3)) (hn : ∀ as, narrow ty (tv as (.ref v)) = tv as (.ref v)) (hf : ∀ as, fits ty (tv as (.ref v)) = true) (k : CW l Y d r S' (pc + 3) ls st (cs S v S.2.2.2)) : CW l Y d r S' pc ls (.ref v :: .ref b :: st) S := by
  intro M
  have h0 := k9_0 hb
  subst h0
  refine AW.putf hL hd (by decide) (hC_o hb (by decide)) (by show 9 < 12; decide) hn hf ?_
  rw [hC_up (S' := cs S v S.2.2.2) (q := 0) (by decide) (by rfl) (fun p hp => cs_o S _ _ p hp)]
  exact k M
theorem CW.putSpare {idx b v : Nat} {ty : FieldType} (hb : cK b = 9) (hL : FP Y.1.cls idx 9 10 ty false) (hd : decode Y.2.1 pc = .ok (.putfield idx, 3)) (hn : ∀ as, narrow ty (tv as (.ref v)) = tv as (.ref v)) (hf : ∀ as, fits ty (tv as (.ref v)) = true) (k : CW l Y d r S' (pc + 3) ls st (cs S S.2.2.1 v)) : CW l Y d r S' pc ls (.ref v :: .ref b :: st) S := by
  intro M
  have h0 := k9_0 hb
  subst h0
  refine AW.putf hL hd (by decide) (hC_o hb (by decide)) (by show 10 < 12; decide) hn hf ?_
  rw [hC_up (S' := cs S S.2.2.1 v) (q := 0) (by decide) (by rfl) (fun p hp => cs_o S _ _ p hp)]
  exact k M
theorem CW.iald {q len : Nat} {i : Int32} (hk : cK q = 20) (hn : cN q = len) (hd : decode Y.2.1 pc = .ok (.iaload, 1)) (hi : vp_in i len) (k : CW l Y d r S' (pc + 1) ls (.int (S.1 q i.toNatClampNeg) :: st) S) : CW l Y d r S' pc ls (.int i :: .ref q :: st) S := by
  subst hn
  exact fun M => AW.iald hd (Nat.lt_trans (cK_lt hk (by decide)) (by decide)) (hC_a hk (by decide)) hi (k M)
theorem CW.lald {q len : Nat} {i : Int32} (hk : cK q = 21) (hn : cN q = len) (hd : decode Y.2.1 pc = .ok (.laload, 1)) (hi : vp_in i len) (k : CW l Y d r S' (pc + 1) ls (.long (S.2.1 q i.toNatClampNeg) :: st) S) : CW l Y d r S' pc ls (.int i :: .ref q :: st) S := by
  subst hn
  exact fun M => AW.lald hd (Nat.lt_trans (cK_lt hk (by decide)) (by decide)) (hC_a hk (by decide)) hi (k M)
theorem CW.zald {q len : Nat} {i : Int32} (hk : cK q = 23) (hn : cN q = len) (hd : decode Y.2.1 pc = .ok (.baload, 1)) (hi : vp_in i len) (k : CW l Y d r S' (pc + 1) ls (.int (S.1 q i.toNatClampNeg) :: st) S) : CW l Y d r S' pc ls (.int i :: .ref q :: st) S := by
  subst hn
  exact fun M => AW.zald hd (Nat.lt_trans (cK_lt hk (by decide)) (by decide)) (hC_a hk (by decide)) hi (k M)
theorem CW.iast {q len : Nat} {i : Int32} {x : Int32} (hk : cK q = 20) (hn : cN q = len) (hd : decode Y.2.1 pc = .ok (.iastore, 1)) (hi : vp_in i len) (k : CW l Y d r S' (pc + 1) ls st (ca S q i.toNatClampNeg x)) : CW l Y d r S' pc ls (.int x :: .int i :: .ref q :: st) S := by
  subst hn
  intro M
  have hq := cK_lt hk (by decide)
  refine AW.iast hd (Nat.lt_trans hq (by decide)) (hC_a hk (by decide)) hi ?_
  rw [hC_up (S' := ca S q i.toNatClampNeg x) hq (by rw [cC_a hk (by decide)]; simp only [cArr, ca, va_up_self]) (fun p hp => ca_o S q _ _ p hp)]
  exact k M
theorem CW.last {q len : Nat} {i : Int32} {x : Int64} (hk : cK q = 21) (hn : cN q = len) (hd : decode Y.2.1 pc = .ok (.lastore, 1)) (hi : vp_in i len) (k : CW l Y d r S' (pc + 1) ls st (cb S q i.toNatClampNeg x)) : CW l Y d r S' pc ls (.long x :: .int i :: .ref q :: st) S := by
  subst hn
  intro M
  have hq := cK_lt hk (by decide)
  refine AW.last hd (Nat.lt_trans hq (by decide)) (hC_a hk (by decide)) hi ?_
  rw [hC_up (S' := cb S q i.toNatClampNeg x) hq (by rw [cC_a hk (by decide)]; simp only [cArr, cb, va_up_self]) (fun p hp => cb_o S q _ _ p hp)]
  exact k M
theorem CW.zast {q len : Nat} {i : Int32} {x : Int32} (hk : cK q = 23) (hn : cN q = len) (hd : decode Y.2.1 pc = .ok (.bastore, 1)) (hi : vp_in i len) (k : CW l Y d r S' (pc + 1) ls st (ca S q i.toNatClampNeg (vp_nar .boolean x))) : CW l Y d r S' pc ls (.int x :: .int i :: .ref q :: st) S := by
  subst hn
  intro M
  have hq := cK_lt hk (by decide)
  refine AW.zast hd (Nat.lt_trans hq (by decide)) (hC_a hk (by decide)) hi ?_
  rw [hC_up (S' := ca S q i.toNatClampNeg (vp_nar .boolean x)) hq (by rw [cC_a hk (by decide)]; simp only [cArr, ca, va_up_self]) (fun p hp => ca_o S q _ _ p hp)]
  exact k M
theorem CW.aald24 {q len : Nat} {i : Int32} (hk : cK q = 24) (hn : cN q = len) (hd : decode Y.2.1 pc = .ok (.aaload, 1)) (hi : vp_in i len) (k : CW l Y d r S' (pc + 1) ls (.ref (7 + 6 * i.toNatClampNeg) :: st) S) : CW l Y d r S' pc ls (.int i :: .ref q :: st) S := by
  subst hn
  exact fun M => AW.aald (t0 := 4) (C := RX7) (fun _ => rfl) hd (Nat.lt_trans (cK_lt hk (by decide)) (by decide)) (hC_a hk (by decide)) hi rfl (k M)
theorem CW.aald25 {q len : Nat} {i : Int32} (hk : cK q = 25) (hn : cN q = len) (hd : decode Y.2.1 pc = .ok (.aaload, 1)) (hi : vp_in i len) (k : CW l Y d r S' (pc + 1) ls (.ref (50 + 12 * i.toNatClampNeg) :: st) S) : CW l Y d r S' pc ls (.int i :: .ref q :: st) S := by
  subst hn
  exact fun M => AW.aald (t0 := 5) (C := RX2) (fun _ => rfl) hd (Nat.lt_trans (cK_lt hk (by decide)) (by decide)) (hC_a hk (by decide)) hi rfl (k M)
theorem CW.callV {idx np d' b ci : Nat} {Y' : aY} {As st0 : List Value} {r' : Option Value} {S1 : cT} {r0 : vw_C} (hL : LV Y.1.cls idx Y' np) (hb : cK b = ci) (hci : ci < 20) (hc : classes[ci]? = some r0) (hcl : r0.1 = Y'.1.cls) (hd : decode Y.2.1 pc = .ok (.invokevirtual idx, 3)) (hM : COk l Y' d' (.ref b :: As) S r' S1) (hdd : d' < d) (hml : Y'.2.2.1 ≤ 41) (hnp : As.length = np) (hsum : (st.map fun v => v.category).sum ≤ 8) (hst : st0 = As.reverse ++ .ref b :: st) (k : CW l Y d r S' (pc + 3) ls (r'.toList ++ st) S1) : CW l Y d r S' pc ls st0 S := by
  intro M
  refine AW.callV hL hd (hM M) hdd hml hnp (Nat.lt_trans (cK_lt hb (by omega)) (by decide)) (hC_o hb hci) hc hcl hsum hst (fun r n' h' q => q.2.1) ⟨rfl, rfl⟩ (fun r h' q => ?_)
  obtain ⟨q1, -, q3⟩ := q
  subst q1
  subst q3
  exact k M
theorem CW.callS {idx np d' : Nat} {Y' : aY} {As st0 : List Value} {r' : Option Value} {S1 : cT} (hL : LT Y.1.cls idx Y' np) (hd : decode Y.2.1 pc = .ok (.invokestatic idx, 3)) (hM : COk l Y' d' As S r' S1) (hdd : d' < d) (hml : Y'.2.2.1 ≤ 41) (hnp : As.length = np) (hsum : (st.map fun v => v.category).sum ≤ 8) (hst : st0 = As.reverse ++ st) (k : CW l Y d r S' (pc + 3) ls (r'.toList ++ st) S1) : CW l Y d r S' pc ls st0 S := by
  intro M
  refine AW.callS hL hd (hM M) hdd hml hnp hsum hst (fun r n' h' q => q.2.1) ⟨rfl, rfl⟩ (fun r h' q => ?_)
  obtain ⟨q1, -, q3⟩ := q
  subst q1
  subst q3
  exact k M
theorem CW.callP {idx np d' : Nat} {Y' : aY} {As st0 : List Value} {r' : Option Value} (hL : LT Y.1.cls idx Y' np) (hd : decode Y.2.1 pc = .ok (.invokestatic idx, 3)) (hM : POk l Y' d' As r') (hdd : d' < d) (hml : Y'.2.2.1 ≤ 41) (hnp : As.length = np) (hsum : (st.map fun v => v.category).sum ≤ 8) (hst : st0 = As.reverse ++ st) (k : CW l Y d r S' (pc + 3) ls (r'.toList ++ st) S) : CW l Y d r S' pc ls st0 S := by
  intro M
  refine AW.callS hL hd (hM _ _) hdd hml hnp hsum hst (fun r n' h' q => q.2.1) ⟨rfl, rfl⟩ (fun r h' q => ?_)
  obtain ⟨q1, -, q3⟩ := q
  subst q1
  subst q3
  exact k M
theorem COk.of {As : List Value} (hy : plainName Y.1.cls = true) (hl : (enL As).length ≤ Y.2.2.1) (hls : padL As Y.2.2.1 = ls) (k : CW l Y d r S' 0 ls [] S) : COk l Y d As S r S' := fun M => AOk.of hy hl hls (k M)
/-- System.arraycopy between int rows -/
def cpok (sp dp n : Int32) (n0 n1 : Nat) : Bool := bif decide (sp < 0) then false else bif decide (dp < 0) then false else bif decide (n < 0) then false else bif Nat.ble (sp.toNatClampNeg + n.toNatClampNeg) n0 then Nat.ble (dp.toNatClampNeg + n.toNatClampNeg) n1 else false
theorem cpok_in {sp dp n : Int32} {n0 n1 : Nat} (h : cpok sp dp n n0 n1 = true) : ¬ sp < 0 ∧ ¬ dp < 0 ∧ ¬ n < 0 ∧ sp.toNatClampNeg + n.toNatClampNeg ≤ n0 ∧ dp.toNatClampNeg + n.toNatClampNeg ≤ n1 := by
  unfold cpok at h
  by_cases h1 : sp < 0
  · simp [h1] at h
  · by_cases h2 : dp < 0
    · simp [h1, h2] at h
    · by_cases h3 : n < 0
      · simp [h1, h2, h3] at h
      · simp [h1, h2, h3] at h
        exact ⟨h1, h2, h3, h.1, h.2⟩
theorem acp_n : Cond.native arraycopyName ∈ wG := tb_in 719 (by decide +kernel) (by decide +kernel)
theorem acp_s : Cond.static arraycopyName ∈ wG := tb_in 718 (by decide +kernel) (by decide +kernel)
theorem acp_i : Cond.initialized "java/lang/System" ∈ wG := tb_in 19 (by decide +kernel) (by decide +kernel)
theorem CW.copyi {idx q0 q1 n0 n1 : Nat} {sp dp n : Int32} (hl : Cond.methodLink Y.1.cls idx arraycopyName ∈ wG) (hk0 : cK q0 = 20) (hn0 : cN q0 = n0) (hk1 : cK q1 = 20) (hn1 : cN q1 = n1) (hd : decode Y.2.1 pc = .ok (.invokestatic idx, 3)) (hc : cpok sp dp n n0 n1 = true) (hdd : 0 < d) (hsum : (st.map fun v => v.category).sum ≤ 8) (k : CW l Y d r S' (pc + 3) ls st (cf S q1 (va_cpy (S.1 q0) (S.1 q1) sp.toNatClampNeg dp.toNatClampNeg n.toNatClampNeg))) : CW l Y d r S' pc ls (.int n :: .int dp :: .ref q1 :: .int sp :: .ref q0 :: st) S := by
  subst hn0
  subst hn1
  intro M p e s m args below meth c D cA as0 n0 A as H locs E SS X lsA hls
  obtain ⟨h1, h2, h3, h4, h5⟩ := cpok_in hc
  have hw := E.2.2.2.2.2.1
  have hq0 := cK_lt hk0 (by decide)
  have hq1 := cK_lt hk1 (by decide)
  have hz0 : (wsOf cA as 156 (hM (cC S) M))[q0]? = some (as q0, .inl (cA .int, cN q0, .inl (S.1 q0))) := ws_a (Nat.lt_trans hq0 (by decide)) (hC_a hk0 (by decide))
  have hz1 : (wsOf cA as 156 (hM (cC S) M))[q1]? = some (as q1, .inl (cA .int, cN q1, .inl (S.1 q1))) := ws_a (Nat.lt_trans hq1 (by decide)) (hC_a hk1 (by decide))
  refine va_copyi E.1 E.2.1 (E.2.2.2.1.trans hls.2.1.symm) E.2.2.2.2.1 (hw _ hl) (hw _ acp_n) (hw _ acp_s) (hw _ acp_i) SS.1 SS.2.1 SS.2.2.1 SS.2.2.2.1 q0 q1 0 0 (ty := .int) hz0 hz1 rfl rfl rfl h1 h2 h3 h4 h5 (fun i _ => rfl) hdd (by rw [cat_map]; show _ + (7 + 11) ≤ 60 * d; omega) hd (fun H1 locs1 hP hD hS => ?_)
  have hx : (as q1, (.inl (cA .int, cN q1, .inl (va_cpy (S.1 q0) (S.1 q1) sp.toNatClampNeg dp.toNatClampNeg n.toNatClampNeg)) : va_E)) = (as q1, tE cA as (.inl (.int, cN q1, .inl (va_cpy (S.1 q0) (S.1 q1) sp.toNatClampNeg dp.toNatClampNeg n.toNatClampNeg)))) := rfl
  rw [wsOf_set hx, hC_up (S' := cf S q1 (va_cpy (S.1 q0) (S.1 q1) sp.toNatClampNeg dp.toNatClampNeg n.toNatClampNeg)) hq1 (by rw [cC_a hk1 (by decide)]; simp only [cArr, cf, va_up_self]) (fun p hp => cf_o S q1 _ p hp)] at hP hD
  exact k M p e s m args below meth c D cA as0 n0 A as H1 locs1 E ⟨SS.1, hP, hD, hS, SS.2.2.2.2⟩ X lsA hls
def mxI (x y : Int32) : Int32 := if x < y then y else x
def mnI (x y : Int32) : Int32 := if y < x then y else x
def mabI (x : Int32) : Int32 := if 0 ≤ x then x else 0 - x
def mxL (x y : Int64) : Int64 := if y < x then x else y
def mnL (x y : Int64) : Int64 := if y < x then y else x
theorem mmax_s : Cond.static Lib.Math.max.name ∈ wG := tb_in 627 (by decide +kernel) (by decide +kernel)
theorem mmax_c : Cond.code Lib.Math.max.name Lib.Math.max.code 2 (some .int) ∈ wG := tb_in 628 (by decide +kernel) (by decide +kernel)
theorem CW.mmax {idx : Nat} {x y : Int32} (hl : Cond.methodLink Y.1.cls idx Lib.Math.max.name ∈ wG) (hd : decode Y.2.1 pc = .ok (.invokestatic idx, 3)) (hdd : 0 < d) (hsum : (st.map fun v => v.category).sum ≤ 8) (k : CW l Y d r S' (pc + 3) ls (.int (mxI x y) :: st) S) : CW l Y d r S' pc ls (.int y :: .int x :: st) S := by
  intro M p e s m args below meth c D cA as0 n0 A as H locs E SS X lsA hls
  have hw := E.2.2.2.2.2.1
  exact va_mmax (R := rmD d) E.1 E.2.1 (E.2.2.2.1.trans hls.2.1.symm) E.2.2.2.2.1 (hw _ hl) (hw _ mmax_s) (hw _ (tb_in 18 (by decide +kernel) (by decide +kernel))) (hw _ mmax_c) hdd (by rw [cat_map]; show _ + 13 ≤ 60 * d; omega) (Nat.le_refl _) (Nat.le_refl _) hd (k M p e s m args below meth c D cA as0 n0 A as H locs E SS X lsA hls)
theorem mmin_s : Cond.static Lib.Math.min.name ∈ wG := tb_in 711 (by decide +kernel) (by decide +kernel)
theorem mmin_c : Cond.code Lib.Math.min.name Lib.Math.min.code 2 (some .int) ∈ wG := tb_in 712 (by decide +kernel) (by decide +kernel)
theorem CW.mmin {idx : Nat} {x y : Int32} (hl : Cond.methodLink Y.1.cls idx Lib.Math.min.name ∈ wG) (hd : decode Y.2.1 pc = .ok (.invokestatic idx, 3)) (hdd : 0 < d) (hsum : (st.map fun v => v.category).sum ≤ 8) (k : CW l Y d r S' (pc + 3) ls (.int (mnI x y) :: st) S) : CW l Y d r S' pc ls (.int y :: .int x :: st) S := by
  intro M p e s m args below meth c D cA as0 n0 A as H locs E SS X lsA hls
  have hw := E.2.2.2.2.2.1
  exact va_mmin (R := rmD d) E.1 E.2.1 (E.2.2.2.1.trans hls.2.1.symm) E.2.2.2.2.1 (hw _ hl) (hw _ mmin_s) (hw _ (tb_in 18 (by decide +kernel) (by decide +kernel))) (hw _ mmin_c) hdd (by rw [cat_map]; show _ + 13 ≤ 60 * d; omega) (Nat.le_refl _) (Nat.le_refl _) hd (k M p e s m args below meth c D cA as0 n0 A as H locs E SS X lsA hls)
theorem mabs_s : Cond.static Lib.Math.abs.name ∈ wG := tb_in 863 (by decide +kernel) (by decide +kernel)
theorem mabs_c : Cond.code Lib.Math.abs.name Lib.Math.abs.code 1 (some .int) ∈ wG := tb_in 864 (by decide +kernel) (by decide +kernel)
theorem CW.mabs {idx : Nat} {x : Int32} (hl : Cond.methodLink Y.1.cls idx Lib.Math.abs.name ∈ wG) (hd : decode Y.2.1 pc = .ok (.invokestatic idx, 3)) (hdd : 0 < d) (hsum : (st.map fun v => v.category).sum ≤ 8) (k : CW l Y d r S' (pc + 3) ls (.int (mabI x) :: st) S) : CW l Y d r S' pc ls (.int x :: st) S := by
  intro M p e s m args below meth c D cA as0 n0 A as H locs E SS X lsA hls
  have hw := E.2.2.2.2.2.1
  exact va_mabs (R := rmD d) E.1 E.2.1 (E.2.2.2.1.trans hls.2.1.symm) E.2.2.2.2.1 (hw _ hl) (hw _ mabs_s) (hw _ (tb_in 18 (by decide +kernel) (by decide +kernel))) (hw _ mabs_c) hdd (by rw [cat_map]; show _ + 13 ≤ 60 * d; omega) (Nat.le_refl _) (Nat.le_refl _) hd (k M p e s m args below meth c D cA as0 n0 A as H locs E SS X lsA hls)
theorem mmaxL_s : Cond.static Lib.MathLoose.max_long.x ∈ wG := tb_in 636 (by decide +kernel) (by decide +kernel)
theorem mmaxL_c : Cond.code Lib.MathLoose.max_long.x Lib.MathLoose.max_long.code 4 (some .long) ∈ wG := tb_in 637 (by decide +kernel) (by decide +kernel)
theorem CW.mmaxL {idx : Nat} {x y : Int64} (hl : Cond.methodLink Y.1.cls idx Lib.MathLoose.max_long.x ∈ wG) (hd : decode Y.2.1 pc = .ok (.invokestatic idx, 3)) (hdd : 0 < d) (hsum : (st.map fun v => v.category).sum ≤ 8) (k : CW l Y d r S' (pc + 3) ls (.long (mxL x y) :: st) S) : CW l Y d r S' pc ls (.long y :: .long x :: st) S := by
  intro M p e s m args below meth c D cA as0 n0 A as H locs E SS X lsA hls
  have hw := E.2.2.2.2.2.1
  exact va_mmax_long (R := rmD d) E.1 E.2.1 (E.2.2.2.1.trans hls.2.1.symm) E.2.2.2.2.1 (hw _ hl) (hw _ mmaxL_s) (hw _ (tb_in 18 (by decide +kernel) (by decide +kernel))) (hw _ mmaxL_c) hdd (by rw [cat_map]; show _ + 15 ≤ 60 * d; omega) (Nat.le_refl _) (Nat.le_refl _) hd (k M p e s m args below meth c D cA as0 n0 A as H locs E SS X lsA hls)
theorem mminL_s : Cond.static Lib.MathLoose.min_long.x ∈ wG := tb_in 633 (by decide +kernel) (by decide +kernel)
theorem mminL_c : Cond.code Lib.MathLoose.min_long.x Lib.MathLoose.min_long.code 4 (some .long) ∈ wG := tb_in 634 (by decide +kernel) (by decide +kernel)
theorem CW.mminL {idx : Nat} {x y : Int64} (hl : Cond.methodLink Y.1.cls idx Lib.MathLoose.min_long.x ∈ wG) (hd : decode Y.2.1 pc = .ok (.invokestatic idx, 3)) (hdd : 0 < d) (hsum : (st.map fun v => v.category).sum ≤ 8) (k : CW l Y d r S' (pc + 3) ls (.long (mnL x y) :: st) S) : CW l Y d r S' pc ls (.long y :: .long x :: st) S := by
  intro M p e s m args below meth c D cA as0 n0 A as H locs E SS X lsA hls
  have hw := E.2.2.2.2.2.1
  exact va_mmin_long (R := rmD d) E.1 E.2.1 (E.2.2.2.1.trans hls.2.1.symm) E.2.2.2.2.1 (hw _ hl) (hw _ mminL_s) (hw _ (tb_in 18 (by decide +kernel) (by decide +kernel))) (hw _ mminL_c) hdd (by rw [cat_map]; show _ + 15 ≤ 60 * d; omega) (Nat.le_refl _) (Nat.le_refl _) hd (k M p e s m args below meth c D cA as0 n0 A as H locs E SS X lsA hls)
end CWR

