/-! ===== the rules of AW: branches, fields, arrays, returns ===== -/
section AWR
variable {l : Launch} {Y : aY} {R : Room} {Q : aQ} {cu su pc : Nat} {ls : List (Option Value)} {st : List Value} {n : Nat} {h : aH}
theorem ws_o {cA : FieldType → ClassId} {as : Nat → Nat} {b ci : Nat} {fs : List Value} (hb : b < n) (he : h b = .inr (ci, fs)) : (wsOf cA as n h)[b]? = some (as b, .inr (ci, fs.map (tv as))) := by
  rw [wsOf_get hb, he]
  rfl
theorem ws_a {cA : FieldType → ClassId} {as : Nat → Nat} {b len : Nat} {ty : FieldType} {f : aC} (hb : b < n) (he : h b = .inl (ty, len, f)) : (wsOf cA as n h)[b]? = some (as b, .inl (cA ty, len, tC as f)) := by
  rw [wsOf_get hb, he]
  rfl
theorem AW.if_eq {x : Int32} {off : Int} {tgt : Nat} (hd : decode Y.2.1 pc = .ok (.ifCond .eq off, 3)) (ht : (pc : Int) + off = (tgt : Int)) (kt : x = 0 → AW l Y R Q cu su tgt ls st n h) (kf : ¬ x = 0 → AW l Y R Q cu su (pc + 3) ls st n h) : AW l Y R Q cu su pc ls (.int x :: st) n h := by
  intro p e s m args below meth c D cA as0 n0 A as H locs E S X lsA hl
  exact lv_if_eq E.1 E.2.1 hd ht (fun q => kt q p e s m args below meth c D cA as0 n0 A as H locs E S X lsA hl) (fun q => kf q p e s m args below meth c D cA as0 n0 A as H locs E S X lsA hl)
theorem AW.if_ne {x : Int32} {off : Int} {tgt : Nat} (hd : decode Y.2.1 pc = .ok (.ifCond .ne off, 3)) (ht : (pc : Int) + off = (tgt : Int)) (kt : ¬ x = 0 → AW l Y R Q cu su tgt ls st n h) (kf : x = 0 → AW l Y R Q cu su (pc + 3) ls st n h) : AW l Y R Q cu su pc ls (.int x :: st) n h := by
  intro p e s m args below meth c D cA as0 n0 A as H locs E S X lsA hl
  exact lv_if_ne E.1 E.2.1 hd ht (fun q => kt q p e s m args below meth c D cA as0 n0 A as H locs E S X lsA hl) (fun q => kf q p e s m args below meth c D cA as0 n0 A as H locs E S X lsA hl)
theorem AW.if_lt {x : Int32} {off : Int} {tgt : Nat} (hd : decode Y.2.1 pc = .ok (.ifCond .lt off, 3)) (ht : (pc : Int) + off = (tgt : Int)) (kt : x < 0 → AW l Y R Q cu su tgt ls st n h) (kf : ¬ x < 0 → AW l Y R Q cu su (pc + 3) ls st n h) : AW l Y R Q cu su pc ls (.int x :: st) n h := by
  intro p e s m args below meth c D cA as0 n0 A as H locs E S X lsA hl
  exact lv_if_lt E.1 E.2.1 hd ht (fun q => kt q p e s m args below meth c D cA as0 n0 A as H locs E S X lsA hl) (fun q => kf q p e s m args below meth c D cA as0 n0 A as H locs E S X lsA hl)
theorem AW.if_ge {x : Int32} {off : Int} {tgt : Nat} (hd : decode Y.2.1 pc = .ok (.ifCond .ge off, 3)) (ht : (pc : Int) + off = (tgt : Int)) (kt : 0 ≤ x → AW l Y R Q cu su tgt ls st n h) (kf : ¬ 0 ≤ x → AW l Y R Q cu su (pc + 3) ls st n h) : AW l Y R Q cu su pc ls (.int x :: st) n h := by
  intro p e s m args below meth c D cA as0 n0 A as H locs E S X lsA hl
  exact lv_if_ge E.1 E.2.1 hd ht (fun q => kt q p e s m args below meth c D cA as0 n0 A as H locs E S X lsA hl) (fun q => kf q p e s m args below meth c D cA as0 n0 A as H locs E S X lsA hl)
theorem AW.if_gt {x : Int32} {off : Int} {tgt : Nat} (hd : decode Y.2.1 pc = .ok (.ifCond .gt off, 3)) (ht : (pc : Int) + off = (tgt : Int)) (kt : 0 < x → AW l Y R Q cu su tgt ls st n h) (kf : ¬ 0 < x → AW l Y R Q cu su (pc + 3) ls st n h) : AW l Y R Q cu su pc ls (.int x :: st) n h := by
  intro p e s m args below meth c D cA as0 n0 A as H locs E S X lsA hl
  exact lv_if_gt E.1 E.2.1 hd ht (fun q => kt q p e s m args below meth c D cA as0 n0 A as H locs E S X lsA hl) (fun q => kf q p e s m args below meth c D cA as0 n0 A as H locs E S X lsA hl)
theorem AW.if_le {x : Int32} {off : Int} {tgt : Nat} (hd : decode Y.2.1 pc = .ok (.ifCond .le off, 3)) (ht : (pc : Int) + off = (tgt : Int)) (kt : x ≤ 0 → AW l Y R Q cu su tgt ls st n h) (kf : ¬ x ≤ 0 → AW l Y R Q cu su (pc + 3) ls st n h) : AW l Y R Q cu su pc ls (.int x :: st) n h := by
  intro p e s m args below meth c D cA as0 n0 A as H locs E S X lsA hl
  exact lv_if_le E.1 E.2.1 hd ht (fun q => kt q p e s m args below meth c D cA as0 n0 A as H locs E S X lsA hl) (fun q => kf q p e s m args below meth c D cA as0 n0 A as H locs E S X lsA hl)
theorem AW.icmp_eq {x y : Int32} {off : Int} {tgt : Nat} (hd : decode Y.2.1 pc = .ok (.if_icmp .eq off, 3)) (ht : (pc : Int) + off = (tgt : Int)) (kt : x = y → AW l Y R Q cu su tgt ls st n h) (kf : ¬ x = y → AW l Y R Q cu su (pc + 3) ls st n h) : AW l Y R Q cu su pc ls (.int y :: .int x :: st) n h := by
  intro p e s m args below meth c D cA as0 n0 A as H locs E S X lsA hl
  exact lv_icmp_eq E.1 E.2.1 hd ht (fun q => kt q p e s m args below meth c D cA as0 n0 A as H locs E S X lsA hl) (fun q => kf q p e s m args below meth c D cA as0 n0 A as H locs E S X lsA hl)
theorem AW.icmp_ne {x y : Int32} {off : Int} {tgt : Nat} (hd : decode Y.2.1 pc = .ok (.if_icmp .ne off, 3)) (ht : (pc : Int) + off = (tgt : Int)) (kt : ¬ x = y → AW l Y R Q cu su tgt ls st n h) (kf : x = y → AW l Y R Q cu su (pc + 3) ls st n h) : AW l Y R Q cu su pc ls (.int y :: .int x :: st) n h := by
  intro p e s m args below meth c D cA as0 n0 A as H locs E S X lsA hl
  exact lv_icmp_ne E.1 E.2.1 hd ht (fun q => kt q p e s m args below meth c D cA as0 n0 A as H locs E S X lsA hl) (fun q => kf q p e s m args below meth c D cA as0 n0 A as H locs E S X lsA hl)
theorem AW.icmp_lt {x y : Int32} {off : Int} {tgt : Nat} (hd : decode Y.2.1 pc = .ok (.if_icmp .lt off, 3)) (ht : (pc : Int) + off = (tgt : Int)) (kt : x < y → AW l Y R Q cu su tgt ls st n h) (kf : ¬ x < y → AW l Y R Q cu su (pc + 3) ls st n h) : AW l Y R Q cu su pc ls (.int y :: .int x :: st) n h := by
  intro p e s m args below meth c D cA as0 n0 A as H locs E S X lsA hl
  exact lv_icmp_lt E.1 E.2.1 hd ht (fun q => kt q p e s m args below meth c D cA as0 n0 A as H locs E S X lsA hl) (fun q => kf q p e s m args below meth c D cA as0 n0 A as H locs E S X lsA hl)
theorem AW.icmp_ge {x y : Int32} {off : Int} {tgt : Nat} (hd : decode Y.2.1 pc = .ok (.if_icmp .ge off, 3)) (ht : (pc : Int) + off = (tgt : Int)) (kt : y ≤ x → AW l Y R Q cu su tgt ls st n h) (kf : ¬ y ≤ x → AW l Y R Q cu su (pc + 3) ls st n h) : AW l Y R Q cu su pc ls (.int y :: .int x :: st) n h := by
  intro p e s m args below meth c D cA as0 n0 A as H locs E S X lsA hl
  exact lv_icmp_ge E.1 E.2.1 hd ht (fun q => kt q p e s m args below meth c D cA as0 n0 A as H locs E S X lsA hl) (fun q => kf q p e s m args below meth c D cA as0 n0 A as H locs E S X lsA hl)
theorem AW.icmp_gt {x y : Int32} {off : Int} {tgt : Nat} (hd : decode Y.2.1 pc = .ok (.if_icmp .gt off, 3)) (ht : (pc : Int) + off = (tgt : Int)) (kt : y < x → AW l Y R Q cu su tgt ls st n h) (kf : ¬ y < x → AW l Y R Q cu su (pc + 3) ls st n h) : AW l Y R Q cu su pc ls (.int y :: .int x :: st) n h := by
  intro p e s m args below meth c D cA as0 n0 A as H locs E S X lsA hl
  exact lv_icmp_gt E.1 E.2.1 hd ht (fun q => kt q p e s m args below meth c D cA as0 n0 A as H locs E S X lsA hl) (fun q => kf q p e s m args below meth c D cA as0 n0 A as H locs E S X lsA hl)
theorem AW.icmp_le {x y : Int32} {off : Int} {tgt : Nat} (hd : decode Y.2.1 pc = .ok (.if_icmp .le off, 3)) (ht : (pc : Int) + off = (tgt : Int)) (kt : x ≤ y → AW l Y R Q cu su tgt ls st n h) (kf : ¬ x ≤ y → AW l Y R Q cu su (pc + 3) ls st n h) : AW l Y R Q cu su pc ls (.int y :: .int x :: st) n h := by
  intro p e s m args below meth c D cA as0 n0 A as H locs E S X lsA hl
  exact lv_icmp_le E.1 E.2.1 hd ht (fun q => kt q p e s m args below meth c D cA as0 n0 A as H locs E S X lsA hl) (fun q => kf q p e s m args below meth c D cA as0 n0 A as H locs E S X lsA hl)
theorem AW.idiv {x y : Int32} (hne : ¬ y = 0) (hd : decode Y.2.1 pc = .ok (.idiv, 1)) (k : AW l Y R Q cu su (pc + 1) ls (.int (x / y) :: st) n h) : AW l Y R Q cu su pc ls (.int y :: .int x :: st) n h := by
  intro p e s m args below meth c D cA as0 n0 A as H locs E S X lsA hl
  exact lv_idiv E.1 E.2.1 hd hne (k p e s m args below meth c D cA as0 n0 A as H locs E S X lsA hl)
theorem AW.irem {x y : Int32} (hne : ¬ y = 0) (hd : decode Y.2.1 pc = .ok (.irem, 1)) (k : AW l Y R Q cu su (pc + 1) ls (.int (x - x / y * y) :: st) n h) : AW l Y R Q cu su pc ls (.int y :: .int x :: st) n h := by
  intro p e s m args below meth c D cA as0 n0 A as H locs E S X lsA hl
  exact lv_irem E.1 E.2.1 hd hne (k p e s m args below meth c D cA as0 n0 A as H locs E S X lsA hl)
theorem AW.ldiv {x y : Int64} (hne : ¬ y = 0) (hd : decode Y.2.1 pc = .ok (.ldiv, 1)) (k : AW l Y R Q cu su (pc + 1) ls (.long (x / y) :: st) n h) : AW l Y R Q cu su pc ls (.long y :: .long x :: st) n h := by
  intro p e s m args below meth c D cA as0 n0 A as H locs E S X lsA hl
  exact lv_ldiv E.1 E.2.1 hd hne (k p e s m args below meth c D cA as0 n0 A as H locs E S X lsA hl)
theorem AW.lrem {x y : Int64} (hne : ¬ y = 0) (hd : decode Y.2.1 pc = .ok (.lrem, 1)) (k : AW l Y R Q cu su (pc + 1) ls (.long (x - x / y * y) :: st) n h) : AW l Y R Q cu su pc ls (.long y :: .long x :: st) n h := by
  intro p e s m args below meth c D cA as0 n0 A as H locs E S X lsA hl
  exact lv_lrem E.1 E.2.1 hd hne (k p e s m args below meth c D cA as0 n0 A as H locs E S X lsA hl)
theorem AW.ldc {idx : Nat} {v : Int32} (hw : Cond.constant Y.1.cls idx v ∈ wG) (hd : decode Y.2.1 pc = .ok (.ldc idx, 2)) (k : AW l Y R Q cu su (pc + 2) ls (.int v :: st) n h) : AW l Y R Q cu su pc ls st n h := by
  intro p e s m args below meth c D cA as0 n0 A as H locs E S X lsA hl
  exact lv_ldc E.1 E.2.1 E.2.2.2.2.1 (E.2.2.2.2.2.1 _ hw) hd (k p e s m args below meth c D cA as0 n0 A as H locs E S X lsA hl)
theorem AW.ldcw {idx : Nat} {v : Int32} (hw : Cond.constant Y.1.cls idx v ∈ wG) (hd : decode Y.2.1 pc = .ok (.ldc_w idx, 3)) (k : AW l Y R Q cu su (pc + 3) ls (.int v :: st) n h) : AW l Y R Q cu su pc ls st n h := by
  intro p e s m args below meth c D cA as0 n0 A as H locs E S X lsA hl
  exact lv_ldcw E.1 E.2.1 E.2.2.2.2.1 (E.2.2.2.2.2.1 _ hw) hd (k p e s m args below meth c D cA as0 n0 A as H locs E S X lsA hl)
theorem AW.ldc2 {idx : Nat} {v : Int64} (hw : Cond.constantLong Y.1.cls idx v ∈ wG) (hd : decode Y.2.1 pc = .ok (.ldc2_w idx, 3)) (k : AW l Y R Q cu su (pc + 3) ls (.long v :: st) n h) : AW l Y R Q cu su pc ls st n h := by
  intro p e s m args below meth c D cA as0 n0 A as H locs E S X lsA hl
  exact lv_ldc2 E.1 E.2.1 E.2.2.2.2.1 (E.2.2.2.2.2.1 _ hw) hd (k p e s m args below meth c D cA as0 n0 A as H locs E S X lsA hl)
theorem AW.lookup {dflt : Int} {ps : Array (Int × Int)} {len : Nat} {x : Int32} {off : Int} {tgt : Nat} (hd : decode Y.2.1 pc = .ok (.lookupswitch dflt ps, len)) (hp : (ps.toList.zip (ps.toList.drop 1)).all (fun (a, next) => a.1 < next.1) = true) (ho : Op.lookupswitch.offset ps.toList dflt x.toInt = off) (ht : (pc : Int) + off = (tgt : Int)) (k : AW l Y R Q cu su tgt ls st n h) : AW l Y R Q cu su pc ls (.int x :: st) n h := by
  intro p e s m args below meth c D cA as0 n0 A as H locs E S X lsA hl
  exact lv_lookup E.1 E.2.1 hd hp ho ht (k p e s m args below meth c D cA as0 n0 A as H locs E S X lsA hl)
theorem AW.tableIn {dflt lo hi : Int} {offs : Array Int} {len : Nat} {x : Int32} {off : Int} {tgt : Nat} (hd : decode Y.2.1 pc = .ok (.tableswitch dflt lo hi offs, len)) (h1 : ¬ x.toInt < lo) (h2 : ¬ hi < x.toInt) (ho : offs[(x.toInt - lo).toNat]? = some off) (ht : (pc : Int) + off = (tgt : Int)) (k : AW l Y R Q cu su tgt ls st n h) : AW l Y R Q cu su pc ls (.int x :: st) n h := by
  intro p e s m args below meth c D cA as0 n0 A as H locs E S X lsA hl
  exact lv_tableIn E.1 E.2.1 hd h1 h2 ho ht (k p e s m args below meth c D cA as0 n0 A as H locs E S X lsA hl)
theorem AW.tableOut {dflt lo hi : Int} {offs : Array Int} {len : Nat} {x : Int32} {tgt : Nat} (hd : decode Y.2.1 pc = .ok (.tableswitch dflt lo hi offs, len)) (h0 : x.toInt < lo ∨ hi < x.toInt) (ht : (pc : Int) + dflt = (tgt : Int)) (k : AW l Y R Q cu su tgt ls st n h) : AW l Y R Q cu su pc ls (.int x :: st) n h := by
  intro p e s m args below meth c D cA as0 n0 A as H locs E S X lsA hl
  exact lv_tableOut E.1 E.2.1 hd h0 ht (k p e s m args below meth c D cA as0 n0 A as H locs E S X lsA hl)
/-- a field's entry in a class file: the class's number, the field's number -/
def FL (own : String) (idx ci k : Nat) : Prop := ∃ (C : String) (T : u_T) (N : Nat), classes[ci]? = some (C, T, N) ∧ (∀ w ∈ u_ws C T N, w ∈ wG) ∧ k < N ∧ (Cond.fieldLink own idx (T k).1 (T k).2.1 (T k).2.2.1 ∈ wG ∨ ∃ host, Cond.fieldLinkNest own idx (T k).1 (T k).2.1 (T k).2.2.1 host ∈ wN)
/-- the same, to write: of a type, final or not -/
def FP (own : String) (idx ci k : Nat) (ty : FieldType) (fin : Bool) : Prop := ∃ (C : String) (T : u_T) (N : Nat) (ty0 : Nat → FieldType), classes[ci]? = some (C, T, N) ∧ (∀ w ∈ u_ws C T N, w ∈ wG) ∧ k < N ∧ (∀ k, k < N → parseFieldDescriptor (T k).2.2.1 = some (ty0 k)) ∧ (∀ a, a < N → ∀ b, b < N → a ≠ b → (T a).2.1 ≠ (T b).2.1) ∧ parseFieldDescriptor (T k).2.2.1 = some ty ∧ (T k).2.2.2 = fin ∧
  (Cond.fieldLink own idx (T k).1 (T k).2.1 (T k).2.2.1 ∈ wG ∨ ∃ host, Cond.fieldLinkNest own idx (T k).1 (T k).2.1 (T k).2.2.1 host ∈ wN)
theorem AW.getf {idx ci j b : Nat} {fs : List Value} {v : Value} (hL : FL Y.1.cls idx ci j) (hd : decode Y.2.1 pc = .ok (.getfield idx, 3)) (hb : b < n) (he : h b = .inr (ci, fs)) (hv : fs[j]? = some v) (k : AW l Y R Q cu su (pc + 3) ls (v :: st) n h) : AW l Y R Q cu su pc ls (.ref b :: st) n h := by
  intro p e s m args below meth c D cA as0 n0 A as H locs E S X lsA hl
  obtain ⟨C, T, N, h1, h2, h3, h4⟩ := hL
  have hv' : (fs.map (tv as))[j]? = some (tv as v) := by rw [List.getElem?_map, hv]; rfl
  rcases h4 with h4 | ⟨host, h4⟩
  · exact va_get E.1 E.2.1 E.2.2.2.2.2.1 h2 E.2.2.2.2.1 S.1 S.2.1 b (ws_o hb he) h1 j h3 (E.2.2.2.2.2.1 _ h4) (fun _ q => q) hv' hd (k p e s m args below meth c D cA as0 n0 A as H locs E S X lsA hl)
  · exact va_getN E.1 E.2.1 E.2.2.2.2.2.1 h2 E.2.2.2.2.1 S.1 S.2.1 b (ws_o hb he) h1 j h3 (va_Nw.use rfl (E.2.2.2.2.2.2.2.1 _ h4)) (fun _ q => q) hv' hd (k p e s m args below meth c D cA as0 n0 A as H locs E S X lsA hl)
theorem AW.putf {idx ci j b : Nat} {fs : List Value} {v : Value} {ty : FieldType} (hL : FP Y.1.cls idx ci j ty false) (hd : decode Y.2.1 pc = .ok (.putfield idx, 3)) (hb : b < n) (he : h b = .inr (ci, fs)) (hj : j < fs.length) (hn : ∀ as, narrow ty (tv as v) = tv as v) (hf : ∀ as, fits ty (tv as v) = true) (k : AW l Y R Q cu su (pc + 3) ls st n (va_up h b (.inr (ci, fs.set j v)))) : AW l Y R Q cu su pc ls (v :: .ref b :: st) n h := by
  intro p e s m args below meth c D cA as0 n0 A as H locs E S X lsA hl
  obtain ⟨C, T, N, ty0, h1, h2, h3, h4, h5, h6, h7, h8⟩ := hL
  have hx : (as b, (.inr (ci, (fs.map (tv as)).set j (tv as v)) : va_E)) = (as b, tE cA as (.inr (ci, fs.set j v))) := by
    show _ = (as b, (.inr (ci, (fs.set j v).map (tv as)) : va_E))
    rw [List.map_set]
  rcases h8 with h8 | ⟨host, h8⟩
  · refine va_put E.1 E.2.1 E.2.2.2.2.2.1 h2 ty0 h4 h5 E.2.2.2.2.1 S.1 S.2.1 S.2.2.1 S.2.2.2.1 b (ws_o hb he) h1 j h3 (E.2.2.2.2.2.1 _ h8) (fun _ q => q) h7 h6 (hn as) (hf as) (by simpa using hj) hd (fun H1 locs1 hP hD hS => ?_)
    rw [wsOf_set hx] at hP hD
    exact k p e s m args below meth c D cA as0 n0 A as H1 locs1 E ⟨S.1, hP, hD, hS, S.2.2.2.2⟩ X lsA hl
  · refine va_putN E.1 E.2.1 E.2.2.2.2.2.1 h2 ty0 h4 h5 E.2.2.2.2.1 S.1 S.2.1 S.2.2.1 S.2.2.2.1 b (ws_o hb he) h1 j h3 (va_Nw.use rfl (E.2.2.2.2.2.2.2.1 _ h8)) (fun _ q => q) h7 h6 (hn as) (hf as) (by simpa using hj) hd (fun H1 locs1 hP hD hS => ?_)
    rw [wsOf_set hx] at hP hD
    exact k p e s m args below meth c D cA as0 n0 A as H1 locs1 E ⟨S.1, hP, hD, hS, S.2.2.2.2⟩ X lsA hl
/-- a final field, in the constructor of its class -/
def FF (own : String) (idx ci k : Nat) (ty : FieldType) : Prop := ∃ (C : String) (T : u_T) (N : Nat) (ty0 : Nat → FieldType), classes[ci]? = some (C, T, N) ∧ (∀ w ∈ u_ws C T N, w ∈ wG) ∧ k < N ∧ (∀ k, k < N → parseFieldDescriptor (T k).2.2.1 = some (ty0 k)) ∧ (∀ a, a < N → ∀ b, b < N → a ≠ b → (T a).2.1 ≠ (T b).2.1) ∧ parseFieldDescriptor (T k).2.2.1 = some ty ∧ (T k).2.2.2 = true ∧ (T k).1 = own ∧ Cond.fieldLink own idx (T k).1 (T k).2.1 (T k).2.2.1 ∈ wG
theorem AW.putF {idx ci j b : Nat} {fs : List Value} {v : Value} {ty : FieldType} (hL : FF Y.1.cls idx ci j ty) (hi : Y.1.name = "<init>") (hd : decode Y.2.1 pc = .ok (.putfield idx, 3)) (hb : b < n) (he : h b = .inr (ci, fs)) (hj : j < fs.length) (hn : ∀ as, narrow ty (tv as v) = tv as v) (hf : ∀ as, fits ty (tv as v) = true) (k : AW l Y R Q cu su (pc + 3) ls st n (va_up h b (.inr (ci, fs.set j v)))) : AW l Y R Q cu su pc ls (v :: .ref b :: st) n h := by
  intro p e s m args below meth c D cA as0 n0 A as H locs E S X lsA hl
  obtain ⟨C, T, N, ty0, h1, h2, h3, h4, h5, h6, h7, h7', h8⟩ := hL
  have hx : (as b, (.inr (ci, (fs.map (tv as)).set j (tv as v)) : va_E)) = (as b, tE cA as (.inr (ci, fs.set j v))) := by
    show _ = (as b, (.inr (ci, (fs.set j v).map (tv as)) : va_E))
    rw [List.map_set]
  refine va_putF E.1 E.2.1 E.2.2.2.2.2.1 h2 ty0 h4 h5 E.2.2.2.2.1 S.1 S.2.1 S.2.2.1 S.2.2.2.1 b (ws_o hb he) h1 j h3 (E.2.2.2.2.2.1 _ h8) (fun _ q => q) h7 (E.2.2.2.2.2.2.2.2.trans hi) h7' h6 (hn as) (hf as) (by simpa using hj) hd (fun H1 locs1 hP hD hS => ?_)
  rw [wsOf_set hx] at hP hD
  exact k p e s m args below meth c D cA as0 n0 A as H1 locs1 E ⟨S.1, hP, hD, hS, S.2.2.2.2⟩ X lsA hl
theorem AW.iald {b len : Nat} {i : Int32} {f : Nat → Int32} (hd : decode Y.2.1 pc = .ok (.iaload, 1)) (hb : b < n) (he : h b = .inl (.int, len, .inl f)) (hi : vp_in i len) (k : AW l Y R Q cu su (pc + 1) ls (.int (f i.toNatClampNeg) :: st) n h) : AW l Y R Q cu su pc ls (.int i :: .ref b :: st) n h := by
  intro p e s m args below meth c D cA as0 n0 A as H locs E S X lsA hl
  exact va_iald E.1 E.2.1 S.1 S.2.1 b 0 (ws_a hb he) rfl hi hd (k p e s m args below meth c D cA as0 n0 A as H locs E S X lsA hl)
theorem AW.lald {b len : Nat} {i : Int32} {f : Nat → Int64} (hd : decode Y.2.1 pc = .ok (.laload, 1)) (hb : b < n) (he : h b = .inl (.long, len, .inr (.inl f))) (hi : vp_in i len) (k : AW l Y R Q cu su (pc + 1) ls (.long (f i.toNatClampNeg) :: st) n h) : AW l Y R Q cu su pc ls (.int i :: .ref b :: st) n h := by
  intro p e s m args below meth c D cA as0 n0 A as H locs E S X lsA hl
  exact va_lald E.1 E.2.1 S.1 S.2.1 b 1 (ws_a hb he) rfl hi hd (k p e s m args below meth c D cA as0 n0 A as H locs E S X lsA hl)
theorem AW.bald {b len : Nat} {i : Int32} {f : Nat → Int32} (hd : decode Y.2.1 pc = .ok (.baload, 1)) (hb : b < n) (he : h b = .inl (.byte, len, .inl f)) (hi : vp_in i len) (k : AW l Y R Q cu su (pc + 1) ls (.int (f i.toNatClampNeg) :: st) n h) : AW l Y R Q cu su pc ls (.int i :: .ref b :: st) n h := by
  intro p e s m args below meth c D cA as0 n0 A as H locs E S X lsA hl
  exact va_bald E.1 E.2.1 S.1 S.2.1 b 2 (ws_a hb he) rfl hi hd (k p e s m args below meth c D cA as0 n0 A as H locs E S X lsA hl)
theorem AW.zald {b len : Nat} {i : Int32} {f : Nat → Int32} (hd : decode Y.2.1 pc = .ok (.baload, 1)) (hb : b < n) (he : h b = .inl (.boolean, len, .inl f)) (hi : vp_in i len) (k : AW l Y R Q cu su (pc + 1) ls (.int (f i.toNatClampNeg) :: st) n h) : AW l Y R Q cu su pc ls (.int i :: .ref b :: st) n h := by
  intro p e s m args below meth c D cA as0 n0 A as H locs E S X lsA hl
  exact va_zald E.1 E.2.1 S.1 S.2.1 b 3 (ws_a hb he) rfl hi hd (k p e s m args below meth c D cA as0 n0 A as H locs E S X lsA hl)
theorem AW.iast {b len : Nat} {i : Int32} {x : Int32} {f : Nat → Int32} (hd : decode Y.2.1 pc = .ok (.iastore, 1)) (hb : b < n) (he : h b = .inl (.int, len, .inl f)) (hi : vp_in i len) (k : AW l Y R Q cu su (pc + 1) ls st n (va_up h b (.inl (.int, len, .inl (upd f i.toNatClampNeg x))))) : AW l Y R Q cu su pc ls (.int x :: .int i :: .ref b :: st) n h := by
  intro p e s m args below meth c D cA as0 n0 A as H locs E S X lsA hl
  refine va_iast E.1 E.2.1 S.1 S.2.1 S.2.2.1 S.2.2.2.1 b 0 (ws_a hb he) rfl hi hd (fun H1 locs1 hP hD hS => ?_)
  have hx : (as b, (.inl (cA .int, len, .inl (upd f i.toNatClampNeg x)) : va_E)) = (as b, tE cA as (.inl (.int, len, .inl (upd f i.toNatClampNeg x)))) := rfl
  rw [wsOf_set hx] at hP hD
  exact k p e s m args below meth c D cA as0 n0 A as H1 locs1 E ⟨S.1, hP, hD, hS, S.2.2.2.2⟩ X lsA hl
theorem AW.last {b len : Nat} {i : Int32} {x : Int64} {f : Nat → Int64} (hd : decode Y.2.1 pc = .ok (.lastore, 1)) (hb : b < n) (he : h b = .inl (.long, len, .inr (.inl f))) (hi : vp_in i len) (k : AW l Y R Q cu su (pc + 1) ls st n (va_up h b (.inl (.long, len, .inr (.inl (vp_updL f i.toNatClampNeg x)))))) : AW l Y R Q cu su pc ls (.long x :: .int i :: .ref b :: st) n h := by
  intro p e s m args below meth c D cA as0 n0 A as H locs E S X lsA hl
  refine va_last E.1 E.2.1 S.1 S.2.1 S.2.2.1 S.2.2.2.1 b 1 (ws_a hb he) rfl hi hd (fun H1 locs1 hP hD hS => ?_)
  have hx : (as b, (.inl (cA .long, len, .inr (.inl (vp_updL f i.toNatClampNeg x))) : va_E)) = (as b, tE cA as (.inl (.long, len, .inr (.inl (vp_updL f i.toNatClampNeg x))))) := rfl
  rw [wsOf_set hx] at hP hD
  exact k p e s m args below meth c D cA as0 n0 A as H1 locs1 E ⟨S.1, hP, hD, hS, S.2.2.2.2⟩ X lsA hl
theorem AW.bast {b len : Nat} {i : Int32} {x : Int32} {f : Nat → Int32} (hd : decode Y.2.1 pc = .ok (.bastore, 1)) (hb : b < n) (he : h b = .inl (.byte, len, .inl f)) (hi : vp_in i len) (k : AW l Y R Q cu su (pc + 1) ls st n (va_up h b (.inl (.byte, len, .inl (upd f i.toNatClampNeg (vp_nar .byte x)))))) : AW l Y R Q cu su pc ls (.int x :: .int i :: .ref b :: st) n h := by
  intro p e s m args below meth c D cA as0 n0 A as H locs E S X lsA hl
  refine va_bast E.1 E.2.1 S.1 S.2.1 S.2.2.1 S.2.2.2.1 b 2 (ws_a hb he) rfl hi hd (fun H1 locs1 hP hD hS => ?_)
  have hx : (as b, (.inl (cA .byte, len, .inl (upd f i.toNatClampNeg (vp_nar .byte x))) : va_E)) = (as b, tE cA as (.inl (.byte, len, .inl (upd f i.toNatClampNeg (vp_nar .byte x))))) := rfl
  rw [wsOf_set hx] at hP hD
  exact k p e s m args below meth c D cA as0 n0 A as H1 locs1 E ⟨S.1, hP, hD, hS, S.2.2.2.2⟩ X lsA hl
theorem AW.zast {b len : Nat} {i : Int32} {x : Int32} {f : Nat → Int32} (hd : decode Y.2.1 pc = .ok (.bastore, 1)) (hb : b < n) (he : h b = .inl (.boolean, len, .inl f)) (hi : vp_in i len) (k : AW l Y R Q cu su (pc + 1) ls st n (va_up h b (.inl (.boolean, len, .inl (upd f i.toNatClampNeg (vp_nar .boolean x)))))) : AW l Y R Q cu su pc ls (.int x :: .int i :: .ref b :: st) n h := by
  intro p e s m args below meth c D cA as0 n0 A as H locs E S X lsA hl
  refine va_zast E.1 E.2.1 S.1 S.2.1 S.2.2.1 S.2.2.2.1 b 3 (ws_a hb he) rfl hi hd (fun H1 locs1 hP hD hS => ?_)
  have hx : (as b, (.inl (cA .boolean, len, .inl (upd f i.toNatClampNeg (vp_nar .boolean x))) : va_E)) = (as b, tE cA as (.inl (.boolean, len, .inl (upd f i.toNatClampNeg (vp_nar .boolean x))))) := rfl
  rw [wsOf_set hx] at hP hD
  exact k p e s m args below meth c D cA as0 n0 A as H1 locs1 E ⟨S.1, hP, hD, hS, S.2.2.2.2⟩ X lsA hl
/-- an object out of a row of objects -/
theorem AW.aald {b len t0 o : Nat} {C : String} {i : Int32} {f : Nat → Option Nat} (ht : ∀ cA, (tyl cA)[t0]? = some (cA (.object C), .object C)) (hd : decode Y.2.1 pc = .ok (.aaload, 1)) (hb : b < n) (he : h b = .inl (.object C, len, .inr (.inr (.inr (.inr f))))) (hi : vp_in i len) (ho : f i.toNatClampNeg = some o) (k : AW l Y R Q cu su (pc + 1) ls (.ref o :: st) n h) : AW l Y R Q cu su pc ls (.int i :: .ref b :: st) n h := by
  intro p e s m args below meth c D cA as0 n0 A as H locs E S X lsA hl
  refine va_aldq E.1 E.2.1 S.1 S.2.1 b t0 (ws_a hb he) (ht cA) hi hd ?_
  have k2 := k p e s m args below meth c D cA as0 n0 A as H locs E S X lsA hl
  show W p l e R s m args below meth c H locs cu su _ (F0 m (pc + 1) lsA (va_rf ((f i.toNatClampNeg).map as) :: st.map (tv as)))
  rw [ho]
  exact k2
theorem AW.aast {b len t0 o ci : Nat} {r : vw_C} {vs : List Value} {i : Int32} {f : Nat → Option Nat} (ht : ∀ cA, (tyl cA)[t0]? = some (cA (.object r.1), .object r.1)) (hd : decode Y.2.1 pc = .ok (.aastore, 1)) (hb : b < n) (he : h b = .inl (.object r.1, len, .inr (.inr (.inr (.inr f))))) (ho : o < n) (hq : h o = .inr (ci, vs)) (hc : classes[ci]? = some r) (hi : vp_in i len) (k : AW l Y R Q cu su (pc + 1) ls st n (va_up h b (.inl (.object r.1, len, .inr (.inr (.inr (.inr (va_up f i.toNatClampNeg (some o))))))))) : AW l Y R Q cu su pc ls (.ref o :: .int i :: .ref b :: st) n h := by
  intro p e s m args below meth c D cA as0 n0 A as H locs E S X lsA hl
  refine va_astq E.1 E.2.1 S.1 S.2.1 S.2.2.1 S.2.2.2.1 b t0 o ci (ws_a hb he) (ht cA) (ws_o ho hq) hc hi hd (fun H1 locs1 hP hD hS => ?_)
  have hx : (as b, (.inl (cA (.object r.1), len, .inr (.inr (.inr (.inr (va_up (fun j => (f j).map as) i.toNatClampNeg (some (as o))))))) : va_E)) = (as b, tE cA as (.inl (.object r.1, len, .inr (.inr (.inr (.inr (va_up f i.toNatClampNeg (some o)))))))) := by
    show _ = (as b, (.inl (cA (.object r.1), len, .inr (.inr (.inr (.inr (fun j => (va_up f i.toNatClampNeg (some o) j).map as))))) : va_E))
    have : va_up (fun j => (f j).map as) i.toNatClampNeg (some (as o)) = fun j => (va_up f i.toNatClampNeg (some o) j).map as := by
      funext j
      by_cases hj : j = i.toNatClampNeg
      · subst hj; simp [va_up]
      · simp [va_up, hj]
    rw [this]
  rw [wsOf_set hx] at hP hD
  exact k p e s m args below meth c D cA as0 n0 A as H1 locs1 E ⟨S.1, hP, hD, hS, S.2.2.2.2⟩ X lsA hl
theorem AW.iret {v : Int32} (hr : Y.2.2.2 = some .int) (hd : decode Y.2.1 pc = .ok (.ireturn, 1)) (hc : cu ≤ R.cells) (hs : su ≤ R.slots) (hq : Q (some (.int v)) n h) : AW l Y R Q cu su pc ls [.int v] n h := by
  intro p e s m args below meth c D cA as0 n0 A as H locs E S X lsA hl
  refine W.widen hc hs ?_
  have hlocks : meth.locks = false := E.2.2.2.2.2.2.1
  exact W.iret (v := v) E.1 E.2.1 (E.2.2.1.trans hr) (fun t ht hW => ⟨⟨some (.int v), n, h, as, rfl, hq, X, by rw [ht]; exact S.2.1, va_K.moved hW.alike S.1, S.2.2.1⟩, S.2.2.2.1.F ht⟩) S.2.2.2.1.2.2 hd
theorem AW.zret {v : Int32} {ty : FieldType} (hr : Y.2.2.2 = some ty) (hn : narrow ty (.int v) = .int v) (hd : decode Y.2.1 pc = .ok (.ireturn, 1)) (hc : cu ≤ R.cells) (hs : su ≤ R.slots) (hq : Q (some (.int v)) n h) : AW l Y R Q cu su pc ls [.int v] n h := by
  intro p e s m args below meth c D cA as0 n0 A as H locs E S X lsA hl
  refine W.widen hc hs ?_
  have hlocks : meth.locks = false := E.2.2.2.2.2.2.1
  exact W.zret (v := v) E.1 E.2.1 (E.2.2.1.trans hr) hn (fun t ht hW => ⟨⟨some (.int v), n, h, as, rfl, hq, X, by rw [ht]; exact S.2.1, va_K.moved hW.alike S.1, S.2.2.1⟩, S.2.2.2.1.F ht⟩) S.2.2.2.1.2.2 hd
theorem AW.lret {v : Int64} (hr : Y.2.2.2 = some .long) (hd : decode Y.2.1 pc = .ok (.lreturn, 1)) (hc : cu ≤ R.cells) (hs : su ≤ R.slots) (hq : Q (some (.long v)) n h) : AW l Y R Q cu su pc ls [.long v] n h := by
  intro p e s m args below meth c D cA as0 n0 A as H locs E S X lsA hl
  refine W.widen hc hs ?_
  have hlocks : meth.locks = false := E.2.2.2.2.2.2.1
  exact W.lret (v := v) E.1 E.2.1 (E.2.2.1.trans hr) (fun t ht hW => ⟨⟨some (.long v), n, h, as, rfl, hq, X, by rw [ht]; exact S.2.1, va_K.moved hW.alike S.1, S.2.2.1⟩, S.2.2.2.1.F ht⟩) S.2.2.2.1.2.2 hd
theorem AW.vret  (hr : Y.2.2.2 = none) (hd : decode Y.2.1 pc = .ok (.return_, 1)) (hc : cu ≤ R.cells) (hs : su ≤ R.slots) (hq : Q (none) n h) : AW l Y R Q cu su pc ls [] n h := by
  intro p e s m args below meth c D cA as0 n0 A as H locs E S X lsA hl
  refine W.widen hc hs ?_
  have hlocks : meth.locks = false := E.2.2.2.2.2.2.1
  exact W.vret E.1 E.2.1 (E.2.2.1.trans hr) (fun t ht hW => ⟨⟨none, n, h, as, rfl, hq, X, by rw [ht]; exact S.2.1, va_K.moved hW.alike S.1, S.2.2.1⟩, S.2.2.2.1.F ht⟩) S.2.2.2.1.2.2 hd
theorem AW.aret {v : Nat} {C : String} (hr : Y.2.2.2 = some (.object C)) (hd : decode Y.2.1 pc = .ok (.areturn, 1)) (hc : cu ≤ R.cells) (hs : su ≤ R.slots) (hq : Q (some (.ref v)) n h) : AW l Y R Q cu su pc ls [.ref v] n h := by
  intro p e s m args below meth c D cA as0 n0 A as H locs E S X lsA hl
  refine W.widen hc hs ?_
  have hlocks : meth.locks = false := E.2.2.2.2.2.2.1
  exact W.aret (v := .ref (as v)) E.1 E.2.1 (E.2.2.1.trans hr) (Or.inl ⟨_, rfl⟩) (Or.inr ⟨_, rfl⟩) (fun t ht hW => ⟨⟨some (.ref v), n, h, as, rfl, hq, X, by rw [ht]; exact S.2.1, va_K.moved hW.alike S.1, S.2.2.1⟩, S.2.2.2.1.F ht⟩) S.2.2.2.1.2.2 hd
end AWR
