/-! ===== walks of the reference over its picture; walks of methods that touch no cell ===== -/
def mQ (C : aH) (r : Option Value) (T : mT) : aQ := fun r' n' h' => r' = r ∧ n' = 156 ∧ h' = hM C T
def MOk (l : Launch) (Y : aY) (d : Nat) (As : List Value) (T : mT) (r : Option Value) (T' : mT) : Prop := ∀ C : aH, AOk l Y (rmD d) (mQ C r T') (.ref 137 :: As) 156 (hM C T)
def MW (l : Launch) (Y : aY) (d : Nat) (r : Option Value) (T' : mT) (pc : Nat) (ls : List (Option Value)) (st : List Value) (T : mT) : Prop := ∀ C : aH, AW l Y (rmD d) (mQ C r T') 0 0 pc ls st 156 (hM C T)
def POk (l : Launch) (Y : aY) (d : Nat) (As : List Value) (r : Option Value) : Prop := ∀ (n : Nat) (h : aH), AOk l Y (rmD d) (fun r' n' h' => r' = r ∧ n' = n ∧ h' = h) As n h
def PW (l : Launch) (Y : aY) (d : Nat) (r : Option Value) (pc : Nat) (ls : List (Option Value)) (st : List Value) : Prop := ∀ (n : Nat) (h : aH), AW l Y (rmD d) (fun r' n' h' => r' = r ∧ n' = n ∧ h' = h) 0 0 pc ls st n h
def gl (i : Instr) : Nat := match i with
  | .getfield _ => 3
  | .putfield _ => 3
  | i => lnI i
def gx (i : Instr) (z : Int32) (ls : List (Option Value)) (st : List Value) (T : mT) : Option (List (Option Value) × List Value × mT) := match i, st with
  | .getfield idx, .ref q :: st => bif Nat.beq q 137 then (match lk mFI idx with | some f => (match (mObj T)[f]? with | some v => some (ls, v :: st, T) | none => none) | none => none) else none
  | .putfield idx, .int v :: .ref q :: st => bif Nat.beq q 137 then (match lk mPI idx with | some f => some (ls, st, mz T f v) | none => none) else none
  | i, st => match px i z ls st with | some (a, b) => some (a, b, T) | none => none
def decg (cc : ByteArray) : Nat → List (Instr × Int32) → Option Nat
  | pc, [] => some pc
  | pc, (i, z) :: r => match decode cc pc with
    | .ok (j, len) => bif decide (j = i) && (okI i z) then (match i with
        | .goto off => bif decide (0 ≤ (pc : Int) + off) && Nat.beq len 3 then decg cc ((pc : Int) + off).toNat r else none
        | _ => bif Nat.beq len (gl i) then decg cc (pc + len) r else none) else none
    | _ => none
def gxs : List (Instr × Int32) → List (Option Value) → List Value → mT → Option (List (Option Value) × List Value × mT)
  | [], ls, st, T => some (ls, st, T)
  | (.goto _, _) :: r, ls, st, T => gxs r ls st T
  | (i, z) :: r, ls, st, T => match gx i z ls st T with
    | some (ls1, st1, T1) => gxs r ls1 st1 T1
    | none => none
theorem decg_cons {cc : ByteArray} {pc pc' : Nat} {i : Instr} {z : Int32} {r : List (Instr × Int32)} (h : decg cc pc ((i, z) :: r) = some pc') :
    okI i z = true ∧ ((∃ off tgt, i = .goto off ∧ decode cc pc = .ok (.goto off, 3) ∧ (pc : Int) + off = ((tgt : Nat) : Int) ∧ decg cc tgt r = some pc') ∨ ((∀ off, i ≠ .goto off) ∧ decode cc pc = .ok (i, gl i) ∧ decg cc (pc + gl i) r = some pc')) := by
  unfold decg at h
  split at h
  · rename_i j len hd
    cases hb : (decide (j = i) && okI i z) with
    | false => rw [hb] at h; cases h
    | true =>
      rw [hb] at h
      obtain ⟨h1, h2⟩ := Bool.and_eq_true_iff.mp hb
      have h1 : j = i := of_decide_eq_true h1
      subst h1
      refine ⟨h2, ?_⟩
      simp only [cond_true] at h
      split at h
      · rename_i off
        cases hc : (decide (0 ≤ (pc : Int) + off) && Nat.beq len 3) with
        | false => rw [hc] at h; cases h
        | true =>
          rw [hc] at h
          obtain ⟨h3, h4⟩ := Bool.and_eq_true_iff.mp hc
          have h3 : 0 ≤ (pc : Int) + off := of_decide_eq_true h3
          have h4 : len = 3 := Nat.eq_of_beq_eq_true h4
          subst h4
          exact Or.inl ⟨off, ((pc : Int) + off).toNat, rfl, hd, by omega, h⟩
      · rename_i hne
        cases hc : Nat.beq len (gl j) with
        | false => rw [hc] at h; cases h
        | true =>
          rw [hc] at h
          have h4 : len = gl j := Nat.eq_of_beq_eq_true hc
          subst h4
          exact Or.inr ⟨fun off hh => hne off hh, hd, h⟩
  · cases h
theorem gxs_cons {i : Instr} {z : Int32} {r : List (Instr × Int32)} {ls ls' : List (Option Value)} {st st' : List Value} {T T' : mT} (hn : ∀ off, i ≠ .goto off) (h : gxs ((i, z) :: r) ls st T = some (ls', st', T')) : ∃ ls1 st1 T1, gx i z ls st T = some (ls1, st1, T1) ∧ gxs r ls1 st1 T1 = some (ls', st', T') := by
  unfold gxs at h
  split at h
  · rename_i heq; cases heq
  · rename_i heq
    cases heq
    exact absurd rfl (hn _)
  · rename_i heq
    cases heq
    split at h
    · rename_i ls1 st1 T1 hq
      exact ⟨ls1, st1, T1, hq, h⟩
    · cases h
section AWG
variable {l : Launch} {Y : aY} {R : Room} {Q : aQ} {cu su pc : Nat} {ls : List (Option Value)} {st : List Value} {n : Nat} {h : aH}
theorem AW.goto {off : Int} {tgt : Nat} (hd : decode Y.2.1 pc = .ok (.goto off, 3)) (ht : (pc : Int) + off = (tgt : Int)) (k : AW l Y R Q cu su tgt ls st n h) : AW l Y R Q cu su pc ls st n h := by
  intro p e s m args below meth c D cA as0 n0 A as H locs E S X lsA hl
  exact lv_goto E.1 E.2.1 hd ht (k p e s m args below meth c D cA as0 n0 A as H locs E S X lsA hl)
theorem AW.px {i : Instr} {z : Int32} {ls' : List (Option Value)} {st' : List Value} (hd : decode Y.2.1 pc = .ok (i, lnI i)) (hz : okI i z = true) (hp : px i z ls st = some (ls', st')) (k : AW l Y R Q cu su (pc + lnI i) ls' st' n h) : AW l Y R Q cu su pc ls st n h := by
  intro p e s m args below meth c D cA as0 n0 A as H locs E S X
  exact px_ok E.1 E.2.1 hd hz hp (k p e s m args below meth c D cA as0 n0 A as H locs E S X)
end AWG
section MWR
variable {l : Launch} {Y : aY} {d : Nat} {r : Option Value} {T' : mT} {pc : Nat} {ls : List (Option Value)} {st : List Value} {T : mT}
theorem gx_px {i : Instr} {z : Int32} {ls' : List (Option Value)} {st' : List Value} {T1 : mT} (h : (match px i z ls st with | some (a, b) => some (a, b, T) | none => none) = some (ls', st', T1)) : px i z ls st = some (ls', st') ∧ T1 = T := by
  split at h
  · rename_i a b hq
    cases h
    exact ⟨hq, rfl⟩
  · cases h
theorem MW.stepg (hY : Y.1.cls = RX12) {i : Instr} {z : Int32} {ls' : List (Option Value)} {st' : List Value} {T1 : mT} (hd : decode Y.2.1 pc = .ok (i, gl i)) (hz : okI i z = true) (hp : gx i z ls st T = some (ls', st', T1)) (k : MW l Y d r T' (pc + gl i) ls' st' T1) : MW l Y d r T' pc ls st T := by
  intro C
  unfold gx at hp
  split at hp
  · rename_i idx q st0
    cases hb : Nat.beq q 137 with
    | false => rw [hb] at hp; cases hp
    | true =>
      rw [hb] at hp
      have hq : q = 137 := Nat.eq_of_beq_eq_true hb
      subst hq
      simp only [cond_true] at hp
      split at hp
      · rename_i f hf
        split at hp
        · rename_i v hv
          cases hp
          exact AW.getf (by rw [hY]; exact mFI_ok _ (lk_mem hf)) hd (by decide) (hM_o C _) hv (k C)
        · cases hp
      · cases hp
  · rename_i idx v q st0
    cases hb : Nat.beq q 137 with
    | false => rw [hb] at hp; cases hp
    | true =>
      rw [hb] at hp
      have hq : q = 137 := Nat.eq_of_beq_eq_true hb
      subst hq
      simp only [cond_true] at hp
      split at hp
      · rename_i f hf
        cases hp
        refine AW.putf (by rw [hY]; exact mPI_ok _ (lk_mem hf)) hd (by decide) (hM_o C _) (mPI_len T _ (lk_mem hf)) (fun _ => rfl) (fun _ => rfl) ?_
        rw [hM_put (T' := mz T f v) (by rw [mPI_set T v _ (lk_mem hf)]) (fun j hj => mz_arr T f v j hj)]
        exact k C
      · cases hp
  · obtain ⟨h1, h2⟩ := gx_px hp
    subst h2
    have hg : gl i = lnI i := by
      cases i <;> first | rfl | (simp [px] at h1)
    rw [hg] at hd
    have k2 := k C
    rw [hg] at k2
    exact AW.px hd hz h1 k2
theorem MW.run (hY : Y.1.cls = RX12) (blk : List (Instr × Int32)) {pc' : Nat} {ls' : List (Option Value)} {st' : List Value} {T1 : mT} (hd : decg Y.2.1 pc blk = some pc') (hp : gxs blk ls st T = some (ls', st', T1)) (k : MW l Y d r T' pc' ls' st' T1) : MW l Y d r T' pc ls st T := by
  induction blk generalizing pc ls st T with
  | nil =>
    have h1 : pc = pc' := Option.some.inj hd
    have h2 : (ls, st, T) = (ls', st', T1) := Option.some.inj hp
    cases h1
    cases h2
    exact k
  | cons q rr ih =>
    obtain ⟨i, z⟩ := q
    obtain ⟨hz, ⟨off, tgt, rfl, h1, h2, h3⟩ | ⟨h1, h2, h3⟩⟩ := decg_cons hd
    · have k2 := ih h3 hp
      exact fun C => AW.goto h1 h2 (k2 C)
    · obtain ⟨ls1, st1, T2, h4, h5⟩ := gxs_cons h1 hp
      exact MW.stepg hY h2 hz h4 (ih h3 h5)

theorem MW.if_eq {x : Int32} {off : Int} {tgt : Nat} (hd : decode Y.2.1 pc = .ok (.ifCond .eq off, 3)) (ht : (pc : Int) + off = (tgt : Int)) (kt : x = 0 → MW l Y d r T' tgt ls st T) (kf : ¬ x = 0 → MW l Y d r T' (pc + 3) ls st T) : MW l Y d r T' pc ls (.int x :: st) T := fun C => AW.if_eq hd ht (fun q => kt q C) (fun q => kf q C)
theorem MW.if_ne {x : Int32} {off : Int} {tgt : Nat} (hd : decode Y.2.1 pc = .ok (.ifCond .ne off, 3)) (ht : (pc : Int) + off = (tgt : Int)) (kt : ¬ x = 0 → MW l Y d r T' tgt ls st T) (kf : x = 0 → MW l Y d r T' (pc + 3) ls st T) : MW l Y d r T' pc ls (.int x :: st) T := fun C => AW.if_ne hd ht (fun q => kt q C) (fun q => kf q C)
theorem MW.if_lt {x : Int32} {off : Int} {tgt : Nat} (hd : decode Y.2.1 pc = .ok (.ifCond .lt off, 3)) (ht : (pc : Int) + off = (tgt : Int)) (kt : x < 0 → MW l Y d r T' tgt ls st T) (kf : ¬ x < 0 → MW l Y d r T' (pc + 3) ls st T) : MW l Y d r T' pc ls (.int x :: st) T := fun C => AW.if_lt hd ht (fun q => kt q C) (fun q => kf q C)
theorem MW.if_ge {x : Int32} {off : Int} {tgt : Nat} (hd : decode Y.2.1 pc = .ok (.ifCond .ge off, 3)) (ht : (pc : Int) + off = (tgt : Int)) (kt : 0 ≤ x → MW l Y d r T' tgt ls st T) (kf : ¬ 0 ≤ x → MW l Y d r T' (pc + 3) ls st T) : MW l Y d r T' pc ls (.int x :: st) T := fun C => AW.if_ge hd ht (fun q => kt q C) (fun q => kf q C)
theorem MW.if_gt {x : Int32} {off : Int} {tgt : Nat} (hd : decode Y.2.1 pc = .ok (.ifCond .gt off, 3)) (ht : (pc : Int) + off = (tgt : Int)) (kt : 0 < x → MW l Y d r T' tgt ls st T) (kf : ¬ 0 < x → MW l Y d r T' (pc + 3) ls st T) : MW l Y d r T' pc ls (.int x :: st) T := fun C => AW.if_gt hd ht (fun q => kt q C) (fun q => kf q C)
theorem MW.if_le {x : Int32} {off : Int} {tgt : Nat} (hd : decode Y.2.1 pc = .ok (.ifCond .le off, 3)) (ht : (pc : Int) + off = (tgt : Int)) (kt : x ≤ 0 → MW l Y d r T' tgt ls st T) (kf : ¬ x ≤ 0 → MW l Y d r T' (pc + 3) ls st T) : MW l Y d r T' pc ls (.int x :: st) T := fun C => AW.if_le hd ht (fun q => kt q C) (fun q => kf q C)
theorem MW.icmp_eq {x y : Int32} {off : Int} {tgt : Nat} (hd : decode Y.2.1 pc = .ok (.if_icmp .eq off, 3)) (ht : (pc : Int) + off = (tgt : Int)) (kt : x = y → MW l Y d r T' tgt ls st T) (kf : ¬ x = y → MW l Y d r T' (pc + 3) ls st T) : MW l Y d r T' pc ls (.int y :: .int x :: st) T := fun C => AW.icmp_eq hd ht (fun q => kt q C) (fun q => kf q C)
theorem MW.icmp_ne {x y : Int32} {off : Int} {tgt : Nat} (hd : decode Y.2.1 pc = .ok (.if_icmp .ne off, 3)) (ht : (pc : Int) + off = (tgt : Int)) (kt : ¬ x = y → MW l Y d r T' tgt ls st T) (kf : x = y → MW l Y d r T' (pc + 3) ls st T) : MW l Y d r T' pc ls (.int y :: .int x :: st) T := fun C => AW.icmp_ne hd ht (fun q => kt q C) (fun q => kf q C)
theorem MW.icmp_lt {x y : Int32} {off : Int} {tgt : Nat} (hd : decode Y.2.1 pc = .ok (.if_icmp .lt off, 3)) (ht : (pc : Int) + off = (tgt : Int)) (kt : x < y → MW l Y d r T' tgt ls st T) (kf : ¬ x < y → MW l Y d r T' (pc + 3) ls st T) : MW l Y d r T' pc ls (.int y :: .int x :: st) T := fun C => AW.icmp_lt hd ht (fun q => kt q C) (fun q => kf q C)
theorem MW.icmp_ge {x y : Int32} {off : Int} {tgt : Nat} (hd : decode Y.2.1 pc = .ok (.if_icmp .ge off, 3)) (ht : (pc : Int) + off = (tgt : Int)) (kt : y ≤ x → MW l Y d r T' tgt ls st T) (kf : ¬ y ≤ x → MW l Y d r T' (pc + 3) ls st T) : MW l Y d r T' pc ls (.int y :: .int x :: st) T := fun C => AW.icmp_ge hd ht (fun q => kt q C) (fun q => kf q C)
theorem MW.icmp_gt {x y : Int32} {off : Int} {tgt : Nat} (hd : decode Y.2.1 pc = .ok (.if_icmp .gt off, 3)) (ht : (pc : Int) + off = (tgt : Int)) (kt : y < x → MW l Y d r T' tgt ls st T) (kf : ¬ y < x → MW l Y d r T' (pc + 3) ls st T) : MW l Y d r T' pc ls (.int y :: .int x :: st) T := fun C => AW.icmp_gt hd ht (fun q => kt q C) (fun q => kf q C)
theorem MW.icmp_le {x y : Int32} {off : Int} {tgt : Nat} (hd : decode Y.2.1 pc = .ok (.if_icmp .le off, 3)) (ht : (pc : Int) + off = (tgt : Int)) (kt : x ≤ y → MW l Y d r T' tgt ls st T) (kf : ¬ x ≤ y → MW l Y d r T' (pc + 3) ls st T) : MW l Y d r T' pc ls (.int y :: .int x :: st) T := fun C => AW.icmp_le hd ht (fun q => kt q C) (fun q => kf q C)
theorem MW.idiv {x y : Int32} (hne : ¬ y = 0) (hd : decode Y.2.1 pc = .ok (.idiv, 1)) (k : MW l Y d r T' (pc + 1) ls (.int (x / y) :: st) T) : MW l Y d r T' pc ls (.int y :: .int x :: st) T := fun C => AW.idiv hne hd (k C)
theorem MW.irem {x y : Int32} (hne : ¬ y = 0) (hd : decode Y.2.1 pc = .ok (.irem, 1)) (k : MW l Y d r T' (pc + 1) ls (.int (x - x / y * y) :: st) T) : MW l Y d r T' pc ls (.int y :: .int x :: st) T := fun C => AW.irem hne hd (k C)
theorem MW.ldiv {x y : Int64} (hne : ¬ y = 0) (hd : decode Y.2.1 pc = .ok (.ldiv, 1)) (k : MW l Y d r T' (pc + 1) ls (.long (x / y) :: st) T) : MW l Y d r T' pc ls (.long y :: .long x :: st) T := fun C => AW.ldiv hne hd (k C)
theorem MW.lrem {x y : Int64} (hne : ¬ y = 0) (hd : decode Y.2.1 pc = .ok (.lrem, 1)) (k : MW l Y d r T' (pc + 1) ls (.long (x - x / y * y) :: st) T) : MW l Y d r T' pc ls (.long y :: .long x :: st) T := fun C => AW.lrem hne hd (k C)
theorem MW.ldc {idx : Nat} {v : Int32} (hw : Cond.constant Y.1.cls idx v ∈ wG) (hd : decode Y.2.1 pc = .ok (.ldc idx, 2)) (k : MW l Y d r T' (pc + 2) ls (.int v :: st) T) : MW l Y d r T' pc ls st T := fun C => AW.ldc hw hd (k C)
theorem MW.ldcw {idx : Nat} {v : Int32} (hw : Cond.constant Y.1.cls idx v ∈ wG) (hd : decode Y.2.1 pc = .ok (.ldc_w idx, 3)) (k : MW l Y d r T' (pc + 3) ls (.int v :: st) T) : MW l Y d r T' pc ls st T := fun C => AW.ldcw hw hd (k C)
theorem MW.ldc2 {idx : Nat} {v : Int64} (hw : Cond.constantLong Y.1.cls idx v ∈ wG) (hd : decode Y.2.1 pc = .ok (.ldc2_w idx, 3)) (k : MW l Y d r T' (pc + 3) ls (.long v :: st) T) : MW l Y d r T' pc ls st T := fun C => AW.ldc2 hw hd (k C)
theorem MW.lookup {dflt : Int} {ps : Array (Int × Int)} {len : Nat} {x : Int32} {off : Int} {tgt : Nat} (hd : decode Y.2.1 pc = .ok (.lookupswitch dflt ps, len)) (hp : (ps.toList.zip (ps.toList.drop 1)).all (fun (a, next) => a.1 < next.1) = true) (ho : Op.lookupswitch.offset ps.toList dflt x.toInt = off) (ht : (pc : Int) + off = (tgt : Int)) (k : MW l Y d r T' tgt ls st T) : MW l Y d r T' pc ls (.int x :: st) T := fun C => AW.lookup hd hp ho ht (k C)
theorem MW.tableIn {dflt lo hi : Int} {offs : Array Int} {len : Nat} {x : Int32} {off : Int} {tgt : Nat} (hd : decode Y.2.1 pc = .ok (.tableswitch dflt lo hi offs, len)) (h1 : ¬ x.toInt < lo) (h2 : ¬ hi < x.toInt) (ho : offs[(x.toInt - lo).toNat]? = some off) (ht : (pc : Int) + off = (tgt : Int)) (k : MW l Y d r T' tgt ls st T) : MW l Y d r T' pc ls (.int x :: st) T := fun C => AW.tableIn hd h1 h2 ho ht (k C)
theorem MW.tableOut {dflt lo hi : Int} {offs : Array Int} {len : Nat} {x : Int32} {tgt : Nat} (hd : decode Y.2.1 pc = .ok (.tableswitch dflt lo hi offs, len)) (h0 : x.toInt < lo ∨ hi < x.toInt) (ht : (pc : Int) + dflt = (tgt : Int)) (k : MW l Y d r T' tgt ls st T) : MW l Y d r T' pc ls (.int x :: st) T := fun C => AW.tableOut hd h0 ht (k C)
theorem PW.if_eq {x : Int32} {off : Int} {tgt : Nat} (hd : decode Y.2.1 pc = .ok (.ifCond .eq off, 3)) (ht : (pc : Int) + off = (tgt : Int)) (kt : x = 0 → PW l Y d r tgt ls st) (kf : ¬ x = 0 → PW l Y d r (pc + 3) ls st) : PW l Y d r pc ls (.int x :: st) := fun n h => AW.if_eq hd ht (fun q => kt q n h) (fun q => kf q n h)
theorem PW.if_ne {x : Int32} {off : Int} {tgt : Nat} (hd : decode Y.2.1 pc = .ok (.ifCond .ne off, 3)) (ht : (pc : Int) + off = (tgt : Int)) (kt : ¬ x = 0 → PW l Y d r tgt ls st) (kf : x = 0 → PW l Y d r (pc + 3) ls st) : PW l Y d r pc ls (.int x :: st) := fun n h => AW.if_ne hd ht (fun q => kt q n h) (fun q => kf q n h)
theorem PW.if_lt {x : Int32} {off : Int} {tgt : Nat} (hd : decode Y.2.1 pc = .ok (.ifCond .lt off, 3)) (ht : (pc : Int) + off = (tgt : Int)) (kt : x < 0 → PW l Y d r tgt ls st) (kf : ¬ x < 0 → PW l Y d r (pc + 3) ls st) : PW l Y d r pc ls (.int x :: st) := fun n h => AW.if_lt hd ht (fun q => kt q n h) (fun q => kf q n h)
theorem PW.if_ge {x : Int32} {off : Int} {tgt : Nat} (hd : decode Y.2.1 pc = .ok (.ifCond .ge off, 3)) (ht : (pc : Int) + off = (tgt : Int)) (kt : 0 ≤ x → PW l Y d r tgt ls st) (kf : ¬ 0 ≤ x → PW l Y d r (pc + 3) ls st) : PW l Y d r pc ls (.int x :: st) := fun n h => AW.if_ge hd ht (fun q => kt q n h) (fun q => kf q n h)
theorem PW.if_gt {x : Int32} {off : Int} {tgt : Nat} (hd : decode Y.2.1 pc = .ok (.ifCond .gt off, 3)) (ht : (pc : Int) + off = (tgt : Int)) (kt : 0 < x → PW l Y d r tgt ls st) (kf : ¬ 0 < x → PW l Y d r (pc + 3) ls st) : PW l Y d r pc ls (.int x :: st) := fun n h => AW.if_gt hd ht (fun q => kt q n h) (fun q => kf q n h)
theorem PW.if_le {x : Int32} {off : Int} {tgt : Nat} (hd : decode Y.2.1 pc = .ok (.ifCond .le off, 3)) (ht : (pc : Int) + off = (tgt : Int)) (kt : x ≤ 0 → PW l Y d r tgt ls st) (kf : ¬ x ≤ 0 → PW l Y d r (pc + 3) ls st) : PW l Y d r pc ls (.int x :: st) := fun n h => AW.if_le hd ht (fun q => kt q n h) (fun q => kf q n h)
theorem PW.icmp_eq {x y : Int32} {off : Int} {tgt : Nat} (hd : decode Y.2.1 pc = .ok (.if_icmp .eq off, 3)) (ht : (pc : Int) + off = (tgt : Int)) (kt : x = y → PW l Y d r tgt ls st) (kf : ¬ x = y → PW l Y d r (pc + 3) ls st) : PW l Y d r pc ls (.int y :: .int x :: st) := fun n h => AW.icmp_eq hd ht (fun q => kt q n h) (fun q => kf q n h)
theorem PW.icmp_ne {x y : Int32} {off : Int} {tgt : Nat} (hd : decode Y.2.1 pc = .ok (.if_icmp .ne off, 3)) (ht : (pc : Int) + off = (tgt : Int)) (kt : ¬ x = y → PW l Y d r tgt ls st) (kf : x = y → PW l Y d r (pc + 3) ls st) : PW l Y d r pc ls (.int y :: .int x :: st) := fun n h => AW.icmp_ne hd ht (fun q => kt q n h) (fun q => kf q n h)
theorem PW.icmp_lt {x y : Int32} {off : Int} {tgt : Nat} (hd : decode Y.2.1 pc = .ok (.if_icmp .lt off, 3)) (ht : (pc : Int) + off = (tgt : Int)) (kt : x < y → PW l Y d r tgt ls st) (kf : ¬ x < y → PW l Y d r (pc + 3) ls st) : PW l Y d r pc ls (.int y :: .int x :: st) := fun n h => AW.icmp_lt hd ht (fun q => kt q n h) (fun q => kf q n h)
theorem PW.icmp_ge {x y : Int32} {off : Int} {tgt : Nat} (hd : decode Y.2.1 pc = .ok (.if_icmp .ge off, 3)) (ht : (pc : Int) + off = (tgt : Int)) (kt : y ≤ x → PW l Y d r tgt ls st) (kf : ¬ y ≤ x → PW l Y d r (pc + 3) ls st) : PW l Y d r pc ls (.int y :: .int x :: st) := fun n h => AW.icmp_ge hd ht (fun q => kt q n h) (fun q => kf q n h)
theorem PW.icmp_gt {x y : Int32} {off : Int} {tgt : Nat} (hd : decode Y.2.1 pc = .ok (.if_icmp .gt off, 3)) (ht : (pc : Int) + off = (tgt : Int)) (kt : y < x → PW l Y d r tgt ls st) (kf : ¬ y < x → PW l Y d r (pc + 3) ls st) : PW l Y d r pc ls (.int y :: .int x :: st) := fun n h => AW.icmp_gt hd ht (fun q => kt q n h) (fun q => kf q n h)
theorem PW.icmp_le {x y : Int32} {off : Int} {tgt : Nat} (hd : decode Y.2.1 pc = .ok (.if_icmp .le off, 3)) (ht : (pc : Int) + off = (tgt : Int)) (kt : x ≤ y → PW l Y d r tgt ls st) (kf : ¬ x ≤ y → PW l Y d r (pc + 3) ls st) : PW l Y d r pc ls (.int y :: .int x :: st) := fun n h => AW.icmp_le hd ht (fun q => kt q n h) (fun q => kf q n h)
theorem PW.idiv {x y : Int32} (hne : ¬ y = 0) (hd : decode Y.2.1 pc = .ok (.idiv, 1)) (k : PW l Y d r (pc + 1) ls (.int (x / y) :: st)) : PW l Y d r pc ls (.int y :: .int x :: st) := fun n h => AW.idiv hne hd (k n h)
theorem PW.irem {x y : Int32} (hne : ¬ y = 0) (hd : decode Y.2.1 pc = .ok (.irem, 1)) (k : PW l Y d r (pc + 1) ls (.int (x - x / y * y) :: st)) : PW l Y d r pc ls (.int y :: .int x :: st) := fun n h => AW.irem hne hd (k n h)
theorem PW.ldiv {x y : Int64} (hne : ¬ y = 0) (hd : decode Y.2.1 pc = .ok (.ldiv, 1)) (k : PW l Y d r (pc + 1) ls (.long (x / y) :: st)) : PW l Y d r pc ls (.long y :: .long x :: st) := fun n h => AW.ldiv hne hd (k n h)
theorem PW.lrem {x y : Int64} (hne : ¬ y = 0) (hd : decode Y.2.1 pc = .ok (.lrem, 1)) (k : PW l Y d r (pc + 1) ls (.long (x - x / y * y) :: st)) : PW l Y d r pc ls (.long y :: .long x :: st) := fun n h => AW.lrem hne hd (k n h)
theorem PW.ldc {idx : Nat} {v : Int32} (hw : Cond.constant Y.1.cls idx v ∈ wG) (hd : decode Y.2.1 pc = .ok (.ldc idx, 2)) (k : PW l Y d r (pc + 2) ls (.int v :: st)) : PW l Y d r pc ls st := fun n h => AW.ldc hw hd (k n h)
theorem PW.ldcw {idx : Nat} {v : Int32} (hw : Cond.constant Y.1.cls idx v ∈ wG) (hd : decode Y.2.1 pc = .ok (.ldc_w idx, 3)) (k : PW l Y d r (pc + 3) ls (.int v :: st)) : PW l Y d r pc ls st := fun n h => AW.ldcw hw hd (k n h)
theorem PW.ldc2 {idx : Nat} {v : Int64} (hw : Cond.constantLong Y.1.cls idx v ∈ wG) (hd : decode Y.2.1 pc = .ok (.ldc2_w idx, 3)) (k : PW l Y d r (pc + 3) ls (.long v :: st)) : PW l Y d r pc ls st := fun n h => AW.ldc2 hw hd (k n h)
theorem PW.lookup {dflt : Int} {ps : Array (Int × Int)} {len : Nat} {x : Int32} {off : Int} {tgt : Nat} (hd : decode Y.2.1 pc = .ok (.lookupswitch dflt ps, len)) (hp : (ps.toList.zip (ps.toList.drop 1)).all (fun (a, next) => a.1 < next.1) = true) (ho : Op.lookupswitch.offset ps.toList dflt x.toInt = off) (ht : (pc : Int) + off = (tgt : Int)) (k : PW l Y d r tgt ls st) : PW l Y d r pc ls (.int x :: st) := fun n h => AW.lookup hd hp ho ht (k n h)
theorem PW.tableIn {dflt lo hi : Int} {offs : Array Int} {len : Nat} {x : Int32} {off : Int} {tgt : Nat} (hd : decode Y.2.1 pc = .ok (.tableswitch dflt lo hi offs, len)) (h1 : ¬ x.toInt < lo) (h2 : ¬ hi < x.toInt) (ho : offs[(x.toInt - lo).toNat]? = some off) (ht : (pc : Int) + off = (tgt : Int)) (k : PW l Y d r tgt ls st) : PW l Y d r pc ls (.int x :: st) := fun n h => AW.tableIn hd h1 h2 ho ht (k n h)
theorem PW.tableOut {dflt lo hi : Int} {offs : Array Int} {len : Nat} {x : Int32} {tgt : Nat} (hd : decode Y.2.1 pc = .ok (.tableswitch dflt lo hi offs, len)) (h0 : x.toInt < lo ∨ hi < x.toInt) (ht : (pc : Int) + dflt = (tgt : Int)) (k : PW l Y d r tgt ls st) : PW l Y d r pc ls (.int x :: st) := fun n h => AW.tableOut hd h0 ht (k n h)
theorem MW.iret {v : Int32} (hr : Y.2.2.2 = some .int) (hd : decode Y.2.1 pc = .ok (.ireturn, 1)) : MW l Y d (some (.int v)) T pc ls [.int v] T := fun C => AW.iret hr hd (Nat.le_refl _) (Nat.le_refl _) ⟨rfl, rfl, rfl⟩
theorem PW.iret {v : Int32} (hr : Y.2.2.2 = some .int) (hd : decode Y.2.1 pc = .ok (.ireturn, 1)) : PW l Y d (some (.int v)) pc ls [.int v] := fun n h => AW.iret hr hd (Nat.le_refl _) (Nat.le_refl _) ⟨rfl, rfl, rfl⟩
theorem MW.zret {v : Int32} {ty : FieldType} (hr : Y.2.2.2 = some ty) (hn : narrow ty (.int v) = .int v) (hd : decode Y.2.1 pc = .ok (.ireturn, 1)) : MW l Y d (some (.int v)) T pc ls [.int v] T := fun C => AW.zret hr hn hd (Nat.le_refl _) (Nat.le_refl _) ⟨rfl, rfl, rfl⟩
theorem PW.zret {v : Int32} {ty : FieldType} (hr : Y.2.2.2 = some ty) (hn : narrow ty (.int v) = .int v) (hd : decode Y.2.1 pc = .ok (.ireturn, 1)) : PW l Y d (some (.int v)) pc ls [.int v] := fun n h => AW.zret hr hn hd (Nat.le_refl _) (Nat.le_refl _) ⟨rfl, rfl, rfl⟩
theorem MW.lret {v : Int64} (hr : Y.2.2.2 = some .long) (hd : decode Y.2.1 pc = .ok (.lreturn, 1)) : MW l Y d (some (.long v)) T pc ls [.long v] T := fun C => AW.lret hr hd (Nat.le_refl _) (Nat.le_refl _) ⟨rfl, rfl, rfl⟩
theorem PW.lret {v : Int64} (hr : Y.2.2.2 = some .long) (hd : decode Y.2.1 pc = .ok (.lreturn, 1)) : PW l Y d (some (.long v)) pc ls [.long v] := fun n h => AW.lret hr hd (Nat.le_refl _) (Nat.le_refl _) ⟨rfl, rfl, rfl⟩
theorem MW.vret  (hr : Y.2.2.2 = none) (hd : decode Y.2.1 pc = .ok (.return_, 1)) : MW l Y d (none) T pc ls [] T := fun C => AW.vret hr hd (Nat.le_refl _) (Nat.le_refl _) ⟨rfl, rfl, rfl⟩
theorem PW.vret  (hr : Y.2.2.2 = none) (hd : decode Y.2.1 pc = .ok (.return_, 1)) : PW l Y d (none) pc ls [] := fun n h => AW.vret hr hd (Nat.le_refl _) (Nat.le_refl _) ⟨rfl, rfl, rfl⟩
theorem MW.iald (j len : Nat) {q : Nat} {i : Int32} (hq : q = 137 + j) (hj : 0 < j ∧ j < 19) (he : mArr T j = .inl (.int, len, .inl (T.1 j))) (hd : decode Y.2.1 pc = .ok (.iaload, 1)) (hi : vp_in i len) (k : MW l Y d r T' (pc + 1) ls (.int (T.1 j i.toNatClampNeg) :: st) T) : MW l Y d r T' pc ls (.int i :: .ref q :: st) T := by
  subst hq
  exact fun C => AW.iald hd (by omega) ((hM_a C T j hj.1).trans he) hi (k C)
theorem MW.lald (j len : Nat) {q : Nat} {i : Int32} (hq : q = 137 + j) (hj : 0 < j ∧ j < 19) (he : mArr T j = .inl (.long, len, .inr (.inl (T.2 j)))) (hd : decode Y.2.1 pc = .ok (.laload, 1)) (hi : vp_in i len) (k : MW l Y d r T' (pc + 1) ls (.long (T.2 j i.toNatClampNeg) :: st) T) : MW l Y d r T' pc ls (.int i :: .ref q :: st) T := by
  subst hq
  exact fun C => AW.lald hd (by omega) ((hM_a C T j hj.1).trans he) hi (k C)
theorem MW.bald (j len : Nat) {q : Nat} {i : Int32} (hq : q = 137 + j) (hj : 0 < j ∧ j < 19) (he : mArr T j = .inl (.byte, len, .inl (T.1 j))) (hd : decode Y.2.1 pc = .ok (.baload, 1)) (hi : vp_in i len) (k : MW l Y d r T' (pc + 1) ls (.int (T.1 j i.toNatClampNeg) :: st) T) : MW l Y d r T' pc ls (.int i :: .ref q :: st) T := by
  subst hq
  exact fun C => AW.bald hd (by omega) ((hM_a C T j hj.1).trans he) hi (k C)
theorem MW.zald (j len : Nat) {q : Nat} {i : Int32} (hq : q = 137 + j) (hj : 0 < j ∧ j < 19) (he : mArr T j = .inl (.boolean, len, .inl (T.1 j))) (hd : decode Y.2.1 pc = .ok (.baload, 1)) (hi : vp_in i len) (k : MW l Y d r T' (pc + 1) ls (.int (T.1 j i.toNatClampNeg) :: st) T) : MW l Y d r T' pc ls (.int i :: .ref q :: st) T := by
  subst hq
  exact fun C => AW.zald hd (by omega) ((hM_a C T j hj.1).trans he) hi (k C)
theorem MW.iast (j len : Nat) {q : Nat} {i : Int32} {x : Int32} (hq : q = 137 + j) (hj : 0 < j ∧ j < 19) (he : ∀ T : mT, mArr T j = .inl (.int, len, .inl (T.1 j))) (hd : decode Y.2.1 pc = .ok (.iastore, 1)) (hi : vp_in i len) (k : MW l Y d r T' (pc + 1) ls st (ma T j i.toNatClampNeg x)) : MW l Y d r T' pc ls (.int x :: .int i :: .ref q :: st) T := by
  subst hq
  intro C
  refine AW.iast hd (by omega) ((hM_a C T j hj.1).trans (he T)) hi ?_
  rw [hM_arr (T' := ma T j i.toNatClampNeg x) hj.1 (ma_obj T j _ _ hj.1) (by rw [he]; simp only [ma, va_up_self]) (fun k hk _ => ma_arr T j _ _ k hk)]
  exact k C
theorem MW.last (j len : Nat) {q : Nat} {i : Int32} {x : Int64} (hq : q = 137 + j) (hj : 0 < j ∧ j < 19) (he : ∀ T : mT, mArr T j = .inl (.long, len, .inr (.inl (T.2 j)))) (hd : decode Y.2.1 pc = .ok (.lastore, 1)) (hi : vp_in i len) (k : MW l Y d r T' (pc + 1) ls st (mb T j i.toNatClampNeg x)) : MW l Y d r T' pc ls (.long x :: .int i :: .ref q :: st) T := by
  subst hq
  intro C
  refine AW.last hd (by omega) ((hM_a C T j hj.1).trans (he T)) hi ?_
  rw [hM_arr (T' := mb T j i.toNatClampNeg x) hj.1 (mb_obj T j _ _ hj.1) (by rw [he]; simp only [mb, va_up_self]) (fun k hk _ => mb_arr T j _ _ k hk)]
  exact k C
theorem MW.bast (j len : Nat) {q : Nat} {i : Int32} {x : Int32} (hq : q = 137 + j) (hj : 0 < j ∧ j < 19) (he : ∀ T : mT, mArr T j = .inl (.byte, len, .inl (T.1 j))) (hd : decode Y.2.1 pc = .ok (.bastore, 1)) (hi : vp_in i len) (k : MW l Y d r T' (pc + 1) ls st (ma T j i.toNatClampNeg (vp_nar .byte x))) : MW l Y d r T' pc ls (.int x :: .int i :: .ref q :: st) T := by
  subst hq
  intro C
  refine AW.bast hd (by omega) ((hM_a C T j hj.1).trans (he T)) hi ?_
  rw [hM_arr (T' := ma T j i.toNatClampNeg (vp_nar .byte x)) hj.1 (ma_obj T j _ _ hj.1) (by rw [he]; simp only [ma, va_up_self]) (fun k hk _ => ma_arr T j _ _ k hk)]
  exact k C
theorem MW.zast (j len : Nat) {q : Nat} {i : Int32} {x : Int32} (hq : q = 137 + j) (hj : 0 < j ∧ j < 19) (he : ∀ T : mT, mArr T j = .inl (.boolean, len, .inl (T.1 j))) (hd : decode Y.2.1 pc = .ok (.bastore, 1)) (hi : vp_in i len) (k : MW l Y d r T' (pc + 1) ls st (ma T j i.toNatClampNeg (vp_nar .boolean x))) : MW l Y d r T' pc ls (.int x :: .int i :: .ref q :: st) T := by
  subst hq
  intro C
  refine AW.zast hd (by omega) ((hM_a C T j hj.1).trans (he T)) hi ?_
  rw [hM_arr (T' := ma T j i.toNatClampNeg (vp_nar .boolean x)) hj.1 (ma_obj T j _ _ hj.1) (by rw [he]; simp only [ma, va_up_self]) (fun k hk _ => ma_arr T j _ _ k hk)]
  exact k C
theorem MW.putJ {v : Int64} (hY : Y.1.cls = RX12) (hd : decode Y.2.1 pc = .ok (.putfield 422, 3)) (k : MW l Y d r T' (pc + 3) ls st (mw T 29 v)) : MW l Y d r T' pc ls (.long v :: .ref 137 :: st) T := by
  intro C
  refine AW.putf (j := 29) (ty := tyX12 29) (by rw [hY]; exact fp_RX12_422) hd (by decide) (hM_o C _) (by show 29 < 34; decide) (fun _ => rfl) (fun _ => rfl) ?_
  rw [hM_put (T' := mw T 29 v) (by rfl) (fun j hj => mw_arr T 29 v j hj)]
  exact k C
theorem MW.callV {idx np d' : Nat} {Y' : aY} {As st0 : List Value} {r' : Option Value} {T1 : mT} (hL : LV Y.1.cls idx Y' np) (hc : Y'.1.cls = RX12) (hd : decode Y.2.1 pc = .ok (.invokevirtual idx, 3)) (hM : MOk l Y' d' As T r' T1) (hdd : d' < d) (hml : Y'.2.2.1 ≤ 41) (hnp : As.length = np) (hsum : (st.map fun v => v.category).sum ≤ 8) (hst : st0 = As.reverse ++ .ref 137 :: st) (k : MW l Y d r T' (pc + 3) ls (r'.toList ++ st) T1) : MW l Y d r T' pc ls st0 T := by
  intro C
  refine AW.callV (ci := 10) (r0 := (RX12, TX12, 34)) hL hd (hM C) hdd hml hnp (by decide) (hM_o C T) rfl hc.symm hsum hst (fun r n' h' q => q.2.1) ⟨rfl, rfl⟩ (fun r h' q => ?_)
  obtain ⟨q1, -, q3⟩ := q
  subst q1
  subst q3
  exact k C
theorem MW.callP {idx np d' : Nat} {Y' : aY} {As st0 : List Value} {r' : Option Value} (hL : LT Y.1.cls idx Y' np) (hd : decode Y.2.1 pc = .ok (.invokestatic idx, 3)) (hM : POk l Y' d' As r') (hdd : d' < d) (hml : Y'.2.2.1 ≤ 41) (hnp : As.length = np) (hsum : (st.map fun v => v.category).sum ≤ 8) (hst : st0 = As.reverse ++ st) (k : MW l Y d r T' (pc + 3) ls (r'.toList ++ st) T) : MW l Y d r T' pc ls st0 T := by
  intro C
  refine AW.callS hL hd (hM _ _) hdd hml hnp hsum hst (fun r n' h' q => q.2.1) ⟨rfl, rfl⟩ (fun r h' q => ?_)
  obtain ⟨q1, -, q3⟩ := q
  subst q1
  subst q3
  exact k C
theorem PW.callP {idx np d' : Nat} {Y' : aY} {As st0 : List Value} {r' : Option Value} (hL : LT Y.1.cls idx Y' np) (hd : decode Y.2.1 pc = .ok (.invokestatic idx, 3)) (hM : POk l Y' d' As r') (hdd : d' < d) (hml : Y'.2.2.1 ≤ 41) (hnp : As.length = np) (hsum : (st.map fun v => v.category).sum ≤ 8) (hst : st0 = As.reverse ++ st) (k : PW l Y d r (pc + 3) ls (r'.toList ++ st)) : PW l Y d r pc ls st0 := by
  intro n h
  refine AW.callS hL hd (hM _ _) hdd hml hnp hsum hst (fun r n' h' q => q.2.1) ⟨rfl, rfl⟩ (fun r h' q => ?_)
  obtain ⟨q1, -, q3⟩ := q
  subst q1
  subst q3
  exact k n _
theorem PW.run {blk : List (Instr × Int32)} {pc' : Nat} {ls' : List (Option Value)} {st' : List Value} (hd : dec Y.2.1 pc blk = some pc') (hp : pxs blk ls st = some (ls', st')) (k : PW l Y d r pc' ls' st') : PW l Y d r pc ls st := fun n h => AW.run blk hd hp (k n h)
theorem MOk.of {As : List Value} (hy : plainName Y.1.cls = true) (hl : (enL (.ref 137 :: As)).length ≤ Y.2.2.1) (hls : padL (.ref 137 :: As) Y.2.2.1 = ls) (k : MW l Y d r T' 0 ls [] T) : MOk l Y d As T r T' := fun C => AOk.of hy hl hls (k C)
theorem POk.of {As : List Value} (hy : plainName Y.1.cls = true) (hl : (enL As).length ≤ Y.2.2.1) (hls : padL As Y.2.2.1 = ls) (k : PW l Y d r 0 ls []) : POk l Y d As r := fun n h => AOk.of hy hl hls (k n h)
/-- less is said of the locals -/
def sbL : List (Option Value) → List (Option Value) → Prop
  | [], [] => True
  | none :: a, _ :: b => sbL a b
  | some v :: a, some w :: b => v = w ∧ sbL a b
  | _, _ => False
theorem sbL_asc {as : Nat → Nat} {q : Nat × Value} : ∀ {ls' ls : List (Option Value)} {j : Nat}, sbL ls' ls → q ∈ asc as j ls' → q ∈ asc as j ls
  | [], [], j, _, h => h
  | none :: a, w :: b, j, hs, h => by
    have h1 := sbL_asc (j := j + 1) (show sbL a b from hs) (by simpa [asc] using h)
    cases w with
    | none => simpa [asc] using h1
    | some u => exact List.mem_cons_of_mem _ h1
  | some v :: a, some w :: b, j, hs, h => by
    obtain ⟨e, hs⟩ : v = w ∧ sbL a b := hs
    subst e
    simp only [asc, List.mem_cons] at h ⊢
    rcases h with h | h
    · exact Or.inl h
    · exact Or.inr (sbL_asc hs h)
theorem sbL_len : ∀ {ls' ls : List (Option Value)}, sbL ls' ls → ls'.length = ls.length
  | [], [], _ => rfl
  | none :: a, w :: b, hs => by simp [sbL_len (show sbL a b from hs)]
  | some v :: a, some w :: b, hs => by simp [sbL_len (show sbL a b from hs.2)]
theorem AW.fgt {R : Room} {Q : aQ} {cu su n : Nat} {h : aH} {ls' : List (Option Value)} (hs : sbL ls' ls) (k : AW l Y R Q cu su pc ls' st n h) : AW l Y R Q cu su pc ls st n h := by
  intro p e s m args below meth c D cA as0 n0 A as H locs E S X lsA hl
  exact k p e s m args below meth c D cA as0 n0 A as H locs E S X lsA ⟨(sbL_len hs).trans hl.1, hl.2.1, hl.2.2.1, fun q hq => hl.2.2.2 q (sbL_asc hs hq)⟩
theorem MW.fgt {ls' : List (Option Value)} (hs : sbL ls' ls) (k : MW l Y d r T' pc ls' st T) : MW l Y d r T' pc ls st T := fun C => AW.fgt hs (k C)
theorem PW.fgt {ls' : List (Option Value)} (hs : sbL ls' ls) (k : PW l Y d r pc ls' st) : PW l Y d r pc ls st := fun n h => AW.fgt hs (k n h)
theorem bd_some {α β : Type} {o : Option α} {f : α → Option β} {b : β} (h : o.bind f = some b) : ∃ a, o = some a ∧ f a = some b := by
  cases o with
  | none => cases h
  | some a => exact ⟨a, rfl, h⟩
/-- an index that is in its row -/
def inb (i : Int32) (n : Nat) : Bool := bif decide (i < 0) then false else Nat.blt i.toNatClampNeg n
theorem inb_in {i : Int32} {n : Nat} (h : inb i n = true) : vp_in i n := by
  unfold inb at h
  cases hc : decide (i < 0) with
  | true => rw [hc] at h; cases h
  | false =>
    rw [hc] at h
    have h1 : ¬ i < 0 := of_decide_eq_false hc
    have h2 : i.toNatClampNeg < n := Nat.le_of_ble_eq_true h
    rintro (q | q)
    · exact h1 q
    · omega
end MWR

