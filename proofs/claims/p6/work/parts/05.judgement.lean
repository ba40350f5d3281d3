/-! ===== the judgement AW: the machine from a place on, over the pool; the contract AOk ===== -/
theorem dec_cons {cc : ByteArray} {pc pc' : Nat} {i : Instr} {z : Int32} {r : List (Instr × Int32)} (h : dec cc pc ((i, z) :: r) = some pc') :
    okI i z = true ∧ ((∃ off tgt, i = .goto off ∧ decode cc pc = .ok (.goto off, 3) ∧ (pc : Int) + off = ((tgt : Nat) : Int) ∧ dec cc tgt r = some pc') ∨ ((∀ off, i ≠ .goto off) ∧ decode cc pc = .ok (i, lnI i) ∧ dec cc (pc + lnI i) r = some pc')) := by
  unfold dec at h
  split at h
  · rename_i j len hd
    cases hb : (decide (j = i) && okI i z) with
    | false => rw [hb] at h; cases h
    | true =>
      rw [hb] at h
      obtain ⟨h1, h2⟩ := Bool.and_eq_true_iff.mp hb
      have h1 : j = i := of_decide_eq_true h1
      subst h1
      refine ⟨h2, ?_⟩
      simp only [cond_true] at h
      split at h
      · rename_i off
        cases hc : (decide (0 ≤ (pc : Int) + off) && Nat.beq len 3) with
        | false => rw [hc] at h; cases h
        | true =>
          rw [hc] at h
          obtain ⟨h3, h4⟩ := Bool.and_eq_true_iff.mp hc
          have h3 : 0 ≤ (pc : Int) + off := of_decide_eq_true h3
          have h4 : len = 3 := Nat.eq_of_beq_eq_true h4
          subst h4
          exact Or.inl ⟨off, ((pc : Int) + off).toNat, rfl, hd, by omega, h⟩
      · rename_i hne
        cases hc : Nat.beq len (lnI j) with
        | false => rw [hc] at h; cases h
        | true =>
          rw [hc] at h
          have h4 : len = lnI j := Nat.eq_of_beq_eq_true hc
          subst h4
          exact Or.inr ⟨fun off hh => hne off hh, hd, h⟩
  · cases h
section PXS
variable {p : Program} {l : Launch} {e : Env} {R : Room} {s : State} {m : MethodId} {args : Array Value} {below : List Frame} {meth : Method} {c : Code} {H : Heap} {locs : List Loc} {cells slots : Nat} {Q : State → Prop} {cc : ByteArray} {as : Nat → Nat} {nL : Nat}
theorem pxs_cons {i : Instr} {z : Int32} {r : List (Instr × Int32)} {ls ls' : List (Option Value)} {st st' : List Value} (hn : ∀ off, i ≠ .goto off) (h : pxs ((i, z) :: r) ls st = some (ls', st')) : ∃ ls1 st1, px i z ls st = some (ls1, st1) ∧ pxs r ls1 st1 = some (ls', st') := by
  unfold pxs at h
  split at h
  · rename_i heq; cases heq
  · rename_i heq
    cases heq
    exact absurd rfl (hn _)
  · rename_i heq
    cases heq
    split at h
    · rename_i ls1 st1 hq
      exact ⟨ls1, st1, hq, h⟩
    · cases h
theorem pxs_ok (hx : p.tables.exec = Jvm.exec) (hb : c.code = cc) : ∀ {blk : List (Instr × Int32)} {pc pc' : Nat} {ls ls' : List (Option Value)} {st st' : List Value} (_ : dec cc pc blk = some pc') (_ : pxs blk ls st = some (ls', st')) (_ : Wst p l e R s m args below meth c H locs cells slots Q as nL pc' ls' st'), Wst p l e R s m args below meth c H locs cells slots Q as nL pc ls st
  | [], pc, pc', ls, ls', st, st', hd, hp, k => by
    cases hd
    cases hp
    exact k
  | (i, z) :: r, pc, pc', ls, ls', st, st', hd, hp, k => by
    obtain ⟨hz, ⟨off, tgt, rfl, h1, h2, h3⟩ | ⟨h1, h2, h3⟩⟩ := dec_cons hd
    · have k2 := pxs_ok hx hb h3 hp k
      intro lsA hl
      exact lv_goto hx hb h1 h2 (k2 lsA hl)
    · obtain ⟨ls1, st1, h4, h5⟩ := pxs_cons h1 hp
      exact px_ok hx hb h2 hz h4 (pxs_ok hx hb h3 h5 k)
end PXS
/-- the tables' words that every method keeps, and those of nest mates -/
def wG : List Cond := lw_tbl.filter goodWord
def nestW (w : Cond) : Bool := match w with
  | .fieldLinkNest _ _ _ _ _ _ => true
  | .methodLinkNest _ _ _ _ => true
  | .arrayOver (.object _) => true
  | _ => false
def wN : List Cond := tables_1.filter nestW
theorem wN_warm {s U : State} (hW : s.WarmedH U.vm) (h : ∀ w ∈ wN, va_Nw w s) : ∀ w ∈ wN, va_Nw w U := by
  intro w hw
  have h1 := h w hw
  have h2 := (List.mem_filter.mp hw).2
  unfold nestW at h2
  split at h2
  · exact va_Nw.warmF hW h1
  · exact va_Nw.warmM hW h1
  · exact va_AO.moved hW.alike h1
  · cases h2
theorem wN_same {u U : State} (hv : u.vm = U.vm) (h : ∀ w ∈ wN, va_Nw w u) : ∀ w ∈ wN, va_Nw w U := by
  intro w hw
  have h1 := h w hw
  have h2 := (List.mem_filter.mp hw).2
  unfold nestW at h2
  split at h2
  · exact va_Nw.same rfl hv h1
  · exact va_Nw.same rfl hv h1
  · exact va_AO.moved (by rw [hv]; exact Vm.Alike.refl _) h1
  · cases h2
def wo (j : Nat) : Int64 := ([6148914691236517205, 3689348814741910323, 1085102592571150095, 71777214294589695, 281470681808895, 4294967295] : List Int64).getD j 0
def wtx : String := " teller hearer of hour face tie moved steps marks person boat glass tell weigh if or and not "
def wby : List Int32 := [32, 116, 101, 108, 108, 101, 114, 32, 104, 101, 97, 114, 101, 114, 32, 111, 102, 32, 104, 111, 117, 114, 32, 102, 97, 99, 101, 32, 116, 105, 101, 32, 109, 111, 118, 101, 100, 32, 115, 116, 101, 112, 115, 32, 109, 97, 114, 107, 115, 32, 112, 101, 114, 115, 111, 110, 32, 98, 111, 97, 116, 32, 103, 108, 97, 115, 115, 32, 116, 101, 108, 108, 32, 119, 101, 105, 103, 104, 32, 105, 102, 32, 111, 114, 32, 97, 110, 100, 32, 110, 111, 116, 32]
/-- what stands ahead of the law and is only read -/
def aw_X (as : Nat → Nat) (A : Nat → Prop) (U : State) (H : Heap) : Prop :=
  va_Z RX5 "WITHOUT" "[J" (.ref (as kW)) A U H ∧ va_T .long (as kW) 6 (fun j => .long (wo j)) A U H ∧ vk_R RX10 69 wtx (as kS) U ∧ vk_S 1 [93] [wby] (fun _ => as kS) (fun _ => as kV) A U H ∧ va_Z "java/lang/String" "COMPACT_STRINGS" "Z" (.int 1) A U H ∧ (va_Z "jdk/internal/util/Preconditions" "SIOOBE_FORMATTER" "Ljava/util/function/BiFunction;" .null A U H ∨ va_Z "jdk/internal/util/Preconditions" "SIOOBE_FORMATTER" "Ljava/util/function/BiFunction;" (.ref (as kF)) A U H)
theorem aw_X.kept {as : Nat → Nat} {A : Nat → Prop} {U : State} {H H1 : Heap} (h : aw_X as A U H) (hq : ∀ a : Nat, a < H.size → ¬ A a → H1[a]? = H[a]?) : aw_X as A U H1 := by
  obtain ⟨h1, h2, h3, h4, h5, h6⟩ := h
  exact ⟨h1.kept hq, h2.kept hq, h3, h4.kept hq, h5.kept hq, h6.imp (fun z => z.kept hq) (fun z => z.kept hq)⟩
theorem aw_X.narrow {as : Nat → Nat} {A B : Nat → Prop} {U : State} {H : Heap} (h : aw_X as A U H) (hAB : ∀ q, B q → A q) : aw_X as B U H := by
  obtain ⟨h1, h2, h3, h4, h5, h6⟩ := h
  exact ⟨h1.narrow hAB, h2.narrow hAB, h3, h4.narrow hAB, h5.narrow hAB, h6.imp (fun z => z.narrow hAB) (fun z => z.narrow hAB)⟩
theorem aw_X.warm {as : Nat → Nat} {A : Nat → Prop} {s U : State} {H : Heap} (hW : s.WarmedH U.vm) (h : aw_X as A s H) : aw_X as A U H := by
  obtain ⟨h1, h2, h3, h4, h5, h6⟩ := h
  exact ⟨h1.moved hW.alike, h2.moved hW.alike, h3.warm hW, h4.moved hW.alike, h5.moved hW.alike, h6.imp (fun z => z.moved hW.alike) (fun z => z.moved hW.alike)⟩
theorem aw_X.same {as : Nat → Nat} {A : Nat → Prop} {s U : State} {H : Heap} (hv : s.vm = U.vm) (h : aw_X as A s H) : aw_X as A U H := by
  obtain ⟨h1, h2, h3, h4, h5, h6⟩ := h
  have ha : s.vm.Alike U.vm := by rw [hv]; exact Vm.Alike.refl _
  exact ⟨h1.moved ha, h2.moved ha, h3.same hv.symm, h4.moved ha, h5.moved ha, h6.imp (fun z => z.moved ha) (fun z => z.moved ha)⟩
theorem aw_X.as {as as' : Nat → Nat} {A : Nat → Prop} {U : State} {H : Heap} (h : aw_X as A U H) (ha : ∀ k, kW ≤ k → as' k = as k) : aw_X as' A U H := by
  unfold aw_X
  rw [ha kW (Nat.le_refl _), ha kS (by decide), ha kV (by decide), ha kF (by decide)]
  exact h
/-- a method: its name, its code, how many locals, what it returns -/
abbrev aY : Type := MethodName × ByteArray × Nat × Option FieldType
abbrev aQ : Type := Option Value → Nat → aH → Prop
def aw_env (p : Program) (s : State) (m : MethodId) (args : Array Value) (meth : Method) (c : Code) (Y : aY) : Prop :=
  p.tables.exec = Jvm.exec ∧ c.code = Y.2.1 ∧ meth.sig.returnType = Y.2.2.2 ∧ c.maxLocals = Y.2.2.1 ∧ s.vm.findClass Y.1.cls = some m.cls ∧ (∀ w ∈ wG, w.before args s = true) ∧ meth.locks = false ∧ (∀ w ∈ wN, va_Nw w s) ∧ meth.name = Y.1.name
def aw_st (D : va_G) (cA : FieldType → ClassId) (as : Nat → Nat) (n : Nat) (h : aH) (A : Nat → Prop) (s : State) (H : Heap) (locs : List Loc) : Prop :=
  va_K D classes (tyl cA) s ∧ va_P D classes (wsOf cA as n h) H ∧ va_D A (wsOf cA as n h) ∧ va_S A s.heap H locs ∧ (∀ q, s.heap.size ≤ q → A q) ∧ aw_X as A s s.heap
def aw_ext (as0 : Nat → Nat) (n0 : Nat) (as : Nat → Nat) (n : Nat) : Prop := n0 ≤ n ∧ n ≤ kW ∧ ∀ k, k < n0 ∨ n ≤ k → as k = as0 k
def aw_Q (D : va_G) (cA : FieldType → ClassId) (as0 : Nat → Nat) (n0 : Nat) (A : Nat → Prop) (Q : aQ) : Array Value → State → Outcome → State → Prop := fun _ st oc t =>
  (∃ (r : Option Value) (n : Nat) (h : aH) (as : Nat → Nat), oc = .returned (r.map (tv as)) ∧ Q r n h ∧ aw_ext as0 n0 as n ∧ va_P D classes (wsOf cA as n h) t.heap ∧ va_K D classes (tyl cA) t ∧ va_D A (wsOf cA as n h)) ∧ va_F A st t
def AW (l : Launch) (Y : aY) (R : Room) (Q : aQ) (cu su pc : Nat) (ls : List (Option Value)) (st : List Value) (n : Nat) (h : aH) : Prop :=
  ∀ (p : Program) (e : Env) (s : State) (m : MethodId) (args : Array Value) (below : List Frame) (meth : Method) (c : Code) (D : va_G) (cA : FieldType → ClassId) (as0 : Nat → Nat) (n0 : Nat) (A : Nat → Prop) (as : Nat → Nat) (H : Heap) (locs : List Loc),
    aw_env p s m args meth c Y → aw_st D cA as n h A s H locs → aw_ext as0 n0 as n →
    Wst p l e R s m args below meth c H locs cu su (MQ below (aw_Q D cA as0 n0 A Q) args s R.cells R.slots A) as Y.2.2.1 pc ls st
section AWR
variable {l : Launch} {Y : aY} {R : Room} {Q : aQ} {cu su pc : Nat} {ls : List (Option Value)} {st : List Value} {n : Nat} {h : aH}
/-- a row of pure steps -/
theorem AW.run (blk : List (Instr × Int32)) {pc' : Nat} {ls' : List (Option Value)} {st' : List Value} (hd : dec Y.2.1 pc blk = some pc') (hp : pxs blk ls st = some (ls', st')) (k : AW l Y R Q cu su pc' ls' st' n h) : AW l Y R Q cu su pc ls st n h := by
  intro p e s m args below meth c D cA as0 n0 A as H locs E S X
  exact pxs_ok E.1 E.2.1 hd hp (k p e s m args below meth c D cA as0 n0 A as H locs E S X)
end AWR
