/-! ===== the pure steps hold of the machine ===== -/
section PXW
variable {p : Program} {l : Launch} {e : Env} {R : Room} {s : State} {m : MethodId} {args : Array Value} {below : List Frame} {meth : Method} {c : Code} {H : Heap} {locs : List Loc} {cells slots : Nat} {Q : State → Prop} {cc : ByteArray} {as : Nat → Nat} {nL : Nat}
/-- the machine from a place on, whatever the locals hold besides what is known -/
def Wst (p : Program) (l : Launch) (e : Env) (R : Room) (s : State) (m : MethodId) (args : Array Value) (below : List Frame) (meth : Method) (c : Code) (H : Heap) (locs : List Loc) (cells slots : Nat) (Q : State → Prop) (as : Nat → Nat) (nL : Nat) (pc : Nat) (ls : List (Option Value)) (st : List Value) : Prop :=
  ∀ lsA : Array Slot, aw_loc as ls nL lsA → W p l e R s m args below meth c H locs cells slots Q (F0 m pc lsA (st.map (tv as)))
theorem ld_some {ls : List (Option Value)} {i : Nat} {v : Value} (h : ld ls i = some v) : ls[i]? = some (some v) := by
  unfold ld at h
  split at h
  · rename_i w hw
    rw [hw]
    cases h
    rfl
  · cases h
theorem bif_some {α : Type} {b : Bool} {a c : α} (h : (bif b then some a else none) = some c) : b = true ∧ a = c := by
  cases b
  · cases h
  · exact ⟨rfl, Option.some.inj h⟩
theorem lc2 : ∀ k : Fin 2, Int64.ofNat k.val = bif Nat.beq k.val 0 then (0 : Int64) else 1 := by decide +kernel
def lnI (i : Instr) : Nat := match i with
  | .bipush _ => 2
  | .sipush _ => 3
  | .iload _ => 2
  | .lload _ => 2
  | .aload _ => 2
  | .istore _ => 2
  | .lstore _ => 2
  | .astore _ => 2
  | .iinc _ _ => 3
  | _ => 1
set_option maxHeartbeats 4000000 in
theorem px_ok (hx : p.tables.exec = Jvm.exec) (hb : c.code = cc) {i : Instr} {z : Int32} {pc : Nat} {ls ls' : List (Option Value)} {st st' : List Value} (hd : decode cc pc = .ok (i, lnI i)) (hz : okI i z = true) (hp : px i z ls st = some (ls', st')) (k : Wst p l e R s m args below meth c H locs cells slots Q as nL (pc + lnI i) ls' st') : Wst p l e R s m args below meth c H locs cells slots Q as nL pc ls st := by
  intro lsA hl
  unfold px at hp
  split at hp
  · cases hp
    exact lv_iconst hx hb hd (eq_of_beq hz) (k lsA hl)
  · cases hp
    exact lv_bipush hx hb hd (eq_of_beq hz) (k lsA hl)
  · cases hp
    exact lv_sipush hx hb hd (eq_of_beq hz) (k lsA hl)
  · cases hp
    exact lv_lconst hx hb hd (lc2 _) (k lsA hl)
  · split at hp
    · rename_i x hq
      cases hp
      exact lv_iload_n hx hb hd rfl (hl.at (ld_some hq)) (k lsA hl)
    · cases hp
  · split at hp
    · rename_i x hq
      cases hp
      exact lv_iload hx hb hd (hl.at (ld_some hq)) (k lsA hl)
    · cases hp
  · split at hp
    · rename_i x hq
      cases hp
      exact lv_lload_n hx hb hd rfl (hl.at (ld_some hq)) (k lsA hl)
    · cases hp
  · split at hp
    · rename_i x hq
      cases hp
      exact lv_lload hx hb hd (hl.at (ld_some hq)) (k lsA hl)
    · cases hp
  · split at hp
    · rename_i x hq
      cases hp
      exact lv_aload_n hx hb hd rfl (hl.at (ld_some hq)) (k lsA hl)
    · cases hp
  · split at hp
    · rename_i x hq
      cases hp
      exact lv_aload hx hb hd (hl.at (ld_some hq)) (k lsA hl)
    · cases hp
  · obtain ⟨h1, h2⟩ := bif_some hp
    cases h2
    exact lv_istore_n hx hb hd rfl hl.2 (by rw [← hl.1]; exact Nat.le_of_ble_eq_true h1) rfl (fun ls1 h1 => k ls1 (hl.st1 rfl h1))
  · obtain ⟨h1, h2⟩ := bif_some hp
    cases h2
    exact lv_istore hx hb hd hl.2 (by rw [← hl.1]; exact Nat.le_of_ble_eq_true h1) rfl (fun ls1 h1 => k ls1 (hl.st1 rfl h1))
  · obtain ⟨h1, h2⟩ := bif_some hp
    cases h2
    exact lv_lstore_n hx hb hd rfl hl.2 (by rw [← hl.1]; exact Nat.le_of_ble_eq_true h1) rfl (fun ls1 h1 => k ls1 (hl.st2 rfl h1))
  · obtain ⟨h1, h2⟩ := bif_some hp
    cases h2
    exact lv_lstore hx hb hd hl.2 (by rw [← hl.1]; exact Nat.le_of_ble_eq_true h1) rfl (fun ls1 h1 => k ls1 (hl.st2 rfl h1))
  · obtain ⟨h1, h2⟩ := bif_some hp
    cases h2
    exact lv_astore_n hx hb hd rfl hl.2 (by rw [← hl.1]; exact Nat.le_of_ble_eq_true h1) rfl (fun ls1 h1 => k ls1 (hl.st1 rfl h1))
  · obtain ⟨h1, h2⟩ := bif_some hp
    cases h2
    exact lv_astore hx hb hd hl.2 (by rw [← hl.1]; exact Nat.le_of_ble_eq_true h1) rfl (fun ls1 h1 => k ls1 (hl.st1 rfl h1))
  · split at hp
    · rename_i x hq
      obtain ⟨h1, h2⟩ := bif_some hp
      cases h2
      obtain ⟨j, hj⟩ := List.getElem?_of_mem (asc_mem (as := as) (j := 0) (ld_some hq))
      rw [Nat.zero_add] at hj
      exact lv_iinc hx hb hd hl.2 hj (by rw [eq_of_beq hz]) (by rw [← hl.1]; exact Nat.le_of_ble_eq_true h1) rfl (fun ls1 h1 => k ls1 (hl.st1 rfl h1))
    · cases hp
  · cases hp
    exact lv_iadd hx hb hd (k lsA hl)
  · cases hp
    exact lv_isub hx hb hd (k lsA hl)
  · cases hp
    exact lv_imul hx hb hd (k lsA hl)
  · cases hp
    exact lv_iand hx hb hd (k lsA hl)
  · cases hp
    exact lv_ior hx hb hd (k lsA hl)
  · cases hp
    exact lv_ixor hx hb hd (k lsA hl)
  · cases hp
    exact lv_ineg hx hb hd (k lsA hl)
  · cases hp
    exact lv_ishl hx hb hd (k lsA hl)
  · cases hp
    exact lv_ishr hx hb hd (k lsA hl)
  · cases hp
    exact lv_iushr hx hb hd rfl (k lsA hl)
  · cases hp
    exact lv_ladd hx hb hd (k lsA hl)
  · cases hp
    exact lv_lsub hx hb hd (k lsA hl)
  · cases hp
    exact lv_lmul hx hb hd (k lsA hl)
  · cases hp
    exact lv_land hx hb hd (k lsA hl)
  · cases hp
    exact lv_lor hx hb hd (k lsA hl)
  · cases hp
    exact lv_lxor hx hb hd (k lsA hl)
  · cases hp
    exact lv_lshl hx hb hd rfl (k lsA hl)
  · cases hp
    exact lv_lushr hx hb hd rfl (k lsA hl)
  · cases hp
    exact lv_i2l hx hb hd rfl (k lsA hl)
  · cases hp
    exact lv_l2i hx hb hd rfl (k lsA hl)
  · cases hp
    exact lv_i2b hx hb hd rfl (k lsA hl)
  · cases hp
    exact W.lcmp hx hb hd (k lsA hl)
  · obtain ⟨h1, h2⟩ := bif_some hp
    cases h2
    exact lv_dup hx hb hd (by rw [tv_cat]; exact Nat.eq_of_beq_eq_true h1) (k lsA hl)
  · obtain ⟨h1, h2⟩ := bif_some hp
    cases h2
    exact lv_pop hx hb hd (by rw [tv_cat]; exact Nat.eq_of_beq_eq_true h1) (k lsA hl)
  · obtain ⟨h1, h2⟩ := bif_some hp
    cases h2
    exact lv_dup2_11 hx hb hd (by rw [tv_cat]; exact Nat.eq_of_beq_eq_true (Bool.and_eq_true_iff.mp h1).1) (by rw [tv_cat]; exact Nat.eq_of_beq_eq_true (Bool.and_eq_true_iff.mp h1).2) (k lsA hl)
  · cases hp
/-- a row of steps, from a place to another: the code says so -/
def dec (cc : ByteArray) : Nat → List (Instr × Int32) → Option Nat
  | pc, [] => some pc
  | pc, (i, z) :: r => match decode cc pc with
    | .ok (j, len) => bif decide (j = i) && (okI i z) then (match i with
        | .goto off => bif decide (0 ≤ (pc : Int) + off) && Nat.beq len 3 then dec cc ((pc : Int) + off).toNat r else none
        | _ => bif Nat.beq len (lnI i) then dec cc (pc + len) r else none) else none
    | _ => none
def pxs : List (Instr × Int32) → List (Option Value) → List Value → Option (List (Option Value) × List Value)
  | [], ls, st => some (ls, st)
  | (.goto _, _) :: r, ls, st => pxs r ls st
  | (i, z) :: r, ls, st => match px i z ls st with
    | some (ls1, st1) => pxs r ls1 st1
    | none => none
end PXW
