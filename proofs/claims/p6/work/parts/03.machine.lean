/-! ===== the abstract machine: values whose references are places in one pool, locals, the pure steps ===== -/
/-- the classes whose objects the pool holds -/
abbrev classes : List vw_C := [(RX0, TX0, 2), (RX1, TX1, 3), (RX2, TX2, 15), (RX4, TX4, 2), (RX5, TX5, 5), (RX6, TX6, 4), (RX7, TX7, 8), (RX9, TX9, 2), (RX10, TX10, 10), (RX11, TX11, 12), (RX12, TX12, 34)]
abbrev tyl (cA : FieldType → ClassId) : List (ClassId × FieldType) := [(cA .int, .int), (cA .long, .long), (cA .byte, .byte), (cA .boolean, .boolean), (cA (.object RX7), .object RX7), (cA (.object RX2), .object RX2)]
/-- places of what stands ahead of the law: the static row WITHOUT, the words' text, its bytes, the script -/
abbrev kW : Nat := 1000000
abbrev kS : Nat := 1000001
abbrev kV : Nat := 1000002
abbrev kF : Nat := 1000003
/-- a value of the abstract machine, by the addresses of the places -/
def tv (as : Nat → Nat) (v : Value) : Value := match v with
  | .ref k => .ref (as k)
  | w => w
theorem tv_cat (as : Nat → Nat) (v : Value) : (tv as v).category = v.category := by cases v <;> rfl
theorem tv_int (as : Nat → Nat) (x : Int32) : tv as (.int x) = .int x := rfl
theorem tv_long (as : Nat → Nat) (x : Int64) : tv as (.long x) = .long x := rfl
theorem tv_ref (as : Nat → Nat) (k : Nat) : tv as (.ref k) = .ref (as k) := rfl
theorem tv_null (as : Nat → Nat) : tv as .null = .null := rfl
/-- what an array holds -/
abbrev aC : Type := (Nat → Int32) ⊕ (Nat → Int64) ⊕ (Nat → UInt32) ⊕ (Nat → UInt64) ⊕ (Nat → Option Nat)
def tC (as : Nat → Nat) (c : aC) : aC := match c with
  | .inr (.inr (.inr (.inr f))) => .inr (.inr (.inr (.inr (fun j => (f j).map as))))
  | d => d
abbrev aE : Type := (FieldType × Nat × aC) ⊕ (Nat × List Value)
def tE (cA : FieldType → ClassId) (as : Nat → Nat) (e : aE) : va_E := match e with
  | .inl q => .inl (cA q.1, q.2.1, tC as q.2.2)
  | .inr q => .inr (q.1, q.2.map (tv as))
abbrev aH : Type := Nat → aE
def wsOf (cA : FieldType → ClassId) (as : Nat → Nat) (n : Nat) (h : aH) : va_W := (List.range n).map (fun k => (as k, tE cA as (h k)))
theorem wsOf_get {cA : FieldType → ClassId} {as : Nat → Nat} {n : Nat} {h : aH} {k : Nat} (hk : k < n) : (wsOf cA as n h)[k]? = some (as k, tE cA as (h k)) := by
  simp [wsOf, hk]
theorem wsOf_inv {cA : FieldType → ClassId} {as : Nat → Nat} {n : Nat} {h : aH} {k : Nat} {q : Nat × va_E} (hq : (wsOf cA as n h)[k]? = some q) : k < n ∧ q = (as k, tE cA as (h k)) := by
  have hl : k < n := by
    have := (List.getElem?_eq_some_iff.mp hq).1
    simpa [wsOf] using this
  rw [wsOf_get hl] at hq
  exact ⟨hl, (Option.some.inj hq).symm⟩
theorem wsOf_set {cA : FieldType → ClassId} {as : Nat → Nat} {n : Nat} {h : aH} {k : Nat} {e : aE} {x : Nat × va_E} (hx : x = (as k, tE cA as e)) : (wsOf cA as n h).set k x = wsOf cA as n (va_up h k e) := by
  subst hx
  apply List.ext_getElem?
  intro j
  rw [List.getElem?_set]
  by_cases hj : j < n
  · rw [wsOf_get hj, wsOf_get hj]
    by_cases e1 : k = j
    · subst e1
      simp [wsOf, hj, va_up]
    · rw [if_neg e1]
      simp [va_up, Ne.symm e1]
  · have h1 : (wsOf cA as n h)[j]? = none := by simp [wsOf]; omega
    have h2 : (wsOf cA as n (va_up h k e))[j]? = none := by simp [wsOf]; omega
    rw [h1, h2]
    by_cases e1 : k = j
    · subst e1
      simp [wsOf, hj]
    · rw [if_neg e1]
/-- the locals that are known, by their numbers -/
def asc (as : Nat → Nat) : Nat → List (Option Value) → List (Nat × Value)
  | _, [] => []
  | j, none :: w => asc as (j + 1) w
  | j, some v :: w => (j, tv as v) :: asc as (j + 1) w
def catO (w : Option Value) : Nat := match w with
  | some v => v.category
  | none => 1
def stL (i : Nat) (v : Value) : Nat → List (Option Value) → List (Option Value)
  | _, [] => []
  | j, w :: ws => (bif Nat.beq j i then some v else bif (Nat.beq j (i + 1) && Nat.beq v.category 2) then none else bif (Nat.beq (j + 1) i && Nat.beq (catO w) 2) then none else w) :: stL i v (j + 1) ws
theorem stL_length (i : Nat) (v : Value) : ∀ (j : Nat) (ls : List (Option Value)), (stL i v j ls).length = ls.length
  | _, [] => rfl
  | j, w :: ws => by simp [stL, stL_length i v (j + 1) ws]
theorem asc_mem {as : Nat → Nat} {v : Value} : ∀ {ls : List (Option Value)} {i j : Nat}, ls[i]? = some (some v) → (j + i, tv as v) ∈ asc as j ls
  | [], i, j, h => by simp at h
  | none :: w, 0, j, h => by simp at h
  | none :: w, i + 1, j, h => by
    have := asc_mem (as := as) (ls := w) (i := i) (j := j + 1) (by simpa using h)
    simpa [asc, Nat.add_assoc, Nat.add_comm 1 i] using this
  | some u :: w, 0, j, h => by
    have : u = v := by simpa using h
    subst this
    simp [asc]
  | some u :: w, i + 1, j, h => by
    have := asc_mem (as := as) (ls := w) (i := i) (j := j + 1) (by simpa using h)
    refine List.mem_cons_of_mem _ ?_
    simpa [Nat.add_assoc, Nat.add_comm 1 i] using this
theorem asc_st {as : Nat → Nat} {i : Nat} {v : Value} {q : Nat × Value} : ∀ {ls : List (Option Value)} {j : Nat}, q ∈ asc as j (stL i v j ls) → q = (i, tv as v) ∨ (q ∈ asc as j ls ∧ ¬ q.1 = i ∧ ¬ (q.1 + 1 = i ∧ q.2.category = 2) ∧ (v.category = 2 → ¬ q.1 = i + 1))
  | [], j, h => by simp [stL, asc] at h
  | w :: ws, j, h => by
    have hrec : q ∈ asc as (j + 1) (stL i v (j + 1) ws) → q = (i, tv as v) ∨ (q ∈ asc as j (w :: ws) ∧ ¬ q.1 = i ∧ ¬ (q.1 + 1 = i ∧ q.2.category = 2) ∧ (v.category = 2 → ¬ q.1 = i + 1)) := by
      intro h1
      rcases asc_st h1 with h2 | ⟨h2, h3⟩
      · exact Or.inl h2
      · refine Or.inr ⟨?_, h3⟩
        cases w with
        | none => simpa [asc] using h2
        | some u => exact List.mem_cons_of_mem _ h2
    unfold stL at h
    by_cases e1 : j = i
    · subst e1
      simp [asc] at h
      rcases h with h | h
      · exact Or.inl h
      · exact hrec h
    · have b1 : Nat.beq j i = false := Bool.eq_false_iff.mpr (fun z => e1 (Nat.eq_of_beq_eq_true z))
      rw [b1] at h
      by_cases e2 : (Nat.beq j (i + 1) && Nat.beq v.category 2) = true
      · rw [e2] at h
        exact hrec (by simpa [asc] using h)
      · have e2' : (Nat.beq j (i + 1) && Nat.beq v.category 2) = false := Bool.eq_false_iff.mpr e2
        rw [e2'] at h
        by_cases e3 : (Nat.beq (j + 1) i && Nat.beq (catO w) 2) = true
        · rw [e3] at h
          exact hrec (by simpa [asc] using h)
        · have e3' : (Nat.beq (j + 1) i && Nat.beq (catO w) 2) = false := Bool.eq_false_iff.mpr e3
          rw [e3'] at h
          cases w with
          | none => exact hrec (by simpa [asc] using h)
          | some u =>
            simp only [cond_false, asc, List.mem_cons] at h
            rcases h with h | h
            · subst h
              refine Or.inr ⟨by simp [asc], e1, ?_, ?_⟩
              · rintro ⟨z1, z2⟩
                rw [tv_cat] at z2
                apply e3
                simp [catO, z1, z2]
              · intro z1 z2
                apply e2
                have z3 : j = i + 1 := z2
                simp [z1, z3]
            · exact hrec h
/-- the locals of a frame hold what is known of them -/
def aw_loc (as : Nat → Nat) (ls : List (Option Value)) (nL : Nat) (lsA : Array Slot) : Prop := ls.length = nL ∧ lv_has lsA nL (asc as 0 ls)
theorem aw_loc.at {as : Nat → Nat} {ls : List (Option Value)} {nL : Nat} {lsA : Array Slot} (h : aw_loc as ls nL lsA) {i : Nat} {v : Value} (hi : ls[i]? = some (some v)) : lsA[i]? = some (.val (tv as v)) := by
  have := h.2.2.2 _ (asc_mem (as := as) (j := 0) hi)
  simpa using this
theorem aw_loc.st1 {as : Nat → Nat} {ls : List (Option Value)} {nL : Nat} {lsA : Array Slot} (h : aw_loc as ls nL lsA) {i : Nat} {v : Value} (hc : v.category = 1) {ls' : Array Slot} (h' : lv_has ls' nL ((i, tv as v) :: (asc as 0 ls).filter (fun q => !(q.1 == i) && !(q.1 + 1 == i && q.2.category == 2)))) : aw_loc as (stL i v 0 ls) nL ls' := by
  refine ⟨by rw [stL_length]; exact h.1, h'.1, h'.2.1, fun q hq => h'.2.2 q ?_⟩
  rcases asc_st hq with h1 | ⟨h1, h2, h3, -⟩
  · subst h1
    exact List.mem_cons_self
  · refine List.mem_cons_of_mem _ (List.mem_filter.mpr ⟨h1, ?_⟩)
    simp only [Bool.and_eq_true, Bool.not_eq_true', beq_eq_false_iff_ne, ne_eq, Bool.and_eq_false_iff]
    refine ⟨h2, ?_⟩
    by_cases z : q.1 + 1 = i
    · exact Or.inr (fun w => h3 ⟨z, w⟩)
    · exact Or.inl z
theorem aw_loc.st2 {as : Nat → Nat} {ls : List (Option Value)} {nL : Nat} {lsA : Array Slot} (h : aw_loc as ls nL lsA) {i : Nat} {v : Value} (hc : v.category = 2) {ls' : Array Slot} (h' : lv_has ls' nL ((i, tv as v) :: (asc as 0 ls).filter (fun q => !(q.1 == i) && (!(q.1 == i + 1) && !(q.1 + 1 == i && q.2.category == 2))))) : aw_loc as (stL i v 0 ls) nL ls' := by
  refine ⟨by rw [stL_length]; exact h.1, h'.1, h'.2.1, fun q hq => h'.2.2 q ?_⟩
  rcases asc_st hq with h1 | ⟨h1, h2, h3, h4⟩
  · subst h1
    exact List.mem_cons_self
  · refine List.mem_cons_of_mem _ (List.mem_filter.mpr ⟨h1, ?_⟩)
    simp only [Bool.and_eq_true, Bool.not_eq_true', beq_eq_false_iff_ne, ne_eq, Bool.and_eq_false_iff]
    refine ⟨h2, h4 hc, ?_⟩
    by_cases z : q.1 + 1 = i
    · exact Or.inr (fun w => h3 ⟨z, w⟩)
    · exact Or.inl z
/-- one step that touches locals and the operand stack alone; z: the number that the instruction writes -/
def ld (ls : List (Option Value)) (i : Nat) : Option Value := match ls[i]? with
  | some (some v) => some v
  | _ => none
def px (i : Instr) (z : Int32) (ls : List (Option Value)) (st : List Value) : Option (List (Option Value) × List Value) :=
  match i, st with
  | .iconst _, st => some (ls, .int z :: st)
  | .bipush _, st => some (ls, .int z :: st)
  | .sipush _, st => some (ls, .int z :: st)
  | .lconst k, st => some (ls, .long (bif Nat.beq k.val 0 then 0 else 1) :: st)
  | .iload_n k, st => (match ld ls k.val with | some (.int x) => some (ls, .int x :: st) | _ => none)
  | .iload k, st => (match ld ls k with | some (.int x) => some (ls, .int x :: st) | _ => none)
  | .lload_n k, st => (match ld ls k.val with | some (.long x) => some (ls, .long x :: st) | _ => none)
  | .lload k, st => (match ld ls k with | some (.long x) => some (ls, .long x :: st) | _ => none)
  | .aload_n k, st => (match ld ls k.val with | some (.ref x) => some (ls, .ref x :: st) | _ => none)
  | .aload k, st => (match ld ls k with | some (.ref x) => some (ls, .ref x :: st) | _ => none)
  | .istore_n k, .int x :: st => bif Nat.blt k.val ls.length then some (stL k.val (.int x) 0 ls, st) else none
  | .istore k, .int x :: st => bif Nat.blt k ls.length then some (stL k (.int x) 0 ls, st) else none
  | .lstore_n k, .long x :: st => bif Nat.blt (k.val + 1) ls.length then some (stL k.val (.long x) 0 ls, st) else none
  | .lstore k, .long x :: st => bif Nat.blt (k + 1) ls.length then some (stL k (.long x) 0 ls, st) else none
  | .astore_n k, .ref x :: st => bif Nat.blt k.val ls.length then some (stL k.val (.ref x) 0 ls, st) else none
  | .astore k, .ref x :: st => bif Nat.blt k ls.length then some (stL k (.ref x) 0 ls, st) else none
  | .iinc k _, st => (match ld ls k with | some (.int x) => bif Nat.blt k ls.length then some (stL k (.int (x + z)) 0 ls, st) else none | _ => none)
  | .iadd, .int y :: .int x :: st => some (ls, .int (x + y) :: st)
  | .isub, .int y :: .int x :: st => some (ls, .int (x - y) :: st)
  | .imul, .int y :: .int x :: st => some (ls, .int (x * y) :: st)
  | .iand, .int y :: .int x :: st => some (ls, .int (x &&& y) :: st)
  | .ior, .int y :: .int x :: st => some (ls, .int (x ||| y) :: st)
  | .ixor, .int y :: .int x :: st => some (ls, .int (x ^^^ y) :: st)
  | .ineg, .int x :: st => some (ls, .int (-x) :: st)
  | .ishl, .int y :: .int x :: st => some (ls, .int (x <<< (y &&& 31)) :: st)
  | .ishr, .int y :: .int x :: st => some (ls, .int (x >>> (y &&& 31)) :: st)
  | .iushr, .int y :: .int x :: st => some (ls, .int (x.toUInt32 >>> (y.toUInt32 &&& Int32.toUInt32 31)).toInt32 :: st)
  | .ladd, .long y :: .long x :: st => some (ls, .long (x + y) :: st)
  | .lsub, .long y :: .long x :: st => some (ls, .long (x - y) :: st)
  | .lmul, .long y :: .long x :: st => some (ls, .long (x * y) :: st)
  | .land, .long y :: .long x :: st => some (ls, .long (x &&& y) :: st)
  | .lor, .long y :: .long x :: st => some (ls, .long (x ||| y) :: st)
  | .lxor, .long y :: .long x :: st => some (ls, .long (x ^^^ y) :: st)
  | .lshl, .int y :: .long x :: st => some (ls, .long (x <<< (y.toInt64 &&& 63)) :: st)
  | .lushr, .int y :: .long x :: st => some (ls, .long (x.toUInt64 >>> (y.toInt64.toUInt64 &&& Int64.toUInt64 63)).toInt64 :: st)
  | .i2l, .int x :: st => some (ls, .long x.toInt64 :: st)
  | .l2i, .long x :: st => some (ls, .int x.toInt32 :: st)
  | .i2b, .int x :: st => some (ls, .int x.toInt8.toInt32 :: st)
  | .lcmp, .long y :: .long x :: st => some (ls, .int (lg_cmp x y) :: st)
  | .dup, v :: st => bif Nat.beq v.category 1 then some (ls, v :: v :: st) else none
  | .pop, v :: st => bif Nat.beq v.category 1 then some (ls, st) else none
  | .dup2, v :: w :: st => bif (Nat.beq v.category 1 && Nat.beq w.category 1) then some (ls, v :: w :: v :: w :: st) else none
  | _, _ => none
/-- the number that an instruction writes is z, as far as it writes one -/
def okI (i : Instr) (z : Int32) : Bool := match i with
  | .iconst n => Int32.ofInt n == z
  | .bipush n => (Int8.ofInt n).toInt32 == z
  | .sipush n => (Int16.ofInt n).toInt32 == z
  | .iinc _ n => Int32.ofInt n == z
  | _ => true
