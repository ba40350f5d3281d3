/-! ===== what the walks by program use ===== -/
/-- fuel of a loop -/
def FU : Nat := 1000000
def letv {α β : Type} (x : α) (f : α → Option β) : Option β := f x
theorem letv_some {α β : Type} {x : α} {f : α → Option β} {b : β} (h : letv x f = some b) : ∃ a, a = x ∧ f a = some b := ⟨x, rfl, h⟩
theorem bi_some {α : Type} {b : Bool} {x : Option α} {c : α} (h : (bif b then x else none) = some c) : b = true ∧ x = some c := by
  cases b
  · cases h
  · exact ⟨rfl, h⟩
theorem nz_some {α : Type} {P : Prop} {D : Decidable P} {x : Option α} {c : α} (h : (@ite (Option α) P D none x) = some c) : ¬ P ∧ x = some c := by
  by_cases hp : P
  · rw [if_pos hp] at h; cases h
  · rw [if_neg hp] at h; exact ⟨hp, h⟩
def b2i (b : Bool) : Int32 := bif b then 1 else 0
theorem b2i_nar (b : Bool) : narrow .boolean (.int (b2i b)) = .int (b2i b) := by cases b <;> rfl
theorem ne_toInt {x y : Int32} (h : ¬ x = y) {k : Int} (hk : y.toInt = k) : x.toInt ≠ k := fun e => h (Int32.toInt_inj.mp (e.trans hk.symm))
