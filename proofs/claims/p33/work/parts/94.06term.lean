/-! ===== the reference's reader: terms, sums ===== -/
theorem Rd.on {P : Nat → Nat → Option Int} {t st h : Nat} {sl : Int} {T : mT} (hr : Rd P t st h sl T) (hn : (T.1 0 8).toInt < (T.1 0 1).toInt) : Rd P t st h (sl + 1) (mz T 8 ((T.1 0 8) + 1)) ∧ Tok P T (mz T 8 ((T.1 0 8) + 1)) ∧ ((mz T 8 ((T.1 0 8) + 1)).1 0 8).toInt = (T.1 0 8).toInt + 1 := by
  have z := tok_on hr.1 hn
  exact ⟨hr.tok z.1 (by omega), z.1, z.2⟩
/-- what an expression's part gives -/
def Ans (P : Nat → Nat → Option Int) (t st h : Nat) (sl : Int) (T : mT) (w : Bool × mT) : Prop := (w.1 = false → Bad P t T w.2) ∧ (w.1 = true → Rd P t st h sl w.2 ∧ Op T w.2 ∧ Ex t T w.2 ∧ (T.1 0 8).toInt ≤ (w.2.1 0 8).toInt)
