/-! ===== the reference's reader: terms, sums ===== -/
theorem Rd.on {P : Nat → Nat → Option Int} {t st h : Nat} {sl : Int} {T : mT} (hr : Rd P t st h sl T) (hn : (T.1 0 8).toInt < (T.1 0 1).toInt) : Rd P t st h (sl + 1) (mz T 8 ((T.1 0 8) + 1)) ∧ Tok P T (mz T 8 ((T.1 0 8) + 1)) ∧ ((mz T 8 ((T.1 0 8) + 1)).1 0 8).toInt = (T.1 0 8).toInt + 1 := by
  have z := tok_on hr.1 hn
  exact ⟨hr.tok z.1 (by omega), z.1, z.2⟩
/-- what an expression's part gives -/
def Ans (P : Nat → Nat → Option Int) (t st h : Nat) (sl : Int) (T : mT) (w : Bool × mT) : Prop := (w.1 = false → Bad P t T w.2) ∧ (w.1 = true → Rd P t st h sl w.2 ∧ Op T w.2 ∧ Ex t T w.2 ∧ (T.1 0 8).toInt ≤ (w.2.1 0 8).toInt)
theorem tm_term_L9 {P : Nat → Nat → Option Int} {t st h : Nat} {sl : Int} (hh : 1 ≤ h) (hsl : 0 ≤ sl) : ∀ (N : Nat) (T : mT), Rd P t st h sl T → (T.1 0 1).toInt - (T.1 0 8).toInt < (N : Int) → wp (fm_term_L9 N T) (fun w => Sum.elim (fun a => Rd P t st h sl a ∧ Op T a ∧ Ex t T a ∧ (T.1 0 8).toInt ≤ (a.1 0 8).toInt) (fun c => c.1 = false ∧ Bad P t T c.2) w) := by
  intro N
  induction N with
  | zero =>
    intro T hr hm
    exfalso
    have := hr.2.1
    omega
  | succ N ih =>
    intro T hr hm
    rw [fm_term_L9]
    have l_m1 : ((-1) : Int32).toInt = -1 := by decide
    have l_42 : (42 : Int32).toInt = 42 := by decide
    have l_47 : (47 : Int32).toInt = 47 := by decide
    have l_37 : (37 : Int32).toInt = 37 := by decide
    have go : ∀ q : mT, Tok P T q → (q.1 0 8).toInt < (q.1 0 1).toInt → wp (bif inb (q.1 0 8) 400 then (letv (q.1 1 ((q.1 0 8) : Int32).toNatClampNeg) fun v5 => Option.bind (if v5 = 42 then (some (4)) else (bif inb (q.1 0 8) 400 then (letv (q.1 1 ((q.1 0 8) : Int32).toNatClampNeg) fun v8 => if v8 = 47 then (some (5)) else (some (14))) else none) : Option (Int32)) fun w6 => letv (mz q 8 ((q.1 0 8) + 1)) fun T10 => (fm_value T10).bind fun q11 => if (b2i q11.1) = 0 then (some (.inr (false, q11.2))) else ((fm_puts w6 0 q11.2).bind fun q13 => fm_term_L9  N  q13)) else none) (fun w => Sum.elim (fun a => Rd P t st h sl a ∧ Op T a ∧ Ex t T a ∧ (T.1 0 8).toInt ≤ (a.1 0 8).toInt) (fun c => c.1 = false ∧ Bad P t T c.2) w) := by
      intro q k hn
      have c1 := im_0_1 k.1
      have c8 := im_0_8 k.1
      have Rq : Rd P t st h sl q := hr.tok k (by have := k.2.2.1; omega)
      refine wp_bif (inb_of (by omega) (by omega)) ?_
      refine wp_letv (fun v5 _ => ?_)
      refine wp_bind (Q := fun c => c = 4 ∨ c = 5 ∨ c = 14) ?_ (fun w6 h6 => ?_)
      · refine wp_eqn (fun _ => wp_some (Or.inl rfl)) ?_
        refine wp_bif (inb_of (by omega) (by omega)) ?_
        refine wp_letv (fun v8 _ => ?_)
        exact wp_eqn (fun _ => wp_some (Or.inr (Or.inl rfl))) (wp_some (Or.inr (Or.inr rfl)))
      refine wp_letv (fun T10 e10 => ?_)
      have z := Rq.on hn
      rw [← e10] at z
      have X10 : Ex t T T10 := Ex.ofT (k.trans z.2.1).2.1
      refine wp_bind (tm_value z.1 (by omega)) (fun q11 h11 => ?_)
      refine wp_b (fun _ => wp_some ⟨rfl, Bad.pre X10 h11.1⟩) (fun b => ?_)
      obtain ⟨R11, o11, n11⟩ := h11.2 b
      have c9 := R11.2.2.2.2.2.2.2.2
      refine wp_bind (tm_puts (p0 := w6) (p1 := 0) (h' := h) R11 (by omega) (st_two (by rcases h6 with e | e | e <;> simp [e]) (by omega)) (by omega)) (fun q13 h13 => ?_)
      obtain ⟨R13, x13, z13⟩ := h13
      have R13' : Rd P t st h sl q13 := by
        have e : sl + 1 - 1 = sl := by omega
        rw [e] at R13
        exact R13
      have O : Op T q13 := (Op.ofT (k.trans z.2.1).2.1).trans (o11.trans (Op.ofZ z13))
      have X : Ex t T q13 := X10.trans (h11.1.2.2.trans x13)
      have n13 : (T.1 0 8).toInt < (q13.1 0 8).toInt := by
        have := k.2.2.1
        rw [congrFun z13.1 8]
        omega
      have p13 : q13.1 0 1 = T.1 0 1 := X.2.1 0 1 (by decide) (by decide) (Or.inl (by decide)) (Or.inr (by decide))
      refine wp_mono (ih q13 R13' (by rw [p13]; omega)) (fun w hw => ?_)
      cases w with
      | inl a => exact ⟨hw.1, O.trans hw.2.1, X.trans hw.2.2.1, by have := hw.2.2.2; omega⟩
      | inr c => exact ⟨hw.1, Bad.pre X hw.2⟩
    refine wp_bind (tm_see hr.2.1 hr.1) (fun q3 h3 => ?_)
    refine wp_eq (fun hc => go q3.2 h3.1 (h3.2 (by omega))) (fun _ => ?_)
    refine wp_bind (tm_see h3.1.2.2.2 h3.1.1) (fun q14 h14 => ?_)
    have k14 := h3.1.trans h14.1
    refine wp_eq (fun hc => go q14.2 k14 (h14.2 (by omega))) (fun _ => ?_)
    refine wp_bind (tm_see k14.2.2.2 k14.1) (fun q25 h25 => ?_)
    have k25 := k14.trans h25.1
    refine wp_eq (fun hc => go q25.2 k25 (h25.2 (by omega))) (fun _ => ?_)
    exact wp_some ⟨hr.tok k25 (by have := k25.2.2.1; omega), Op.ofT k25.2.1, Ex.ofT k25.2.1, k25.2.2.1⟩
