/-! ===== the reference's reader: terms, sums, comparisons ===== -/
theorem Rd.sl {P : Nat → Nat → Option Int} {t st h : Nat} {sl sl' : Int} {T : mT} (hr : Rd P t st h sl T) (e : sl = sl') : Rd P t st h sl' T := e ▸ hr
theorem Rd.le {P : Nat → Nat → Option Int} {t st h : Nat} {sl sl' : Int} {T : mT} (hr : Rd P t st h sl T) (e : sl' ≤ sl) : Rd P t st h sl' T := by
  obtain ⟨r1, r2, r3, r4, r5, r6, r7, r8, r9⟩ := hr
  exact ⟨r1, r2, r3, r4, r5, by omega, r7, r8, r9⟩
theorem Ex.p1 {t : Nat} {A B : mT} (h : Ex t A B) : B.1 0 1 = A.1 0 1 := h.2.1 0 1 (by decide) (by decide) (Or.inl (by decide)) (Or.inr (by decide))
theorem tm_term {P : Nat → Nat → Option Int} {t st h : Nat} {sl : Int} {T : mT} (hr : Rd P t st h sl T) (hsl : 0 ≤ sl) : wp (fm_term T) (fun w => Ans P t st (h + 1) sl T w) := by
  unfold fm_term
  have fu : (FU : Int) = 1000000 := rfl
  refine wp_bind (tm_value hr hsl) (fun q1 h1 => ?_)
  refine wp_b (fun _ => wp_some ⟨fun _ => h1.1, fun z => by cases z⟩) (fun b => ?_)
  obtain ⟨R1, o1, n1⟩ := h1.2 b
  have c1 := im_0_1 R1.1
  have c8 := im_0_8 R1.1
  refine wp_bind (tm_term_L9 (by omega) hsl FU q1.2 R1 (by omega)) (fun w h36 => ?_)
  cases w with
  | inl a => exact wp_some ⟨fun z => (by cases z), fun _ => ⟨h36.1, o1.trans h36.2.1, h1.1.2.2.trans h36.2.2.1, by have := h36.2.2.2; dsimp only; omega⟩⟩
  | inr c => exact wp_some ⟨fun _ => Bad.pre h1.1.2.2 h36.2, fun z => by rw [h36.1] at z; cases z⟩
theorem tm_summed_L9 {P : Nat → Nat → Option Int} {t st h : Nat} {sl : Int} (hh : 1 ≤ h) (hsl : 0 ≤ sl) : ∀ (N : Nat) (T : mT), Rd P t st h sl T → (T.1 0 1).toInt - (T.1 0 8).toInt < (N : Int) → wp (fm_summed_L9 N T) (fun w => Sum.elim (fun a => Rd P t st h sl a ∧ Op T a ∧ Ex t T a ∧ (T.1 0 8).toInt ≤ (a.1 0 8).toInt) (fun c => c.1 = false ∧ Bad P t T c.2) w) := by
  intro N
  induction N with
  | zero =>
    intro T hr hm
    exfalso
    have := hr.2.1
    omega
  | succ N ih =>
    intro T hr hm
    rw [fm_summed_L9]
    have l_m1 : ((-1) : Int32).toInt = -1 := by decide
    have l_43 : (43 : Int32).toInt = 43 := by decide
    have l_45 : (45 : Int32).toInt = 45 := by decide
    have go : ∀ q : mT, Tok P T q → (q.1 0 8).toInt < (q.1 0 1).toInt → wp (bif inb (q.1 0 8) 400 then (letv (q.1 1 ((q.1 0 8) : Int32).toNatClampNeg) fun v5 => Option.bind (if v5 = 43 then (some (2)) else (some (3)) : Option (Int32)) fun w6 => letv (mz q 8 ((q.1 0 8) + 1)) fun T8 => (fm_term T8).bind fun q9 => if (b2i q9.1) = 0 then (some (.inr (false, q9.2))) else ((fm_puts w6 0 q9.2).bind fun q11 => fm_summed_L9  N  q11)) else none) (fun w => Sum.elim (fun a => Rd P t st h sl a ∧ Op T a ∧ Ex t T a ∧ (T.1 0 8).toInt ≤ (a.1 0 8).toInt) (fun c => c.1 = false ∧ Bad P t T c.2) w) := by
      intro q k hn
      have c1 := im_0_1 k.1
      have c8 := im_0_8 k.1
      have Rq : Rd P t st h sl q := hr.tok k (by have := k.2.2.1; omega)
      refine wp_bif (inb_of (by omega) (by omega)) ?_
      refine wp_letv (fun v5 _ => ?_)
      refine wp_bind (Q := fun c => c = 2 ∨ c = 3) ?_ (fun w6 h6 => ?_)
      · exact wp_eqn (fun _ => wp_some (Or.inl rfl)) (wp_some (Or.inr rfl))
      refine wp_letv (fun T10 e10 => ?_)
      have z := Rq.on hn
      rw [← e10] at z
      have X10 : Ex t T T10 := Ex.ofT (k.trans z.2.1).2.1
      refine wp_bind (tm_term z.1 (by omega)) (fun q11 h11 => ?_)
      refine wp_b (fun b => wp_some ⟨rfl, Bad.pre X10 (h11.1 b)⟩) (fun b => ?_)
      obtain ⟨R11, o11, x11, n11⟩ := h11.2 b
      have c9 := R11.2.2.2.2.2.2.2.2
      refine wp_bind (tm_puts (p0 := w6) (p1 := 0) (h' := h) R11 (by omega) (st_two (by rcases h6 with e | e <;> simp [e]) (by omega)) (by omega)) (fun q13 h13 => ?_)
      obtain ⟨R13, x13, z13⟩ := h13
      have R13' : Rd P t st h sl q13 := R13.sl (by omega)
      have O : Op T q13 := (Op.ofT (k.trans z.2.1).2.1).trans (o11.trans (Op.ofZ z13))
      have X : Ex t T q13 := X10.trans (x11.trans x13)
      have n13 : (T.1 0 8).toInt < (q13.1 0 8).toInt := by
        have := k.2.2.1
        rw [congrFun z13.1 8]
        omega
      have p13 : q13.1 0 1 = T.1 0 1 := X.p1
      refine wp_mono (ih q13 R13' (by rw [p13]; omega)) (fun w hw => ?_)
      cases w with
      | inl a => exact ⟨hw.1, O.trans hw.2.1, X.trans hw.2.2.1, by have := hw.2.2.2; omega⟩
      | inr c => exact ⟨hw.1, Bad.pre X hw.2⟩
    refine wp_bind (tm_see hr.2.1 hr.1) (fun q3 h3 => ?_)
    refine wp_eq (fun hc => go q3.2 h3.1 (h3.2 (by omega))) (fun _ => ?_)
    refine wp_bind (tm_see h3.1.2.2.2 h3.1.1) (fun q14 h14 => ?_)
    have k14 := h3.1.trans h14.1
    refine wp_eq (fun hc => go q14.2 k14 (h14.2 (by omega))) (fun _ => ?_)
    exact wp_some ⟨hr.tok k14 (by have := k14.2.2.1; omega), Op.ofT k14.2.1, Ex.ofT k14.2.1, k14.2.2.1⟩
theorem tm_summed {P : Nat → Nat → Option Int} {t st h : Nat} {sl : Int} {T : mT} (hr : Rd P t st h sl T) (hsl : 0 ≤ sl) : wp (fm_summed T) (fun w => Ans P t st (h + 1) sl T w) := by
  unfold fm_summed
  have fu : (FU : Int) = 1000000 := rfl
  refine wp_bind (tm_term hr hsl) (fun q1 h1 => ?_)
  refine wp_b (fun b => wp_some ⟨fun _ => h1.1 b, fun z => by cases z⟩) (fun b => ?_)
  obtain ⟨R1, o1, x1, n1⟩ := h1.2 b
  have c1 := im_0_1 R1.1
  have c8 := im_0_8 R1.1
  refine wp_bind (tm_summed_L9 (by omega) hsl FU q1.2 R1 (by omega)) (fun w h36 => ?_)
  cases w with
  | inl a => exact wp_some ⟨fun z => (by cases z), fun _ => ⟨h36.1, o1.trans h36.2.1, x1.trans h36.2.2.1, by have := h36.2.2.2; dsimp only; omega⟩⟩
  | inr c => exact wp_some ⟨fun _ => Bad.pre x1 h36.2, fun z => by rw [h36.1] at z; cases z⟩
theorem tm_compare {P : Nat → Nat → Option Int} {t st h : Nat} {sl : Int} {T : mT} (hr : Rd P t st h sl T) (hsl : 0 ≤ sl) : wp (fm_compare T) (fun w => Ans P t st (h + 1) sl T w) := by
  unfold fm_compare
  have l_m1 : ((-1) : Int32).toInt = -1 := by decide
  have l_60 : (60 : Int32).toInt = 60 := by decide
  have l_61 : (61 : Int32).toInt = 61 := by decide
  have l_62 : (62 : Int32).toInt = 62 := by decide
  have l_0 : (0 : Int32).toInt = 0 := by decide
  have l_1 : (1 : Int32).toInt = 1 := by decide
  refine wp_bind (tm_summed hr hsl) (fun q1 h1 => ?_)
  refine wp_b (fun b => wp_some ⟨fun _ => h1.1 b, fun z => by cases z⟩) (fun b => ?_)
  obtain ⟨R1, o1, x1, n1⟩ := h1.2 b
  refine wp_bind (tm_see R1.2.1 R1.1) (fun q3 h3 => ?_)
  have k3 := h3.1
  have go : (q3.2.1 0 8).toInt < (q3.2.1 0 1).toInt → wp (letv (mz q3.2 8 ((q3.2.1 0 8) + 1)) fun T5 => Option.bind (if q3.1 = 61 then (some (0)) else (if (T5.1 0 1) ≤ (T5.1 0 8) then (some (0)) else (bif inb (T5.1 0 8) 400 then (letv (T5.1 1 ((T5.1 0 8) : Int32).toNatClampNeg) fun v9 => if v9 = 61 then (some (1)) else (some (0))) else none)) : Option (Int32)) fun w6 => Option.bind (if w6 = 0 then (some (T5)) else (letv (mz T5 8 ((T5.1 0 8) + 1)) fun T13 => some (T13)) : Option (mT)) fun w11 => (fm_makes (q3.2.1 0 8) w11).bind fun q14 => if (b2i q14.1) = 0 then (some (false, q14.2)) else (Option.bind (if q3.1 = 60 then (if w6 = 0 then (some (0)) else (some (1))) else (if q3.1 = 61 then (some (2)) else (if w6 = 0 then (some (4)) else (some (3)))) : Option (Int32)) fun w16 => (fm_summed q14.2).bind fun q21 => if (b2i q21.1) = 0 then (some (false, q21.2)) else ((fm_puts (6 + w16) 0 q21.2).bind fun q23 => some (true, q23)))) (fun w => Ans P t st (h + 1) sl T w) := by
    intro hn
    have R3 : Rd P t st (h + 1) sl q3.2 := R1.tok k3 (by have := k3.2.2.1; omega)
    refine wp_letv (fun T5 e5 => ?_)
    have z := R3.on hn
    rw [← e5] at z
    have c1 := im_0_1 z.1.1
    have c8 := im_0_8 z.1.1
    refine wp_bind (Q := fun c => c ≠ 0 → (T5.1 0 8).toInt < (T5.1 0 1).toInt) ?_ (fun w6 h6 => ?_)
    · refine wp_eqn (fun _ => wp_some (fun z => absurd rfl z)) ?_
      refine wp_le (fun _ => wp_some (fun z => absurd rfl z)) (fun hc => ?_)
      refine wp_bif (inb_of (by omega) (by omega)) ?_
      exact wp_letv (fun v9 _ => wp_eqn (fun _ => wp_some (fun _ => hc)) (wp_some (fun z => absurd rfl z)))
    refine wp_bind (Q := fun w => Tok P T5 w) ?_ (fun w11 h11 => ?_)
    · by_cases e : w6 = 0
      · rw [if_pos e]
        exact wp_some (Tok.rfl' z.1.1 z.1.2.1)
      · rw [if_neg e]
        exact wp_letv (fun T13 e13 => wp_some (by rw [e13]; exact (tok_on z.1.1 (h6 e)).1))
    have k11 : Tok P q1.2 w11 := k3.trans (z.2.1.trans h11)
    have R11 : Rd P t st (h + 1) (sl + 1) w11 := z.1.tok h11 (by have := h11.2.2.1; omega)
    have X11 : Ex t T w11 := x1.trans (Ex.ofT k11.2.1)
    refine wp_bind (tm_makes R11) (fun q14 h14 => ?_)
    refine wp_b (fun _ => wp_some ⟨fun _ => Bad.pre X11 h14.1, fun z => by cases z⟩) (fun b => ?_)
    obtain ⟨R14, m14⟩ := h14.2 b
    have X14 : Ex t T q14.2 := X11.trans h14.1.2.2
    refine wp_bind (Q := fun c => c = 0 ∨ c = 1 ∨ c = 2 ∨ c = 3 ∨ c = 4) ?_ (fun w16 h16 => ?_)
    · refine wp_eqn (fun _ => wp_eqn (fun _ => wp_some (Or.inl rfl)) (wp_some (Or.inr (Or.inl rfl)))) ?_
      refine wp_eqn (fun _ => wp_some (Or.inr (Or.inr (Or.inl rfl)))) ?_
      exact wp_eqn (fun _ => wp_some (Or.inr (Or.inr (Or.inr (Or.inr rfl))))) (wp_some (Or.inr (Or.inr (Or.inr (Or.inl rfl)))))
    refine wp_bind (tm_summed R14 (by omega)) (fun q21 h21 => ?_)
    refine wp_b (fun b => wp_some ⟨fun _ => Bad.pre X14 (h21.1 b), fun z => by cases z⟩) (fun b => ?_)
    obtain ⟨R21, o21, x21, n21⟩ := h21.2 b
    have c9 := R21.2.2.2.2.2.2.2.2
    refine wp_bind (tm_puts (p0 := 6 + w16) (p1 := 0) (h' := h + 1) R21 (by omega) (st_two (by rcases h16 with e | e | e | e | e <;> rw [e] <;> decide) (by omega)) (by omega)) (fun q23 h23 => ?_)
    obtain ⟨R23, x23, z23⟩ := h23
    refine wp_some ⟨fun z => (by cases z), fun _ => ⟨R23.sl (by omega), o1.trans ((Op.ofT k11.2.1).trans ((Op.ofM m14).trans (o21.trans (Op.ofZ z23)))), X14.trans (x21.trans x23), ?_⟩⟩
    have := k11.2.2.1
    rw [m14.2.1 0 8 (Or.inr (by decide))] at n21
    dsimp only
    rw [congrFun z23.1 8]
    omega
  refine wp_eq (fun hc => go (h3.2 (by omega))) (fun _ => ?_)
  refine wp_eq (fun hc => go (h3.2 (by omega))) (fun _ => ?_)
  refine wp_eq (fun hc => go (h3.2 (by omega))) (fun _ => ?_)
  exact wp_bind (tm_fails k3.2.2.2 k3.1) (fun q h => wp_some ⟨fun _ => Bad.pre (x1.trans (Ex.ofT k3.2.1)) (Bad.ofT h.2), fun z => by rw [h.1] at z; cases z⟩)
