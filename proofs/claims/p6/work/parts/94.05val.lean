/-! ===== the reference's reader: values 2 ===== -/
/-- what is open stands -/
def Op (T w : mT) : Prop := w.1 7 = T.1 7 ∧ w.1 0 16 = T.1 0 16
theorem Op.rfl' {T : mT} : Op T T := ⟨rfl, rfl⟩
theorem Op.trans {A B C : mT} (h : Op A B) (g : Op B C) : Op A C := ⟨g.1.trans h.1, g.2.trans h.2⟩
theorem Op.ofT {A B : mT} (h : Tk A B) : Op A B := ⟨funext (fun j => h.2 7 j (Or.inl (by decide))), h.2 0 16 (Or.inr (by decide))⟩
theorem Op.ofM {A B : mT} (h : M12 A B) : Op A B := ⟨funext (fun j => h.2.1 7 j (Or.inl (by decide))), h.2.1 0 16 (Or.inr (by decide))⟩
theorem Op.ofZ {A B : mT} (h : Z7 A B) : Op A B := ⟨h.2, congrFun h.1 16⟩
theorem Bad.ofT {P : Nat → Nat → Option Int} {t : Nat} {T w : mT} (k : Tok P T w) : Bad P t T w := ⟨k.1, k.2.2.2, Ex.ofT k.2.1⟩
theorem tm_value {P : Nat → Nat → Option Int} {t st h : Nat} {sl : Int} {T : mT} (hr : Rd P t st h sl T) (hsl : 0 ≤ sl) : wp (fm_value T) (fun w => Bad P t T w.2 ∧ (w.1 = true → Rd P t st (h + 1) sl w.2 ∧ Op T w.2 ∧ (T.1 0 8).toInt < (w.2.1 0 8).toInt)) := by
  unfold fm_value
  have l_0 : (0 : Int32).toInt = 0 := by decide
  refine wp_bind (tm_see hr.2.1 hr.1) (fun q1 h1 => ?_)
  have k1 := h1.1
  have d8 := im_0_8 k1.1
  refine wp_bind (tm_isDigit d8.1 k1.1) (fun q2 _ => ?_)
  refine wp_b (fun _ => ?_) (fun _ => ?_)
  · refine wp_bind (tm_wordHere k1.2.2.2 k1.1) (fun q4 h4 => ?_)
    obtain ⟨k4, a7, lt⟩ := h4
    have R4 : Rd P t st h sl q4.2 := hr.tok (k1.trans k4) (by have := (k1.trans k4).2.2.1; omega)
    refine wp_le (fun hc => ?_) (fun _ => ?_)
    · have g := lt (by omega)
      refine wp_bind (tm_makes R4) (fun q6 h6 => ?_)
      have b6 := Bad.pre (Ex.ofT (k1.trans k4).2.1) h6.1
      refine wp_b (fun _ => wp_some ⟨b6, fun z => by cases z⟩) (fun b => ?_)
      obtain ⟨R6, m6⟩ := h6.2 b
      have n6 : q6.2.1 0 8 = q4.2.1 0 8 := m6.2.1 0 8 (Or.inr (by decide))
      have g6 : LET q6.2 (q6.2.1 0 8).toInt := by
        unfold LET
        rw [n6, m6.2.1 0 1 (Or.inr (by decide)), show q6.2.1 1 = q4.2.1 1 from funext (fun j => m6.2.1 1 j (Or.inl (by decide)))]
        exact g
      refine wp_bind (tm_passWord R6.2.1 R6.1) (fun q8 h8 => ?_)
      have g8 := h8.2 g6
      have R8 : Rd P t st h (sl + 1) q8 := R6.tok h8.1 (by omega)
      have c12 := im_0_12 R8.1
      have c9 := R4.2.2.2.2.2.2.2.2
      have e12 : (q8.1 0 12).toInt = (q4.2.1 0 12).toInt + 1 := by rw [h8.1.2.1.2 0 12 (Or.inr (by decide))]; exact m6.2.2
      refine wp_bind (tm_puts (p0 := 1) (p1 := q4.1) R8 (by omega) (st_word (by omega) a7 (by omega)) (by omega)) (fun q9 h9 => ?_)
      obtain ⟨R9, x9, z9⟩ := h9
      have R9' : Rd P t st (h + 1) sl q9 := by
        have e : sl + 1 - 1 = sl := by omega
        rw [e] at R9
        exact R9
      have X := ((Ex.ofT (t := t) (k1.trans k4).2.1).trans (h6.1.2.2)).trans ((Ex.ofT h8.1.2.1).trans x9)
      exact wp_some ⟨R9'.bad X, fun _ => ⟨R9', (Op.ofT (k1.trans k4).2.1).trans ((Op.ofM m6).trans ((Op.ofT h8.1.2.1).trans (Op.ofZ z9))), by have := (k1.trans k4).2.2.1; rw [congrFun z9.1 8]; rw [n6] at g8; omega⟩⟩
    · exact wp_bind (tm_fails R4.2.1 R4.1) (fun q10 h10 => wp_some ⟨Bad.ofT ((k1.trans k4).trans h10.2), fun z => by rw [h10.1] at z; cases z⟩)
  · refine wp_bind (tm_numberHere k1.2.2.2 k1.1) (fun q11 h11 => ?_)
    obtain ⟨k11, g11⟩ := h11
    refine wp_b (fun _ => wp_some ⟨Bad.ofT (k1.trans k11), fun z => by cases z⟩) (fun b => ?_)
    have g := (g11 b).1
    have R11 : Rd P t st h (sl + 1) q11.2 := hr.tok (k1.trans k11) (by have := k1.2.2.1; omega)
    refine wp_bind (tm_makes R11) (fun q13 h13 => ?_)
    refine wp_b (fun _ => wp_some ⟨Bad.pre (Ex.ofT (k1.trans k11).2.1) h13.1, fun z => by cases z⟩) (fun b => ?_)
    obtain ⟨R13, m13⟩ := h13.2 b
    have c12 := im_0_12 R13.1
    have c9 := R11.2.2.2.2.2.2.2.2
    have e12 := m13.2.2
    refine wp_bind (tm_puts (p0 := 0) (p1 := q13.2.1 0 10) R13 (by omega) (st_num (by omega)) (by omega)) (fun q15 h15 => ?_)
    obtain ⟨R15, x15, z15⟩ := h15
    have R15' : Rd P t st (h + 1) sl q15 := by
      have e : sl + 1 - 1 = sl := by omega
      rw [e] at R15
      exact R15
    have X := ((Ex.ofT (t := t) (k1.trans k11).2.1).trans (h13.1.2.2)).trans x15
    exact wp_some ⟨R15'.bad X, fun _ => ⟨R15', (Op.ofT (k1.trans k11).2.1).trans ((Op.ofM m13).trans (Op.ofZ z15)), by have := k1.2.2.1; rw [congrFun z15.1 8, m13.2.1 0 8 (Or.inr (by decide))]; omega⟩⟩
