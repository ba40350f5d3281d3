/-! ===== the reference's reader: settles, closes ===== -/
/-- what settling does -/
def Stl (P : Nat → Nat → Option Int) (t st n : Nat) (sl : Int) (k : Int32) (T w : mT) : Prop := ∃ m, m ≤ n ∧ Te P t st 1 m sl w ∧ Ex t T w ∧ w.1 7 = T.1 7 ∧ w.1 0 8 = T.1 0 8 ∧ (∀ i, i < n → T.1 7 i = 91 → i < m) ∧ (k.toInt = 1 → 0 < m → w.1 7 (m - 1) = 91)
theorem tm_settles_L0 {P : Nat → Nat → Option Int} {t st : Nat} {sl : Int} {k1 : Int32} (hk : 1 ≤ k1.toInt) (hsl : 0 ≤ sl) : ∀ (N n : Nat) (T : mT), Te P t st 1 n sl T → n < N → wp (fm_settles_L0 k1 N T) (fun w => Stl P t st n sl k1 T w) := by
  have l_0 : (0 : Int32).toInt = 0 := by decide
  have l_1 : (1 : Int32).toInt = 1 := by decide
  intro N
  induction N with
  | zero =>
    intro n T h hm
    exfalso; omega
  | succ N ih =>
    intro n T h hm
    rw [fm_settles_L0]
    obtain ⟨hn, hr, ho⟩ := h
    have c16 := im_0_16 hr.1
    refine wp_le (fun hc => wp_some ⟨n, Nat.le_refl _, ⟨hn, hr, ho⟩, Ex.rfl', rfl, rfl, fun i hi _ => hi, fun _ z => by omega⟩) (fun hc => ?_)
    obtain ⟨m, rfl⟩ : ∃ m, n = m + 1 := ⟨n - 1, by omega⟩
    have u := tS (a := T.1 0 16) (b := 1) (by omega) (by omega)
    have em : (T.1 0 16 - 1).toInt = (m : Int) := by omega
    have im : (T.1 0 16 - 1).toNatClampNeg = m := cl_idx em
    refine wp_bif (inb_of (by omega) (by omega)) ?_
    refine wp_letv (fun v2 e2 => ?_)
    rw [im] at e2
    refine wp_bind tm_strength (fun q3 h3 => ?_)
    refine wp_lt (fun hc3 => wp_some ⟨m + 1, Nat.le_refl _, ⟨hn, hr, ho⟩, Ex.rfl', rfl, rfl, fun i hi _ => hi, fun hk1 _ => ?_⟩) (fun hc3 => ?_)
    · rcases ho m (by omega) with e | e | e | e
      · exact absurd (h3.2.2.2 (Or.inl (by rw [e2]; exact e))) (by omega)
      · exact absurd (h3.2.2.2 (Or.inr (Or.inl (by rw [e2]; exact e)))) (by omega)
      · exact absurd (h3.2.2.2 (Or.inr (Or.inr (by rw [e2]; exact e)))) (by omega)
      · exact e
    have hv := h3.2.2.1 (by omega)
    refine wp_letv (fun T5 e5 => ?_)
    have a5 : T5.1 0 16 = T.1 0 16 - 1 := by rw [e5]; exact mz_at _ _ _
    have b5 : ∀ r j, (r ≠ 0 ∨ j ≠ 16) → T5.1 r j = T.1 r j := fun r j hj => by rw [e5]; exact mz_ne hj
    have s5 : T5.1 7 = T.1 7 := funext (fun j => b5 7 j (Or.inl (by decide)))
    have R5 : Rd P t st (1 + AC (T.1 7) (m + 1)) (sl + (m : Int) + 1) T5 := by
      rw [e5]
      exact (hr.z16 (by omega) (by omega)).sl (by omega)
    refine wp_bif (inb_of (by rw [a5]; omega) (by rw [a5]; omega)) ?_
    refine wp_letv (fun v6 e6 => ?_)
    rw [a5, im, s5, ← e2] at e6
    have c9 := R5.2.2.2.2.2.2.2.2
    have ac : AC (T.1 7) (m + 1) = AC (T.1 7) m + (if T.1 7 m = 12 ∨ T.1 7 m = 13 then 1 else 0) := rfl
    have sp : stepH (v6 + 16 * 0) (1 + AC (T.1 7) (m + 1)) = some (1 + AC (T.1 7) m) ∧ AC (T.1 7) m ≤ AC (T.1 7) (m + 1) := by
      rw [e6]
      rw [← e2] at ac
      rcases hv with e | e | e
      · rw [e]
        rw [e, if_neg (by decide)] at ac
        rw [st_not (by omega), ac]
        exact ⟨rfl, by omega⟩
      · rw [e]
        rw [e, if_pos (Or.inl rfl)] at ac
        rw [st_two (by decide) (by omega), ac]
        exact ⟨by congr 1, by omega⟩
      · rw [e]
        rw [e, if_pos (Or.inr rfl)] at ac
        rw [st_two (by decide) (by omega), ac]
        exact ⟨by congr 1, by omega⟩
    refine wp_bind (tm_puts (p0 := v6) (p1 := 0) R5 (by omega) sp.1 (by have := sp.2; omega)) (fun q7 h7 => ?_)
    obtain ⟨R7, x7, z7⟩ := h7
    have a7 : q7.1 0 16 = T.1 0 16 - 1 := by rw [congrFun z7.1 16]; exact a5
    have s7 : q7.1 7 = T.1 7 := by rw [z7.2]; exact s5
    have X7 : Ex t T q7 := Ex.trans (by rw [e5]; exact Ex.z (by decide)) x7
    have n7 : q7.1 0 8 = T.1 0 8 := by rw [congrFun z7.1 8]; exact b5 0 8 (Or.inr (by decide))
    have fin : ∀ w : mT, Rd P t st (1 + AC (T.1 7) m) (sl + (m : Int)) w → w.1 0 16 = T.1 0 16 - 1 → Ex t T w → w.1 7 = T.1 7 → w.1 0 8 = T.1 0 8 → wp (fm_settles_L0 k1 N w) (fun w => Stl P t st (m + 1) sl k1 T w) := by
      intro w rw' aw xw sw nw
      refine wp_mono (ih m w ⟨by rw [aw]; exact em, by rw [sw]; exact rw', fun i hi => by rw [sw]; exact ho i (by omega)⟩ (by omega)) (fun y hy => ?_)
      obtain ⟨p, h1, h2, h3, h4, h5, h6, h7⟩ := hy
      refine ⟨p, by omega, h2, xw.trans h3, h4.trans sw, h5.trans nw, fun i hi ei => ?_, h7⟩
      have ne : i ≠ m := by
        intro z
        rw [z, ← e2] at ei
        rw [ei] at hv
        revert hv
        decide
      exact h6 i (by omega) (by rw [sw]; exact ei)
    refine wp_bif (inb_of (by rw [a7]; omega) (by rw [a7]; omega)) ?_
    refine wp_letv (fun v8 _ => ?_)
    have R7' : Rd P t st (1 + AC (T.1 7) m) (sl + (m : Int)) q7 := R7.sl (by omega)
    refine wp_eqn (fun _ => ?_) (fin q7 R7' a7 X7 s7 n7)
    refine wp_letv (fun T10 e10 => ?_)
    refine fin T10 (by rw [e10]; exact R7'.z13) (by rw [e10, mz_ne (Or.inr (by decide))]; exact a7) (by rw [e10]; exact X7.trans (Ex.z (by decide))) (by rw [e10, mz_no _ _ _ (by decide)]; exact s7) (by rw [e10, mz_ne (Or.inr (by decide))]; exact n7)
theorem tm_settles {P : Nat → Nat → Option Int} {t st n : Nat} {sl : Int} {k1 : Int32} {T : mT} (hk : 1 ≤ k1.toInt) (hsl : 0 ≤ sl) (h : Te P t st 1 n sl T) : wp (fm_settles k1 T) (fun w => Stl P t st n sl k1 T w) := by
  unfold fm_settles
  have c16 := im_0_16 h.2.1.1
  have e := h.1
  have fu : (FU : Int) = 1000000 := rfl
  exact wp_bind (tm_settles_L0 hk hsl FU n T h (by omega)) (fun w hw => wp_some hw)
theorem tm_isInside_L2 {P : Nat → Nat → Option Int} {T : mT} {n : Nat} (hI : IQ P T) (hn : (T.1 0 16).toInt = (n : Int)) : ∀ (N : Nat) (a1 : Int32) (i : Nat), a1.toInt = (i : Int) → (∀ j, j < i → T.1 7 j ≠ 91) → (n : Int) - i < (N : Int) → i ≤ n → wp (fm_isInside_L2 T N a1) (fun w => Sum.elim (fun _ => ∀ j, j < n → T.1 7 j ≠ 91) (fun b => b = true ∧ ∃ j, j < n ∧ T.1 7 j = 91) w) := by
  have l_1 : (1 : Int32).toInt = 1 := by decide
  have l_91 : (91 : Int32).toInt = 91 := by decide
  have c16 := im_0_16 hI
  intro N
  induction N with
  | zero =>
    intro a1 i e hj hm hi
    exfalso; omega
  | succ N ih =>
    intro a1 i e hj hm hi
    rw [fm_isInside_L2]
    refine wp_le (fun hc => wp_some (fun j h => hj j (by omega))) (fun hc => ?_)
    refine wp_bif (inb_of (by omega) (by omega)) ?_
    refine wp_letv (fun v2 e2 => ?_)
    rw [cl_idx e] at e2
    refine wp_if (fun h9 => wp_some ⟨rfl, i, by omega, by rw [← e2]; exact h9⟩) (fun h9 => ?_)
    have u := tA (a := a1) (b := 1) (by omega) (by omega)
    refine ih (a1 + 1) (i + 1) (by omega) (fun j h => ?_) (by omega) (by omega)
    by_cases z : j = i
    · rw [z, ← e2]
      exact h9
    · exact hj j (by omega)
theorem tm_isInside {P : Nat → Nat → Option Int} {T : mT} {n : Nat} (hI : IQ P T) (hn : (T.1 0 16).toInt = (n : Int)) : wp (fm_isInside T) (fun b => (b = true → ∃ j, j < n ∧ T.1 7 j = 91) ∧ (b = false → ∀ j, j < n → T.1 7 j ≠ 91)) := by
  unfold fm_isInside
  have c16 := im_0_16 hI
  have fu : (FU : Int) = 1000000 := rfl
  refine wp_bind (tm_isInside_L2 hI hn FU 0 0 (by decide) (fun j h => absurd h (Nat.not_lt_zero _)) (by omega) (Nat.zero_le _)) (fun w hw => ?_)
  cases w with
  | inl a => exact wp_some ⟨fun z => (by cases z), fun _ => hw⟩
  | inr c => exact wp_some ⟨fun _ => hw.2, fun z => by rw [hw.1] at z; cases z⟩
/-- behind an operand: some number open -/
def TeE (P : Nat → Nat → Option Int) (t st e : Nat) (sl : Int) (T : mT) : Prop := ∃ n, Te P t st e n sl T
theorem TeE.tok {P : Nat → Nat → Option Int} {t st e : Nat} {sl sl' : Int} {T w : mT} (h : TeE P t st e sl T) (k : Tok P T w) (hs : sl' ≤ sl + ((w.1 0 8).toInt - (T.1 0 8).toInt)) : TeE P t st e sl' w := by
  obtain ⟨n, h⟩ := h
  exact ⟨n, h.tok k hs⟩
theorem tm_closes_L5 {P : Nat → Nat → Option Int} {t st : Nat} {sl : Int} (hsl : 0 ≤ sl) : ∀ (N : Nat) (T : mT), TeE P t st 1 sl T → (T.1 0 1).toInt - (T.1 0 8).toInt < (N : Int) → wp (fm_closes_L5 N T) (fun w => TeE P t st 1 sl w ∧ Ex t T w ∧ (T.1 0 8).toInt ≤ (w.1 0 8).toInt) := by
  have l_0 : (0 : Int32).toInt = 0 := by decide
  have l_1 : (1 : Int32).toInt = 1 := by decide
  have l_3 : (3 : Int32).toInt = 3 := by decide
  have l_93 : (93 : Int32).toInt = 93 := by decide
  intro N
  induction N with
  | zero =>
    intro T h hm
    obtain ⟨n, _, hr, _⟩ := h
    exfalso
    have := hr.2.1
    omega
  | succ N ih =>
    intro T h hm
    rw [fm_closes_L5]
    obtain ⟨n, h⟩ := h
    have hr := h.2.1
    refine wp_bind (tm_see hr.2.1 hr.1) (fun q2 h2 => ?_)
    obtain ⟨k2, m2⟩ := h2
    have kn := k2.2.2.1
    have T2 : Te P t st 1 n sl q2.2 := h.tok k2 (by omega)
    have stop : wp (some q2.2) (fun w => TeE P t st 1 sl w ∧ Ex t T w ∧ (T.1 0 8).toInt ≤ (w.1 0 8).toInt) := wp_some ⟨⟨n, T2⟩, Ex.ofT k2.2.1, kn⟩
    refine wp_eq (fun hc => ?_) (fun _ => stop)
    have lt := m2 (by omega)
    refine wp_bind (tm_isInside T2.2.1.1 T2.1) (fun q4 h4 => ?_)
    refine wp_b (fun _ => stop) (fun b => ?_)
    obtain ⟨j, hj, ej⟩ := h4.1 b
    refine wp_bind (tm_settles (k1 := 1) (by decide) hsl T2) (fun q6 h6 => ?_)
    obtain ⟨m, hm1, T6, x6, s6, n6, i6, t6⟩ := h6
    have jm := i6 j hj ej
    have top := t6 l_1 (by omega)
    obtain ⟨p, rfl⟩ : ∃ p, m = p + 1 := ⟨m - 1, by omega⟩
    rw [show p + 1 - 1 = p by omega] at top
    have e16 := T6.1
    have c16 := im_0_16 T6.2.1.1
    have u := tS (a := q6.1 0 16) (b := 1) (by omega) (by omega)
    have ac : AC (q6.1 7) (p + 1) = AC (q6.1 7) p + (if q6.1 7 p = 12 ∨ q6.1 7 p = 13 then 1 else 0) := rfl
    rw [top, if_neg (by decide)] at ac
    refine wp_letv (fun T7 e7 => ?_)
    have T7' : Te P t st 1 p sl T7 := by
      have s7 : T7.1 7 = q6.1 7 := by rw [e7]; exact mz_no _ _ _ (by decide)
      refine ⟨by rw [e7, mz_at]; omega, ?_, fun i hi => by rw [s7]; exact T6.2.2 i (by omega)⟩
      rw [s7, e7]
      have z := T6.2.1
      rw [ac] at z
      exact ((z.z16 (by omega) (by omega)).le (by omega))
    refine wp_letv (fun T8 e8 => ?_)
    have T8' : Te P t st 1 p sl T8 := by
      have s8 : T8.1 7 = T7.1 7 := by rw [e8]; exact mz_no _ _ _ (by decide)
      refine ⟨by rw [e8, mz_ne (Or.inr (by decide))]; exact T7'.1, ?_, fun i hi => by rw [s8]; exact T7'.2.2 i hi⟩
      rw [s8, e8]
      exact T7'.2.1.z13
    have X8 : Ex t T T8 := ((Ex.ofT k2.2.1).trans x6).trans (by rw [e8, e7]; exact (Ex.z (by decide)).trans (Ex.z (by decide)))
    have n8 : T8.1 0 8 = q2.2.1 0 8 := by rw [e8, e7, mz_ne (Or.inr (by decide)), mz_ne (Or.inr (by decide))]; exact n6
    have p8 : T8.1 0 1 = q2.2.1 0 1 := by rw [X8.p1]; exact k2.tp.symm
    have z := T8'.2.1.on (by rw [n8, p8]; exact lt)
    refine wp_letv (fun T9 e9 => ?_)
    rw [← e9] at z
    have T9' : Te P t st 1 p sl T9 := T8'.tok z.2.1 (by omega)
    refine wp_bind (tm_settles (k1 := 3) (by decide) hsl T9') (fun q10 h10 => ?_)
    obtain ⟨m', _, T10, x10, s10, n10, _, _⟩ := h10
    have X10 : Ex t T q10 := (X8.trans (Ex.ofT z.2.1.2.1)).trans x10
    have g10 : (T.1 0 8).toInt < (q10.1 0 8).toInt := by rw [n10, z.2.2, n8]; omega
    exact wp_mono (ih q10 ⟨m', T10⟩ (by rw [X10.p1]; omega)) (fun w hw => ⟨hw.1, X10.trans hw.2.1, by have := hw.2.2; omega⟩)
theorem tm_closes {P : Nat → Nat → Option Int} {t st : Nat} {sl : Int} {T : mT} (hsl : 0 ≤ sl) (h : TeE P t st 1 sl T) : wp (fm_closes T) (fun w => TeE P t st 1 sl w ∧ Ex t T w ∧ (T.1 0 8).toInt ≤ (w.1 0 8).toInt) := by
  unfold fm_closes
  have fu : (FU : Int) = 1000000 := rfl
  obtain ⟨n, h⟩ := h
  refine wp_bind (tm_settles (k1 := 3) (by decide) hsl h) (fun q1 h1 => ?_)
  obtain ⟨m, _, T1, x1, s1, n1, _, _⟩ := h1
  have c1 := im_0_1 T1.2.1.1
  have c8 := im_0_8 T1.2.1.1
  exact wp_bind (tm_closes_L5 hsl FU q1 ⟨m, T1⟩ (by omega)) (fun w hw => wp_some ⟨hw.1, x1.trans hw.2.1, by have := hw.2.2; rw [n1] at this; exact this⟩)
