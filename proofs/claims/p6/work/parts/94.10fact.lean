/-! ===== the reference's reader: facts, tests ===== -/
theorem tm_opens {P : Nat → Nat → Option Int} {t st n : Nat} {sl : Int} {p0 : Int32} {T : mT} (hp : p0 = 11 ∨ p0 = 91) (hsl : 0 ≤ sl) (hn : (T.1 0 8).toInt < (T.1 0 1).toInt) (h : Te P t st 0 n sl T) : wp (fm_opens p0 T) (fun w => Bad P t T w.2 ∧ (w.1 = true → Te P t st 0 (n + 1) (sl - 1) w.2 ∧ w.2.1 0 8 = T.1 0 8 ∧ w.2.1 1 = T.1 1)) := by
  unfold fm_opens
  have l_1 : (1 : Int32).toInt = 1 := by decide
  obtain ⟨e16, hr, ho⟩ := h
  have hr' := hr
  obtain ⟨r1, r2, r3, r4, r5, r6, r7, r8, r9⟩ := hr
  refine wp_eqn (fun _ => ?_) ?_
  · exact wp_bind (tm_fails r2 r1) (fun q h => wp_some ⟨Bad.ofT h.2, fun z => by rw [h.1] at z; cases z⟩)
  have c1 := im_0_1 r1
  have c3 := im_r3 r1 t
  refine wp_letv (fun T2 e2 => ?_)
  have a2 : T2.1 0 16 = T.1 0 16 := by rw [e2]; exact mz_ne (Or.inr (by decide))
  refine wp_bif (inb_of (by rw [a2]; omega) (by rw [a2]; omega)) ?_
  refine wp_letv (fun T3 e3 => ?_)
  rw [a2, cl_idx e16] at e3
  refine wp_letv (fun T4 e4 => wp_some ?_)
  have a3 : T3.1 0 16 = T.1 0 16 := by rw [e3, ma_ne (Or.inl (by decide))]; exact a2
  have u := tA (a := T3.1 0 16) (b := 1) (by rw [a3]; omega) (by rw [a3]; omega)
  have R3 : Rd P t st (0 + AC (T.1 7) n) (sl + (n : Int)) T3 := by rw [e3, e2]; exact (hr'.z13).r7
  have s4 : T4.1 7 = T3.1 7 := by rw [e4]; exact mz_no _ _ _ (by decide)
  have s3 : ∀ i, i ≠ n → T3.1 7 i = T.1 7 i := fun i hi => by rw [e3, ma_ne (Or.inr hi), e2]; exact mz_ne (Or.inl (by decide))
  have s3n : T3.1 7 n = p0 := by rw [e3]; exact ma_at _ _ _ _
  have ac : AC (T4.1 7) (n + 1) = AC (T.1 7) n := by
    rw [s4]
    show AC (T3.1 7) n + (if T3.1 7 n = 12 ∨ T3.1 7 n = 13 then 1 else 0) = AC (T.1 7) n
    rw [AC_congr n (fun i hi => s3 i (by omega)), s3n, if_neg (by rcases hp with e | e <;> rw [e] <;> decide)]
    rfl
  have R4 : Rd P t st (0 + AC (T.1 7) n) (sl - 1 + ((n + 1 : Nat) : Int)) T4 := by
    rw [e4]
    exact (R3.z16 (by rw [u, a3]; omega) (by rw [u, a3]; omega)).sl (by omega)
  have X : Ex t T T4 := by
    rw [e4, e3, e2]
    exact ((Ex.z (by decide)).trans Ex.r7).trans (Ex.z (by decide))
  refine ⟨R4.bad X, fun _ => ⟨⟨by rw [e4, mz_at, u, a3, e16]; rfl, by rw [ac]; exact R4, fun i hi => ?_⟩, ?_, ?_⟩⟩
  · rw [s4]
    by_cases z : i = n
    · rw [z, s3n]
      rcases hp with e | e
      · exact Or.inl e
      · exact Or.inr (Or.inr (Or.inr e))
    · rw [s3 i z]
      exact ho i (by omega)
  · dsimp only
    rw [e4, mz_ne (Or.inr (by decide)), e3, ma_ne (Or.inl (by decide)), e2, mz_ne (Or.inr (by decide))]
  · dsimp only
    rw [e4, mz_no _ _ _ (by decide), e3, ma_no _ _ _ (by decide), e2, mz_no _ _ _ (by decide)]
theorem tm_fact_L2 {P : Nat → Nat → Option Int} {t st : Nat} {sl : Int} (hsl : 0 ≤ sl) : ∀ (N : Nat) (a1 : Int32) (T : mT), TeE P t st 0 sl T → (T.1 0 1).toInt - (T.1 0 8).toInt + 1 + (if a1 = 0 then 0 else 1) ≤ (N : Int) → wp (fm_fact_L2 N a1 T) (fun w => Sum.elim (fun a => TeE P t st 0 sl a.2 ∧ Ex t T a.2 ∧ (T.1 0 8).toInt ≤ (a.2.1 0 8).toInt) (fun c => c.1 = false ∧ Bad P t T c.2) w) := by
  have l_0 : (0 : Int32).toInt = 0 := by decide
  have l_1 : (1 : Int32).toInt = 1 := by decide
  have l_91 : (91 : Int32).toInt = 91 := by decide
  intro N
  induction N with
  | zero =>
    intro a1 T h hm
    obtain ⟨n, _, hr, _⟩ := h
    exfalso
    have := hr.2.1
    by_cases z : a1 = 0
    · rw [if_pos z] at hm
      omega
    · rw [if_neg z] at hm
      omega
  | succ N ih =>
    intro a1 T h hm
    rw [fm_fact_L2]
    refine wp_if (fun _ => wp_some ⟨h, Ex.rfl', Int.le_refl _⟩) (fun ha => ?_)
    rw [if_neg ha] at hm
    obtain ⟨n, h⟩ := h
    have hr := h.2.1
    refine wp_bind (tm_see2 hr.2.1 hr.1) (fun q2 h2 => ?_)
    obtain ⟨⟨k2, m2⟩, n2⟩ := h2
    refine wp_bind (tm_isWord2 k2.2.2.2 k2.1) (fun q3 h3 => ?_)
    obtain ⟨⟨k3, l3⟩, n3⟩ := h3
    have k := k2.trans k3
    have kn := k.2.2.1
    have T3 : Te P t st 0 n sl q3.2 := h.tok k (by omega)
    refine wp_b (fun _ => ?_) (fun b3 => ?_)
    · refine wp_eq (fun hc => ?_) (fun _ => ?_)
      · have ns := n2 (by omega)
        have e3 := n3 ns
        have lt : (q3.2.1 0 8).toInt < (q3.2.1 0 1).toInt := by rw [e3]; exact ns.1
        refine wp_bind (tm_opens (p0 := 91) (Or.inr rfl) hsl lt T3) (fun q6 h6 => ?_)
        refine wp_b (fun _ => wp_some ⟨rfl, Bad.pre (Ex.ofT k.2.1) h6.1⟩) (fun b6 => ?_)
        obtain ⟨T6, n6, s6⟩ := h6.2 b6
        have X6 : Ex t T q6.2 := (Ex.ofT k.2.1).trans h6.1.2.2
        have z := T6.2.1.on (by rw [n6, h6.1.2.2.p1]; exact lt)
        refine wp_letv (fun T8 e8 => ?_)
        rw [← e8] at z
        have T8' : Te P t st 0 (n + 1) sl T8 := T6.tok z.2.1 (by omega)
        have X8 : Ex t T T8 := X6.trans (Ex.ofT z.2.1.2.1)
        have g8 : (T.1 0 8).toInt < (T8.1 0 8).toInt := by rw [z.2.2, n6]; omega
        refine wp_mono (ih 1 T8 ⟨n + 1, T8'⟩ (by rw [X8.p1, if_neg (by decide)]; omega)) (fun w hw => ?_)
        cases w with
        | inl a => exact ⟨hw.1, X8.trans hw.2.1, by have := hw.2.2; omega⟩
        | inr c => exact ⟨hw.1, Bad.pre X8 hw.2⟩
      · refine wp_mono (ih 0 q3.2 ⟨n, T3⟩ (by rw [k.tp, if_pos rfl]; omega)) (fun w hw => ?_)
        cases w with
        | inl a => exact ⟨hw.1, (Ex.ofT k.2.1).trans hw.2.1, by have := hw.2.2; omega⟩
        | inr c => exact ⟨hw.1, Bad.pre (Ex.ofT k.2.1) hw.2⟩
    · have L := l3 b3
      refine wp_bind (tm_opens (p0 := 11) (Or.inl rfl) hsl L.1 T3) (fun q9 h9 => ?_)
      refine wp_b (fun _ => wp_some ⟨rfl, Bad.pre (Ex.ofT k.2.1) h9.1⟩) (fun b9 => ?_)
      obtain ⟨T9, n9, s9⟩ := h9.2 b9
      have L9 : LET q9.2 (q9.2.1 0 8).toInt := by
        unfold LET
        rw [n9, s9, h9.1.2.2.p1]
        exact L
      refine wp_bind (tm_passWord T9.2.1.2.1 T9.2.1.1) (fun q11 h11 => ?_)
      have g := h11.2 L9
      have T11 : Te P t st 0 (n + 1) sl q11 := T9.tok h11.1 (by omega)
      have X11 : Ex t T q11 := ((Ex.ofT k.2.1).trans h9.1.2.2).trans (Ex.ofT h11.1.2.1)
      have g8 : (T.1 0 8).toInt < (q11.1 0 8).toInt := by rw [n9] at g; omega
      refine wp_mono (ih 1 q11 ⟨n + 1, T11⟩ (by rw [X11.p1, if_neg (by decide)]; omega)) (fun w hw => ?_)
      cases w with
      | inl a => exact ⟨hw.1, X11.trans hw.2.1, by have := hw.2.2; omega⟩
      | inr c => exact ⟨hw.1, Bad.pre X11 hw.2⟩
theorem tm_fact {P : Nat → Nat → Option Int} {t st : Nat} {sl : Int} {T : mT} (hsl : 0 ≤ sl) (h : TeE P t st 0 sl T) : wp (fm_fact T) (fun w => (w.1 = false → Bad P t T w.2) ∧ (w.1 = true → TeE P t st 1 sl w.2 ∧ Ex t T w.2 ∧ (T.1 0 8).toInt ≤ (w.2.1 0 8).toInt)) := by
  unfold fm_fact
  have fu : (FU : Int) = 1000000 := rfl
  have hI := h
  obtain ⟨_, _, hI, _⟩ := hI
  have c1 := im_0_1 hI.1
  have c8 := im_0_8 hI.1
  refine wp_bind (tm_fact_L2 hsl FU 1 T h (by rw [if_neg (by decide)]; omega)) (fun w hw => ?_)
  cases w with
  | inl a =>
    obtain ⟨⟨n, h12⟩, x12, m12⟩ := hw
    refine wp_bind (tm_compare h12.2.1 (by omega)) (fun q13 h13 => wp_some ⟨fun b => Bad.pre x12 (h13.1 b), fun b => ?_⟩)
    obtain ⟨R, o, x, m⟩ := h13.2 b
    exact ⟨⟨n, h12.op o R (by omega)⟩, x12.trans x, by dsimp only; omega⟩
  | inr c => exact wp_some ⟨fun _ => hw.2, fun z => by rw [hw.1] at z; cases z⟩
theorem tm_tested_L12 {P : Nat → Nat → Option Int} {t st : Nat} {sl : Int} (hsl : 0 ≤ sl) : ∀ (N : Nat) (a1 : Int32) (T : mT), (if a1 = 0 then TeE P t st 1 sl T else TeE P t st 0 sl T) → (T.1 0 8).toInt ≤ (T.1 0 1).toInt → (T.1 0 1).toInt - (T.1 0 8).toInt + 1 + (if a1 = 0 then 0 else 1) ≤ (N : Int) → wp (fm_tested_L12 N a1 T) (fun w => Sum.elim (fun a => TeE P t st 1 sl a.2 ∧ Ex t T a.2 ∧ (T.1 0 8).toInt ≤ (a.2.1 0 8).toInt) (fun c => c.1 = false ∧ Bad P t T c.2) w) := by
  have l_0 : (0 : Int32).toInt = 0 := by decide
  have l_1 : (1 : Int32).toInt = 1 := by decide
  intro N
  induction N with
  | zero =>
    intro a1 T h hn hm
    exfalso
    by_cases z : a1 = 0
    · rw [if_pos z] at hm
      omega
    · rw [if_neg z] at hm
      omega
  | succ N ih =>
    intro a1 T h hn hm
    rw [fm_tested_L12]
    refine wp_if (fun ha => wp_some ⟨by rw [if_pos ha] at h; exact h, Ex.rfl', Int.le_refl _⟩) (fun ha => ?_)
    rw [if_neg ha] at hm h
    refine wp_bind (tm_fact hsl h) (fun q4 h4 => ?_)
    refine wp_b (fun b => wp_some ⟨rfl, h4.1 b⟩) (fun b => ?_)
    obtain ⟨T4, x4, m4⟩ := h4.2 b
    refine wp_bind (tm_closes hsl T4) (fun q6 h6 => ?_)
    obtain ⟨T6, x6, m6⟩ := h6
    have X6 := x4.trans x6
    have T6' := T6
    obtain ⟨n6, _, R6, _⟩ := T6'
    refine wp_bind (tm_isWord R6.2.1 R6.1) (fun q7 h7 => ?_)
    refine wp_bind (Q := fun w => Tok P q6 w.2 ∧ (w.1 ≠ 0 → LET w.2 (w.2.1 0 8).toInt)) ?_ (fun w8 h8 => ?_)
    · refine wp_b (fun _ => ?_) (fun b7 => wp_some ⟨h7.1, fun _ => h7.2 b7⟩)
      refine wp_bind (tm_isWord h7.1.2.2.2 h7.1.1) (fun q10 h10 => ?_)
      exact wp_b (fun _ => wp_some ⟨h7.1.trans h10.1, fun z => absurd rfl z⟩) (fun b10 => wp_some ⟨h7.1.trans h10.1, fun _ => h10.2 b10⟩)
    obtain ⟨k8, l8⟩ := h8
    have kn8 := k8.2.2.1
    have T8 : TeE P t st 1 sl w8.2 := T6.tok k8 (by omega)
    have X8 : Ex t T w8.2 := X6.trans (Ex.ofT k8.2.1)
    refine wp_if (fun e8 => ?_) (fun e8 => ?_)
    · refine wp_mono (ih w8.1 w8.2 (by rw [if_pos e8]; exact T8) k8.2.2.2 (by rw [X8.p1, if_pos e8]; omega)) (fun w hw => ?_)
      cases w with
      | inl a => exact ⟨hw.1, X8.trans hw.2.1, by have := hw.2.2; omega⟩
      | inr c => exact ⟨hw.1, Bad.pre X8 hw.2⟩
    have L8 := l8 e8
    have ns := L8.nsp k8.1
    refine wp_bind (tm_isWord2 k8.2.2.2 k8.1) (fun q13 h13 => ?_)
    have e13 := h13.2 ns
    rw [e13]
    refine wp_bind (Q := fun c => c = 12 ∨ c = 13) ?_ (fun w14 h14 => ?_)
    · exact wp_b (fun _ => wp_some (Or.inr rfl)) (fun _ => wp_some (Or.inl rfl))
    refine wp_bind (tm_passWord k8.2.2.2 k8.1) (fun q16 h16 => ?_)
    have g16 := h16.2 L8
    have T16 : TeE P t st 1 (sl + 1) q16 := T8.tok h16.1 (by omega)
    have X16 : Ex t T q16 := X8.trans (Ex.ofT h16.1.2.1)
    refine wp_bind tm_strength (fun q17 h17 => ?_)
    have s17 : 1 ≤ q17.toInt := h17.2.2.2 (Or.inr h14)
    obtain ⟨n16, T16⟩ := T16
    refine wp_bind (tm_settles s17 (by omega) T16) (fun q18 h18 => ?_)
    obtain ⟨m, _, T18, x18, s18, n18, _, _⟩ := h18
    have X18 := X16.trans x18
    have r6 := T18.2.1.2.2.2.2.2.1
    have r2 := T18.2.1.2.1
    have c1 := im_0_1 T18.2.1.1
    have c3 := im_r3 T18.2.1.1 t
    have c16 := T18.1
    refine wp_bif (inb_of (by omega) (by omega)) ?_
    refine wp_letv (fun T19 e19 => ?_)
    rw [cl_idx c16] at e19
    refine wp_letv (fun T20 e20 => ?_)
    have a19 : T19.1 0 16 = q18.1 0 16 := by rw [e19]; exact ma_ne (Or.inl (by decide))
    have u := tA (a := T19.1 0 16) (b := 1) (by rw [a19]; omega) (by rw [a19]; omega)
    have s20 : T20.1 7 = T19.1 7 := by rw [e20]; exact mz_no _ _ _ (by decide)
    have s19 : ∀ i, i ≠ m → T19.1 7 i = q18.1 7 i := fun i hi => by rw [e19]; exact ma_ne (Or.inr hi)
    have s19m : T19.1 7 m = w14 := by rw [e19]; exact ma_at _ _ _ _
    have ac : AC (T20.1 7) (m + 1) = 1 + AC (q18.1 7) m := by
      rw [s20]
      show AC (T19.1 7) m + (if T19.1 7 m = 12 ∨ T19.1 7 m = 13 then 1 else 0) = 1 + AC (q18.1 7) m
      rw [AC_congr m (fun i hi => s19 i (by omega)), s19m, if_pos h14]
      omega
    have T20' : Te P t st 0 (m + 1) sl T20 := by
      refine ⟨by rw [e20, mz_at, u, a19, c16]; rfl, ?_, fun i hi => ?_⟩
      · rw [ac, show 0 + (1 + AC (q18.1 7) m) = 1 + AC (q18.1 7) m by omega, e20, e19]
        rw [e19] at u a19
        exact (T18.2.1.r7.z16 (by rw [u, a19]; omega) (by rw [u, a19]; omega)).sl (by omega)
      · rw [s20]
        by_cases z : i = m
        · rw [z, s19m]
          rcases h14 with e | e
          · exact Or.inr (Or.inl e)
          · exact Or.inr (Or.inr (Or.inl e))
        · rw [s19 i z]
          exact T18.2.2 i (by omega)
    have X20 : Ex t T T20 := X18.trans (by rw [e20, e19]; exact Ex.r7.trans (Ex.z (by decide)))
    have n20 : T20.1 0 8 = q16.1 0 8 := by rw [e20, mz_ne (Or.inr (by decide)), e19, ma_ne (Or.inl (by decide))]; exact n18
    refine wp_mono (ih w8.1 T20 (by rw [if_neg e8]; exact ⟨m + 1, T20'⟩) T20'.2.1.2.1 (by rw [X20.p1, if_neg e8, n20]; omega)) (fun w hw => ?_)
    cases w with
    | inl a => exact ⟨hw.1, X20.trans hw.2.1, by have := hw.2.2; rw [n20] at this; omega⟩
    | inr c => exact ⟨hw.1, Bad.pre X20 hw.2⟩
theorem tm_tested {P : Nat → Nat → Option Int} {t st : Nat} {sl : Int} {T : mT} (hsl : 0 ≤ sl) (h : Rd P t st 0 sl T) : wp (fm_tested T) (fun w => (w.1 = false → Bad P t T w.2) ∧ (w.1 = true → Rd P t st 1 sl w.2 ∧ Ex t T w.2 ∧ (w.2.1 0 16).toInt = 0 ∧ (T.1 0 8).toInt ≤ (w.2.1 0 8).toInt)) := by
  unfold fm_tested
  have fu : (FU : Int) = 1000000 := rfl
  have l_0 : (0 : Int32).toInt = 0 := by decide
  have l_1 : (1 : Int32).toInt = 1 := by decide
  refine wp_letv (fun T1 e1 => ?_)
  refine wp_letv (fun T2 e2 => ?_)
  have c16 := im_0_16 h.1
  have R2 : Rd P t st 0 sl T2 := by
    rw [e2, e1]
    exact (h.z16 (by decide) (by decide)).z13
  have a2 : (T2.1 0 16).toInt = 0 := by rw [e2, mz_ne (Or.inr (by decide)), e1, mz_at]; exact l_0
  have n2 : T2.1 0 8 = T.1 0 8 := by rw [e2, mz_ne (Or.inr (by decide)), e1, mz_ne (Or.inr (by decide))]
  have X2 : Ex t T T2 := by rw [e2, e1]; exact (Ex.z (by decide)).trans (Ex.z (by decide))
  have E2 : TeE P t st 0 sl T2 := ⟨0, a2, R2.sl (by omega), fun i hi => absurd hi (Nat.not_lt_zero _)⟩
  have c1 := im_0_1 R2.1
  have c8 := im_0_8 R2.1
  refine wp_bind (tm_tested_L12 hsl FU 1 T2 (by rw [if_neg (by decide)]; exact E2) R2.2.1 (by rw [if_neg (by decide)]; omega)) (fun w hw => ?_)
  cases w with
  | inl a =>
    obtain ⟨⟨n, hT⟩, xa, ma'⟩ := hw
    have Xa := X2.trans xa
    show wp ((fm_isInside a.2).bind fun q22 => if (b2i q22) = 0 then ((fm_settles 1 a.2).bind fun q24 => some (true, q24)) else ((fm_see a.2).bind fun q25 => (fm_fails 0 (q25.2.1 0 8) q25.2).bind fun q26 => some (q26.1, q26.2))) _
    refine wp_bind (tm_isInside hT.2.1.1 hT.1) (fun q22 h22 => ?_)
    refine wp_b (fun b => ?_) (fun _ => ?_)
    · have no := h22.2 b
      refine wp_bind (tm_settles (k1 := 1) (by decide) hsl hT) (fun q24 h24 => wp_some ⟨fun z => (by cases z), fun _ => ?_⟩)
      obtain ⟨m, hm, T24, x24, s24, n24, _, t24⟩ := h24
      have m0 : m = 0 := by
        by_cases z : m = 0
        · exact z
        · exfalso
          have e := t24 l_1 (by omega)
          rw [s24] at e
          exact no (m - 1) (by omega) e
      subst m0
      have R := T24.2.1
      rw [show 1 + AC (q24.1 7) 0 = 1 from rfl] at R
      exact ⟨R.sl (by omega), Xa.trans x24, T24.1, by dsimp only; rw [n24]; rw [n2] at ma'; exact ma'⟩
    · refine wp_bind (tm_see hT.2.1.2.1 hT.2.1.1) (fun q25 h25 => ?_)
      exact wp_bind (tm_fails h25.1.2.2.2 h25.1.1) (fun q26 h26 => wp_some ⟨fun _ => Bad.pre Xa (Bad.ofT (h25.1.trans h26.2)), fun z => by rw [h26.1] at z; cases z⟩)
  | inr c => exact wp_some ⟨fun _ => Bad.pre X2 hw.2, fun z => by rw [hw.1] at z; cases z⟩
