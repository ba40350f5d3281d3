/-! ===== the reference answers 3 ===== -/
theorem tm_likeliest {P : Nat → Nat → Option Int} {p0 : Int32} {p1 : Int32} {T : mT}  (hI : IQ P T) : wp (fm_likeliest p0 p1 T) (fun w => True) := by
  unfold fm_likeliest
  have l_0 : (0 : Int32).toInt = 0 := by decide
  have fu : (FU : Int) = 1000000 := rfl
  refine wp_bind (tm_isPerson hI) (fun q1 hq1 => ?_)
  have h2 := hq1
  refine wp_b (fun hb3 => ?_) (fun hb3 => ?_)
  · skip
    exact wp_some trivial
  · skip
    obtain ⟨k4, k5⟩ := h2 hb3
    refine wp_bind (tm_in ) (fun q3 hq6 => ?_)
    have w7 := Int32.toInt_toInt64 (p1)
    have w8 : (0 : Int64).toInt = 0 := by decide
    have w9 : (1 : Int64).toInt = 1 := by decide
    have h10 := hq6
    refine wp_b (fun hb11 => ?_) (fun hb11 => ?_)
    · skip
      exact wp_some trivial
    · skip
      obtain ⟨k12, k13⟩ := h10 hb11
      refine wp_bind (tm_likeliest_L25 hI FU (0 : Int32) (0 : Int32) (by omega) (by omega) (by omega)) (fun w14 hq14 => ?_)
      obtain ⟨h15, h16⟩ := hq14
      exact wp_some trivial
theorem tm_flatteryOf_L4 {P : Nat → Nat → Option Int} {k1 : Int32} {T : mT}  (hI : IQ P T) : ∀ (N : Nat) (a2 : Int32) (a3 : Int32), 0 ≤ a3.toInt → a3.toInt ≤ 40 → 40 - a3.toInt < (N : Int) → wp (fm_flatteryOf_L4 k1 T N a2 a3) (fun w => (0 ≤ (w.2).toInt) ∧ ((w.2).toInt ≤ 40)) := by
  intro N
  induction N with
  | zero =>
    intro a2 a3 vl_a3 vu_a3 hm
    exfalso; omega
  | succ N ih =>
    intro a2 a3 vl_a3 vu_a3 hm
    rw [fm_flatteryOf_L4]
    obtain ⟨m_1, e_m1⟩ : ∃ x : Int32, x = (-1) := ⟨_, rfl⟩
    try rw [← e_m1]
    have l_m1 : m_1.toInt = -1 := by rw [e_m1]; decide
    have l_1 : (1 : Int32).toInt = 1 := by decide
    have l_5 : (5 : Int32).toInt = 5 := by decide
    refine wp_bif (inb_of (by omega) (by omega)) ?_
    refine wp_letv (fun v1 ev1 => ?_)
    have c1 := im_10_5 hI
    rw [← ev1] at c1
    have c2 := im_10_5 hI
    have c3 : (v1).toInt = ((T.1 10 ((5 : Int32)).toNatClampNeg)).toInt := congrArg Int32.toInt ev1
    refine wp_le (fun hc4 => ?_) (fun hc4 => ?_)
    · skip
      exact wp_some ⟨(by first | omega | (dsimp only; omega)), (by first | omega | (dsimp only; omega))⟩
    · skip
      refine wp_bind (tm_tellingOf_2 (by omega) (by omega) hI) (fun q3 hq5 => ?_)
      obtain ⟨h6, h7⟩ := hq5
      refine wp_bind (tm_tellingOf_0 (by omega) (by omega) hI) (fun q4 hq8 => ?_)
      obtain ⟨h9, h10⟩ := hq8
      refine wp_eqn (fun hc11 => ?_) ?_
      · skip
        refine wp_eqn (fun hc12 => ?_) ?_
        · skip
          have t13 : (a3 + (1 : Int32) : Int32).toInt = (a3).toInt + ((1 : Int32)).toInt := tA (by omega) (by omega)
          exact (ih a2 (a3 + (1 : Int32)) (by omega) (by omega) (by omega))
        · skip
          refine wp_bind (tm_tellingOf_1 (by omega) (by omega) hI) (fun q7 hq14 => ?_)
          obtain ⟨h15, h16⟩ := hq14
          refine wp_eqn (fun hc17 => ?_) ?_
          · skip
            refine wp_bind (tm_tellingOf_3 (by omega) (by omega) hI) (fun q9 hq18 => ?_)
            obtain ⟨h19, h20⟩ := hq18
            refine wp_bind (tm_personOf_0 (by omega) (by omega) hI) (fun q10 hq21 => ?_)
            obtain ⟨h22, h23⟩ := hq21
            refine wp_bind (tm_tellingOf_3 (by omega) (by omega) hI) (fun q11 hq24 => ?_)
            obtain ⟨h25, h26⟩ := hq24
            have t27 := xor_i (a := q9) (b := q10) (n := 6) (m := 63) (by decide) (by decide) (by omega) (by omega) (by omega) (by omega)
            have t28 := andL_i (q9 ^^^ q10) q11 (by omega)
            refine wp_bind (tm_bits (by omega) (by omega)) (fun q12 hq29 => ?_)
            refine wp_bind (tm_tellingOf_3 (by omega) (by omega) hI) (fun q13 hq30 => ?_)
            obtain ⟨h31, h32⟩ := hq30
            have t33 := andL_i (q9 ^^^ q10) (q13 ^^^ m_1) (by omega)
            refine wp_bind (tm_bits (by omega) (by omega)) (fun q14 hq34 => ?_)
            have t35 : (a3 + (1 : Int32) : Int32).toInt = (a3).toInt + ((1 : Int32)).toInt := tA (by omega) (by omega)
            exact (ih (a2 + (q12 - q14)) (a3 + (1 : Int32)) (by omega) (by omega) (by omega))
          · skip
            have t36 : (a3 + (1 : Int32) : Int32).toInt = (a3).toInt + ((1 : Int32)).toInt := tA (by omega) (by omega)
            exact (ih a2 (a3 + (1 : Int32)) (by omega) (by omega) (by omega))
      · skip
        have t37 : (a3 + (1 : Int32) : Int32).toInt = (a3).toInt + ((1 : Int32)).toInt := tA (by omega) (by omega)
        exact (ih a2 (a3 + (1 : Int32)) (by omega) (by omega) (by omega))
theorem tm_flatteryOf {P : Nat → Nat → Option Int} {p0 : Int32} {T : mT}  (hI : IQ P T) : wp (fm_flatteryOf p0 T) (fun w => True) := by
  unfold fm_flatteryOf
  have l_0 : (0 : Int32).toInt = 0 := by decide
  have fu : (FU : Int) = 1000000 := rfl
  refine wp_bind (tm_flatteryOf_L4 hI FU (0 : Int32) (0 : Int32) (by omega) (by omega) (by omega)) (fun w15 hq1 => ?_)
  obtain ⟨h2, h3⟩ := hq1
  exact wp_some trivial
theorem tm_flatters_L50 {P : Nat → Nat → Option Int} {k1 : Int32} {k2 : Int32} {T : mT}  (hI : IQ P T) : ∀ (N : Nat) (a3 : Int32) (a4 : Int32), -1 ≤ a3.toInt → a3.toInt ≤ 7 → 0 ≤ a4.toInt → a4.toInt ≤ 8 → 8 - a4.toInt < (N : Int) → wp (fm_flatters_L50 k1 k2 T N a3 a4) (fun w => (-1 ≤ (w.1).toInt) ∧ ((w.1).toInt ≤ 7) ∧ (0 ≤ (w.2).toInt) ∧ ((w.2).toInt ≤ 8)) := by
  intro N
  induction N with
  | zero =>
    intro a3 a4 vl_a3 vu_a3 vl_a4 vu_a4 hm
    exfalso; omega
  | succ N ih =>
    intro a3 a4 vl_a3 vu_a3 vl_a4 vu_a4 hm
    rw [fm_flatters_L50]
    have l_0 : (0 : Int32).toInt = 0 := by decide
    have l_1 : (1 : Int32).toInt = 1 := by decide
    refine wp_bif (inb_of (by omega) (by omega)) ?_
    refine wp_letv (fun v6 ev6 => ?_)
    have c1 := im_10_1 hI
    rw [← ev6] at c1
    have c2 := im_10_1 hI
    have c3 : (v6).toInt = ((T.1 10 ((1 : Int32)).toNatClampNeg)).toInt := congrArg Int32.toInt ev6
    refine wp_le (fun hc4 => ?_) (fun hc4 => ?_)
    · skip
      exact wp_some ⟨(by first | omega | (dsimp only; omega)), (by first | omega | (dsimp only; omega)), (by first | omega | (dsimp only; omega)), (by first | omega | (dsimp only; omega))⟩
    · skip
      refine wp_bind (tm_flatteryOf hI) (fun q8 hq5 => ?_)
      refine wp_le (fun hc6 => ?_) (fun hc6 => ?_)
      · skip
        refine wp_bind (tm_flatteryOf hI) (fun q10 hq7 => ?_)
        refine wp_le (fun hc8 => ?_) (fun hc8 => ?_)
        · skip
          have t9 : (a4 + (1 : Int32) : Int32).toInt = (a4).toInt + ((1 : Int32)).toInt := tA (by omega) (by omega)
          exact (ih a3 (a4 + (1 : Int32)) (by omega) (by omega) (by omega) (by omega) (by omega))
        · skip
          have t10 : (a4 + (1 : Int32) : Int32).toInt = (a4).toInt + ((1 : Int32)).toInt := tA (by omega) (by omega)
          exact (ih a4 (a4 + (1 : Int32)) (by omega) (by omega) (by omega) (by omega) (by omega))
      · skip
        refine wp_le (fun hc11 => ?_) (fun hc11 => ?_)
        · skip
          have t12 : (a4 + (1 : Int32) : Int32).toInt = (a4).toInt + ((1 : Int32)).toInt := tA (by omega) (by omega)
          exact (ih a3 (a4 + (1 : Int32)) (by omega) (by omega) (by omega) (by omega) (by omega))
        · skip
          have t13 : (a4 + (1 : Int32) : Int32).toInt = (a4).toInt + ((1 : Int32)).toInt := tA (by omega) (by omega)
          exact (ih a4 (a4 + (1 : Int32)) (by omega) (by omega) (by omega) (by omega) (by omega))
theorem tm_flatters {P : Nat → Nat → Option Int} {p0 : Int32} {p1 : Int32} {T : mT}  (hI : IQ P T) : wp (fm_flatters p0 p1 T) (fun w => True) := by
  unfold fm_flatters
  obtain ⟨m_1, e_m1⟩ : ∃ x : Int32, x = (-1) := ⟨_, rfl⟩
  try rw [← e_m1]
  have l_m1 : m_1.toInt = -1 := by rw [e_m1]; decide
  have l_0 : (0 : Int32).toInt = 0 := by decide
  have fu : (FU : Int) = 1000000 := rfl
  refine wp_bind (tm_isIsland hI) (fun q1 hq1 => ?_)
  have h2 := hq1
  have c3 := im_10_0 hI
  refine wp_b (fun hb4 => ?_) (fun hb4 => ?_)
  · skip
    exact wp_some trivial
  · skip
    have k5 := h2 hb4
    refine wp_bind (tm_in ) (fun q3 hq6 => ?_)
    have w7 := Int32.toInt_toInt64 (p1)
    have w8 : (0 : Int64).toInt = 0 := by decide
    have w9 : (1 : Int64).toInt = 1 := by decide
    have h10 := hq6
    refine wp_b (fun hb11 => ?_) (fun hb11 => ?_)
    · skip
      exact wp_some trivial
    · skip
      obtain ⟨k12, k13⟩ := h10 hb11
      refine wp_eq_lo (by omega) (fun hc14 => ?_) (fun hc14 => ?_)
      · skip
        refine wp_bind (tm_isPerson hI) (fun q14 hq15 => ?_)
        have h16 := hq15
        refine wp_b (fun hb17 => ?_) (fun hb17 => ?_)
        · skip
          exact wp_some trivial
        · skip
          obtain ⟨k18, k19⟩ := h16 hb17
          refine wp_bind (tm_flatteryOf hI) (fun q16 hq20 => ?_)
          exact wp_some trivial
      · skip
        refine wp_bind (tm_flatters_L50 hI FU m_1 (0 : Int32) (by omega) (by omega) (by omega) (by omega) (by omega)) (fun w13 hq21 => ?_)
        obtain ⟨h22, h23, h24, h25⟩ := hq21
        exact wp_some trivial
theorem tm_turnedBy_L48 {P : Nat → Nat → Option Int} {k1 : Int32} {k2 : Int32} {k3 : Int32} {k4 : Int32}   : ∀ (N : Nat) (a5 : Int32) (a6 : Int32) (T : mT), 0 ≤ a6.toInt → a6.toInt ≤ 6 → IQ P T → 6 - a6.toInt < (N : Int) → wp (fm_turnedBy_L48 k1 k2 k3 k4 N a5 a6 T) (fun w => (0 ≤ (w.2.1).toInt) ∧ ((w.2.1).toInt ≤ 6) ∧ (IQ P w.2.2) ∧ (Sm T w.2.2)) := by
  intro N
  induction N with
  | zero =>
    intro a5 a6 T vl_a6 vu_a6 hI hm
    exfalso; omega
  | succ N ih =>
    intro a5 a6 T vl_a6 vu_a6 hI hm
    rw [fm_turnedBy_L48]
    have l_0 : (0 : Int32).toInt = 0 := by decide
    have l_1 : (1 : Int32).toInt = 1 := by decide
    refine wp_bif (inb_of (by omega) (by omega)) ?_
    refine wp_letv (fun v6 ev6 => ?_)
    have c1 := im_10_0 hI
    rw [← ev6] at c1
    have c2 := im_10_0 hI
    have c3 : (v6).toInt = ((T.1 10 ((0 : Int32)).toNatClampNeg)).toInt := congrArg Int32.toInt ev6
    refine wp_le (fun hc4 => ?_) (fun hc4 => ?_)
    · skip
      exact wp_some ⟨(by first | omega | (dsimp only; omega)), (by first | omega | (dsimp only; omega)), hI, Sm.rfl'⟩
    · skip
      refine wp_bind (tm_sumOf hI) (fun q8 hq5 => ?_)
      obtain ⟨h6, h7⟩ := hq5
      refine wp_le (fun hc8 => ?_) (fun hc8 => ?_)
      · skip
        have t9 : (a6 + (1 : Int32) : Int32).toInt = (a6).toInt + ((1 : Int32)).toInt := tA (by omega) (by omega)
        have zz10 := (ih (a5 + (0 : Int32)) (a6 + (1 : Int32)) q8.2 (by omega) (by omega) h6 (by omega))
        exact wp_mono zz10 (fun w hw => ⟨hw.1, hw.2.1, hw.2.2.1, (h7.trans hw.2.2.2)⟩)
      · skip
        refine wp_bind (Q := fun w => True) ?_ (fun w10 hq11 => ?_)
        · skip
          refine wp_le (fun hc12 => ?_) (fun hc12 => ?_)
          · skip
            exact wp_some trivial
          · skip
            exact wp_some trivial
        · skip
          refine wp_lt (fun hc13 => ?_) (fun hc13 => ?_)
          · skip
            have t14 : (a6 + (1 : Int32) : Int32).toInt = (a6).toInt + ((1 : Int32)).toInt := tA (by omega) (by omega)
            have zz15 := (ih (a5 + (0 : Int32)) (a6 + (1 : Int32)) q8.2 (by omega) (by omega) h6 (by omega))
            exact wp_mono zz15 (fun w hw => ⟨hw.1, hw.2.1, hw.2.2.1, (h7.trans hw.2.2.2)⟩)
          · skip
            have t16 : (a6 + (1 : Int32) : Int32).toInt = (a6).toInt + ((1 : Int32)).toInt := tA (by omega) (by omega)
            have zz17 := (ih (a5 + (1 : Int32)) (a6 + (1 : Int32)) q8.2 (by omega) (by omega) h6 (by omega))
            exact wp_mono zz17 (fun w hw => ⟨hw.1, hw.2.1, hw.2.2.1, (h7.trans hw.2.2.2)⟩)
theorem tm_turnedBy {P : Nat → Nat → Option Int} {p0 p1 : Int32} {T : mT} (hl_p0 : 0 ≤ p0.toInt) (hu_p0 : p0.toInt ≤ 7) (hl_p1 : 0 ≤ p1.toInt) (hu_p1 : p1.toInt ≤ 7) (hI : IQ P T) : wp (fm_turnedBy p0 p1 T) (fun w => (IQ P w.2) ∧ (Sm T w.2)) := by
  unfold fm_turnedBy
  have l_0 : (0 : Int32).toInt = 0 := by decide
  have l_999 : (999 : Int32).toInt = 999 := by decide
  have fu : (FU : Int) = 1000000 := rfl
  refine wp_bind (tm_words hl_p1 hu_p1 hl_p0 hu_p0 hI) (fun q1 h1 => ?_)
  refine wp_bind (tm_clauseFor (h1.1.2.2.2.1) h1.1) (fun q2 h2 => ?_)
  refine wp_bind (Q := fun w => IQ P w.2 ∧ Sm q2.2 w.2) ?_ (fun w3 h3 => ?_)
  · refine wp_le (fun hc => ?_) (fun hc => wp_some ⟨h2.1, Sm.rfl'⟩)
    have hca := CA.same h2.2.1 (h2.2.2 (by omega))
    rw [← h2.2.1 0 22 (Or.inr (by decide))] at hca
    exact wp_bind (tm_heldSum hca (by omega) h2.1) (fun q5 h5 => wp_some ⟨h5.1, h5.2.1⟩)
  · refine wp_bind (tm_turnedBy_L48 FU 0 0 w3.2 (by omega) (by omega) h3.1 (by omega)) (fun w13 h13 => ?_)
    obtain ⟨x1, x2, x3, x4⟩ := h13
    exact wp_some ⟨x3, h1.2.trans (h2.2.1.trans (h3.2.trans x4))⟩
theorem tm_ask_L29 {P : Nat → Nat → Option Int} {k1 : Int32} {k2 : Int32} (hl_k1 : 0 ≤ k1.toInt) (hu_k1 : k1.toInt ≤ 7)  : ∀ (N : Nat) (a3 : Int32) (a4 : Int32) (a5 : Int32) (T : mT), 0 ≤ a5.toInt → a5.toInt ≤ 8 → IQ P T → 8 - a5.toInt < (N : Int) → wp (fm_ask_L29 k1 k2 N a3 a4 a5 T) (fun w => (0 ≤ (w.2.2.1).toInt) ∧ ((w.2.2.1).toInt ≤ 8) ∧ (IQ P w.2.2.2) ∧ (Sm T w.2.2.2)) := by
  intro N
  induction N with
  | zero =>
    intro a3 a4 a5 T vl_a5 vu_a5 hI hm
    exfalso; omega
  | succ N ih =>
    intro a3 a4 a5 T vl_a5 vu_a5 hI hm
    rw [fm_ask_L29]
    have l_0 : (0 : Int32).toInt = 0 := by decide
    have l_1 : (1 : Int32).toInt = 1 := by decide
    refine wp_bif (inb_of (by omega) (by omega)) ?_
    refine wp_letv (fun v5 ev5 => ?_)
    have c1 := im_10_1 hI
    rw [← ev5] at c1
    have c2 := im_10_1 hI
    have c3 : (v5).toInt = ((T.1 10 ((1 : Int32)).toNatClampNeg)).toInt := congrArg Int32.toInt ev5
    refine wp_le (fun hc4 => ?_) (fun hc4 => ?_)
    · skip
      exact wp_some ⟨(by first | omega | (dsimp only; omega)), (by first | omega | (dsimp only; omega)), hI, Sm.rfl'⟩
    · skip
      refine wp_eqn (fun hc5 => ?_) ?_
      · skip
        have t6 : (a5 + (1 : Int32) : Int32).toInt = (a5).toInt + ((1 : Int32)).toInt := tA (by omega) (by omega)
        have zz7 := (ih a3 a4 (a5 + (1 : Int32)) T (by omega) (by omega) hI (by omega))
        exact wp_mono zz7 (fun w hw => ⟨hw.1, hw.2.1, hw.2.2.1, hw.2.2.2⟩)
      · skip
        refine wp_bind (tm_turnedBy (by omega) (by omega) (by omega) (by omega) hI) (fun q8 hq8 => ?_)
        obtain ⟨h9, h10⟩ := hq8
        refine wp_lt (fun hc11 => ?_) (fun hc11 => ?_)
        · skip
          have t12 : (a5 + (1 : Int32) : Int32).toInt = (a5).toInt + ((1 : Int32)).toInt := tA (by omega) (by omega)
          have zz13 := (ih a5 q8.1 (a5 + (1 : Int32)) q8.2 (by omega) (by omega) h9 (by omega))
          exact wp_mono zz13 (fun w hw => ⟨hw.1, hw.2.1, hw.2.2.1, (h10.trans hw.2.2.2)⟩)
        · skip
          refine wp_lt (fun hc14 => ?_) (fun hc14 => ?_)
          · skip
            have t15 : (a5 + (1 : Int32) : Int32).toInt = (a5).toInt + ((1 : Int32)).toInt := tA (by omega) (by omega)
            have zz16 := (ih a5 q8.1 (a5 + (1 : Int32)) q8.2 (by omega) (by omega) h9 (by omega))
            exact wp_mono zz16 (fun w hw => ⟨hw.1, hw.2.1, hw.2.2.1, (h10.trans hw.2.2.2)⟩)
          · skip
            have t17 : (a5 + (1 : Int32) : Int32).toInt = (a5).toInt + ((1 : Int32)).toInt := tA (by omega) (by omega)
            have zz18 := (ih a3 a4 (a5 + (1 : Int32)) q8.2 (by omega) (by omega) h9 (by omega))
            exact wp_mono zz18 (fun w hw => ⟨hw.1, hw.2.1, hw.2.2.1, (h10.trans hw.2.2.2)⟩)
theorem tm_ask {P : Nat → Nat → Option Int} {p0 : Int32} {p1 : Int32} {T : mT}  (hI : IQ P T) : wp (fm_ask p0 p1 T) (fun w => (IQ P w.2) ∧ (Sm T w.2)) := by
  unfold fm_ask
  obtain ⟨m_2, e_m2⟩ : ∃ x : Int32, x = (-2) := ⟨_, rfl⟩
  try rw [← e_m2]
  have l_m2 : m_2.toInt = -2 := by rw [e_m2]; decide
  obtain ⟨m_1, e_m1⟩ : ∃ x : Int32, x = (-1) := ⟨_, rfl⟩
  try rw [← e_m1]
  have l_m1 : m_1.toInt = -1 := by rw [e_m1]; decide
  have l_0 : (0 : Int32).toInt = 0 := by decide
  have fu : (FU : Int) = 1000000 := rfl
  refine wp_bind (tm_isPerson hI) (fun q1 hq1 => ?_)
  have h2 := hq1
  refine wp_b (fun hb3 => ?_) (fun hb3 => ?_)
  · skip
    exact wp_some ⟨hI, Sm.rfl'⟩
  · skip
    obtain ⟨k4, k5⟩ := h2 hb3
    refine wp_bind (tm_in ) (fun q3 hq6 => ?_)
    have w7 := Int32.toInt_toInt64 (p1)
    have w8 : (0 : Int64).toInt = 0 := by decide
    have w9 : (1 : Int64).toInt = 1 := by decide
    have h10 := hq6
    refine wp_b (fun hb11 => ?_) (fun hb11 => ?_)
    · skip
      exact wp_some ⟨hI, Sm.rfl'⟩
    · skip
      obtain ⟨k12, k13⟩ := h10 hb11
      refine wp_bind (tm_ask_L29 (by omega) (by omega) FU m_2 (0 : Int32) (0 : Int32) T (by omega) (by omega) hI (by omega)) (fun w11 hq14 => ?_)
      obtain ⟨h15, h16, h17, h18⟩ := hq14
      refine wp_eq_lo (by omega) (fun hc19 => ?_) (fun hc19 => ?_)
      · skip
        exact wp_some ⟨h17, h18⟩
      · skip
        exact wp_some ⟨h17, h18⟩
theorem tm_chain_L24 {P : Nat → Nat → Option Int} {k1 k2 : Int32} {T : mT} (hI : IQ P T) : ∀ (N : Nat) (a3 : Int32), 0 ≤ a3.toInt → a3.toInt < (T.1 10 (5 : Int32).toNatClampNeg).toInt → a3.toInt + 1 < (N : Int) → wp (fm_chain_L24 k1 k2 T N a3) (fun w => (0 ≤ (w).toInt) ∧ ((w).toInt ≤ 39)) := by
  have h40 := im_10_5 hI
  intro N
  induction N with
  | zero =>
    intro a3 h0 hs hm
    exfalso; omega
  | succ N ih =>
    intro a3 h0 hs hm
    rw [fm_chain_L24]
    have l_0 : (0 : Int32).toInt = 0 := by decide
    refine wp_bind (tm_from h0 hs hI) (fun q1 h1 => ?_)
    refine wp_lt (fun _ => wp_some ⟨h0, by omega⟩) (fun hc => ?_)
    refine wp_bind (tm_from h0 hs hI) (fun q3 h3 => ?_)
    have e : q3 = q1 := h3.1.trans h1.1.symm
    subst e
    exact ih _ (by omega) (by omega) (by omega)
theorem tm_chain {P : Nat → Nat → Option Int} {p0 : Int32} {p1 : Int32} {T : mT}  (hI : IQ P T) : wp (fm_chain p0 p1 T) (fun w => True) := by
  unfold fm_chain
  have l_0 : (0 : Int32).toInt = 0 := by decide
  have l_1 : (1 : Int32).toInt = 1 := by decide
  have fu : (FU : Int) = 1000000 := rfl
  refine wp_bind (tm_isTelling hI) (fun q1 hq1 => ?_)
  have h2 := hq1
  have c3 := im_10_5 hI
  refine wp_b (fun hb4 => ?_) (fun hb4 => ?_)
  · skip
    exact wp_some trivial
  · skip
    obtain ⟨k5, k6, k7⟩ := h2 hb4
    refine wp_bind (tm_in ) (fun q3 hq8 => ?_)
    have w9 := Int32.toInt_toInt64 (p1)
    have w10 : (0 : Int64).toInt = 0 := by decide
    have w11 : (2 : Int64).toInt = 2 := by decide
    have h12 := hq8
    refine wp_b (fun hb13 => ?_) (fun hb13 => ?_)
    · skip
      exact wp_some trivial
    · skip
      obtain ⟨k14, k15⟩ := h12 hb13
      refine wp_bind (tm_chain_L24 hI FU p0 (by omega) (by omega) (by omega)) (fun w8 hq16 => ?_)
      obtain ⟨h17, h18⟩ := hq16
      refine wp_eq_lo (by omega) (fun hc19 => ?_) (fun hc19 => ?_)
      · skip
        refine wp_bind (tm_stepsOf (by omega) (by omega) hI) (fun q12 hq20 => ?_)
        exact wp_some trivial
      · skip
        refine wp_eq_lo (by omega) (fun hc21 => ?_) (fun hc21 => ?_)
        · skip
          refine wp_bind (tm_tellingOf_0 (by omega) (by omega) hI) (fun q11 hq22 => ?_)
          obtain ⟨h23, h24⟩ := hq22
          exact wp_some trivial
        · skip
          exact wp_some trivial
theorem tm_slip_L34 {P : Nat → Nat → Option Int} {k1 k2 : Int32} {T : mT} (hI : IQ P T) : ∀ (N : Nat) (a3 a4 : Int32), 0 ≤ a4.toInt → a4.toInt < (T.1 10 (5 : Int32).toNatClampNeg).toInt → a4.toInt + 1 < (N : Int) → wp (fm_slip_L34 k1 k2 T N a3 a4) (fun w => (0 ≤ (w.2).toInt) ∧ ((w.2).toInt ≤ 39)) := by
  have h40 := im_10_5 hI
  intro N
  induction N with
  | zero =>
    intro a3 a4 h0 hs hm
    exfalso; omega
  | succ N ih =>
    intro a3 a4 h0 hs hm
    rw [fm_slip_L34]
    have l_0 : (0 : Int32).toInt = 0 := by decide
    refine wp_bind (tm_from h0 hs hI) (fun q6 h6 => ?_)
    refine wp_lt (fun _ => wp_some ⟨h0, by dsimp only; omega⟩) (fun hc => ?_)
    refine wp_bind (tm_tellingOf_3 h0 (by omega) hI) (fun q8 _ => ?_)
    refine wp_bind (tm_from h0 hs hI) (fun q9 h9 => ?_)
    have e : q9 = q6 := h9.1.trans h6.1.symm
    subst e
    refine wp_bind (tm_tellingOf_3 (by omega) (by omega) hI) (fun q10 _ => ?_)
    refine wp_bind (Q := fun _ => True) tm_isOf (fun q11 _ => ?_)
    refine wp_bind (Q := fun _ => True) (wp_b (fun _ => wp_some trivial) (fun _ => wp_some trivial)) (fun w12 _ => ?_)
    refine wp_bind (tm_from h0 hs hI) (fun q14 h14 => ?_)
    have e : q14 = q9 := h14.1.trans h9.1.symm
    subst e
    exact ih _ _ (by omega) (by omega) (by omega)
theorem tm_slip {P : Nat → Nat → Option Int} {p0 : Int32} {p1 : Int32} {T : mT}  (hI : IQ P T) : wp (fm_slip p0 p1 T) (fun w => True) := by
  unfold fm_slip
  obtain ⟨m_2, e_m2⟩ : ∃ x : Int32, x = (-2) := ⟨_, rfl⟩
  try rw [← e_m2]
  have l_m2 : m_2.toInt = -2 := by rw [e_m2]; decide
  have l_0 : (0 : Int32).toInt = 0 := by decide
  have l_1 : (1 : Int32).toInt = 1 := by decide
  have fu : (FU : Int) = 1000000 := rfl
  refine wp_bind (tm_isTelling hI) (fun q1 hq1 => ?_)
  have h2 := hq1
  have c3 := im_10_5 hI
  refine wp_b (fun hb4 => ?_) (fun hb4 => ?_)
  · skip
    exact wp_some trivial
  · skip
    obtain ⟨k5, k6, k7⟩ := h2 hb4
    refine wp_bif (inb_of (by omega) (by omega)) ?_
    refine wp_letv (fun v3 ev3 => ?_)
    have c8 := im_10_0 hI
    rw [← ev3] at c8
    have c9 := im_10_0 hI
    have c10 : (v3).toInt = ((T.1 10 ((0 : Int32)).toNatClampNeg)).toInt := congrArg Int32.toInt ev3
    refine wp_bind (tm_in ) (fun q4 hq11 => ?_)
    have w12 := Int32.toInt_toInt64 (p1)
    have w13 : (0 : Int64).toInt = 0 := by decide
    have t14 : (v3 - (1 : Int32) : Int32).toInt = (v3).toInt - ((1 : Int32)).toInt := tS (by omega) (by omega)
    have w15 := Int32.toInt_toInt64 ((v3 - 1))
    have h16 := hq11
    refine wp_b (fun hb17 => ?_) (fun hb17 => ?_)
    · skip
      exact wp_some trivial
    · skip
      obtain ⟨k18, k19⟩ := h16 hb17
      refine wp_bind (tm_slip_L34 hI FU m_2 p0 (by omega) (by omega) (by omega)) (fun w15 hq20 => ?_)
      obtain ⟨h21, h22⟩ := hq20
      exact wp_some trivial
theorem tm_servedAt_L6 {P : Nat → Nat → Option Int} {k1 : Int32} {k2 : Int32} {k3 : Int32} {T : mT}  (hI : IQ P T) : ∀ (N : Nat) (a4 : Int32) (a5 : Int32), 0 ≤ a4.toInt → a4.toInt ≤ 1023 → 0 ≤ a5.toInt → a5.toInt ≤ 10 → 10 - a5.toInt < (N : Int) → wp (fm_servedAt_L6 k1 k2 k3 T N a4 a5) (fun w => (0 ≤ (w.1).toInt) ∧ ((w.1).toInt ≤ 1023) ∧ (0 ≤ (w.2).toInt) ∧ ((w.2).toInt ≤ 10)) := by
  intro N
  induction N with
  | zero =>
    intro a4 a5 vl_a4 vu_a4 vl_a5 vu_a5 hm
    exfalso; omega
  | succ N ih =>
    intro a4 a5 vl_a4 vu_a4 vl_a5 vu_a5 hm
    rw [fm_servedAt_L6]
    have l_0 : (0 : Int32).toInt = 0 := by decide
    have l_1 : (1 : Int32).toInt = 1 := by decide
    have l_2 : (2 : Int32).toInt = 2 := by decide
    have l_352 : (352 : Int32).toInt = 352 := by decide
    have l_4 : (4 : Int32).toInt = 4 := by decide
    have l_408 : (408 : Int32).toInt = 408 := by decide
    refine wp_bif (inb_of (by omega) (by omega)) ?_
    refine wp_letv (fun v1 ev1 => ?_)
    have c1 := im_10_408 hI
    rw [← ev1] at c1
    have c2 := im_10_408 hI
    have c3 : (v1).toInt = ((T.1 10 ((408 : Int32)).toNatClampNeg)).toInt := congrArg Int32.toInt ev1
    refine wp_le (fun hc4 => ?_) (fun hc4 => ?_)
    · skip
      exact wp_some ⟨(by first | omega | (dsimp only; omega)), (by first | omega | (dsimp only; omega)), (by first | omega | (dsimp only; omega)), (by first | omega | (dsimp only; omega))⟩
    · skip
      have t5 : ((4 : Int32) * a5 : Int32).toInt = 4 * (a5).toInt := tML l_4 (by omega) (by omega)
      have t6 : ((352 : Int32) + ((4 : Int32) * a5) : Int32).toInt = ((352 : Int32)).toInt + (((4 : Int32) * a5)).toInt := tA (by omega) (by omega)
      refine wp_bif (inb_of (by omega) (by omega)) ?_
      refine wp_letv (fun v3 ev3 => ?_)
      refine wp_eqn (fun hc7 => ?_) ?_
      · skip
        have t8 : (((352 : Int32) + ((4 : Int32) * a5)) + (1 : Int32) : Int32).toInt = (((352 : Int32) + ((4 : Int32) * a5))).toInt + ((1 : Int32)).toInt := tA (by omega) (by omega)
        refine wp_bif (inb_of (by omega) (by omega)) ?_
        refine wp_letv (fun v5 ev5 => ?_)
        have t9 : (((352 : Int32) + ((4 : Int32) * a5)) + (2 : Int32) : Int32).toInt = (((352 : Int32) + ((4 : Int32) * a5))).toInt + ((2 : Int32)).toInt := tA (by omega) (by omega)
        refine wp_bif (inb_of (by omega) (by omega)) ?_
        refine wp_letv (fun v6 ev6 => ?_)
        refine wp_bind (tm_in ) (fun q7 hq10 => ?_)
        have w11 := Int32.toInt_toInt64 (k1)
        have w12 := Int32.toInt_toInt64 (v5)
        have w13 := Int32.toInt_toInt64 (v6)
        have h14 := hq10
        refine wp_b (fun hb15 => ?_) (fun hb15 => ?_)
        · skip
          have t16 := or_i (a := a4) (b := (0 : Int32)) (n := 10) (m := 1023) (by decide) (by decide) (by omega) (by omega) (by omega) (by omega)
          have t17 : (a5 + (1 : Int32) : Int32).toInt = (a5).toInt + ((1 : Int32)).toInt := tA (by omega) (by omega)
          exact (ih (a4 ||| (0 : Int32)) (a5 + (1 : Int32)) (by omega) (by omega) (by omega) (by omega) (by omega))
        · skip
          obtain ⟨k18, k19⟩ := h14 hb15
          have t20 := shl_i (e := a5) (n := 9) (by omega) (by omega) (by decide)
          have t21 := or_i (a := a4) (b := ((1 : Int32) <<< (a5 &&& (31 : Int32)))) (n := 10) (m := 1023) (by decide) (by decide) (by omega) (by omega) (by omega) (by omega)
          have t22 : (a5 + (1 : Int32) : Int32).toInt = (a5).toInt + ((1 : Int32)).toInt := tA (by omega) (by omega)
          exact (ih (a4 ||| ((1 : Int32) <<< (a5 &&& (31 : Int32)))) (a5 + (1 : Int32)) (by omega) (by omega) (by omega) (by omega) (by omega))
      · skip
        have t23 := or_i (a := a4) (b := (0 : Int32)) (n := 10) (m := 1023) (by decide) (by decide) (by omega) (by omega) (by omega) (by omega)
        have t24 : (a5 + (1 : Int32) : Int32).toInt = (a5).toInt + ((1 : Int32)).toInt := tA (by omega) (by omega)
        exact (ih (a4 ||| (0 : Int32)) (a5 + (1 : Int32)) (by omega) (by omega) (by omega) (by omega) (by omega))
theorem tm_servedAt {P : Nat → Nat → Option Int} {p0 : Int32} {p1 : Int32} {p2 : Int32} {T : mT} (hl_p2 : 0 ≤ p2.toInt) (hu_p2 : p2.toInt ≤ 1023) (hI : IQ P T) : wp (fm_servedAt p0 p1 p2 T) (fun w => (0 ≤ (w).toInt) ∧ ((w).toInt ≤ 1023)) := by
  unfold fm_servedAt
  have l_0 : (0 : Int32).toInt = 0 := by decide
  have fu : (FU : Int) = 1000000 := rfl
  refine wp_bind (tm_servedAt_L6 hI FU p2 (0 : Int32) (by omega) (by omega) (by omega) (by omega) (by omega)) (fun w9 hq1 => ?_)
  obtain ⟨h2, h3, h4, h5⟩ := hq1
  exact wp_some ⟨(by first | omega | (dsimp only; omega)), (by first | omega | (dsimp only; omega))⟩
theorem tm_worthOf_L4 {P : Nat → Nat → Option Int} {k1 : Int32} {T : mT}  (hI : IQ P T) : ∀ (N : Nat) (a2 : Int32) (a3 : Int32), 0 ≤ a3.toInt → a3.toInt ≤ 10 → 10 - a3.toInt < (N : Int) → wp (fm_worthOf_L4 k1 T N a2 a3) (fun w => (0 ≤ (w.2).toInt) ∧ ((w.2).toInt ≤ 10)) := by
  intro N
  induction N with
  | zero =>
    intro a2 a3 vl_a3 vu_a3 hm
    exfalso; omega
  | succ N ih =>
    intro a2 a3 vl_a3 vu_a3 hm
    rw [fm_worthOf_L4]
    have l_1 : (1 : Int32).toInt = 1 := by decide
    have l_3 : (3 : Int32).toInt = 3 := by decide
    have l_352 : (352 : Int32).toInt = 352 := by decide
    have l_4 : (4 : Int32).toInt = 4 := by decide
    have l_408 : (408 : Int32).toInt = 408 := by decide
    refine wp_bif (inb_of (by omega) (by omega)) ?_
    refine wp_letv (fun v1 ev1 => ?_)
    have c1 := im_10_408 hI
    rw [← ev1] at c1
    have c2 := im_10_408 hI
    have c3 : (v1).toInt = ((T.1 10 ((408 : Int32)).toNatClampNeg)).toInt := congrArg Int32.toInt ev1
    refine wp_le (fun hc4 => ?_) (fun hc4 => ?_)
    · skip
      exact wp_some ⟨(by first | omega | (dsimp only; omega)), (by first | omega | (dsimp only; omega))⟩
    · skip
      refine wp_bind (tm_isOf ) (fun q3 hq5 => ?_)
      refine wp_b (fun hb6 => ?_) (fun hb6 => ?_)
      · skip
        have t7 : (a3 + (1 : Int32) : Int32).toInt = (a3).toInt + ((1 : Int32)).toInt := tA (by omega) (by omega)
        exact (ih (a2 + (0 : Int32)) (a3 + (1 : Int32)) (by omega) (by omega) (by omega))
      · skip
        have t8 : ((4 : Int32) * a3 : Int32).toInt = 4 * (a3).toInt := tML l_4 (by omega) (by omega)
        have t9 : ((352 : Int32) + ((4 : Int32) * a3) : Int32).toInt = ((352 : Int32)).toInt + (((4 : Int32) * a3)).toInt := tA (by omega) (by omega)
        have t10 : (((352 : Int32) + ((4 : Int32) * a3)) + (3 : Int32) : Int32).toInt = (((352 : Int32) + ((4 : Int32) * a3))).toInt + ((3 : Int32)).toInt := tA (by omega) (by omega)
        refine wp_bif (inb_of (by omega) (by omega)) ?_
        refine wp_letv (fun v5 ev5 => ?_)
        have t11 : (a3 + (1 : Int32) : Int32).toInt = (a3).toInt + ((1 : Int32)).toInt := tA (by omega) (by omega)
        exact (ih (a2 + v5) (a3 + (1 : Int32)) (by omega) (by omega) (by omega))
theorem tm_worthOf {P : Nat → Nat → Option Int} {p0 : Int32} {T : mT}  (hI : IQ P T) : wp (fm_worthOf p0 T) (fun w => True) := by
  unfold fm_worthOf
  have l_0 : (0 : Int32).toInt = 0 := by decide
  have fu : (FU : Int) = 1000000 := rfl
  refine wp_bind (tm_worthOf_L4 hI FU (0 : Int32) (0 : Int32) (by omega) (by omega) (by omega)) (fun w6 hq1 => ?_)
  obtain ⟨h2, h3⟩ := hq1
  exact wp_some trivial
theorem tm_placeAt {p0 : Int32} {p1 : Int32} {p2 : Int32} (hl_p0 : 0 ≤ p0.toInt) (hu_p0 : p0.toInt ≤ 15) (hl_p1 : 0 ≤ p1.toInt) (hu_p1 : p1.toInt ≤ 7) (hl_p2 : 0 ≤ p2.toInt) (hu_p2 : p2.toInt ≤ 1023)  : wp (fm_placeAt p0 p1 p2) (fun w => (0 ≤ (w).toInt) ∧ ((w).toInt ≤ 131071)) := by
  unfold fm_placeAt
  have l_1024 : (1024 : Int32).toInt = 1024 := by decide
  have l_8 : (8 : Int32).toInt = 8 := by decide
  have t1 : (p0 * (8 : Int32) : Int32).toInt = (p0).toInt * 8 := tMR l_8 (by omega) (by omega)
  have t2 : ((p0 * (8 : Int32)) + p1 : Int32).toInt = ((p0 * (8 : Int32))).toInt + (p1).toInt := tA (by omega) (by omega)
  have t3 : (((p0 * (8 : Int32)) + p1) * (1024 : Int32) : Int32).toInt = (((p0 * (8 : Int32)) + p1)).toInt * 1024 := tMR l_1024 (by omega) (by omega)
  have t4 : ((((p0 * (8 : Int32)) + p1) * (1024 : Int32)) + p2 : Int32).toInt = ((((p0 * (8 : Int32)) + p1) * (1024 : Int32))).toInt + (p2).toInt := tA (by omega) (by omega)
  exact wp_some ⟨(by first | omega | (dsimp only; omega)), (by first | omega | (dsimp only; omega))⟩
theorem tm_mostFrom_L30 {P : Nat → Nat → Option Int} {k1 : Int32} {k2 : Int32} {k3 : Int32} {k4 : Int32} {k5 : Int32} {T : mT} (hl_k1 : 0 ≤ k1.toInt) (hu_k1 : k1.toInt ≤ 14) (hl_k2 : 0 ≤ k2.toInt) (hu_k2 : k2.toInt ≤ 7) (hl_k5 : 0 ≤ k5.toInt) (hu_k5 : k5.toInt ≤ 1023) (hI : IQ P T) : ∀ (N : Nat) (a6 : Int32) (a7 : Int32), 0 ≤ a7.toInt → a7.toInt ≤ 8 → 8 - a7.toInt < (N : Int) → wp (fm_mostFrom_L30 k1 k2 k3 k4 k5 T N a6 a7) (fun w => (0 ≤ (w.2).toInt) ∧ ((w.2).toInt ≤ 8)) := by
  intro N
  induction N with
  | zero =>
    intro a6 a7 vl_a7 vu_a7 hm
    exfalso; omega
  | succ N ih =>
    intro a6 a7 vl_a7 vu_a7 hm
    rw [fm_mostFrom_L30]
    have l_1 : (1 : Int32).toInt = 1 := by decide
    have l_104 : (104 : Int32).toInt = 104 := by decide
    refine wp_bif (inb_of (by omega) (by omega)) ?_
    refine wp_letv (fun v3 ev3 => ?_)
    have c1 := im_10_1 hI
    rw [← ev3] at c1
    have c2 := im_10_1 hI
    have c3 : (v3).toInt = ((T.1 10 ((1 : Int32)).toNatClampNeg)).toInt := congrArg Int32.toInt ev3
    refine wp_le (fun hc4 => ?_) (fun hc4 => ?_)
    · skip
      exact wp_some ⟨(by first | omega | (dsimp only; omega)), (by first | omega | (dsimp only; omega))⟩
    · skip
      refine wp_eqn (fun hc5 => ?_) ?_
      · skip
        have t6 : (k1 + (1 : Int32) : Int32).toInt = (k1).toInt + ((1 : Int32)).toInt := tA (by omega) (by omega)
        refine wp_bind (tm_placeAt (by omega) (by omega) (by omega) (by omega) (by omega) (by omega)) (fun q6 hq7 => ?_)
        obtain ⟨h8, h9⟩ := hq7
        refine wp_bif (inb_of (by omega) (by omega)) ?_
        refine wp_letv (fun v7 ev7 => ?_)
        refine wp_le (fun hc10 => ?_) (fun hc10 => ?_)
        · skip
          have t11 : (a7 + (1 : Int32) : Int32).toInt = (a7).toInt + ((1 : Int32)).toInt := tA (by omega) (by omega)
          exact (ih a6 (a7 + (1 : Int32)) (by omega) (by omega) (by omega))
        · skip
          have t12 : (a7 + (1 : Int32) : Int32).toInt = (a7).toInt + ((1 : Int32)).toInt := tA (by omega) (by omega)
          exact (ih v7 (a7 + (1 : Int32)) (by omega) (by omega) (by omega))
      · skip
        have t13 : ((104 : Int32) + k2 : Int32).toInt = ((104 : Int32)).toInt + (k2).toInt := tA (by omega) (by omega)
        refine wp_bif (inb_of (by omega) (by omega)) ?_
        refine wp_letv (fun v9 ev9 => ?_)
        refine wp_bind (tm_isOf ) (fun q10 hq14 => ?_)
        refine wp_b (fun hb15 => ?_) (fun hb15 => ?_)
        · skip
          have t16 : (a7 + (1 : Int32) : Int32).toInt = (a7).toInt + ((1 : Int32)).toInt := tA (by omega) (by omega)
          exact (ih a6 (a7 + (1 : Int32)) (by omega) (by omega) (by omega))
        · skip
          have t17 : (k1 + (1 : Int32) : Int32).toInt = (k1).toInt + ((1 : Int32)).toInt := tA (by omega) (by omega)
          refine wp_bind (tm_placeAt (by omega) (by omega) (by omega) (by omega) (by omega) (by omega)) (fun q12 hq18 => ?_)
          obtain ⟨h19, h20⟩ := hq18
          refine wp_bif (inb_of (by omega) (by omega)) ?_
          refine wp_letv (fun v13 ev13 => ?_)
          refine wp_le (fun hc21 => ?_) (fun hc21 => ?_)
          · skip
            have t22 : (a7 + (1 : Int32) : Int32).toInt = (a7).toInt + ((1 : Int32)).toInt := tA (by omega) (by omega)
            exact (ih a6 (a7 + (1 : Int32)) (by omega) (by omega) (by omega))
          · skip
            have t23 : (a7 + (1 : Int32) : Int32).toInt = (a7).toInt + ((1 : Int32)).toInt := tA (by omega) (by omega)
            exact (ih v13 (a7 + (1 : Int32)) (by omega) (by omega) (by omega))
theorem tm_mostFrom {P : Nat → Nat → Option Int} {p0 : Int32} {p1 : Int32} {p2 : Int32} {p3 : Int32} {T : mT} (hl_p0 : 0 ≤ p0.toInt) (hu_p0 : p0.toInt ≤ 15) (hl_p1 : 0 ≤ p1.toInt) (hu_p1 : p1.toInt ≤ 7) (hl_p2 : 0 ≤ p2.toInt) (hu_p2 : p2.toInt ≤ 1023) (hl_p3 : 1 ≤ p3.toInt) (hu_p3 : p3.toInt ≤ 16) (hh : p0.toInt < p3.toInt) (hI : IQ P T) : wp (fm_mostFrom p0 p1 p2 p3 T) (fun w => True) := by
  unfold fm_mostFrom
  have l_0 : (0 : Int32).toInt = 0 := by decide
  have l_1 : (1 : Int32).toInt = 1 := by decide
  have fu : (FU : Int) = 1000000 := rfl
  refine wp_bind (tm_servedAt (by omega) (by omega) hI) (fun q1 hq1 => ?_)
  obtain ⟨h2, h3⟩ := hq1
  have t4 : (p3 - (1 : Int32) : Int32).toInt = (p3).toInt - ((1 : Int32)).toInt := tS (by omega) (by omega)
  refine wp_eq (fun hc5 => ?_) (fun hc5 => ?_)
  · refine wp_bind (tm_worthOf hI) (fun q16 hq6 => ?_)
    exact wp_some trivial
  · refine wp_bind (tm_mostFrom_L30 (by omega) (by omega) (by omega) (by omega) (by omega) (by omega) hI FU (0 : Int32) (0 : Int32) (by omega) (by omega) (by omega)) (fun w15 hq7 => ?_)
    exact wp_some trivial
theorem tm_fillsRounds_L23 {P : Nat → Nat → Option Int} {k1 : Int32} {k2 : Int32} {k3 : Int32} (hl_k1 : 1 ≤ k1.toInt) (hu_k1 : k1.toInt ≤ 16) (hl_k2 : 0 ≤ k2.toInt) (hu_k2 : k2.toInt ≤ 15) (hl_k3 : 0 ≤ k3.toInt) (hu_k3 : k3.toInt ≤ 7) (hh : k2.toInt < k1.toInt)  : ∀ (N : Nat) (a4 : Int32) (T : mT), 0 ≤ a4.toInt → a4.toInt ≤ 1024 → IQ P T → 1024 - a4.toInt < (N : Int) → wp (fm_fillsRounds_L23 k1 k2 k3 N a4 T) (fun w => (0 ≤ (w.1).toInt) ∧ ((w.1).toInt ≤ 1024) ∧ (IQ P w.2) ∧ (w.2.1 10 = T.1 10)) := by
  intro N
  induction N with
  | zero =>
    intro a4 T vl_a4 vu_a4 hI hm
    exfalso; omega
  | succ N ih =>
    intro a4 T vl_a4 vu_a4 hI hm
    rw [fm_fillsRounds_L23]
    have l_1 : (1 : Int32).toInt = 1 := by decide
    have l_408 : (408 : Int32).toInt = 408 := by decide
    refine wp_bif (inb_of (by omega) (by omega)) ?_
    refine wp_letv (fun v4 ev4 => ?_)
    have c1 := im_10_408 hI
    rw [← ev4] at c1
    have c2 := im_10_408 hI
    have c3 : (v4).toInt = ((T.1 10 ((408 : Int32)).toNatClampNeg)).toInt := congrArg Int32.toInt ev4
    have t4 := shl_i (e := v4) (n := 10) (by omega) (by omega) (by decide)
    refine wp_le (fun hc5 => ?_) (fun hc5 => ?_)
    · skip
      exact wp_some ⟨(by first | omega | (dsimp only; omega)), (by first | omega | (dsimp only; omega)), hI, rfl⟩
    · skip
      refine wp_bind (tm_placeAt (by omega) (by omega) (by omega) (by omega) (by omega) (by omega)) (fun q6 hq6 => ?_)
      obtain ⟨h7, h8⟩ := hq6
      refine wp_bind (tm_mostFrom (by omega) (by omega) (by omega) (by omega) (by omega) (by omega) (by omega) (by omega) (by omega) hI) (fun q7 hq9 => ?_)
      refine wp_bif (inb_of (by omega) (by omega)) ?_
      refine wp_letv (fun T8 eT8 => ?_)
      have hIT8 : IQ P T8 := by rw [eT8]; exact (iq_f hI (by decide))
      have hRT8 : T8.1 10 = T.1 10 := by rw [eT8]; exact (ma_no _ _ _ (by decide))
      have t10 : (a4 + (1 : Int32) : Int32).toInt = (a4).toInt + ((1 : Int32)).toInt := tA (by omega) (by omega)
      have zz11 := (ih (a4 + (1 : Int32)) T8 (by omega) (by omega) hIT8 (by omega))
      exact wp_mono zz11 (fun w hw => ⟨hw.1, hw.2.1, hw.2.2.1, (hw.2.2.2.trans hRT8)⟩)
theorem tm_fillsRounds_L10 {P : Nat → Nat → Option Int} {k1 : Int32} {k2 : Int32} (hl_k1 : 1 ≤ k1.toInt) (hu_k1 : k1.toInt ≤ 16) (hl_k2 : 0 ≤ k2.toInt) (hu_k2 : k2.toInt ≤ 15) (hh : k2.toInt < k1.toInt)  : ∀ (N : Nat) (a3 : Int32) (T : mT), 0 ≤ a3.toInt → a3.toInt ≤ 8 → IQ P T → 8 - a3.toInt < (N : Int) → wp (fm_fillsRounds_L10 k1 k2 N a3 T) (fun w => (0 ≤ (w.1).toInt) ∧ ((w.1).toInt ≤ 8) ∧ (IQ P w.2) ∧ (w.2.1 10 = T.1 10)) := by
  intro N
  induction N with
  | zero =>
    intro a3 T vl_a3 vu_a3 hI hm
    exfalso; omega
  | succ N ih =>
    intro a3 T vl_a3 vu_a3 hI hm
    rw [fm_fillsRounds_L10]
    have l_0 : (0 : Int32).toInt = 0 := by decide
    have l_1 : (1 : Int32).toInt = 1 := by decide
    have fu : (FU : Int) = 1000000 := rfl
    refine wp_bif (inb_of (by omega) (by omega)) ?_
    refine wp_letv (fun v2 ev2 => ?_)
    have c1 := im_10_1 hI
    rw [← ev2] at c1
    have c2 := im_10_1 hI
    have c3 : (v2).toInt = ((T.1 10 ((1 : Int32)).toNatClampNeg)).toInt := congrArg Int32.toInt ev2
    refine wp_le (fun hc4 => ?_) (fun hc4 => ?_)
    · skip
      exact wp_some ⟨(by first | omega | (dsimp only; omega)), (by first | omega | (dsimp only; omega)), hI, rfl⟩
    · skip
      refine wp_bind (tm_fillsRounds_L23 (by omega) (by omega) (by omega) (by omega) (by omega) (by omega) (by omega) FU (0 : Int32) T (by omega) (by omega) hI (by omega)) (fun w9 hq5 => ?_)
      obtain ⟨h6, h7, h8, h9⟩ := hq5
      have t10 : (a3 + (1 : Int32) : Int32).toInt = (a3).toInt + ((1 : Int32)).toInt := tA (by omega) (by omega)
      have zz11 := (ih (a3 + (1 : Int32)) w9.2 (by omega) (by omega) h8 (by omega))
      exact wp_mono zz11 (fun w hw => ⟨hw.1, hw.2.1, hw.2.2.1, (hw.2.2.2.trans h9)⟩)
theorem tm_fillsRounds_L4 {P : Nat → Nat → Option Int} {k1 : Int32} (hl_k1 : 1 ≤ k1.toInt) (hu_k1 : k1.toInt ≤ 16)  : ∀ (N : Nat) (a2 : Int32) (T : mT), -1 ≤ a2.toInt → a2.toInt ≤ 15 → IQ P T → a2.toInt < k1.toInt → a2.toInt + 1 < (N : Int) → wp (fm_fillsRounds_L4 k1 N a2 T) (fun w => (-1 ≤ (w.1).toInt) ∧ ((w.1).toInt ≤ 15) ∧ (IQ P w.2) ∧ (w.2.1 10 = T.1 10)) := by
  intro N
  induction N with
  | zero =>
    intro a2 T vl_a2 vu_a2 hI xi_0 hm
    exfalso; omega
  | succ N ih =>
    intro a2 T vl_a2 vu_a2 hI xi_0 hm
    rw [fm_fillsRounds_L4]
    obtain ⟨m_1, e_m1⟩ : ∃ x : Int32, x = (-1) := ⟨_, rfl⟩
    try rw [← e_m1]
    have l_m1 : m_1.toInt = -1 := by rw [e_m1]; decide
    have l_0 : (0 : Int32).toInt = 0 := by decide
    have fu : (FU : Int) = 1000000 := rfl
    refine wp_lt (fun hc1 => ?_) (fun hc1 => ?_)
    · skip
      exact wp_some ⟨(by first | omega | (dsimp only; omega)), (by first | omega | (dsimp only; omega)), hI, rfl⟩
    · skip
      refine wp_bind (tm_fillsRounds_L10 (by omega) (by omega) (by omega) (by omega) (by omega) FU (0 : Int32) T (by omega) (by omega) hI (by omega)) (fun w10 hq2 => ?_)
      obtain ⟨h3, h4, h5, h6⟩ := hq2
      have t7 : (a2 + m_1 : Int32).toInt = (a2).toInt + (m_1).toInt := tA (by omega) (by omega)
      have zz8 := (ih (a2 + m_1) w10.2 (by omega) (by omega) h5 (by omega) (by omega))
      exact wp_mono zz8 (fun w hw => ⟨hw.1, hw.2.1, hw.2.2.1, (hw.2.2.2.trans h6)⟩)
theorem tm_fillsRounds {P : Nat → Nat → Option Int} {p0 : Int32} {T : mT} (hl_p0 : 1 ≤ p0.toInt) (hu_p0 : p0.toInt ≤ 16) (hI : IQ P T) : wp (fm_fillsRounds p0 T) (fun w => (IQ P w) ∧ (w.1 10 = T.1 10)) := by
  unfold fm_fillsRounds
  have l_1 : (1 : Int32).toInt = 1 := by decide
  have fu : (FU : Int) = 1000000 := rfl
  have t1 : (p0 - (1 : Int32) : Int32).toInt = (p0).toInt - ((1 : Int32)).toInt := tS (by omega) (by omega)
  refine wp_bind (tm_fillsRounds_L4 (by omega) (by omega) FU (p0 - (1 : Int32)) T (by omega) (by omega) hI (by omega) (by omega)) (fun w11 hq2 => ?_)
  obtain ⟨h3, h4, h5, h6⟩ := hq2
  exact wp_some ⟨h5, h6⟩
