/-! ===== the reference answers 4 ===== -/
theorem tm_round_L98 {P : Nat → Nat → Option Int} {k1 : Int32} {k2 : Int32} {k3 : Int32} {k4 : Int32} {k5 : Int32} {k6 : Int32} {T : mT} (hl_k3 : -1 ≤ k3.toInt) (hu_k3 : k3.toInt ≤ 7) (hl_k4 : 0 ≤ k4.toInt) (hu_k4 : k4.toInt ≤ 1023) (hl_k6 : 0 ≤ k6.toInt) (hu_k6 : k6.toInt ≤ 14) (hI : IQ P T) : ∀ (N : Nat) (a7 : Int32) (a8 : Int32), -1 ≤ a7.toInt → a7.toInt ≤ 7 → -1 ≤ a8.toInt → a8.toInt ≤ 7 → a8.toInt + 1 < (N : Int) → wp (fm_round_L98 k1 k2 k3 k4 k5 k6 T N a7 a8) (fun w => (-1 ≤ (w.1).toInt) ∧ ((w.1).toInt ≤ 7) ∧ (-1 ≤ (w.2).toInt) ∧ ((w.2).toInt ≤ 7)) := by
  intro N
  induction N with
  | zero =>
    intro a7 a8 vl_a7 vu_a7 vl_a8 vu_a8 hm
    exfalso; omega
  | succ N ih =>
    intro a7 a8 vl_a7 vu_a7 vl_a8 vu_a8 hm
    rw [fm_round_L98]
    obtain ⟨m_1, e_m1⟩ : ∃ x : Int32, x = (-1) := ⟨_, rfl⟩
    try rw [← e_m1]
    have l_m1 : m_1.toInt = -1 := by rw [e_m1]; decide
    have l_0 : (0 : Int32).toInt = 0 := by decide
    have l_1 : (1 : Int32).toInt = 1 := by decide
    have l_104 : (104 : Int32).toInt = 104 := by decide
    refine wp_lt (fun hc1 => ?_) (fun hc1 => ?_)
    · skip
      exact wp_some ⟨(by first | omega | (dsimp only; omega)), (by first | omega | (dsimp only; omega)), (by first | omega | (dsimp only; omega)), (by first | omega | (dsimp only; omega))⟩
    · skip
      refine wp_eqn (fun hc2 => ?_) ?_
      · skip
        have t3 : (k6 + (1 : Int32) : Int32).toInt = (k6).toInt + ((1 : Int32)).toInt := tA (by omega) (by omega)
        refine wp_bind (tm_placeAt (by omega) (by omega) (by omega) (by omega) (by omega) (by omega)) (fun q16 hq4 => ?_)
        obtain ⟨h5, h6⟩ := hq4
        refine wp_bif (inb_of (by omega) (by omega)) ?_
        refine wp_letv (fun v17 ev17 => ?_)
        refine wp_eqn (fun hc7 => ?_) ?_
        · skip
          have t8 : (a8 + m_1 : Int32).toInt = (a8).toInt + (m_1).toInt := tA (by omega) (by omega)
          exact (ih a8 (a8 + m_1) (by omega) (by omega) (by omega) (by omega) (by omega))
        · skip
          have t9 : (a8 + m_1 : Int32).toInt = (a8).toInt + (m_1).toInt := tA (by omega) (by omega)
          exact (ih a7 (a8 + m_1) (by omega) (by omega) (by omega) (by omega) (by omega))
      · skip
        have t10 : ((104 : Int32) + k3 : Int32).toInt = ((104 : Int32)).toInt + (k3).toInt := tA (by omega) (by omega)
        refine wp_bif (inb_of (by omega) (by omega)) ?_
        refine wp_letv (fun v19 ev19 => ?_)
        refine wp_bind (tm_isOf ) (fun q20 hq11 => ?_)
        refine wp_b (fun hb12 => ?_) (fun hb12 => ?_)
        · skip
          have t13 : (a8 + m_1 : Int32).toInt = (a8).toInt + (m_1).toInt := tA (by omega) (by omega)
          exact (ih a7 (a8 + m_1) (by omega) (by omega) (by omega) (by omega) (by omega))
        · skip
          have t14 : (k6 + (1 : Int32) : Int32).toInt = (k6).toInt + ((1 : Int32)).toInt := tA (by omega) (by omega)
          refine wp_bind (tm_placeAt (by omega) (by omega) (by omega) (by omega) (by omega) (by omega)) (fun q22 hq15 => ?_)
          obtain ⟨h16, h17⟩ := hq15
          refine wp_bif (inb_of (by omega) (by omega)) ?_
          refine wp_letv (fun v23 ev23 => ?_)
          refine wp_eqn (fun hc18 => ?_) ?_
          · skip
            have t19 : (a8 + m_1 : Int32).toInt = (a8).toInt + (m_1).toInt := tA (by omega) (by omega)
            exact (ih a8 (a8 + m_1) (by omega) (by omega) (by omega) (by omega) (by omega))
          · skip
            have t20 : (a8 + m_1 : Int32).toInt = (a8).toInt + (m_1).toInt := tA (by omega) (by omega)
            exact (ih a7 (a8 + m_1) (by omega) (by omega) (by omega) (by omega) (by omega))
theorem tm_round_L68 {P : Nat → Nat → Option Int} {k1 : Int32} {k2 : Int32} {k5 : Int32} {T : mT} (hl_k2 : -1 ≤ k2.toInt) (hu_k2 : k2.toInt ≤ 15) (hI : IQ P T) : ∀ (N : Nat) (a3 : Int32) (a4 : Int32) (a6 : Int32), -1 ≤ a3.toInt → a3.toInt ≤ 7 → 0 ≤ a4.toInt → a4.toInt ≤ 1023 → 0 ≤ a6.toInt → a6.toInt ≤ 15 → 15 - a6.toInt < (N : Int) → wp (fm_round_L68 k1 k2 k5 T N a3 a4 a6) (fun w => (-1 ≤ (w.1).toInt) ∧ ((w.1).toInt ≤ 7) ∧ (0 ≤ (w.2.1).toInt) ∧ ((w.2.1).toInt ≤ 1023) ∧ (0 ≤ (w.2.2).toInt) ∧ ((w.2.2).toInt ≤ 15)) := by
  intro N
  induction N with
  | zero =>
    intro a3 a4 a6 vl_a3 vu_a3 vl_a4 vu_a4 vl_a6 vu_a6 hm
    exfalso; omega
  | succ N ih =>
    intro a3 a4 a6 vl_a3 vu_a3 vl_a4 vu_a4 vl_a6 vu_a6 hm
    rw [fm_round_L68]
    obtain ⟨m_1, e_m1⟩ : ∃ x : Int32, x = (-1) := ⟨_, rfl⟩
    try rw [← e_m1]
    have l_m1 : m_1.toInt = -1 := by rw [e_m1]; decide
    have l_1 : (1 : Int32).toInt = 1 := by decide
    have fu : (FU : Int) = 1000000 := rfl
    refine wp_le (fun hc1 => ?_) (fun hc1 => ?_)
    · skip
      exact wp_some ⟨(by first | omega | (dsimp only; omega)), (by first | omega | (dsimp only; omega)), (by first | omega | (dsimp only; omega)), (by first | omega | (dsimp only; omega)), (by first | omega | (dsimp only; omega)), (by first | omega | (dsimp only; omega))⟩
    · skip
      refine wp_bind (tm_servedAt (by omega) (by omega) hI) (fun q12 hq2 => ?_)
      obtain ⟨h3, h4⟩ := hq2
      refine wp_bif (inb_of (by omega) (by omega)) ?_
      refine wp_letv (fun v13 ev13 => ?_)
      have c5 := im_10_1 hI
      rw [← ev13] at c5
      have c6 := im_10_1 hI
      have c7 : (v13).toInt = ((T.1 10 ((1 : Int32)).toNatClampNeg)).toInt := congrArg Int32.toInt ev13
      have t8 : (v13 - (1 : Int32) : Int32).toInt = (v13).toInt - ((1 : Int32)).toInt := tS (by omega) (by omega)
      refine wp_bind (tm_round_L98 (by omega) (by omega) (by omega) (by omega) (by omega) (by omega) hI FU m_1 (v13 - (1 : Int32)) (by omega) (by omega) (by omega) (by omega) (by omega)) (fun w25 hq9 => ?_)
      obtain ⟨h10, h11, h12, h13⟩ := hq9
      have t14 : (a6 + (1 : Int32) : Int32).toInt = (a6).toInt + ((1 : Int32)).toInt := tA (by omega) (by omega)
      exact (ih w25.1 q12 (a6 + (1 : Int32)) (by omega) (by omega) (by omega) (by omega) (by omega) (by omega) (by omega))
theorem tm_round {P : Nat → Nat → Option Int} {p0 : Int32} {p1 : Int32} {T : mT}  (hI : IQ P T) : wp (fm_round p0 p1 T) (fun w => (IQ P w.2) ∧ (w.2.1 10 = T.1 10)) := by
  unfold fm_round
  obtain ⟨m_2, e_m2⟩ : ∃ x : Int32, x = (-2) := ⟨_, rfl⟩
  try rw [← e_m2]
  have l_m2 : m_2.toInt = -2 := by rw [e_m2]; decide
  obtain ⟨m_1, e_m1⟩ : ∃ x : Int32, x = (-1) := ⟨_, rfl⟩
  try rw [← e_m1]
  have l_m1 : m_1.toInt = -1 := by rw [e_m1]; decide
  have l_0 : (0 : Int32).toInt = 0 := by decide
  have l_1 : (1 : Int32).toInt = 1 := by decide
  have l_3 : (3 : Int32).toInt = 3 := by decide
  have fu : (FU : Int) = 1000000 := rfl
  refine wp_bind (tm_isIsland hI) (fun q1 hq1 => ?_)
  have h2 := hq1
  have c3 := im_10_0 hI
  refine wp_b (fun hb4 => ?_) (fun hb4 => ?_)
  · skip
    exact wp_some ⟨hI, rfl⟩
  · skip
    have k5 := h2 hb4
    refine wp_bind (tm_in ) (fun q3 hq6 => ?_)
    have w7 := Int32.toInt_toInt64 (p0)
    have w8 : (1 : Int64).toInt = 1 := by decide
    have w9 : (16 : Int64).toInt = 16 := by decide
    have h10 := hq6
    refine wp_b (fun hb11 => ?_) (fun hb11 => ?_)
    · skip
      exact wp_some ⟨hI, rfl⟩
    · skip
      obtain ⟨k12, k13⟩ := h10 hb11
      refine wp_bind (tm_in ) (fun q5 hq14 => ?_)
      have w15 := Int32.toInt_toInt64 (p1)
      have w16 : (-1 : Int64).toInt = -1 := by decide
      have t17 : (p0 - (1 : Int32) : Int32).toInt = (p0).toInt - ((1 : Int32)).toInt := tS (by omega) (by omega)
      have w18 := Int32.toInt_toInt64 ((p0 - 1))
      have h19 := hq14
      refine wp_b (fun hb20 => ?_) (fun hb20 => ?_)
      · skip
        exact wp_some ⟨hI, rfl⟩
      · skip
        obtain ⟨k21, k22⟩ := h19 hb20
        refine wp_bind (tm_fillsRounds (by omega) (by omega) hI) (fun q7 hq23 => ?_)
        obtain ⟨h24, h25⟩ := hq23
        refine wp_bif (inb_of (by omega) (by omega)) ?_
        refine wp_letv (fun v8 ev8 => ?_)
        have c26 := im_10_3 h24
        rw [← ev8] at c26
        have c27 := im_10_3 h24
        have c28 := im_10_3 hI
        have f29 : ((q7.1 10 ((3 : Int32)).toNatClampNeg)).toInt = ((T.1 10 ((3 : Int32)).toNatClampNeg)).toInt := by rw [h25]
        have c30 : (v8).toInt = ((q7.1 10 ((3 : Int32)).toNatClampNeg)).toInt := congrArg Int32.toInt ev8
        refine wp_bind (tm_placeAt (by omega) (by omega) (by omega) (by omega) (by omega) (by omega)) (fun q9 hq31 => ?_)
        obtain ⟨h32, h33⟩ := hq31
        refine wp_bif (inb_of (by omega) (by omega)) ?_
        refine wp_letv (fun v10 ev10 => ?_)
        refine wp_bind (tm_round_L68 (by omega) (by omega) h24 FU v8 (0 : Int32) (0 : Int32) (by omega) (by omega) (by omega) (by omega) (by omega) (by omega) (by omega)) (fun w26 hq34 => ?_)
        obtain ⟨h35, h36, h37, h38, h39, h40⟩ := hq34
        refine wp_eq_lo (by omega) (fun hc41 => ?_) (fun hc41 => ?_)
        · skip
          exact wp_some ⟨h24, h25⟩
        · skip
          exact wp_some ⟨h24, h25⟩
theorem tm_viewsOf_L4 {P : Nat → Nat → Option Int} {k1 : Int32} {T : mT}  (hI : IQ P T) : ∀ (N : Nat) (a2 : Int32) (a3 : Int32), 0 ≤ a2.toInt → a2.toInt ≤ 255 → 0 ≤ a3.toInt → a3.toInt ≤ 8 → 8 - a3.toInt < (N : Int) → wp (fm_viewsOf_L4 k1 T N a2 a3) (fun w => (0 ≤ (w.1).toInt) ∧ ((w.1).toInt ≤ 255) ∧ (0 ≤ (w.2).toInt) ∧ ((w.2).toInt ≤ 8)) := by
  intro N
  induction N with
  | zero =>
    intro a2 a3 vl_a2 vu_a2 vl_a3 vu_a3 hm
    exfalso; omega
  | succ N ih =>
    intro a2 a3 vl_a2 vu_a2 vl_a3 vu_a3 hm
    rw [fm_viewsOf_L4]
    have l_0 : (0 : Int32).toInt = 0 := by decide
    have l_1 : (1 : Int32).toInt = 1 := by decide
    have l_2 : (2 : Int32).toInt = 2 := by decide
    have l_392 : (392 : Int32).toInt = 392 := by decide
    have l_409 : (409 : Int32).toInt = 409 := by decide
    refine wp_bif (inb_of (by omega) (by omega)) ?_
    refine wp_letv (fun v1 ev1 => ?_)
    have c1 := im_10_409 hI
    rw [← ev1] at c1
    have c2 := im_10_409 hI
    have c3 : (v1).toInt = ((T.1 10 ((409 : Int32)).toNatClampNeg)).toInt := congrArg Int32.toInt ev1
    refine wp_le (fun hc4 => ?_) (fun hc4 => ?_)
    · skip
      exact wp_some ⟨(by first | omega | (dsimp only; omega)), (by first | omega | (dsimp only; omega)), (by first | omega | (dsimp only; omega)), (by first | omega | (dsimp only; omega))⟩
    · skip
      have t5 : ((2 : Int32) * a3 : Int32).toInt = 2 * (a3).toInt := tML l_2 (by omega) (by omega)
      have t6 : ((392 : Int32) + ((2 : Int32) * a3) : Int32).toInt = ((392 : Int32)).toInt + (((2 : Int32) * a3)).toInt := tA (by omega) (by omega)
      refine wp_bif (inb_of (by omega) (by omega)) ?_
      refine wp_letv (fun v3 ev3 => ?_)
      have t7 : (((392 : Int32) + ((2 : Int32) * a3)) + (1 : Int32) : Int32).toInt = (((392 : Int32) + ((2 : Int32) * a3))).toInt + ((1 : Int32)).toInt := tA (by omega) (by omega)
      refine wp_bif (inb_of (by omega) (by omega)) ?_
      refine wp_letv (fun v4 ev4 => ?_)
      refine wp_eqn (fun hc8 => ?_) ?_
      · skip
        have t9 := shl_i (e := a3) (n := 7) (by omega) (by omega) (by decide)
        have t10 := or_i (a := a2) (b := ((1 : Int32) <<< (a3 &&& (31 : Int32)))) (n := 8) (m := 255) (by decide) (by decide) (by omega) (by omega) (by omega) (by omega)
        have t11 : (a3 + (1 : Int32) : Int32).toInt = (a3).toInt + ((1 : Int32)).toInt := tA (by omega) (by omega)
        exact (ih (a2 ||| ((1 : Int32) <<< (a3 &&& (31 : Int32)))) (a3 + (1 : Int32)) (by omega) (by omega) (by omega) (by omega) (by omega))
      · skip
        have t12 := or_i (a := a2) (b := (0 : Int32)) (n := 8) (m := 255) (by decide) (by decide) (by omega) (by omega) (by omega) (by omega)
        have t13 : (a3 + (1 : Int32) : Int32).toInt = (a3).toInt + ((1 : Int32)).toInt := tA (by omega) (by omega)
        exact (ih (a2 ||| (0 : Int32)) (a3 + (1 : Int32)) (by omega) (by omega) (by omega) (by omega) (by omega))
theorem tm_viewsOf {P : Nat → Nat → Option Int} {p0 : Int32} {T : mT}  (hI : IQ P T) : wp (fm_viewsOf p0 T) (fun w => (0 ≤ (w).toInt) ∧ ((w).toInt ≤ 255)) := by
  unfold fm_viewsOf
  have l_0 : (0 : Int32).toInt = 0 := by decide
  have fu : (FU : Int) = 1000000 := rfl
  refine wp_bind (tm_viewsOf_L4 hI FU (0 : Int32) (0 : Int32) (by omega) (by omega) (by omega) (by omega) (by omega)) (fun w6 hq1 => ?_)
  obtain ⟨h2, h3, h4, h5⟩ := hq1
  exact wp_some ⟨(by first | omega | (dsimp only; omega)), (by first | omega | (dsimp only; omega))⟩
theorem tm_fits_L26 {P : Nat → Nat → Option Int} {k1 : Int32} {T : mT}  (hI : IQ P T) : ∀ (N : Nat) (a2 : Int32) (a3 : Int32), 0 ≤ a3.toInt → a3.toInt ≤ 8 → 8 - a3.toInt < (N : Int) → wp (fm_fits_L26 k1 T N a2 a3) (fun w => (0 ≤ (w.2).toInt) ∧ ((w.2).toInt ≤ 8)) := by
  intro N
  induction N with
  | zero =>
    intro a2 a3 vl_a3 vu_a3 hm
    exfalso; omega
  | succ N ih =>
    intro a2 a3 vl_a3 vu_a3 hm
    rw [fm_fits_L26]
    have l_1 : (1 : Int32).toInt = 1 := by decide
    refine wp_bif (inb_of (by omega) (by omega)) ?_
    refine wp_letv (fun v4 ev4 => ?_)
    have c1 := im_10_1 hI
    rw [← ev4] at c1
    have c2 := im_10_1 hI
    have c3 : (v4).toInt = ((T.1 10 ((1 : Int32)).toNatClampNeg)).toInt := congrArg Int32.toInt ev4
    refine wp_le (fun hc4 => ?_) (fun hc4 => ?_)
    · skip
      exact wp_some ⟨(by first | omega | (dsimp only; omega)), (by first | omega | (dsimp only; omega))⟩
    · skip
      refine wp_bind (tm_personOf_0 (by omega) (by omega) hI) (fun q6 hq5 => ?_)
      obtain ⟨h6, h7⟩ := hq5
      refine wp_bind (tm_viewsOf hI) (fun q7 hq8 => ?_)
      obtain ⟨h9, h10⟩ := hq8
      refine wp_bind (tm_isOf ) (fun q8 hq11 => ?_)
      refine wp_b (fun hb12 => ?_) (fun hb12 => ?_)
      · skip
        have t13 : (a3 + (1 : Int32) : Int32).toInt = (a3).toInt + ((1 : Int32)).toInt := tA (by omega) (by omega)
        exact (ih (a2 ||| (0 : Int32)) (a3 + (1 : Int32)) (by omega) (by omega) (by omega))
      · skip
        have t14 : (a3 + (1 : Int32) : Int32).toInt = (a3).toInt + ((1 : Int32)).toInt := tA (by omega) (by omega)
        exact (ih (a2 ||| ((1 : Int32) <<< (a3 &&& (31 : Int32)))) (a3 + (1 : Int32)) (by omega) (by omega) (by omega))
theorem tm_fits {P : Nat → Nat → Option Int} {p0 : Int32} {T : mT}  (hI : IQ P T) : wp (fm_fits p0 T) (fun w => True) := by
  unfold fm_fits
  have l_0 : (0 : Int32).toInt = 0 := by decide
  have l_1 : (1 : Int32).toInt = 1 := by decide
  have l_409 : (409 : Int32).toInt = 409 := by decide
  have fu : (FU : Int) = 1000000 := rfl
  refine wp_bif (inb_of (by omega) (by omega)) ?_
  refine wp_letv (fun v1 ev1 => ?_)
  have c1 := im_10_409 hI
  rw [← ev1] at c1
  have c2 := im_10_409 hI
  have c3 : (v1).toInt = ((T.1 10 ((409 : Int32)).toNatClampNeg)).toInt := congrArg Int32.toInt ev1
  refine wp_bind (tm_in ) (fun q2 hq4 => ?_)
  have w5 := Int32.toInt_toInt64 (p0)
  have w6 : (0 : Int64).toInt = 0 := by decide
  have t7 : (v1 - (1 : Int32) : Int32).toInt = (v1).toInt - ((1 : Int32)).toInt := tS (by omega) (by omega)
  have w8 := Int32.toInt_toInt64 ((v1 - 1))
  have h9 := hq4
  refine wp_b (fun hb10 => ?_) (fun hb10 => ?_)
  · skip
    exact wp_some trivial
  · skip
    obtain ⟨k11, k12⟩ := h9 hb10
    refine wp_bind (tm_fits_L26 hI FU (0 : Int32) (0 : Int32) (by omega) (by omega) (by omega)) (fun w10 hq13 => ?_)
    obtain ⟨h14, h15⟩ := hq13
    exact wp_some trivial
theorem tm_fewestFaces_L37 {P : Nat → Nat → Option Int} {k1 : Int32} {k2 : Int32} (hl_k2 : 0 ≤ k2.toInt) (hu_k2 : k2.toInt ≤ 255)  : ∀ (N : Nat) (a3 : Int32) (T : mT), 0 ≤ a3.toInt → a3.toInt ≤ 64 → IQ P T → 64 - a3.toInt < (N : Int) → wp (fm_fewestFaces_L37 k1 k2 N a3 T) (fun w => (0 ≤ (w.1).toInt) ∧ ((w.1).toInt ≤ 64) ∧ (IQ P w.2) ∧ (w.2.1 10 = T.1 10)) := by
  intro N
  induction N with
  | zero =>
    intro a3 T vl_a3 vu_a3 hI hm
    exfalso; omega
  | succ N ih =>
    intro a3 T vl_a3 vu_a3 hI hm
    rw [fm_fewestFaces_L37]
    obtain ⟨m_1, e_m1⟩ : ∃ x : Int32, x = (-1) := ⟨_, rfl⟩
    try rw [← e_m1]
    have l_m1 : m_1.toInt = -1 := by rw [e_m1]; decide
    have l_1 : (1 : Int32).toInt = 1 := by decide
    refine wp_bind (tm_allMarks hI) (fun q5 hq1 => ?_)
    obtain ⟨h2, h3⟩ := hq1
    refine wp_lt (fun hc4 => ?_) (fun hc4 => ?_)
    · skip
      exact wp_some ⟨(by first | omega | (dsimp only; omega)), (by first | omega | (dsimp only; omega)), hI, rfl⟩
    · skip
      refine wp_bind (tm_viewsOf hI) (fun q7 hq5 => ?_)
      obtain ⟨h6, h7⟩ := hq5
      have t8 := andL_i k2 (q7 ^^^ m_1) (by omega)
      refine wp_eqn (fun hc9 => ?_) ?_
      · skip
        have t10 : (a3 + (1 : Int32) : Int32).toInt = (a3).toInt + ((1 : Int32)).toInt := tA (by omega) (by omega)
        have zz11 := (ih (a3 + (1 : Int32)) T (by omega) (by omega) hI (by omega))
        exact wp_mono zz11 (fun w hw => ⟨hw.1, hw.2.1, hw.2.2.1, hw.2.2.2⟩)
      · skip
        refine wp_bif (inb_of (by omega) (by omega)) ?_
        refine wp_letv (fun v9 ev9 => ?_)
        refine wp_bif (inb_of (by omega) (by omega)) ?_
        refine wp_letv (fun v10 ev10 => ?_)
        refine wp_le (fun hc12 => ?_) (fun hc12 => ?_)
        · skip
          have t13 : (a3 + (1 : Int32) : Int32).toInt = (a3).toInt + ((1 : Int32)).toInt := tA (by omega) (by omega)
          have zz14 := (ih (a3 + (1 : Int32)) T (by omega) (by omega) hI (by omega))
          exact wp_mono zz14 (fun w hw => ⟨hw.1, hw.2.1, hw.2.2.1, hw.2.2.2⟩)
        · skip
          refine wp_bif (inb_of (by omega) (by omega)) ?_
          refine wp_letv (fun v12 ev12 => ?_)
          refine wp_bif (inb_of (by omega) (by omega)) ?_
          refine wp_letv (fun T13 eT13 => ?_)
          have hIT13 : IQ P T13 := by rw [eT13]; exact (iq_f hI (by decide))
          have hRT13 : T13.1 10 = T.1 10 := by rw [eT13]; exact (ma_no _ _ _ (by decide))
          have t15 : (a3 + (1 : Int32) : Int32).toInt = (a3).toInt + ((1 : Int32)).toInt := tA (by omega) (by omega)
          have zz16 := (ih (a3 + (1 : Int32)) T13 (by omega) (by omega) hIT13 (by omega))
          exact wp_mono zz16 (fun w hw => ⟨hw.1, hw.2.1, hw.2.2.1, (hw.2.2.2.trans hRT13)⟩)
theorem tm_fewestFaces_L22 {P : Nat → Nat → Option Int} {k1 : Int32} (hl_k1 : 0 ≤ k1.toInt) (hu_k1 : k1.toInt ≤ 255)  : ∀ (N : Nat) (a2 : Int32) (T : mT), 0 ≤ a2.toInt → a2.toInt ≤ 256 → IQ P T → 256 - a2.toInt < (N : Int) → wp (fm_fewestFaces_L22 k1 N a2 T) (fun w => (0 ≤ (w.1).toInt) ∧ ((w.1).toInt ≤ 256) ∧ (IQ P w.2) ∧ (w.2.1 10 = T.1 10)) := by
  intro N
  induction N with
  | zero =>
    intro a2 T vl_a2 vu_a2 hI hm
    exfalso; omega
  | succ N ih =>
    intro a2 T vl_a2 vu_a2 hI hm
    rw [fm_fewestFaces_L22]
    have l_0 : (0 : Int32).toInt = 0 := by decide
    have l_1 : (1 : Int32).toInt = 1 := by decide
    have fu : (FU : Int) = 1000000 := rfl
    refine wp_lt (fun hc1 => ?_) (fun hc1 => ?_)
    · skip
      exact wp_some ⟨(by first | omega | (dsimp only; omega)), (by first | omega | (dsimp only; omega)), hI, rfl⟩
    · skip
      refine wp_bif (inb_of (by omega) (by omega)) ?_
      refine wp_letv (fun T4 eT4 => ?_)
      have hIT4 : IQ P T4 := by rw [eT4]; exact (iq_f hI (by decide))
      have hRT4 : T4.1 10 = T.1 10 := by rw [eT4]; exact (ma_no _ _ _ (by decide))
      refine wp_bind (tm_fewestFaces_L37 (by omega) (by omega) FU (0 : Int32) T4 (by omega) (by omega) hIT4 (by omega)) (fun w14 hq2 => ?_)
      obtain ⟨h3, h4, h5, h6⟩ := hq2
      have t7 : (a2 + (1 : Int32) : Int32).toInt = (a2).toInt + ((1 : Int32)).toInt := tA (by omega) (by omega)
      have zz8 := (ih (a2 + (1 : Int32)) w14.2 (by omega) (by omega) h5 (by omega))
      exact wp_mono zz8 (fun w hw => ⟨hw.1, hw.2.1, hw.2.2.1, (hw.2.2.2.trans (h6.trans hRT4))⟩)
theorem tm_fewestFaces {P : Nat → Nat → Option Int}  {T : mT}  (hI : IQ P T) : wp (fm_fewestFaces T) (fun w => (IQ P w.2) ∧ (w.2.1 10 = T.1 10)) := by
  unfold fm_fewestFaces
  have l_0 : (0 : Int32).toInt = 0 := by decide
  have l_1 : (1 : Int32).toInt = 1 := by decide
  have l_409 : (409 : Int32).toInt = 409 := by decide
  have fu : (FU : Int) = 1000000 := rfl
  refine wp_bif (inb_of (by omega) (by omega)) ?_
  refine wp_letv (fun v1 ev1 => ?_)
  have c1 := im_10_409 hI
  rw [← ev1] at c1
  have c2 := im_10_409 hI
  have c3 : (v1).toInt = ((T.1 10 ((409 : Int32)).toNatClampNeg)).toInt := congrArg Int32.toInt ev1
  refine wp_bif (inb_of (by omega) (by omega)) ?_
  refine wp_letv (fun T2 eT2 => ?_)
  have hIT2 : IQ P T2 := by rw [eT2]; exact (iq_f hI (by decide))
  have hRT2 : T2.1 10 = T.1 10 := by rw [eT2]; exact (ma_no _ _ _ (by decide))
  have t4 := shl_i (e := v1) (n := 8) (by omega) (by omega) (by decide)
  have t5 : (((1 : Int32) <<< (v1 &&& (31 : Int32))) - (1 : Int32) : Int32).toInt = (((1 : Int32) <<< (v1 &&& (31 : Int32)))).toInt - ((1 : Int32)).toInt := tS (by omega) (by omega)
  refine wp_bind (tm_fewestFaces_L22 (by omega) (by omega) FU (1 : Int32) T2 (by omega) (by omega) hIT2 (by omega)) (fun w15 hq6 => ?_)
  obtain ⟨h7, h8, h9, h10⟩ := hq6
  refine wp_bif (inb_of (by omega) (by omega)) ?_
  refine wp_letv (fun v16 ev16 => ?_)
  exact wp_some ⟨h9, (h10.trans hRT2)⟩
theorem tm_views_L37 {P : Nat → Nat → Option Int} {k1 : Int32} {T : mT}  (hI : IQ P T) : ∀ (N : Nat) (a2 : Int32) (a3 : Int32) (a4 : Int32), 0 ≤ a4.toInt → a4.toInt ≤ 8 → 8 - a4.toInt < (N : Int) → wp (fm_views_L37 k1 T N a2 a3 a4) (fun w => (0 ≤ (w.2.2).toInt) ∧ ((w.2.2).toInt ≤ 8)) := by
  intro N
  induction N with
  | zero =>
    intro a2 a3 a4 vl_a4 vu_a4 hm
    exfalso; omega
  | succ N ih =>
    intro a2 a3 a4 vl_a4 vu_a4 hm
    rw [fm_views_L37]
    have l_1 : (1 : Int32).toInt = 1 := by decide
    refine wp_bif (inb_of (by omega) (by omega)) ?_
    refine wp_letv (fun v6 ev6 => ?_)
    have c1 := im_10_1 hI
    rw [← ev6] at c1
    have c2 := im_10_1 hI
    have c3 : (v6).toInt = ((T.1 10 ((1 : Int32)).toNatClampNeg)).toInt := congrArg Int32.toInt ev6
    refine wp_le (fun hc4 => ?_) (fun hc4 => ?_)
    · skip
      exact wp_some ⟨(by first | omega | (dsimp only; omega)), (by first | omega | (dsimp only; omega))⟩
    · skip
      refine wp_bind (tm_personOf_0 (by omega) (by omega) hI) (fun q8 hq5 => ?_)
      obtain ⟨h6, h7⟩ := hq5
      refine wp_bind (tm_viewsOf hI) (fun q9 hq8 => ?_)
      obtain ⟨h9, h10⟩ := hq8
      refine wp_bind (tm_bits (by omega) (by omega)) (fun q10 hq11 => ?_)
      refine wp_bind (Q := fun w => True) ?_ (fun w11 hq12 => ?_)
      · skip
        refine wp_le (fun hc13 => ?_) (fun hc13 => ?_)
        · skip
          exact wp_some trivial
        · skip
          exact wp_some trivial
      · skip
        refine wp_bind (Q := fun w => True) ?_ (fun w13 hq14 => ?_)
        · skip
          refine wp_lt (fun hc15 => ?_) (fun hc15 => ?_)
          · skip
            exact wp_some trivial
          · skip
            exact wp_some trivial
        · skip
          refine wp_le (fun hc16 => ?_) (fun hc16 => ?_)
          · skip
            have t17 : (a4 + (1 : Int32) : Int32).toInt = (a4).toInt + ((1 : Int32)).toInt := tA (by omega) (by omega)
            exact (ih a2 w13 (a4 + (1 : Int32)) (by omega) (by omega) (by omega))
          · skip
            have t18 : (a4 + (1 : Int32) : Int32).toInt = (a4).toInt + ((1 : Int32)).toInt := tA (by omega) (by omega)
            exact (ih q10 w13 (a4 + (1 : Int32)) (by omega) (by omega) (by omega))
theorem tm_views {P : Nat → Nat → Option Int} {p0 : Int32} {T : mT}  (hI : IQ P T) : wp (fm_views p0 T) (fun w => (IQ P w.2) ∧ (w.2.1 10 = T.1 10)) := by
  unfold fm_views
  obtain ⟨m_1, e_m1⟩ : ∃ x : Int32, x = (-1) := ⟨_, rfl⟩
  try rw [← e_m1]
  have l_m1 : m_1.toInt = -1 := by rw [e_m1]; decide
  have l_0 : (0 : Int32).toInt = 0 := by decide
  have l_1 : (1 : Int32).toInt = 1 := by decide
  have fu : (FU : Int) = 1000000 := rfl
  refine wp_bind (tm_isIsland hI) (fun q1 hq1 => ?_)
  have h2 := hq1
  have c3 := im_10_0 hI
  refine wp_b (fun hb4 => ?_) (fun hb4 => ?_)
  · skip
    exact wp_some ⟨hI, rfl⟩
  · skip
    have k5 := h2 hb4
    refine wp_bind (tm_in ) (fun q3 hq6 => ?_)
    have w7 := Int32.toInt_toInt64 (p0)
    have w8 : (0 : Int64).toInt = 0 := by decide
    have w9 : (2 : Int64).toInt = 2 := by decide
    have h10 := hq6
    refine wp_b (fun hb11 => ?_) (fun hb11 => ?_)
    · skip
      exact wp_some ⟨hI, rfl⟩
    · skip
      obtain ⟨k12, k13⟩ := h10 hb11
      refine wp_eq_lo (by omega) (fun hc14 => ?_) (fun hc14 => ?_)
      · skip
        refine wp_bind (tm_fewestFaces hI) (fun q18 hq15 => ?_)
        obtain ⟨h16, h17⟩ := hq15
        exact wp_some ⟨h16, h17⟩
      · skip
        refine wp_bind (tm_views_L37 hI FU (0 : Int32) (0 : Int32) (0 : Int32) (by omega) (by omega) (by omega)) (fun w16 hq18 => ?_)
        obtain ⟨h19, h20⟩ := hq18
        refine wp_eq_lo (by omega) (fun hc21 => ?_) (fun hc21 => ?_)
        · skip
          exact wp_some ⟨hI, rfl⟩
        · skip
          exact wp_some ⟨hI, rfl⟩
theorem l_div {a b : Int64} (ha : 0 ≤ a.toInt) (hb : 0 < b.toInt) : (a / b).toInt = a.toInt / b.toInt := by
  have h1 : 0 ≤ a.toInt / b.toInt := Int.ediv_nonneg ha (by omega)
  have h2 : a.toInt / b.toInt ≤ a.toInt := Int.ediv_le_self _ ha
  have h3 := Int64.toInt_lt a
  rw [Int64.toInt_div, Int.tdiv_eq_ediv_of_nonneg ha]
  generalize a.toInt / b.toInt = z at *
  exact Int.bmod_eq_of_le (by omega) (by omega)
theorem l_mod {a b : Int64} (ha : 0 ≤ a.toInt) (hb : 0 < b.toInt) : 0 ≤ (a - a / b * b).toInt ∧ (a - a / b * b).toInt < b.toInt := by
  have h1 := l_div ha hb
  have h3 := Int64.toInt_lt a
  have q1 : 0 ≤ a.toInt / b.toInt * b.toInt := Int.mul_nonneg (Int.ediv_nonneg ha (by omega)) (by omega)
  have q2 : a.toInt / b.toInt * b.toInt ≤ a.toInt := Int.ediv_mul_le _ (by omega)
  have q3 := Int.lt_ediv_add_one_mul_self a.toInt hb
  rw [Int.add_mul, Int.one_mul] at q3
  have m : (a / b * b).toInt = a.toInt / b.toInt * b.toInt := by
    rw [Int64.toInt_mul, h1]
    generalize a.toInt / b.toInt * b.toInt = z at *
    exact Int.bmod_eq_of_le (by omega) (by omega)
  rw [Int64.toInt_sub, m]
  generalize a.toInt / b.toInt * b.toInt = z at *
  rw [Int.bmod_eq_of_le (by omega) (by omega)]
  omega
theorem tm_draw {P : Nat → Nat → Option Int} {p0 : Int32} {T : mT} (h0 : 0 < p0.toInt) (hI : IQ P T) : wp (fm_draw p0 T) (fun w => (IQ P w.2) ∧ (Sm T w.2) ∧ 0 ≤ w.1.toInt ∧ w.1.toInt < p0.toInt) := by
  unfold fm_draw
  have c := im_29 hI
  have k1 : (1103515245 : Int64).toInt = 1103515245 := by decide
  have k2 : (12345 : Int64).toInt = 12345 := by decide
  have k3 : (2147483648 : Int64).toInt = 2147483648 := by decide
  have k4 : (65536 : Int64).toInt = 65536 := by decide
  have bp := bnd p0
  have m1 : (T.2 0 29 * 1103515245).toInt = (T.2 0 29).toInt * 1103515245 := by
    rw [Int64.toInt_mul, k1]
    exact Int.bmod_eq_of_le (by omega) (by omega)
  have m2 : (T.2 0 29 * 1103515245 + 12345).toInt = (T.2 0 29).toInt * 1103515245 + 12345 := by
    rw [Int64.toInt_add, m1, k2]
    exact Int.bmod_eq_of_le (by omega) (by omega)
  have m3 := l_mod (a := T.2 0 29 * 1103515245 + 12345) (b := 2147483648) (by omega) (by omega)
  refine wp_dzl (by decide) ?_
  refine wp_letv (fun T2 e2 => ?_)
  have h2 : IQ P T2 := by rw [e2]; exact iq_lw hI m3.1 (by omega)
  have c2 := im_29 h2
  have d1 := l_div (a := T2.2 0 29) (b := 65536) c2.1 (by omega)
  have d2 : 0 ≤ (T2.2 0 29 / 65536).toInt := by rw [d1, k4]; omega
  have hp : p0.toInt64.toInt = p0.toInt := Int32.toInt_toInt64 p0
  have m4 := l_mod (a := T2.2 0 29 / 65536) (b := p0.toInt64) d2 (by omega)
  have m5 := i64_i32 (m := p0.toInt) m4.1 (by omega) (by omega)
  refine wp_dzl (by decide) ?_
  refine wp_dzl (fun e => ?_) ?_
  · have z : (0 : Int64).toInt = 0 := by decide
    have := congrArg Int64.toInt e
    rw [Int32.toInt_toInt64, z] at this
    omega
  · exact wp_some ⟨h2, by rw [e2]; exact fun r j _ => rfl, by dsimp only; omega, by dsimp only; omega⟩
theorem tm_drawsHour_L55 {P : Nat → Nat → Option Int} {k1 : Int32} {k2 : Int32} {k3 : Int32} {k4 : Int32}   : ∀ (N : Nat) (a5 : Int32) (a6 : Int32) (T : mT), 0 ≤ a5.toInt → a5.toInt ≤ 63 → 0 ≤ a6.toInt → a6.toInt ≤ 6 → IQ P T → 6 - a6.toInt < (N : Int) → wp (fm_drawsHour_L55 k1 k2 k3 k4 N a5 a6 T) (fun w => (0 ≤ (w.1).toInt) ∧ ((w.1).toInt ≤ 63) ∧ (0 ≤ (w.2.1).toInt) ∧ ((w.2.1).toInt ≤ 6) ∧ (IQ P w.2.2) ∧ (Sm T w.2.2)) := by
  intro N
  induction N with
  | zero =>
    intro a5 a6 T vl_a5 vu_a5 vl_a6 vu_a6 hI hm
    exfalso; omega
  | succ N ih =>
    intro a5 a6 T vl_a5 vu_a5 vl_a6 vu_a6 hI hm
    rw [fm_drawsHour_L55]
    have l_0 : (0 : Int32).toInt = 0 := by decide
    have l_1 : (1 : Int32).toInt = 1 := by decide
    have l_100 : (100 : Int32).toInt = 100 := by decide
    refine wp_bif (inb_of (by omega) (by omega)) ?_
    refine wp_letv (fun v20 ev20 => ?_)
    have c1 := im_10_0 hI
    rw [← ev20] at c1
    have c2 := im_10_0 hI
    have c3 : (v20).toInt = ((T.1 10 ((0 : Int32)).toNatClampNeg)).toInt := congrArg Int32.toInt ev20
    refine wp_le (fun hc4 => ?_) (fun hc4 => ?_)
    · skip
      exact wp_some ⟨(by first | omega | (dsimp only; omega)), (by first | omega | (dsimp only; omega)), (by first | omega | (dsimp only; omega)), (by first | omega | (dsimp only; omega)), hI, Sm.rfl'⟩
    · skip
      refine wp_bind (tm_draw (by omega) hI) (fun q22 hq5 => ?_)
      obtain ⟨h6, h7, h8, h9⟩ := hq5
      refine wp_le (fun hc10 => ?_) (fun hc10 => ?_)
      · skip
        have t11 := xor_i (a := a5) (b := (0 : Int32)) (n := 6) (m := 63) (by decide) (by decide) (by omega) (by omega) (by omega) (by omega)
        have t12 : (a6 + (1 : Int32) : Int32).toInt = (a6).toInt + ((1 : Int32)).toInt := tA (by omega) (by omega)
        have zz13 := (ih (a5 ^^^ (0 : Int32)) (a6 + (1 : Int32)) q22.2 (by omega) (by omega) (by omega) (by omega) h6 (by omega))
        exact wp_mono zz13 (fun w hw => ⟨hw.1, hw.2.1, hw.2.2.1, hw.2.2.2.1, hw.2.2.2.2.1, (h7.trans hw.2.2.2.2.2)⟩)
      · skip
        have t14 := shl_i (e := a6) (n := 5) (by omega) (by omega) (by decide)
        have t15 := xor_i (a := a5) (b := ((1 : Int32) <<< (a6 &&& (31 : Int32)))) (n := 6) (m := 63) (by decide) (by decide) (by omega) (by omega) (by omega) (by omega)
        have t16 : (a6 + (1 : Int32) : Int32).toInt = (a6).toInt + ((1 : Int32)).toInt := tA (by omega) (by omega)
        have zz17 := (ih (a5 ^^^ ((1 : Int32) <<< (a6 &&& (31 : Int32)))) (a6 + (1 : Int32)) q22.2 (by omega) (by omega) (by omega) (by omega) h6 (by omega))
        exact wp_mono zz17 (fun w hw => ⟨hw.1, hw.2.1, hw.2.2.1, hw.2.2.2.1, hw.2.2.2.2.1, (h7.trans hw.2.2.2.2.2)⟩)
theorem tm_drawn_L145 {P : Nat → Nat → Option Int} {k1 : Int32} {k2 : Int32} {k3 : Int32} {k4 : Int32} {k5 : Int32} {k8 : Int32}   : ∀ (N : Nat) (a6 : Int32) (a7 : Int32) (a9 : Int32) (T : mT), 0 ≤ a9.toInt → a9.toInt ≤ 8 → IQ P T → 8 - a9.toInt < (N : Int) → wp (fm_drawn_L145 k1 k2 k3 k4 k5 k8 N a6 a7 a9 T) (fun w => (0 ≤ (w.2.2.1).toInt) ∧ ((w.2.2.1).toInt ≤ 8) ∧ (IQ P w.2.2.2) ∧ (Sm T w.2.2.2)) := by
  intro N
  induction N with
  | zero =>
    intro a6 a7 a9 T vl_a9 vu_a9 hI hm
    exfalso; omega
  | succ N ih =>
    intro a6 a7 a9 T vl_a9 vu_a9 hI hm
    rw [fm_drawn_L145]
    have l_0 : (0 : Int32).toInt = 0 := by decide
    have l_1 : (1 : Int32).toInt = 1 := by decide
    refine wp_bif (inb_of (by omega) (by omega)) ?_
    refine wp_letv (fun v22 ev22 => ?_)
    have c1 := im_10_1 hI
    rw [← ev22] at c1
    have c2 := im_10_1 hI
    have c3 : (v22).toInt = ((T.1 10 ((1 : Int32)).toNatClampNeg)).toInt := congrArg Int32.toInt ev22
    refine wp_le (fun hc4 => ?_) (fun hc4 => ?_)
    · skip
      exact wp_some ⟨(by first | omega | (dsimp only; omega)), (by first | omega | (dsimp only; omega)), hI, Sm.rfl'⟩
    · skip
      refine wp_bind (tm_believedBy hI) (fun q24 hq5 => ?_)
      obtain ⟨h6, h7, h8, h9⟩ := hq5
      refine wp_bind (tm_personOf_0 (by omega) (by omega) h8) (fun q25 hq10 => ?_)
      obtain ⟨h11, h12⟩ := hq10
      refine wp_bind (Q := fun w => (0 ≤ (w).toInt) ∧ ((w).toInt ≤ 1)) ?_ (fun w26 hq13 => ?_)
      · skip
        refine wp_eqn (fun hc14 => ?_) ?_
        · skip
          exact wp_some ⟨(by first | omega | (dsimp only; omega)), (by first | omega | (dsimp only; omega))⟩
        · skip
          exact wp_some ⟨(by first | omega | (dsimp only; omega)), (by first | omega | (dsimp only; omega))⟩
      · skip
        obtain ⟨h15, h16⟩ := hq13
        refine wp_bind (tm_openOf h8) (fun q28 hq17 => ?_)
        obtain ⟨h18, h19, h20, h21⟩ := hq17
        refine wp_bind (tm_bits (by omega) (by omega)) (fun q29 hq22 => ?_)
        have t23 : (a9 + (1 : Int32) : Int32).toInt = (a9).toInt + ((1 : Int32)).toInt := tA (by omega) (by omega)
        have zz24 := (ih (a6 + w26) (a7 + q29) (a9 + (1 : Int32)) q28.2 (by omega) (by omega) h20 (by omega))
        exact wp_mono zz24 (fun w hw => ⟨hw.1, hw.2.1, hw.2.2.1, ((h9.trans h21).trans hw.2.2.2)⟩)
theorem tm_count {P : Nat → Nat → Option Int} {p0 : Int32} {T : mT}  (hI : IQ P T) : wp (fm_count p0 T) (fun w => True) := by
  unfold fm_count
  have l_0 : (0 : Int32).toInt = 0 := by decide
  have l_1 : (1 : Int32).toInt = 1 := by decide
  have l_10 : (10 : Int32).toInt = 10 := by decide
  have l_11 : (11 : Int32).toInt = 11 := by decide
  have l_2 : (2 : Int32).toInt = 2 := by decide
  have l_3 : (3 : Int32).toInt = 3 := by decide
  have l_4 : (4 : Int32).toInt = 4 := by decide
  have l_408 : (408 : Int32).toInt = 408 := by decide
  have l_409 : (409 : Int32).toInt = 409 := by decide
  have l_5 : (5 : Int32).toInt = 5 := by decide
  have l_6 : (6 : Int32).toInt = 6 := by decide
  have l_7 : (7 : Int32).toInt = 7 := by decide
  have l_8 : (8 : Int32).toInt = 8 := by decide
  have l_9 : (9 : Int32).toInt = 9 := by decide
  refine wp_eqn (fun hc1 => ?_) ?_
  · skip
    refine wp_bif (inb_of (by omega) (by omega)) ?_
    refine wp_letv (fun v2 ev2 => ?_)
    exact wp_some trivial
  · skip
    refine wp_eqn (fun hc2 => ?_) ?_
    · skip
      refine wp_bif (inb_of (by omega) (by omega)) ?_
      refine wp_letv (fun v4 ev4 => ?_)
      exact wp_some trivial
    · skip
      refine wp_eqn (fun hc3 => ?_) ?_
      · skip
        exact wp_some trivial
      · skip
        refine wp_eqn (fun hc4 => ?_) ?_
        · skip
          exact wp_some trivial
        · skip
          refine wp_eqn (fun hc5 => ?_) ?_
          · skip
            refine wp_bif (inb_of (by omega) (by omega)) ?_
            refine wp_letv (fun v8 ev8 => ?_)
            have c6 := im_10_2 hI
            rw [← ev8] at c6
            have c7 := im_10_2 hI
            have c8 : (v8).toInt = ((T.1 10 ((2 : Int32)).toNatClampNeg)).toInt := congrArg Int32.toInt ev8
            exact wp_some trivial
          · skip
            refine wp_eqn (fun hc9 => ?_) ?_
            · skip
              refine wp_bind (tm_isIsland hI) (fun q10 hq10 => ?_)
              have h11 := hq10
              have c12 := im_10_0 hI
              refine wp_b (fun hb13 => ?_) (fun hb13 => ?_)
              · skip
                exact wp_some trivial
              · skip
                have k14 := h11 hb13
                refine wp_bif (inb_of (by omega) (by omega)) ?_
                refine wp_letv (fun v12 ev12 => ?_)
                have c15 := im_10_3 hI
                rw [← ev12] at c15
                have c16 := im_10_3 hI
                have c17 : (v12).toInt = ((T.1 10 ((3 : Int32)).toNatClampNeg)).toInt := congrArg Int32.toInt ev12
                exact wp_some trivial
            · skip
              refine wp_eqn (fun hc18 => ?_) ?_
              · skip
                refine wp_bif (inb_of (by omega) (by omega)) ?_
                refine wp_letv (fun v14 ev14 => ?_)
                have c19 := im_10_5 hI
                rw [← ev14] at c19
                have c20 := im_10_5 hI
                have c21 : (v14).toInt = ((T.1 10 ((5 : Int32)).toNatClampNeg)).toInt := congrArg Int32.toInt ev14
                exact wp_some trivial
              · skip
                refine wp_eqn (fun hc22 => ?_) ?_
                · skip
                  refine wp_bif (inb_of (by omega) (by omega)) ?_
                  refine wp_letv (fun v16 ev16 => ?_)
                  have c23 := im_10_408 hI
                  rw [← ev16] at c23
                  have c24 := im_10_408 hI
                  have c25 : (v16).toInt = ((T.1 10 ((408 : Int32)).toNatClampNeg)).toInt := congrArg Int32.toInt ev16
                  exact wp_some trivial
                · skip
                  refine wp_eqn (fun hc26 => ?_) ?_
                  · skip
                    refine wp_bif (inb_of (by omega) (by omega)) ?_
                    refine wp_letv (fun v18 ev18 => ?_)
                    have c27 := im_10_409 hI
                    rw [← ev18] at c27
                    have c28 := im_10_409 hI
                    have c29 : (v18).toInt = ((T.1 10 ((409 : Int32)).toNatClampNeg)).toInt := congrArg Int32.toInt ev18
                    exact wp_some trivial
                  · skip
                    refine wp_eqn (fun hc30 => ?_) ?_
                    · skip
                      exact wp_some trivial
                    · skip
                      refine wp_eqn (fun hc31 => ?_) ?_
                      · skip
                        exact wp_some trivial
                      · skip
                        refine wp_eqn (fun hc32 => ?_) ?_
                        · skip
                          exact wp_some trivial
                        · skip
                          exact wp_some trivial
