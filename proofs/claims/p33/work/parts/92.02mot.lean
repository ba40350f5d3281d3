/-! ===== the reference answers 2 ===== -/
theorem tm_sumOf {P : Nat → Nat → Option Int} {p0 : Int32} {p1 : Int32} {T : mT}  (hI : IQ P T) : wp (fm_sumOf p0 p1 T) (fun w => (IQ P w.2) ∧ (Sm T w.2)) := by
  unfold fm_sumOf
  have l_0 : (0 : Int32).toInt = 0 := by decide
  have fu : (FU : Int) = 1000000 := rfl
  refine wp_bind (tm_sumOf_L5  FU (0 : Int32) (0 : Int32) T (by omega) (by omega) hI (by omega)) (fun w12 hq1 => ?_)
  obtain ⟨h2, h3, h4, h5⟩ := hq1
  exact wp_some ⟨h4, h5⟩
theorem tm_believedBy_L4 {P : Nat → Nat → Option Int} {k1 : Int32}   : ∀ (N : Nat) (a2 : Int32) (a3 : Int32) (T : mT), 0 ≤ a2.toInt → a2.toInt ≤ 63 → 0 ≤ a3.toInt → a3.toInt ≤ 6 → IQ P T → 6 - a3.toInt < (N : Int) → wp (fm_believedBy_L4 k1 N a2 a3 T) (fun w => (0 ≤ (w.1).toInt) ∧ ((w.1).toInt ≤ 63) ∧ (0 ≤ (w.2.1).toInt) ∧ ((w.2.1).toInt ≤ 6) ∧ (IQ P w.2.2) ∧ (Sm T w.2.2)) := by
  intro N
  induction N with
  | zero =>
    intro a2 a3 T vl_a2 vu_a2 vl_a3 vu_a3 hI hm
    exfalso; omega
  | succ N ih =>
    intro a2 a3 T vl_a2 vu_a2 vl_a3 vu_a3 hI hm
    rw [fm_believedBy_L4]
    have l_0 : (0 : Int32).toInt = 0 := by decide
    have l_1 : (1 : Int32).toInt = 1 := by decide
    refine wp_bif (inb_of (by omega) (by omega)) ?_
    refine wp_letv (fun v1 ev1 => ?_)
    have c1 := im_10_0 hI
    rw [← ev1] at c1
    have c2 := im_10_0 hI
    have c3 : (v1).toInt = ((T.1 10 ((0 : Int32)).toNatClampNeg)).toInt := congrArg Int32.toInt ev1
    refine wp_le (fun hc4 => ?_) (fun hc4 => ?_)
    · skip
      exact wp_some ⟨(by first | omega | (dsimp only; omega)), (by first | omega | (dsimp only; omega)), (by first | omega | (dsimp only; omega)), (by first | omega | (dsimp only; omega)), hI, Sm.rfl'⟩
    · skip
      refine wp_bind (tm_sumOf hI) (fun q3 hq5 => ?_)
      obtain ⟨h6, h7⟩ := hq5
      refine wp_le (fun hc8 => ?_) (fun hc8 => ?_)
      · skip
        have t9 := or_i (a := a2) (b := (0 : Int32)) (n := 6) (m := 63) (by decide) (by decide) (by omega) (by omega) (by omega) (by omega)
        have t10 : (a3 + (1 : Int32) : Int32).toInt = (a3).toInt + ((1 : Int32)).toInt := tA (by omega) (by omega)
        have zz11 := (ih (a2 ||| (0 : Int32)) (a3 + (1 : Int32)) q3.2 (by omega) (by omega) (by omega) (by omega) h6 (by omega))
        exact wp_mono zz11 (fun w hw => ⟨hw.1, hw.2.1, hw.2.2.1, hw.2.2.2.1, hw.2.2.2.2.1, (h7.trans hw.2.2.2.2.2)⟩)
      · skip
        have t12 := shl_i (e := a3) (n := 5) (by omega) (by omega) (by decide)
        have t13 := or_i (a := a2) (b := ((1 : Int32) <<< (a3 &&& (31 : Int32)))) (n := 6) (m := 63) (by decide) (by decide) (by omega) (by omega) (by omega) (by omega)
        have t14 : (a3 + (1 : Int32) : Int32).toInt = (a3).toInt + ((1 : Int32)).toInt := tA (by omega) (by omega)
        have zz15 := (ih (a2 ||| ((1 : Int32) <<< (a3 &&& (31 : Int32)))) (a3 + (1 : Int32)) q3.2 (by omega) (by omega) (by omega) (by omega) h6 (by omega))
        exact wp_mono zz15 (fun w hw => ⟨hw.1, hw.2.1, hw.2.2.1, hw.2.2.2.1, hw.2.2.2.2.1, (h7.trans hw.2.2.2.2.2)⟩)
theorem tm_believedBy {P : Nat → Nat → Option Int} {p0 : Int32} {T : mT}  (hI : IQ P T) : wp (fm_believedBy p0 T) (fun w => (0 ≤ (w.1).toInt) ∧ ((w.1).toInt ≤ 63) ∧ (IQ P w.2) ∧ (Sm T w.2)) := by
  unfold fm_believedBy
  have l_0 : (0 : Int32).toInt = 0 := by decide
  have fu : (FU : Int) = 1000000 := rfl
  refine wp_bind (tm_believedBy_L4  FU (0 : Int32) (0 : Int32) T (by omega) (by omega) (by omega) (by omega) hI (by omega)) (fun w5 hq1 => ?_)
  obtain ⟨h2, h3, h4, h5, h6, h7⟩ := hq1
  exact wp_some ⟨(by first | omega | (dsimp only; omega)), (by first | omega | (dsimp only; omega)), h6, h7⟩
theorem tm_openOf_L4 {P : Nat → Nat → Option Int} {k1 : Int32}   : ∀ (N : Nat) (a2 : Int32) (a3 : Int32) (T : mT), 0 ≤ a2.toInt → a2.toInt ≤ 63 → 0 ≤ a3.toInt → a3.toInt ≤ 6 → IQ P T → 6 - a3.toInt < (N : Int) → wp (fm_openOf_L4 k1 N a2 a3 T) (fun w => (0 ≤ (w.1).toInt) ∧ ((w.1).toInt ≤ 63) ∧ (0 ≤ (w.2.1).toInt) ∧ ((w.2.1).toInt ≤ 6) ∧ (IQ P w.2.2) ∧ (Sm T w.2.2)) := by
  intro N
  induction N with
  | zero =>
    intro a2 a3 T vl_a2 vu_a2 vl_a3 vu_a3 hI hm
    exfalso; omega
  | succ N ih =>
    intro a2 a3 T vl_a2 vu_a2 vl_a3 vu_a3 hI hm
    rw [fm_openOf_L4]
    have l_0 : (0 : Int32).toInt = 0 := by decide
    have l_1 : (1 : Int32).toInt = 1 := by decide
    refine wp_bif (inb_of (by omega) (by omega)) ?_
    refine wp_letv (fun v1 ev1 => ?_)
    have c1 := im_10_0 hI
    rw [← ev1] at c1
    have c2 := im_10_0 hI
    have c3 : (v1).toInt = ((T.1 10 ((0 : Int32)).toNatClampNeg)).toInt := congrArg Int32.toInt ev1
    refine wp_le (fun hc4 => ?_) (fun hc4 => ?_)
    · skip
      exact wp_some ⟨(by first | omega | (dsimp only; omega)), (by first | omega | (dsimp only; omega)), (by first | omega | (dsimp only; omega)), (by first | omega | (dsimp only; omega)), hI, Sm.rfl'⟩
    · skip
      refine wp_bind (tm_sumOf hI) (fun q3 hq5 => ?_)
      obtain ⟨h6, h7⟩ := hq5
      refine wp_eqn (fun hc8 => ?_) ?_
      · skip
        have t9 := shl_i (e := a3) (n := 5) (by omega) (by omega) (by decide)
        have t10 := or_i (a := a2) (b := ((1 : Int32) <<< (a3 &&& (31 : Int32)))) (n := 6) (m := 63) (by decide) (by decide) (by omega) (by omega) (by omega) (by omega)
        have t11 : (a3 + (1 : Int32) : Int32).toInt = (a3).toInt + ((1 : Int32)).toInt := tA (by omega) (by omega)
        have zz12 := (ih (a2 ||| ((1 : Int32) <<< (a3 &&& (31 : Int32)))) (a3 + (1 : Int32)) q3.2 (by omega) (by omega) (by omega) (by omega) h6 (by omega))
        exact wp_mono zz12 (fun w hw => ⟨hw.1, hw.2.1, hw.2.2.1, hw.2.2.2.1, hw.2.2.2.2.1, (h7.trans hw.2.2.2.2.2)⟩)
      · skip
        have t13 := or_i (a := a2) (b := (0 : Int32)) (n := 6) (m := 63) (by decide) (by decide) (by omega) (by omega) (by omega) (by omega)
        have t14 : (a3 + (1 : Int32) : Int32).toInt = (a3).toInt + ((1 : Int32)).toInt := tA (by omega) (by omega)
        have zz15 := (ih (a2 ||| (0 : Int32)) (a3 + (1 : Int32)) q3.2 (by omega) (by omega) (by omega) (by omega) h6 (by omega))
        exact wp_mono zz15 (fun w hw => ⟨hw.1, hw.2.1, hw.2.2.1, hw.2.2.2.1, hw.2.2.2.2.1, (h7.trans hw.2.2.2.2.2)⟩)
theorem tm_openOf {P : Nat → Nat → Option Int} {p0 : Int32} {T : mT}  (hI : IQ P T) : wp (fm_openOf p0 T) (fun w => (0 ≤ (w.1).toInt) ∧ ((w.1).toInt ≤ 63) ∧ (IQ P w.2) ∧ (Sm T w.2)) := by
  unfold fm_openOf
  have l_0 : (0 : Int32).toInt = 0 := by decide
  have fu : (FU : Int) = 1000000 := rfl
  refine wp_bind (tm_openOf_L4  FU (0 : Int32) (0 : Int32) T (by omega) (by omega) (by omega) (by omega) hI (by omega)) (fun w5 hq1 => ?_)
  obtain ⟨h2, h3, h4, h5, h6, h7⟩ := hq1
  exact wp_some ⟨(by first | omega | (dsimp only; omega)), (by first | omega | (dsimp only; omega)), h6, h7⟩
theorem tm_person {P : Nat → Nat → Option Int} {p0 : Int32} {p1 : Int32} {T : mT}  (hI : IQ P T) : wp (fm_person p0 p1 T) (fun w => (IQ P w.2) ∧ (Sm T w.2)) := by
  unfold fm_person
  obtain ⟨m_1, e_m1⟩ : ∃ x : Int32, x = (-1) := ⟨_, rfl⟩
  try rw [← e_m1]
  have l_m1 : m_1.toInt = -1 := by rw [e_m1]; decide
  have l_0 : (0 : Int32).toInt = 0 := by decide
  have l_1 : (1 : Int32).toInt = 1 := by decide
  have l_104 : (104 : Int32).toInt = 104 := by decide
  have l_2 : (2 : Int32).toInt = 2 := by decide
  have l_3 : (3 : Int32).toInt = 3 := by decide
  have l_4 : (4 : Int32).toInt = 4 := by decide
  have l_5 : (5 : Int32).toInt = 5 := by decide
  have l_6 : (6 : Int32).toInt = 6 := by decide
  have l_7 : (7 : Int32).toInt = 7 := by decide
  refine wp_bind (tm_isPerson hI) (fun q1 hq1 => ?_)
  have h2 := hq1
  refine wp_b (fun hb3 => ?_) (fun hb3 => ?_)
  · skip
    exact wp_some ⟨hI, Sm.rfl'⟩
  · skip
    obtain ⟨k4, k5⟩ := h2 hb3
    refine wp_eqn (fun hc6 => ?_) ?_
    · skip
      refine wp_bind (tm_personOf (by omega) (by omega) (by omega) (by omega) hI) (fun q4 hq7 => ?_)
      exact wp_some ⟨hI, Sm.rfl'⟩
    · skip
      refine wp_eqn (fun hc8 => ?_) ?_
      · skip
        refine wp_bind (tm_personOf (by omega) (by omega) (by omega) (by omega) hI) (fun q6 hq9 => ?_)
        exact wp_some ⟨hI, Sm.rfl'⟩
      · skip
        refine wp_eqn (fun hc10 => ?_) ?_
        · skip
          refine wp_bind (tm_personOf (by omega) (by omega) (by omega) (by omega) hI) (fun q8 hq11 => ?_)
          exact wp_some ⟨hI, Sm.rfl'⟩
        · skip
          refine wp_eqn (fun hc12 => ?_) ?_
          · skip
            refine wp_bind (tm_personOf (by omega) (by omega) (by omega) (by omega) hI) (fun q10 hq13 => ?_)
            exact wp_some ⟨hI, Sm.rfl'⟩
          · skip
            refine wp_eqn (fun hc14 => ?_) ?_
            · skip
              refine wp_bind (tm_believedBy hI) (fun q12 hq15 => ?_)
              obtain ⟨h16, h17, h18, h19⟩ := hq15
              exact wp_some ⟨h18, h19⟩
            · skip
              refine wp_eqn (fun hc20 => ?_) ?_
              · skip
                refine wp_bind (tm_openOf hI) (fun q14 hq21 => ?_)
                obtain ⟨h22, h23, h24, h25⟩ := hq21
                exact wp_some ⟨h24, h25⟩
              · skip
                refine wp_eqn (fun hc26 => ?_) ?_
                · skip
                  refine wp_bif (inb_of (by omega) (by omega)) ?_
                  refine wp_letv (fun v16 ev16 => ?_)
                  have c27 := im_10_3 hI
                  rw [← ev16] at c27
                  have c28 := im_10_3 hI
                  have c29 : (v16).toInt = ((T.1 10 ((3 : Int32)).toNatClampNeg)).toInt := congrArg Int32.toInt ev16
                  refine wp_eqn (fun hc30 => ?_) ?_
                  · skip
                    refine wp_bif (inb_of (by omega) (by omega)) ?_
                    refine wp_letv (fun v18 ev18 => ?_)
                    have c31 := im_10_4 hI
                    rw [← ev18] at c31
                    have c32 := im_10_4 hI
                    have c33 : (v18).toInt = ((T.1 10 ((4 : Int32)).toNatClampNeg)).toInt := congrArg Int32.toInt ev18
                    exact wp_some ⟨hI, Sm.rfl'⟩
                  · skip
                    exact wp_some ⟨hI, Sm.rfl'⟩
                · skip
                  refine wp_eqn (fun hc34 => ?_) ?_
                  · skip
                    have t35 : ((104 : Int32) + p0 : Int32).toInt = ((104 : Int32)).toInt + (p0).toInt := tA (by omega) (by omega)
                    refine wp_bif (inb_of (by omega) (by omega)) ?_
                    refine wp_letv (fun v20 ev20 => ?_)
                    exact wp_some ⟨hI, Sm.rfl'⟩
                  · skip
                    exact wp_some ⟨hI, Sm.rfl'⟩
theorem tm_sum {P : Nat → Nat → Option Int} {p0 : Int32} {p1 : Int32} {T : mT}  (hI : IQ P T) : wp (fm_sum p0 p1 T) (fun w => (IQ P w.2) ∧ (Sm T w.2)) := by
  unfold fm_sum
  obtain ⟨m_1000000, e_m1000000⟩ : ∃ x : Int32, x = (-1000000) := ⟨_, rfl⟩
  try rw [← e_m1000000]
  have l_m1000000 : m_1000000.toInt = -1000000 := by rw [e_m1000000]; decide
  have l_0 : (0 : Int32).toInt = 0 := by decide
  refine wp_bind (tm_isPerson hI) (fun q1 hq1 => ?_)
  have h2 := hq1
  refine wp_b (fun hb3 => ?_) (fun hb3 => ?_)
  · skip
    exact wp_some ⟨hI, Sm.rfl'⟩
  · skip
    obtain ⟨k4, k5⟩ := h2 hb3
    refine wp_bif (inb_of (by omega) (by omega)) ?_
    refine wp_letv (fun v3 ev3 => ?_)
    have c6 := im_10_0 hI
    rw [← ev3] at c6
    have c7 := im_10_0 hI
    have c8 : (v3).toInt = ((T.1 10 ((0 : Int32)).toNatClampNeg)).toInt := congrArg Int32.toInt ev3
    refine wp_bind (tm_in ) (fun q4 hq9 => ?_)
    have h10 := hq9
    refine wp_b (fun hb11 => ?_) (fun hb11 => ?_)
    · skip
      exact wp_some ⟨hI, Sm.rfl'⟩
    · skip
      obtain ⟨k12, k13⟩ := h10 hb11
      refine wp_bind (tm_sumOf hI) (fun q6 hq14 => ?_)
      obtain ⟨h15, h16⟩ := hq14
      exact wp_some ⟨h15, h16⟩
theorem tm_tie {P : Nat → Nat → Option Int} {p0 : Int32} {p1 : Int32} {T : mT}  (hI : IQ P T) : wp (fm_tie p0 p1 T) (fun w => True) := by
  unfold fm_tie
  refine wp_bind (tm_isPerson hI) (fun q1 hq1 => ?_)
  have h2 := hq1
  refine wp_b (fun hb3 => ?_) (fun hb3 => ?_)
  · skip
    exact wp_some trivial
  · skip
    obtain ⟨k4, k5⟩ := h2 hb3
    refine wp_bind (tm_isPerson hI) (fun q3 hq6 => ?_)
    have h7 := hq6
    refine wp_b (fun hb8 => ?_) (fun hb8 => ?_)
    · skip
      exact wp_some trivial
    · skip
      obtain ⟨k9, k10⟩ := h7 hb8
      refine wp_eqn (fun hc11 => ?_) ?_
      · skip
        exact wp_some trivial
      · skip
        refine wp_bind (tm_tieOf (by omega) (by omega) (by omega) (by omega) hI) (fun q6 hq12 => ?_)
        exact wp_some trivial
theorem tm_telling {P : Nat → Nat → Option Int} {p0 : Int32} {p1 : Int32} {T : mT}  (hI : IQ P T) : wp (fm_telling p0 p1 T) (fun w => True) := by
  unfold fm_telling
  have l_6 : (6 : Int32).toInt = 6 := by decide
  refine wp_bind (tm_isTelling hI) (fun q1 hq1 => ?_)
  have h2 := hq1
  have c3 := im_10_5 hI
  refine wp_b (fun hb4 => ?_) (fun hb4 => ?_)
  · skip
    exact wp_some trivial
  · skip
    obtain ⟨k5, k6, k7⟩ := h2 hb4
    refine wp_bind (tm_in ) (fun q3 hq8 => ?_)
    have h9 := hq8
    refine wp_b (fun hb10 => ?_) (fun hb10 => ?_)
    · skip
      exact wp_some trivial
    · skip
      obtain ⟨k11, k12⟩ := h9 hb10
      refine wp_le (fun hc13 => ?_) (fun hc13 => ?_)
      · skip
        refine wp_bind (tm_isLook (by omega) (by omega) hI) (fun q6 hq14 => ?_)
        refine wp_b (fun hb15 => ?_) (fun hb15 => ?_)
        · skip
          exact wp_some trivial
        · skip
          exact wp_some trivial
      · skip
        refine wp_bind (tm_tellingOf (by omega) (by omega) (by omega) (by omega) hI) (fun q8 hq16 => ?_)
        exact wp_some trivial
theorem tm_isHourLeft {P : Nat → Nat → Option Int}  {T : mT}  (hI : IQ P T) : wp (fm_isHourLeft T) (fun w => (w = true → (T.1 10 (2 : Int32).toNatClampNeg).toInt < 9999)) := by
  unfold fm_isHourLeft
  have l_2 : (2 : Int32).toInt = 2 := by decide
  have l_9999 : (9999 : Int32).toInt = 9999 := by decide
  refine wp_bind (tm_isIsland hI) (fun q1 hq1 => ?_)
  have h2 := hq1
  have c3 := im_10_0 hI
  refine wp_b (fun hb4 => ?_) (fun hb4 => ?_)
  · skip
    exact wp_some (fun e => by cases e)
  · skip
    have k5 := h2 hb4
    refine wp_bif (inb_of (by omega) (by omega)) ?_
    refine wp_letv (fun v3 ev3 => ?_)
    have c6 := im_10_2 hI
    rw [← ev3] at c6
    have c7 := im_10_2 hI
    have c8 : (v3).toInt = ((T.1 10 ((2 : Int32)).toNatClampNeg)).toInt := congrArg Int32.toInt ev3
    refine wp_le (fun hc9 => ?_) (fun hc9 => ?_)
    · skip
      exact wp_some (fun e => by cases e)
    · skip
      exact wp_some (fun _ => (by first | omega | (dsimp only; omega)))
theorem tm_comes {P : Nat → Nat → Option Int} {p0 p1 p2 p3 p4 : Int32} {T : mT} (hl_p0 : 0 ≤ p0.toInt) (hu_p0 : p0.toInt ≤ 7) (hl_p1 : 0 ≤ p1.toInt) (hu_p1 : p1.toInt ≤ 7) (hl_p2 : 0 ≤ p2.toInt) (hu_p2 : p2.toInt ≤ 7) (hl_p3 : 0 ≤ p3.toInt) (hu_p3 : p3.toInt ≤ 63) (hl_p4 : -1 ≤ p4.toInt) (hf : p4.toInt < (T.1 10 (5 : Int32).toNatClampNeg).toInt) (hs : (T.1 10 (5 : Int32).toNatClampNeg).toInt < 40) (hI : IQ P T) : wp (fm_comes p0 p1 p2 p3 p4 T) (fun w => (IQ P w) ∧ (w.1 14 = T.1 14) ∧ (∀ j, j < 112 → j ≠ 5 → w.1 10 j = T.1 10 j) ∧ (∀ r, r ≠ 10 → w.1 r = T.1 r)) := by
  sorry
theorem tm_faceBy {P : Nat → Nat → Option Int} {p0 p1 p2 p3 : Int32} {T : mT} (hl_p1 : 0 ≤ p1.toInt) (hu_p1 : p1.toInt ≤ 7) (hl_p2 : 0 ≤ p2.toInt) (hu_p2 : p2.toInt ≤ 7) (hl_p3 : 0 ≤ p3.toInt) (hu_p3 : p3.toInt ≤ 7) (hr : p0.toInt < (T.1 0 2).toInt) (hI : IQ P T) : wp (fm_faceBy p0 p1 p2 p3 T) (fun w => (0 ≤ (w.1).toInt) ∧ ((w.1).toInt ≤ 63) ∧ (IQ P w.2) ∧ (Sm T w.2)) := by
  unfold fm_faceBy
  have l_0 : (0 : Int32).toInt = 0 := by decide
  refine wp_bind (Q := fun w => (0 ≤ (w.1).toInt) ∧ ((w.1).toInt ≤ 63) ∧ (IQ P w.2) ∧ (Sm T w.2)) ?_ (fun w1 h1 => ?_)
  · refine wp_eq (fun _ => ?_) (fun _ => ?_)
    · refine wp_bind (tm_believedBy hI) (fun q4 h4 => ?_)
      exact wp_some h4
    · refine wp_bind (tm_personOf_0 (p1 := 0) hl_p3 hu_p3 hI) (fun q3 h3 => ?_)
      exact wp_some ⟨h3.1, h3.2, hI, Sm.rfl'⟩
  · obtain ⟨x1, x2, x3, x4⟩ := h1
    refine wp_bind (tm_words hl_p1 hu_p1 hl_p2 hu_p2 x3) (fun q5 h5 => ?_)
    refine wp_bind (tm_clauseFor (by rw [h5.2 0 2 (Or.inr (by decide)), x4 0 2 (Or.inr (by decide))]; exact hr) h5.1) (fun q6 h6 => ?_)
    refine wp_le (fun hc => ?_) (fun hc => wp_some ⟨x1, x2, h6.1, x4.trans (h5.2.trans h6.2.1)⟩)
    refine wp_bind (tm_allMarks h6.1) (fun q8 h8 => ?_)
    refine wp_bind (tm_heldSum (CA.same h6.2.1 (h6.2.2 (by omega))) h8.1 h6.1) (fun q9 h9 => ?_)
    exact wp_some ⟨h9.2.2.1, Int.le_trans h9.2.2.2 h8.2, h9.1, x4.trans (h5.2.trans (h6.2.1.trans h9.2.1))⟩
theorem tm_mayBe {P : Nat → Nat → Option Int} {p0 : Int32} {T : mT}  (hI : IQ P T) : wp (fm_mayBe p0 T) (fun w => (w = true → (p0).toInt < (T.1 0 2).toInt)) := by
  unfold fm_mayBe
  obtain ⟨m_1, e_m1⟩ : ∃ x : Int32, x = (-1) := ⟨_, rfl⟩
  try rw [← e_m1]
  have l_m1 : m_1.toInt = -1 := by rw [e_m1]; decide
  refine wp_eqn (fun hc1 => ?_) ?_
  · skip
    exact wp_some (fun _ => (by first | omega | (dsimp only; omega)))
  · skip
    refine wp_bind (tm_isRule hI) (fun q2 hq2 => ?_)
    have h3 := hq2
    have c4 := im_0_2 hI
    refine wp_b (fun hb5 => ?_) (fun hb5 => ?_)
    · skip
      exact wp_some (fun e => by cases e)
    · skip
      obtain ⟨k6, k7⟩ := h3 hb5
      exact wp_some (fun _ => (by first | omega | (dsimp only; omega)))
theorem tm_glassGoes {P : Nat → Nat → Option Int} {p0 : Int32} {T : mT} (hl_p0 : 0 ≤ p0.toInt) (hu_p0 : p0.toInt ≤ 7) (hI : IQ P T) : wp (fm_glassGoes p0 T) (fun w => (IQ P w) ∧ (w.1 14 = T.1 14)) := by
  unfold fm_glassGoes
  have l_0 : (0 : Int32).toInt = 0 := by decide
  have l_3 : (3 : Int32).toInt = 3 := by decide
  have l_4 : (4 : Int32).toInt = 4 := by decide
  refine wp_bif (inb_of (by omega) (by omega)) ?_
  refine wp_letv (fun T1 eT1 => ?_)
  have hIT1 : IQ P T1 := by rw [eT1]; exact (iq_10_3 hI (by omega) (by omega))
  have hKT1 : T1.1 14 = T.1 14 := by rw [eT1]; exact (ma_no _ _ _ (by decide))
  refine wp_bif (inb_of (by omega) (by omega)) ?_
  refine wp_letv (fun T2 eT2 => ?_)
  have hIT2 : IQ P T2 := by rw [eT2]; exact (iq_10_4 hIT1 (by omega) (by omega))
  have hKT2 : T2.1 14 = T.1 14 := by rw [eT2]; exact (ma_no _ _ _ (by decide)).trans hKT1
  exact wp_some ⟨hIT2, hKT2⟩
theorem tm_heeding_L4 {P : Nat → Nat → Option Int} {k1 : Int32} {T : mT} (hl_k1 : 0 ≤ k1.toInt) (hu_k1 : k1.toInt ≤ 7) (hI : IQ P T) : ∀ (N : Nat) (a2 : Int32) (a3 : Int32), -1 ≤ a2.toInt → a2.toInt ≤ 7 → 0 ≤ a3.toInt → a3.toInt ≤ 8 → 8 - a3.toInt < (N : Int) → wp (fm_heeding_L4 k1 T N a2 a3) (fun w => (-1 ≤ (w.1).toInt) ∧ ((w.1).toInt ≤ 7) ∧ (0 ≤ (w.2).toInt) ∧ ((w.2).toInt ≤ 8)) := by
  intro N
  induction N with
  | zero =>
    intro a2 a3 vl_a2 vu_a2 vl_a3 vu_a3 hm
    exfalso; omega
  | succ N ih =>
    intro a2 a3 vl_a2 vu_a2 vl_a3 vu_a3 hm
    rw [fm_heeding_L4]
    have l_0 : (0 : Int32).toInt = 0 := by decide
    have l_1 : (1 : Int32).toInt = 1 := by decide
    refine wp_bif (inb_of (by omega) (by omega)) ?_
    refine wp_letv (fun v1 ev1 => ?_)
    have c1 := im_10_1 hI
    rw [← ev1] at c1
    have c2 := im_10_1 hI
    have c3 : (v1).toInt = ((T.1 10 ((1 : Int32)).toNatClampNeg)).toInt := congrArg Int32.toInt ev1
    refine wp_le (fun hc4 => ?_) (fun hc4 => ?_)
    · skip
      exact wp_some ⟨(by first | omega | (dsimp only; omega)), (by first | omega | (dsimp only; omega)), (by first | omega | (dsimp only; omega)), (by first | omega | (dsimp only; omega))⟩
    · skip
      refine wp_eqn (fun hc5 => ?_) ?_
      · skip
        have t6 : (a3 + (1 : Int32) : Int32).toInt = (a3).toInt + ((1 : Int32)).toInt := tA (by omega) (by omega)
        exact (ih a2 (a3 + (1 : Int32)) (by omega) (by omega) (by omega) (by omega) (by omega))
      · skip
        refine wp_bind (tm_tieOf (by omega) (by omega) (by omega) (by omega) hI) (fun q4 hq7 => ?_)
        refine wp_le (fun hc8 => ?_) (fun hc8 => ?_)
        · skip
          refine wp_bind (tm_tieOf (by omega) (by omega) (by omega) (by omega) hI) (fun q6 hq9 => ?_)
          refine wp_le (fun hc10 => ?_) (fun hc10 => ?_)
          · skip
            have t11 : (a3 + (1 : Int32) : Int32).toInt = (a3).toInt + ((1 : Int32)).toInt := tA (by omega) (by omega)
            exact (ih a2 (a3 + (1 : Int32)) (by omega) (by omega) (by omega) (by omega) (by omega))
          · skip
            have t12 : (a3 + (1 : Int32) : Int32).toInt = (a3).toInt + ((1 : Int32)).toInt := tA (by omega) (by omega)
            exact (ih a3 (a3 + (1 : Int32)) (by omega) (by omega) (by omega) (by omega) (by omega))
        · skip
          refine wp_le (fun hc13 => ?_) (fun hc13 => ?_)
          · skip
            have t14 : (a3 + (1 : Int32) : Int32).toInt = (a3).toInt + ((1 : Int32)).toInt := tA (by omega) (by omega)
            exact (ih a2 (a3 + (1 : Int32)) (by omega) (by omega) (by omega) (by omega) (by omega))
          · skip
            have t15 : (a3 + (1 : Int32) : Int32).toInt = (a3).toInt + ((1 : Int32)).toInt := tA (by omega) (by omega)
            exact (ih a3 (a3 + (1 : Int32)) (by omega) (by omega) (by omega) (by omega) (by omega))
theorem tm_heeding {P : Nat → Nat → Option Int} {p0 : Int32} {T : mT} (hl_p0 : 0 ≤ p0.toInt) (hu_p0 : p0.toInt ≤ 7) (hI : IQ P T) : wp (fm_heeding p0 T) (fun w => (-1 ≤ (w).toInt) ∧ ((w).toInt ≤ 7)) := by
  unfold fm_heeding
  obtain ⟨m_1, e_m1⟩ : ∃ x : Int32, x = (-1) := ⟨_, rfl⟩
  try rw [← e_m1]
  have l_m1 : m_1.toInt = -1 := by rw [e_m1]; decide
  have l_0 : (0 : Int32).toInt = 0 := by decide
  have fu : (FU : Int) = 1000000 := rfl
  refine wp_bind (tm_heeding_L4 (by omega) (by omega) hI FU m_1 (0 : Int32) (by omega) (by omega) (by omega) (by omega) (by omega)) (fun w9 hq1 => ?_)
  obtain ⟨h2, h3, h4, h5⟩ := hq1
  exact wp_some ⟨(by first | omega | (dsimp only; omega)), (by first | omega | (dsimp only; omega))⟩
theorem tm_passes_L83 {P : Nat → Nat → Option Int} {k1 : Int32} {T : mT}  (hI : IQ P T) : ∀ (N : Nat) (a2 : Int32) (a3 : Int32), -1 ≤ a2.toInt → a2.toInt ≤ 7 → -1 ≤ a3.toInt → a3.toInt ≤ 7 → a3.toInt + 1 < (N : Int) → wp (fm_passes_L83 k1 T N a2 a3) (fun w => (-1 ≤ (w.1).toInt) ∧ ((w.1).toInt ≤ 7) ∧ (-1 ≤ (w.2).toInt) ∧ ((w.2).toInt ≤ 7)) := by
  intro N
  induction N with
  | zero =>
    intro a2 a3 vl_a2 vu_a2 vl_a3 vu_a3 hm
    exfalso; omega
  | succ N ih =>
    intro a2 a3 vl_a2 vu_a2 vl_a3 vu_a3 hm
    rw [fm_passes_L83]
    obtain ⟨m_1, e_m1⟩ : ∃ x : Int32, x = (-1) := ⟨_, rfl⟩
    try rw [← e_m1]
    have l_m1 : m_1.toInt = -1 := by rw [e_m1]; decide
    have l_0 : (0 : Int32).toInt = 0 := by decide
    have l_104 : (104 : Int32).toInt = 104 := by decide
    have l_3 : (3 : Int32).toInt = 3 := by decide
    have l_4 : (4 : Int32).toInt = 4 := by decide
    refine wp_lt (fun hc1 => ?_) (fun hc1 => ?_)
    · skip
      exact wp_some ⟨(by first | omega | (dsimp only; omega)), (by first | omega | (dsimp only; omega)), (by first | omega | (dsimp only; omega)), (by first | omega | (dsimp only; omega))⟩
    · skip
      refine wp_bif (inb_of (by omega) (by omega)) ?_
      refine wp_letv (fun v17 ev17 => ?_)
      have c2 := im_10_4 hI
      rw [← ev17] at c2
      have c3 := im_10_4 hI
      have c4 : (v17).toInt = ((T.1 10 ((4 : Int32)).toNatClampNeg)).toInt := congrArg Int32.toInt ev17
      refine wp_eq_lo (by omega) (fun hc5 => ?_) (fun hc5 => ?_)
      · skip
        refine wp_bif (inb_of (by omega) (by omega)) ?_
        refine wp_letv (fun v19 ev19 => ?_)
        have c6 := im_10_3 hI
        rw [← ev19] at c6
        have c7 := im_10_3 hI
        have c8 : (v19).toInt = ((T.1 10 ((3 : Int32)).toNatClampNeg)).toInt := congrArg Int32.toInt ev19
        have t9 : ((104 : Int32) + v19 : Int32).toInt = ((104 : Int32)).toInt + (v19).toInt := tA (by omega) (by omega)
        refine wp_bif (inb_of (by omega) (by omega)) ?_
        refine wp_letv (fun v20 ev20 => ?_)
        refine wp_bind (tm_isOf ) (fun q21 hq10 => ?_)
        refine wp_b (fun hb11 => ?_) (fun hb11 => ?_)
        · skip
          have t12 : (a3 + m_1 : Int32).toInt = (a3).toInt + (m_1).toInt := tA (by omega) (by omega)
          exact (ih a2 (a3 + m_1) (by omega) (by omega) (by omega) (by omega) (by omega))
        · skip
          refine wp_bind (tm_personOf (by omega) (by omega) (by omega) (by omega) hI) (fun q23 hq13 => ?_)
          refine wp_eqn (fun hc14 => ?_) ?_
          · skip
            have t15 : (a3 + m_1 : Int32).toInt = (a3).toInt + (m_1).toInt := tA (by omega) (by omega)
            exact (ih a3 (a3 + m_1) (by omega) (by omega) (by omega) (by omega) (by omega))
          · skip
            have t16 : (a3 + m_1 : Int32).toInt = (a3).toInt + (m_1).toInt := tA (by omega) (by omega)
            exact (ih a2 (a3 + m_1) (by omega) (by omega) (by omega) (by omega) (by omega))
      · skip
        exact wp_some ⟨(by first | omega | (dsimp only; omega)), (by first | omega | (dsimp only; omega)), (by first | omega | (dsimp only; omega)), (by first | omega | (dsimp only; omega))⟩
theorem tm_leanOf_L4 {P : Nat → Nat → Option Int} {k1 : Int32} {T : mT}  (hI : IQ P T) : ∀ (N : Nat) (a2 : Int32) (a3 : Int32), 0 ≤ a3.toInt → a3.toInt ≤ 40 → 40 - a3.toInt < (N : Int) → wp (fm_leanOf_L4 k1 T N a2 a3) (fun w => (0 ≤ (w.2).toInt) ∧ ((w.2).toInt ≤ 40)) := by
  intro N
  induction N with
  | zero =>
    intro a2 a3 vl_a3 vu_a3 hm
    exfalso; omega
  | succ N ih =>
    intro a2 a3 vl_a3 vu_a3 hm
    rw [fm_leanOf_L4]
    have l_0 : (0 : Int32).toInt = 0 := by decide
    have l_1 : (1 : Int32).toInt = 1 := by decide
    have l_5 : (5 : Int32).toInt = 5 := by decide
    refine wp_bif (inb_of (by omega) (by omega)) ?_
    refine wp_letv (fun v1 ev1 => ?_)
    have c1 := im_10_5 hI
    rw [← ev1] at c1
    have c2 := im_10_5 hI
    have c3 : (v1).toInt = ((T.1 10 ((5 : Int32)).toNatClampNeg)).toInt := congrArg Int32.toInt ev1
    refine wp_le (fun hc4 => ?_) (fun hc4 => ?_)
    · skip
      exact wp_some ⟨(by first | omega | (dsimp only; omega)), (by first | omega | (dsimp only; omega))⟩
    · skip
      refine wp_bind (tm_tellingOf_0 (by omega) (by omega) hI) (fun q3 hq5 => ?_)
      obtain ⟨h6, h7⟩ := hq5
      refine wp_eqn (fun hc8 => ?_) ?_
      · skip
        refine wp_bind (tm_tellingOf_2 (by omega) (by omega) hI) (fun q5 hq9 => ?_)
        obtain ⟨h10, h11⟩ := hq9
        refine wp_eqn (fun hc12 => ?_) ?_
        · skip
          have t13 : (a3 + (1 : Int32) : Int32).toInt = (a3).toInt + ((1 : Int32)).toInt := tA (by omega) (by omega)
          exact (ih a2 (a3 + (1 : Int32)) (by omega) (by omega) (by omega))
        · skip
          refine wp_bind (tm_tellingOf_3 (by omega) (by omega) hI) (fun q7 hq14 => ?_)
          obtain ⟨h15, h16⟩ := hq14
          refine wp_bind (tm_tellingOf_2 (by omega) (by omega) hI) (fun q8 hq17 => ?_)
          obtain ⟨h18, h19⟩ := hq17
          refine wp_bind (tm_personOf_0 (by omega) (by omega) hI) (fun q9 hq20 => ?_)
          obtain ⟨h21, h22⟩ := hq20
          have t23 := xor_i (a := q7) (b := q9) (n := 6) (m := 63) (by decide) (by decide) (by omega) (by omega) (by omega) (by omega)
          refine wp_bind (tm_bits (by omega) (by omega)) (fun q10 hq24 => ?_)
          refine wp_bif (inb_of (by omega) (by omega)) ?_
          refine wp_letv (fun v11 ev11 => ?_)
          have c25 := im_10_0 hI
          rw [← ev11] at c25
          have c26 := im_10_0 hI
          have c27 : (v11).toInt = ((T.1 10 ((0 : Int32)).toNatClampNeg)).toInt := congrArg Int32.toInt ev11
          have t28 : (a3 + (1 : Int32) : Int32).toInt = (a3).toInt + ((1 : Int32)).toInt := tA (by omega) (by omega)
          exact (ih (a2 + (v11 - ((2 : Int32) * q10))) (a3 + (1 : Int32)) (by omega) (by omega) (by omega))
      · skip
        have t29 : (a3 + (1 : Int32) : Int32).toInt = (a3).toInt + ((1 : Int32)).toInt := tA (by omega) (by omega)
        exact (ih a2 (a3 + (1 : Int32)) (by omega) (by omega) (by omega))
theorem tm_leanOf {P : Nat → Nat → Option Int} {p0 : Int32} {T : mT}  (hI : IQ P T) : wp (fm_leanOf p0 T) (fun w => True) := by
  unfold fm_leanOf
  have l_0 : (0 : Int32).toInt = 0 := by decide
  have fu : (FU : Int) = 1000000 := rfl
  refine wp_bind (tm_leanOf_L4 hI FU (0 : Int32) (0 : Int32) (by omega) (by omega) (by omega)) (fun w12 hq1 => ?_)
  obtain ⟨h2, h3⟩ := hq1
  exact wp_some trivial
theorem tm_lean {P : Nat → Nat → Option Int} {p0 : Int32} {T : mT}  (hI : IQ P T) : wp (fm_lean p0 T) (fun w => True) := by
  unfold fm_lean
  refine wp_bind (tm_isPerson hI) (fun q1 hq1 => ?_)
  have h2 := hq1
  refine wp_b (fun hb3 => ?_) (fun hb3 => ?_)
  · skip
    exact wp_some trivial
  · skip
    obtain ⟨k4, k5⟩ := h2 hb3
    refine wp_bind (tm_leanOf hI) (fun q3 hq6 => ?_)
    exact wp_some trivial
theorem tm_countFor_L5 {P : Nat → Nat → Option Int} {k1 : Int32} {k2 : Int32} {T : mT}  (hI : IQ P T) : ∀ (N : Nat) (a3 : Int32) (a4 : Int32), 0 ≤ a4.toInt → a4.toInt ≤ 40 → 40 - a4.toInt < (N : Int) → wp (fm_countFor_L5 k1 k2 T N a3 a4) (fun w => (0 ≤ (w.2).toInt) ∧ ((w.2).toInt ≤ 40)) := by
  intro N
  induction N with
  | zero =>
    intro a3 a4 vl_a4 vu_a4 hm
    exfalso; omega
  | succ N ih =>
    intro a3 a4 vl_a4 vu_a4 hm
    rw [fm_countFor_L5]
    have l_1 : (1 : Int32).toInt = 1 := by decide
    have l_5 : (5 : Int32).toInt = 5 := by decide
    refine wp_bif (inb_of (by omega) (by omega)) ?_
    refine wp_letv (fun v1 ev1 => ?_)
    have c1 := im_10_5 hI
    rw [← ev1] at c1
    have c2 := im_10_5 hI
    have c3 : (v1).toInt = ((T.1 10 ((5 : Int32)).toNatClampNeg)).toInt := congrArg Int32.toInt ev1
    refine wp_le (fun hc4 => ?_) (fun hc4 => ?_)
    · skip
      exact wp_some ⟨(by first | omega | (dsimp only; omega)), (by first | omega | (dsimp only; omega))⟩
    · skip
      refine wp_bind (tm_tellingOf_2 (by omega) (by omega) hI) (fun q3 hq5 => ?_)
      obtain ⟨h6, h7⟩ := hq5
      refine wp_eqn (fun hc8 => ?_) ?_
      · skip
        refine wp_bind (tm_tellingOf_0 (by omega) (by omega) hI) (fun q5 hq9 => ?_)
        obtain ⟨h10, h11⟩ := hq9
        refine wp_eqn (fun hc12 => ?_) ?_
        · skip
          have t13 : (a4 + (1 : Int32) : Int32).toInt = (a4).toInt + ((1 : Int32)).toInt := tA (by omega) (by omega)
          exact (ih a3 (a4 + (1 : Int32)) (by omega) (by omega) (by omega))
        · skip
          refine wp_bind (tm_tellingOf_3 (by omega) (by omega) hI) (fun q7 hq14 => ?_)
          obtain ⟨h15, h16⟩ := hq14
          refine wp_bind (tm_isOf ) (fun q8 hq17 => ?_)
          refine wp_b (fun hb18 => ?_) (fun hb18 => ?_)
          · skip
            refine wp_bind (tm_tellingOf_0 (by omega) (by omega) hI) (fun q10 hq19 => ?_)
            obtain ⟨h20, h21⟩ := hq19
            refine wp_bind (tm_leanOf hI) (fun q11 hq22 => ?_)
            have t23 : (a4 + (1 : Int32) : Int32).toInt = (a4).toInt + ((1 : Int32)).toInt := tA (by omega) (by omega)
            exact (ih (a3 + (-q11)) (a4 + (1 : Int32)) (by omega) (by omega) (by omega))
          · skip
            refine wp_bind (tm_tellingOf_0 (by omega) (by omega) hI) (fun q12 hq24 => ?_)
            obtain ⟨h25, h26⟩ := hq24
            refine wp_bind (tm_leanOf hI) (fun q13 hq27 => ?_)
            have t28 : (a4 + (1 : Int32) : Int32).toInt = (a4).toInt + ((1 : Int32)).toInt := tA (by omega) (by omega)
            exact (ih (a3 + q13) (a4 + (1 : Int32)) (by omega) (by omega) (by omega))
      · skip
        have t29 : (a4 + (1 : Int32) : Int32).toInt = (a4).toInt + ((1 : Int32)).toInt := tA (by omega) (by omega)
        exact (ih a3 (a4 + (1 : Int32)) (by omega) (by omega) (by omega))
theorem tm_countFor {P : Nat → Nat → Option Int} {p0 : Int32} {p1 : Int32} {T : mT}  (hI : IQ P T) : wp (fm_countFor p0 p1 T) (fun w => True) := by
  unfold fm_countFor
  have l_0 : (0 : Int32).toInt = 0 := by decide
  have fu : (FU : Int) = 1000000 := rfl
  refine wp_bind (tm_countFor_L5 hI FU (0 : Int32) (0 : Int32) (by omega) (by omega) (by omega)) (fun w14 hq1 => ?_)
  obtain ⟨h2, h3⟩ := hq1
  exact wp_some trivial
theorem tm_likeliest_L25 {P : Nat → Nat → Option Int} {k1 : Int32} {k2 : Int32} {T : mT}  (hI : IQ P T) : ∀ (N : Nat) (a3 : Int32) (a4 : Int32), 0 ≤ a4.toInt → a4.toInt ≤ 6 → 6 - a4.toInt < (N : Int) → wp (fm_likeliest_L25 k1 k2 T N a3 a4) (fun w => (0 ≤ (w.2).toInt) ∧ ((w.2).toInt ≤ 6)) := by
  intro N
  induction N with
  | zero =>
    intro a3 a4 vl_a4 vu_a4 hm
    exfalso; omega
  | succ N ih =>
    intro a3 a4 vl_a4 vu_a4 hm
    rw [fm_likeliest_L25]
    have l_0 : (0 : Int32).toInt = 0 := by decide
    have l_1 : (1 : Int32).toInt = 1 := by decide
    refine wp_bif (inb_of (by omega) (by omega)) ?_
    refine wp_letv (fun v5 ev5 => ?_)
    have c1 := im_10_0 hI
    rw [← ev5] at c1
    have c2 := im_10_0 hI
    have c3 : (v5).toInt = ((T.1 10 ((0 : Int32)).toNatClampNeg)).toInt := congrArg Int32.toInt ev5
    refine wp_le (fun hc4 => ?_) (fun hc4 => ?_)
    · skip
      exact wp_some ⟨(by first | omega | (dsimp only; omega)), (by first | omega | (dsimp only; omega))⟩
    · skip
      refine wp_bind (tm_countFor hI) (fun q7 hq5 => ?_)
      refine wp_eqn (fun hc6 => ?_) ?_
      · skip
        refine wp_lt (fun hc7 => ?_) (fun hc7 => ?_)
        · skip
          have t8 : (a4 + (1 : Int32) : Int32).toInt = (a4).toInt + ((1 : Int32)).toInt := tA (by omega) (by omega)
          exact (ih (a3 ||| ((1 : Int32) <<< (a4 &&& (31 : Int32)))) (a4 + (1 : Int32)) (by omega) (by omega) (by omega))
        · skip
          refine wp_eqn (fun hc9 => ?_) ?_
          · skip
            refine wp_eq_hi (by omega) (fun hc10 => ?_) (fun hc10 => ?_)
            · skip
              have t11 : (a4 + (1 : Int32) : Int32).toInt = (a4).toInt + ((1 : Int32)).toInt := tA (by omega) (by omega)
              exact (ih (a3 ||| ((1 : Int32) <<< (a4 &&& (31 : Int32)))) (a4 + (1 : Int32)) (by omega) (by omega) (by omega))
            · skip
              have t12 : (a4 + (1 : Int32) : Int32).toInt = (a4).toInt + ((1 : Int32)).toInt := tA (by omega) (by omega)
              exact (ih (a3 ||| (0 : Int32)) (a4 + (1 : Int32)) (by omega) (by omega) (by omega))
          · skip
            have t13 : (a4 + (1 : Int32) : Int32).toInt = (a4).toInt + ((1 : Int32)).toInt := tA (by omega) (by omega)
            exact (ih (a3 ||| (0 : Int32)) (a4 + (1 : Int32)) (by omega) (by omega) (by omega))
      · skip
        refine wp_eqn (fun hc14 => ?_) ?_
        · skip
          refine wp_eqn (fun hc15 => ?_) ?_
          · skip
            have t16 : (a4 + (1 : Int32) : Int32).toInt = (a4).toInt + ((1 : Int32)).toInt := tA (by omega) (by omega)
            exact (ih (a3 ||| ((1 : Int32) <<< (a4 &&& (31 : Int32)))) (a4 + (1 : Int32)) (by omega) (by omega) (by omega))
          · skip
            have t17 : (a4 + (1 : Int32) : Int32).toInt = (a4).toInt + ((1 : Int32)).toInt := tA (by omega) (by omega)
            exact (ih (a3 ||| (0 : Int32)) (a4 + (1 : Int32)) (by omega) (by omega) (by omega))
        · skip
          have t18 : (a4 + (1 : Int32) : Int32).toInt = (a4).toInt + ((1 : Int32)).toInt := tA (by omega) (by omega)
          exact (ih (a3 ||| (0 : Int32)) (a4 + (1 : Int32)) (by omega) (by omega) (by omega))
theorem tm_likeliest {P : Nat → Nat → Option Int} {p0 : Int32} {p1 : Int32} {T : mT}  (hI : IQ P T) : wp (fm_likeliest p0 p1 T) (fun w => True) := by
  unfold fm_likeliest
  have l_0 : (0 : Int32).toInt = 0 := by decide
  have fu : (FU : Int) = 1000000 := rfl
  refine wp_bind (tm_isPerson hI) (fun q1 hq1 => ?_)
  have h2 := hq1
  refine wp_b (fun hb3 => ?_) (fun hb3 => ?_)
  · skip
    exact wp_some trivial
  · skip
    obtain ⟨k4, k5⟩ := h2 hb3
    refine wp_bind (tm_in ) (fun q3 hq6 => ?_)
    have h7 := hq6
    refine wp_b (fun hb8 => ?_) (fun hb8 => ?_)
    · skip
      exact wp_some trivial
    · skip
      obtain ⟨k9, k10⟩ := h7 hb8
      refine wp_bind (tm_likeliest_L25 hI FU (0 : Int32) (0 : Int32) (by omega) (by omega) (by omega)) (fun w14 hq11 => ?_)
      obtain ⟨h12, h13⟩ := hq11
      exact wp_some trivial
theorem tm_flatteryOf_L4 {P : Nat → Nat → Option Int} {k1 : Int32} {T : mT}  (hI : IQ P T) : ∀ (N : Nat) (a2 : Int32) (a3 : Int32), 0 ≤ a3.toInt → a3.toInt ≤ 40 → 40 - a3.toInt < (N : Int) → wp (fm_flatteryOf_L4 k1 T N a2 a3) (fun w => (0 ≤ (w.2).toInt) ∧ ((w.2).toInt ≤ 40)) := by
  intro N
  induction N with
  | zero =>
    intro a2 a3 vl_a3 vu_a3 hm
    exfalso; omega
  | succ N ih =>
    intro a2 a3 vl_a3 vu_a3 hm
    rw [fm_flatteryOf_L4]
    obtain ⟨m_1, e_m1⟩ : ∃ x : Int32, x = (-1) := ⟨_, rfl⟩
    try rw [← e_m1]
    have l_m1 : m_1.toInt = -1 := by rw [e_m1]; decide
    have l_1 : (1 : Int32).toInt = 1 := by decide
    have l_5 : (5 : Int32).toInt = 5 := by decide
    refine wp_bif (inb_of (by omega) (by omega)) ?_
    refine wp_letv (fun v1 ev1 => ?_)
    have c1 := im_10_5 hI
    rw [← ev1] at c1
    have c2 := im_10_5 hI
    have c3 : (v1).toInt = ((T.1 10 ((5 : Int32)).toNatClampNeg)).toInt := congrArg Int32.toInt ev1
    refine wp_le (fun hc4 => ?_) (fun hc4 => ?_)
    · skip
      exact wp_some ⟨(by first | omega | (dsimp only; omega)), (by first | omega | (dsimp only; omega))⟩
    · skip
      refine wp_bind (tm_tellingOf_2 (by omega) (by omega) hI) (fun q3 hq5 => ?_)
      obtain ⟨h6, h7⟩ := hq5
      refine wp_bind (tm_tellingOf_0 (by omega) (by omega) hI) (fun q4 hq8 => ?_)
      obtain ⟨h9, h10⟩ := hq8
      refine wp_eqn (fun hc11 => ?_) ?_
      · skip
        refine wp_eqn (fun hc12 => ?_) ?_
        · skip
          have t13 : (a3 + (1 : Int32) : Int32).toInt = (a3).toInt + ((1 : Int32)).toInt := tA (by omega) (by omega)
          exact (ih a2 (a3 + (1 : Int32)) (by omega) (by omega) (by omega))
        · skip
          refine wp_bind (tm_tellingOf_1 (by omega) (by omega) hI) (fun q7 hq14 => ?_)
          obtain ⟨h15, h16⟩ := hq14
          refine wp_eqn (fun hc17 => ?_) ?_
          · skip
            refine wp_bind (tm_tellingOf_3 (by omega) (by omega) hI) (fun q9 hq18 => ?_)
            obtain ⟨h19, h20⟩ := hq18
            refine wp_bind (tm_personOf_0 (by omega) (by omega) hI) (fun q10 hq21 => ?_)
            obtain ⟨h22, h23⟩ := hq21
            refine wp_bind (tm_tellingOf_3 (by omega) (by omega) hI) (fun q11 hq24 => ?_)
            obtain ⟨h25, h26⟩ := hq24
            have t27 := xor_i (a := q9) (b := q10) (n := 6) (m := 63) (by decide) (by decide) (by omega) (by omega) (by omega) (by omega)
            have t28 := andL_i (q9 ^^^ q10) q11 (by omega)
            refine wp_bind (tm_bits (by omega) (by omega)) (fun q12 hq29 => ?_)
            refine wp_bind (tm_tellingOf_3 (by omega) (by omega) hI) (fun q13 hq30 => ?_)
            obtain ⟨h31, h32⟩ := hq30
            have t33 := andL_i (q9 ^^^ q10) (q13 ^^^ m_1) (by omega)
            refine wp_bind (tm_bits (by omega) (by omega)) (fun q14 hq34 => ?_)
            have t35 : (a3 + (1 : Int32) : Int32).toInt = (a3).toInt + ((1 : Int32)).toInt := tA (by omega) (by omega)
            exact (ih (a2 + (q12 - q14)) (a3 + (1 : Int32)) (by omega) (by omega) (by omega))
          · skip
            have t36 : (a3 + (1 : Int32) : Int32).toInt = (a3).toInt + ((1 : Int32)).toInt := tA (by omega) (by omega)
            exact (ih a2 (a3 + (1 : Int32)) (by omega) (by omega) (by omega))
      · skip
        have t37 : (a3 + (1 : Int32) : Int32).toInt = (a3).toInt + ((1 : Int32)).toInt := tA (by omega) (by omega)
        exact (ih a2 (a3 + (1 : Int32)) (by omega) (by omega) (by omega))
theorem tm_flatteryOf {P : Nat → Nat → Option Int} {p0 : Int32} {T : mT}  (hI : IQ P T) : wp (fm_flatteryOf p0 T) (fun w => True) := by
  unfold fm_flatteryOf
  have l_0 : (0 : Int32).toInt = 0 := by decide
  have fu : (FU : Int) = 1000000 := rfl
  refine wp_bind (tm_flatteryOf_L4 hI FU (0 : Int32) (0 : Int32) (by omega) (by omega) (by omega)) (fun w15 hq1 => ?_)
  obtain ⟨h2, h3⟩ := hq1
  exact wp_some trivial
theorem tm_flatters_L50 {P : Nat → Nat → Option Int} {k1 : Int32} {k2 : Int32} {T : mT}  (hI : IQ P T) : ∀ (N : Nat) (a3 : Int32) (a4 : Int32), -1 ≤ a3.toInt → a3.toInt ≤ 7 → 0 ≤ a4.toInt → a4.toInt ≤ 8 → 8 - a4.toInt < (N : Int) → wp (fm_flatters_L50 k1 k2 T N a3 a4) (fun w => (-1 ≤ (w.1).toInt) ∧ ((w.1).toInt ≤ 7) ∧ (0 ≤ (w.2).toInt) ∧ ((w.2).toInt ≤ 8)) := by
  intro N
  induction N with
  | zero =>
    intro a3 a4 vl_a3 vu_a3 vl_a4 vu_a4 hm
    exfalso; omega
  | succ N ih =>
    intro a3 a4 vl_a3 vu_a3 vl_a4 vu_a4 hm
    rw [fm_flatters_L50]
    have l_0 : (0 : Int32).toInt = 0 := by decide
    have l_1 : (1 : Int32).toInt = 1 := by decide
    refine wp_bif (inb_of (by omega) (by omega)) ?_
    refine wp_letv (fun v6 ev6 => ?_)
    have c1 := im_10_1 hI
    rw [← ev6] at c1
    have c2 := im_10_1 hI
    have c3 : (v6).toInt = ((T.1 10 ((1 : Int32)).toNatClampNeg)).toInt := congrArg Int32.toInt ev6
    refine wp_le (fun hc4 => ?_) (fun hc4 => ?_)
    · skip
      exact wp_some ⟨(by first | omega | (dsimp only; omega)), (by first | omega | (dsimp only; omega)), (by first | omega | (dsimp only; omega)), (by first | omega | (dsimp only; omega))⟩
    · skip
      refine wp_bind (tm_flatteryOf hI) (fun q8 hq5 => ?_)
      refine wp_le (fun hc6 => ?_) (fun hc6 => ?_)
      · skip
        refine wp_bind (tm_flatteryOf hI) (fun q10 hq7 => ?_)
        refine wp_le (fun hc8 => ?_) (fun hc8 => ?_)
        · skip
          have t9 : (a4 + (1 : Int32) : Int32).toInt = (a4).toInt + ((1 : Int32)).toInt := tA (by omega) (by omega)
          exact (ih a3 (a4 + (1 : Int32)) (by omega) (by omega) (by omega) (by omega) (by omega))
        · skip
          have t10 : (a4 + (1 : Int32) : Int32).toInt = (a4).toInt + ((1 : Int32)).toInt := tA (by omega) (by omega)
          exact (ih a4 (a4 + (1 : Int32)) (by omega) (by omega) (by omega) (by omega) (by omega))
      · skip
        refine wp_le (fun hc11 => ?_) (fun hc11 => ?_)
        · skip
          have t12 : (a4 + (1 : Int32) : Int32).toInt = (a4).toInt + ((1 : Int32)).toInt := tA (by omega) (by omega)
          exact (ih a3 (a4 + (1 : Int32)) (by omega) (by omega) (by omega) (by omega) (by omega))
        · skip
          have t13 : (a4 + (1 : Int32) : Int32).toInt = (a4).toInt + ((1 : Int32)).toInt := tA (by omega) (by omega)
          exact (ih a4 (a4 + (1 : Int32)) (by omega) (by omega) (by omega) (by omega) (by omega))
