/-! ===== the reference answers 2 ===== -/
theorem tm_sumOf {P : Nat → Nat → Option Int} {p0 : Int32} {p1 : Int32} {T : mT}  (hI : IQ P T) : wp (fm_sumOf p0 p1 T) (fun w => (IQ P w.2) ∧ (Sm T w.2)) := by
  unfold fm_sumOf
  have l_0 : (0 : Int32).toInt = 0 := by decide
  have fu : (FU : Int) = 1000000 := rfl
  refine wp_bind (tm_sumOf_L5  FU (0 : Int32) (0 : Int32) T (by omega) (by omega) hI (by omega)) (fun w12 hq1 => ?_)
  obtain ⟨h2, h3, h4, h5⟩ := hq1
  exact wp_some ⟨h4, h5⟩
theorem tm_believedBy_L4 {P : Nat → Nat → Option Int} {k1 : Int32}   : ∀ (N : Nat) (a2 : Int32) (a3 : Int32) (T : mT), 0 ≤ a2.toInt → a2.toInt ≤ 63 → 0 ≤ a3.toInt → a3.toInt ≤ 6 → IQ P T → 6 - a3.toInt < (N : Int) → wp (fm_believedBy_L4 k1 N a2 a3 T) (fun w => (0 ≤ (w.1).toInt) ∧ ((w.1).toInt ≤ 63) ∧ (0 ≤ (w.2.1).toInt) ∧ ((w.2.1).toInt ≤ 6) ∧ (IQ P w.2.2) ∧ (Sm T w.2.2)) := by
  intro N
  induction N with
  | zero =>
    intro a2 a3 T vl_a2 vu_a2 vl_a3 vu_a3 hI hm
    exfalso; omega
  | succ N ih =>
    intro a2 a3 T vl_a2 vu_a2 vl_a3 vu_a3 hI hm
    rw [fm_believedBy_L4]
    have l_0 : (0 : Int32).toInt = 0 := by decide
    have l_1 : (1 : Int32).toInt = 1 := by decide
    refine wp_bif (inb_of (by omega) (by omega)) ?_
    refine wp_letv (fun v1 ev1 => ?_)
    have c1 := im_10_0 hI
    rw [← ev1] at c1
    have c2 := im_10_0 hI
    have c3 : (v1).toInt = ((T.1 10 ((0 : Int32)).toNatClampNeg)).toInt := congrArg Int32.toInt ev1
    refine wp_le (fun hc4 => ?_) (fun hc4 => ?_)
    · skip
      exact wp_some ⟨(by first | omega | (dsimp only; omega)), (by first | omega | (dsimp only; omega)), (by first | omega | (dsimp only; omega)), (by first | omega | (dsimp only; omega)), hI, Sm.rfl'⟩
    · skip
      refine wp_bind (tm_sumOf hI) (fun q3 hq5 => ?_)
      obtain ⟨h6, h7⟩ := hq5
      refine wp_le (fun hc8 => ?_) (fun hc8 => ?_)
      · skip
        have t9 := or_i (a := a2) (b := (0 : Int32)) (n := 6) (m := 63) (by decide) (by decide) (by omega) (by omega) (by omega) (by omega)
        have t10 : (a3 + (1 : Int32) : Int32).toInt = (a3).toInt + ((1 : Int32)).toInt := tA (by omega) (by omega)
        have zz11 := (ih (a2 ||| (0 : Int32)) (a3 + (1 : Int32)) q3.2 (by omega) (by omega) (by omega) (by omega) h6 (by omega))
        exact wp_mono zz11 (fun w hw => ⟨hw.1, hw.2.1, hw.2.2.1, hw.2.2.2.1, hw.2.2.2.2.1, (h7.trans hw.2.2.2.2.2)⟩)
      · skip
        have t12 := shl_i (e := a3) (n := 5) (by omega) (by omega) (by decide)
        have t13 := or_i (a := a2) (b := ((1 : Int32) <<< (a3 &&& (31 : Int32)))) (n := 6) (m := 63) (by decide) (by decide) (by omega) (by omega) (by omega) (by omega)
        have t14 : (a3 + (1 : Int32) : Int32).toInt = (a3).toInt + ((1 : Int32)).toInt := tA (by omega) (by omega)
        have zz15 := (ih (a2 ||| ((1 : Int32) <<< (a3 &&& (31 : Int32)))) (a3 + (1 : Int32)) q3.2 (by omega) (by omega) (by omega) (by omega) h6 (by omega))
        exact wp_mono zz15 (fun w hw => ⟨hw.1, hw.2.1, hw.2.2.1, hw.2.2.2.1, hw.2.2.2.2.1, (h7.trans hw.2.2.2.2.2)⟩)
theorem tm_believedBy {P : Nat → Nat → Option Int} {p0 : Int32} {T : mT}  (hI : IQ P T) : wp (fm_believedBy p0 T) (fun w => (0 ≤ (w.1).toInt) ∧ ((w.1).toInt ≤ 63) ∧ (IQ P w.2) ∧ (Sm T w.2)) := by
  unfold fm_believedBy
  have l_0 : (0 : Int32).toInt = 0 := by decide
  have fu : (FU : Int) = 1000000 := rfl
  refine wp_bind (tm_believedBy_L4  FU (0 : Int32) (0 : Int32) T (by omega) (by omega) (by omega) (by omega) hI (by omega)) (fun w5 hq1 => ?_)
  obtain ⟨h2, h3, h4, h5, h6, h7⟩ := hq1
  exact wp_some ⟨(by first | omega | (dsimp only; omega)), (by first | omega | (dsimp only; omega)), h6, h7⟩
theorem tm_openOf_L4 {P : Nat → Nat → Option Int} {k1 : Int32}   : ∀ (N : Nat) (a2 : Int32) (a3 : Int32) (T : mT), 0 ≤ a2.toInt → a2.toInt ≤ 63 → 0 ≤ a3.toInt → a3.toInt ≤ 6 → IQ P T → 6 - a3.toInt < (N : Int) → wp (fm_openOf_L4 k1 N a2 a3 T) (fun w => (0 ≤ (w.1).toInt) ∧ ((w.1).toInt ≤ 63) ∧ (0 ≤ (w.2.1).toInt) ∧ ((w.2.1).toInt ≤ 6) ∧ (IQ P w.2.2) ∧ (Sm T w.2.2)) := by
  intro N
  induction N with
  | zero =>
    intro a2 a3 T vl_a2 vu_a2 vl_a3 vu_a3 hI hm
    exfalso; omega
  | succ N ih =>
    intro a2 a3 T vl_a2 vu_a2 vl_a3 vu_a3 hI hm
    rw [fm_openOf_L4]
    have l_0 : (0 : Int32).toInt = 0 := by decide
    have l_1 : (1 : Int32).toInt = 1 := by decide
    refine wp_bif (inb_of (by omega) (by omega)) ?_
    refine wp_letv (fun v1 ev1 => ?_)
    have c1 := im_10_0 hI
    rw [← ev1] at c1
    have c2 := im_10_0 hI
    have c3 : (v1).toInt = ((T.1 10 ((0 : Int32)).toNatClampNeg)).toInt := congrArg Int32.toInt ev1
    refine wp_le (fun hc4 => ?_) (fun hc4 => ?_)
    · skip
      exact wp_some ⟨(by first | omega | (dsimp only; omega)), (by first | omega | (dsimp only; omega)), (by first | omega | (dsimp only; omega)), (by first | omega | (dsimp only; omega)), hI, Sm.rfl'⟩
    · skip
      refine wp_bind (tm_sumOf hI) (fun q3 hq5 => ?_)
      obtain ⟨h6, h7⟩ := hq5
      refine wp_eqn (fun hc8 => ?_) ?_
      · skip
        have t9 := shl_i (e := a3) (n := 5) (by omega) (by omega) (by decide)
        have t10 := or_i (a := a2) (b := ((1 : Int32) <<< (a3 &&& (31 : Int32)))) (n := 6) (m := 63) (by decide) (by decide) (by omega) (by omega) (by omega) (by omega)
        have t11 : (a3 + (1 : Int32) : Int32).toInt = (a3).toInt + ((1 : Int32)).toInt := tA (by omega) (by omega)
        have zz12 := (ih (a2 ||| ((1 : Int32) <<< (a3 &&& (31 : Int32)))) (a3 + (1 : Int32)) q3.2 (by omega) (by omega) (by omega) (by omega) h6 (by omega))
        exact wp_mono zz12 (fun w hw => ⟨hw.1, hw.2.1, hw.2.2.1, hw.2.2.2.1, hw.2.2.2.2.1, (h7.trans hw.2.2.2.2.2)⟩)
      · skip
        have t13 := or_i (a := a2) (b := (0 : Int32)) (n := 6) (m := 63) (by decide) (by decide) (by omega) (by omega) (by omega) (by omega)
        have t14 : (a3 + (1 : Int32) : Int32).toInt = (a3).toInt + ((1 : Int32)).toInt := tA (by omega) (by omega)
        have zz15 := (ih (a2 ||| (0 : Int32)) (a3 + (1 : Int32)) q3.2 (by omega) (by omega) (by omega) (by omega) h6 (by omega))
        exact wp_mono zz15 (fun w hw => ⟨hw.1, hw.2.1, hw.2.2.1, hw.2.2.2.1, hw.2.2.2.2.1, (h7.trans hw.2.2.2.2.2)⟩)
theorem tm_openOf {P : Nat → Nat → Option Int} {p0 : Int32} {T : mT}  (hI : IQ P T) : wp (fm_openOf p0 T) (fun w => (0 ≤ (w.1).toInt) ∧ ((w.1).toInt ≤ 63) ∧ (IQ P w.2) ∧ (Sm T w.2)) := by
  unfold fm_openOf
  have l_0 : (0 : Int32).toInt = 0 := by decide
  have fu : (FU : Int) = 1000000 := rfl
  refine wp_bind (tm_openOf_L4  FU (0 : Int32) (0 : Int32) T (by omega) (by omega) (by omega) (by omega) hI (by omega)) (fun w5 hq1 => ?_)
  obtain ⟨h2, h3, h4, h5, h6, h7⟩ := hq1
  exact wp_some ⟨(by first | omega | (dsimp only; omega)), (by first | omega | (dsimp only; omega)), h6, h7⟩
theorem tm_person {P : Nat → Nat → Option Int} {p0 : Int32} {p1 : Int32} {T : mT}  (hI : IQ P T) : wp (fm_person p0 p1 T) (fun w => (IQ P w.2) ∧ (Sm T w.2)) := by
  unfold fm_person
  obtain ⟨m_1, e_m1⟩ : ∃ x : Int32, x = (-1) := ⟨_, rfl⟩
  try rw [← e_m1]
  have l_m1 : m_1.toInt = -1 := by rw [e_m1]; decide
  have l_0 : (0 : Int32).toInt = 0 := by decide
  have l_1 : (1 : Int32).toInt = 1 := by decide
  have l_104 : (104 : Int32).toInt = 104 := by decide
  have l_2 : (2 : Int32).toInt = 2 := by decide
  have l_3 : (3 : Int32).toInt = 3 := by decide
  have l_4 : (4 : Int32).toInt = 4 := by decide
  have l_5 : (5 : Int32).toInt = 5 := by decide
  have l_6 : (6 : Int32).toInt = 6 := by decide
  have l_7 : (7 : Int32).toInt = 7 := by decide
  refine wp_bind (tm_isPerson hI) (fun q1 hq1 => ?_)
  have h2 := hq1
  refine wp_b (fun hb3 => ?_) (fun hb3 => ?_)
  · skip
    exact wp_some ⟨hI, Sm.rfl'⟩
  · skip
    obtain ⟨k4, k5⟩ := h2 hb3
    refine wp_eqn (fun hc6 => ?_) ?_
    · skip
      refine wp_bind (tm_personOf (by omega) (by omega) (by omega) (by omega) hI) (fun q4 hq7 => ?_)
      exact wp_some ⟨hI, Sm.rfl'⟩
    · skip
      refine wp_eqn (fun hc8 => ?_) ?_
      · skip
        refine wp_bind (tm_personOf (by omega) (by omega) (by omega) (by omega) hI) (fun q6 hq9 => ?_)
        exact wp_some ⟨hI, Sm.rfl'⟩
      · skip
        refine wp_eqn (fun hc10 => ?_) ?_
        · skip
          refine wp_bind (tm_personOf (by omega) (by omega) (by omega) (by omega) hI) (fun q8 hq11 => ?_)
          exact wp_some ⟨hI, Sm.rfl'⟩
        · skip
          refine wp_eqn (fun hc12 => ?_) ?_
          · skip
            refine wp_bind (tm_personOf (by omega) (by omega) (by omega) (by omega) hI) (fun q10 hq13 => ?_)
            exact wp_some ⟨hI, Sm.rfl'⟩
          · skip
            refine wp_eqn (fun hc14 => ?_) ?_
            · skip
              refine wp_bind (tm_believedBy hI) (fun q12 hq15 => ?_)
              obtain ⟨h16, h17, h18, h19⟩ := hq15
              exact wp_some ⟨h18, h19⟩
            · skip
              refine wp_eqn (fun hc20 => ?_) ?_
              · skip
                refine wp_bind (tm_openOf hI) (fun q14 hq21 => ?_)
                obtain ⟨h22, h23, h24, h25⟩ := hq21
                exact wp_some ⟨h24, h25⟩
              · skip
                refine wp_eqn (fun hc26 => ?_) ?_
                · skip
                  refine wp_bif (inb_of (by omega) (by omega)) ?_
                  refine wp_letv (fun v16 ev16 => ?_)
                  have c27 := im_10_3 hI
                  rw [← ev16] at c27
                  have c28 := im_10_3 hI
                  have c29 : (v16).toInt = ((T.1 10 ((3 : Int32)).toNatClampNeg)).toInt := congrArg Int32.toInt ev16
                  refine wp_eqn (fun hc30 => ?_) ?_
                  · skip
                    refine wp_bif (inb_of (by omega) (by omega)) ?_
                    refine wp_letv (fun v18 ev18 => ?_)
                    have c31 := im_10_4 hI
                    rw [← ev18] at c31
                    have c32 := im_10_4 hI
                    have c33 : (v18).toInt = ((T.1 10 ((4 : Int32)).toNatClampNeg)).toInt := congrArg Int32.toInt ev18
                    exact wp_some ⟨hI, Sm.rfl'⟩
                  · skip
                    exact wp_some ⟨hI, Sm.rfl'⟩
                · skip
                  refine wp_eqn (fun hc34 => ?_) ?_
                  · skip
                    have t35 : ((104 : Int32) + p0 : Int32).toInt = ((104 : Int32)).toInt + (p0).toInt := tA (by omega) (by omega)
                    refine wp_bif (inb_of (by omega) (by omega)) ?_
                    refine wp_letv (fun v20 ev20 => ?_)
                    exact wp_some ⟨hI, Sm.rfl'⟩
                  · skip
                    exact wp_some ⟨hI, Sm.rfl'⟩
theorem tm_sum {P : Nat → Nat → Option Int} {p0 : Int32} {p1 : Int32} {T : mT}  (hI : IQ P T) : wp (fm_sum p0 p1 T) (fun w => (IQ P w.2) ∧ (Sm T w.2)) := by
  unfold fm_sum
  obtain ⟨m_1000000, e_m1000000⟩ : ∃ x : Int32, x = (-1000000) := ⟨_, rfl⟩
  try rw [← e_m1000000]
  have l_m1000000 : m_1000000.toInt = -1000000 := by rw [e_m1000000]; decide
  have l_0 : (0 : Int32).toInt = 0 := by decide
  have l_1 : (1 : Int32).toInt = 1 := by decide
  refine wp_bind (tm_isPerson hI) (fun q1 hq1 => ?_)
  have h2 := hq1
  refine wp_b (fun hb3 => ?_) (fun hb3 => ?_)
  · skip
    exact wp_some ⟨hI, Sm.rfl'⟩
  · skip
    obtain ⟨k4, k5⟩ := h2 hb3
    refine wp_bif (inb_of (by omega) (by omega)) ?_
    refine wp_letv (fun v3 ev3 => ?_)
    have c6 := im_10_0 hI
    rw [← ev3] at c6
    have c7 := im_10_0 hI
    have c8 : (v3).toInt = ((T.1 10 ((0 : Int32)).toNatClampNeg)).toInt := congrArg Int32.toInt ev3
    refine wp_bind (tm_in ) (fun q4 hq9 => ?_)
    have w10 := Int32.toInt_toInt64 (p1)
    have w11 : (0 : Int64).toInt = 0 := by decide
    have t12 : (v3 - (1 : Int32) : Int32).toInt = (v3).toInt - ((1 : Int32)).toInt := tS (by omega) (by omega)
    have w13 := Int32.toInt_toInt64 ((v3 - 1))
    have h14 := hq9
    refine wp_b (fun hb15 => ?_) (fun hb15 => ?_)
    · skip
      exact wp_some ⟨hI, Sm.rfl'⟩
    · skip
      obtain ⟨k16, k17⟩ := h14 hb15
      refine wp_bind (tm_sumOf hI) (fun q6 hq18 => ?_)
      obtain ⟨h19, h20⟩ := hq18
      exact wp_some ⟨h19, h20⟩
theorem tm_tie {P : Nat → Nat → Option Int} {p0 : Int32} {p1 : Int32} {T : mT}  (hI : IQ P T) : wp (fm_tie p0 p1 T) (fun w => True) := by
  unfold fm_tie
  refine wp_bind (tm_isPerson hI) (fun q1 hq1 => ?_)
  have h2 := hq1
  refine wp_b (fun hb3 => ?_) (fun hb3 => ?_)
  · skip
    exact wp_some trivial
  · skip
    obtain ⟨k4, k5⟩ := h2 hb3
    refine wp_bind (tm_isPerson hI) (fun q3 hq6 => ?_)
    have h7 := hq6
    refine wp_b (fun hb8 => ?_) (fun hb8 => ?_)
    · skip
      exact wp_some trivial
    · skip
      obtain ⟨k9, k10⟩ := h7 hb8
      refine wp_eqn (fun hc11 => ?_) ?_
      · skip
        exact wp_some trivial
      · skip
        refine wp_bind (tm_tieOf (by omega) (by omega) (by omega) (by omega) hI) (fun q6 hq12 => ?_)
        exact wp_some trivial
theorem tm_telling {P : Nat → Nat → Option Int} {p0 : Int32} {p1 : Int32} {T : mT}  (hI : IQ P T) : wp (fm_telling p0 p1 T) (fun w => True) := by
  unfold fm_telling
  have l_6 : (6 : Int32).toInt = 6 := by decide
  refine wp_bind (tm_isTelling hI) (fun q1 hq1 => ?_)
  have h2 := hq1
  have c3 := im_10_5 hI
  refine wp_b (fun hb4 => ?_) (fun hb4 => ?_)
  · skip
    exact wp_some trivial
  · skip
    obtain ⟨k5, k6, k7⟩ := h2 hb4
    refine wp_bind (tm_in ) (fun q3 hq8 => ?_)
    have w9 := Int32.toInt_toInt64 (p1)
    have w10 : (0 : Int64).toInt = 0 := by decide
    have w11 : (6 : Int64).toInt = 6 := by decide
    have h12 := hq8
    refine wp_b (fun hb13 => ?_) (fun hb13 => ?_)
    · skip
      exact wp_some trivial
    · skip
      obtain ⟨k14, k15⟩ := h12 hb13
      refine wp_le (fun hc16 => ?_) (fun hc16 => ?_)
      · skip
        refine wp_bind (tm_isLook (by omega) (by omega) hI) (fun q6 hq17 => ?_)
        refine wp_b (fun hb18 => ?_) (fun hb18 => ?_)
        · skip
          exact wp_some trivial
        · skip
          exact wp_some trivial
      · skip
        refine wp_bind (tm_tellingOf (by omega) (by omega) (by omega) (by omega) hI) (fun q8 hq19 => ?_)
        exact wp_some trivial
theorem tm_isHourLeft {P : Nat → Nat → Option Int}  {T : mT}  (hI : IQ P T) : wp (fm_isHourLeft T) (fun w => (w = true → (T.1 10 (2 : Int32).toNatClampNeg).toInt < 9999)) := by
  unfold fm_isHourLeft
  have l_2 : (2 : Int32).toInt = 2 := by decide
  have l_9999 : (9999 : Int32).toInt = 9999 := by decide
  refine wp_bind (tm_isIsland hI) (fun q1 hq1 => ?_)
  have h2 := hq1
  have c3 := im_10_0 hI
  refine wp_b (fun hb4 => ?_) (fun hb4 => ?_)
  · skip
    exact wp_some (fun e => by cases e)
  · skip
    have k5 := h2 hb4
    refine wp_bif (inb_of (by omega) (by omega)) ?_
    refine wp_letv (fun v3 ev3 => ?_)
    have c6 := im_10_2 hI
    rw [← ev3] at c6
    have c7 := im_10_2 hI
    have c8 : (v3).toInt = ((T.1 10 ((2 : Int32)).toNatClampNeg)).toInt := congrArg Int32.toInt ev3
    refine wp_le (fun hc9 => ?_) (fun hc9 => ?_)
    · skip
      exact wp_some (fun e => by cases e)
    · skip
      exact wp_some (fun _ => (by first | omega | (dsimp only; omega)))
theorem bk_n {f : Nat → Int32} {i : Nat} {v : Int32} (h : bk f 0) (h0 : 0 ≤ (f 5).toInt) (hi : 112 + 6 * (f 5).toInt ≤ (i : Int)) : bk (upd f i v) 0 := by
  have e : ∀ j, j ≠ i → upd f i v j = f j := fun j hj => if_neg hj
  refine ⟨?_, fun t hlt => ?_⟩
  · rw [e 0 (by omega), e (0 + 1) (by omega)]
    exact h.1
  · rw [e (0 + 5) (by omega)] at hlt
    have hlt' : (t : Int) < (f 5).toInt := hlt
    rw [e _ (by omega)]
    exact h.2 t hlt
theorem bk_5 {f : Nat → Int32} {n : Nat} {v : Int32} (h : bk f 0) (h5 : (f 5).toInt = (n : Int)) (hv : v.toInt = (n : Int) + 1) (hl : (f (112 + 6 * n + 5)).toInt < (n : Int)) : bk (upd f 5 v) 0 := by
  have e : ∀ j, j ≠ 5 → upd f 5 v j = f j := fun j hj => if_neg hj
  refine ⟨?_, fun t hlt => ?_⟩
  · rw [e 0 (by omega), e (0 + 1) (by omega)]
    exact h.1
  · have hlt' : (t : Int) < v.toInt := by
      have : upd f 5 v (0 + 5) = v := if_pos rfl
      rw [this] at hlt
      exact hlt
    rw [e _ (by omega)]
    by_cases ht : t = n
    · subst ht
      rw [Nat.zero_add]
      exact hl
    · exact h.2 t (by show (t : Int) < (f 5).toInt; omega)
def rgT (k : Nat) : Int × Int := if k ≤ 2 then (0, 7) else if k = 3 then (0, 63) else if k = 5 then (-1, 39) else fullI
theorem rgS_t {n k : Nat} (hn : n < 40) (hk : k ≤ 5) : rgS (112 + 6 * n + k) = rgT k := by
  unfold rgS rgT
  rw [if_neg (by omega), if_neg (by omega), if_neg (by omega), if_neg (by omega), if_neg (by omega), if_neg (by omega), if_neg (by omega), if_pos (by omega), show (112 + 6 * n + k - 112) % 6 = k by omega]
/-- all but the tellings stands as it was -/
def Fr (T T' : mT) : Prop := (∀ r, r ≠ 10 → T'.1 r = T.1 r) ∧ ∀ j, j < 112 → j ≠ 5 → T'.1 10 j = T.1 10 j
theorem Fr.rfl' {T : mT} : Fr T T := ⟨fun _ _ => rfl, fun _ _ _ => rfl⟩
theorem Fr.trans {T T' T'' : mT} (a : Fr T T') (b : Fr T' T'') : Fr T T'' := ⟨fun r h => (b.1 r h).trans (a.1 r h), fun j h h' => (b.2 j h h').trans (a.2 j h h')⟩
theorem Fr.w {T T' : mT} {i : Nat} {v : Int32} (a : Fr T T') (hi : 112 ≤ i ∨ i = 5) : Fr T (ma T' 10 i v) := ⟨fun r h => (ma_no _ _ _ h).trans (a.1 r h), fun j h h' => (ma_ne (Or.inr (by omega))).trans (a.2 j h h')⟩
theorem iq_row {P : Nat → Nat → Option Int} {T0 T : mT} {n k : Nat} {e v : Int32} (hI : IQ P T) (hf : Fr T0 T) (h5 : (T.1 10 5).toInt = (n : Int)) (hn : n < 40) (hk : k ≤ 5) (he : e.toInt = 112 + 6 * (n : Int) + (k : Int)) (hv : (rgT k).1 ≤ v.toInt ∧ v.toInt ≤ (rgT k).2) : IQ P (ma T 10 e.toNatClampNeg v) ∧ Fr T0 (ma T 10 e.toNatClampNeg v) ∧ ((ma T 10 e.toNatClampNeg v).1 10 5).toInt = (n : Int) := by
  have ix : e.toNatClampNeg = 112 + 6 * n + k := cl_idx (by omega)
  rw [ix]
  refine ⟨IQ_10 hI (stJ_no (by omega)) (by rw [rgS_t hn hk]; exact hv) (bk_n hI.2.1.1 (by omega) (by omega)), hf.w (Or.inl (by omega)), ?_⟩
  rw [ma_ne (Or.inr (by omega))]
  exact h5
theorem tm_comes {P : Nat → Nat → Option Int} {p0 p1 p2 p3 p4 : Int32} {T : mT} (hl_p0 : 0 ≤ p0.toInt) (hu_p0 : p0.toInt ≤ 7) (hl_p1 : 0 ≤ p1.toInt) (hu_p1 : p1.toInt ≤ 7) (hl_p2 : 0 ≤ p2.toInt) (hu_p2 : p2.toInt ≤ 7) (hl_p3 : 0 ≤ p3.toInt) (hu_p3 : p3.toInt ≤ 63) (hl_p4 : -1 ≤ p4.toInt) (hf : p4.toInt < (T.1 10 (5 : Int32).toNatClampNeg).toInt) (hs : (T.1 10 (5 : Int32).toNatClampNeg).toInt < 40) (hI : IQ P T) : wp (fm_comes p0 p1 p2 p3 p4 T) (fun w => IQ P w ∧ Fr T w ∧ (w.1 10 5).toInt = (T.1 10 5).toInt + 1) := by
  unfold fm_comes
  have l_1 : (1 : Int32).toInt = 1 := by decide
  have l_2 : (2 : Int32).toInt = 2 := by decide
  have l_3 : (3 : Int32).toInt = 3 := by decide
  have l_4 : (4 : Int32).toInt = 4 := by decide
  have l_5 : (5 : Int32).toInt = 5 := by decide
  have l_6 : (6 : Int32).toInt = 6 := by decide
  have l_112 : (112 : Int32).toInt = 112 := by decide
  have c5 : 0 ≤ (T.1 10 5).toInt ∧ (T.1 10 5).toInt ≤ 40 := im_10_5 hI
  have hs' : (T.1 10 5).toInt < 40 := hs
  have hf' : p4.toInt < (T.1 10 5).toInt := hf
  obtain ⟨n, hn⟩ : ∃ n : Nat, (T.1 10 5).toInt = (n : Int) := ⟨(T.1 10 5).toInt.toNat, by omega⟩
  refine wp_bif (inb_of (by omega) (by omega)) ?_
  refine wp_letv (fun v1 ev1 => ?_)
  have e1 : v1.toInt = (n : Int) := by rw [ev1]; exact hn
  have m1 := tML (a := 6) (b := v1) l_6 (by omega) (by omega)
  have t0 := tA (a := 112) (b := 6 * v1) (by omega) (by omega)
  have t1 := tA (a := 112 + 6 * v1) (b := 1) (by omega) (by omega)
  have t2 := tA (a := 112 + 6 * v1) (b := 2) (by omega) (by omega)
  have t3 := tA (a := 112 + 6 * v1) (b := 3) (by omega) (by omega)
  have t4 := tA (a := 112 + 6 * v1) (b := 4) (by omega) (by omega)
  have t5 := tA (a := 112 + 6 * v1) (b := 5) (by omega) (by omega)
  refine wp_bif (inb_of (by omega) (by omega)) ?_
  refine wp_letv (fun T2 eT2 => ?_)
  have z2 := iq_row (k := 0) (e := 112 + 6 * v1) (v := p0) hI Fr.rfl' hn (by omega) (by decide) (by omega) ⟨hl_p0, hu_p0⟩
  rw [← eT2] at z2
  refine wp_bif (inb_of (by omega) (by omega)) ?_
  refine wp_letv (fun T3 eT3 => ?_)
  have z3 := iq_row (k := 1) (e := 112 + 6 * v1 + 1) (v := p1) z2.1 z2.2.1 z2.2.2 (by omega) (by decide) (by omega) ⟨hl_p1, hu_p1⟩
  rw [← eT3] at z3
  refine wp_bif (inb_of (by omega) (by omega)) ?_
  refine wp_letv (fun T4 eT4 => ?_)
  have z4 := iq_row (k := 2) (e := 112 + 6 * v1 + 2) (v := p2) z3.1 z3.2.1 z3.2.2 (by omega) (by decide) (by omega) ⟨hl_p2, hu_p2⟩
  rw [← eT4] at z4
  refine wp_bif (inb_of (by omega) (by omega)) ?_
  refine wp_letv (fun T5 eT5 => ?_)
  have z5 := iq_row (k := 3) (e := 112 + 6 * v1 + 3) (v := p3) z4.1 z4.2.1 z4.2.2 (by omega) (by decide) (by omega) ⟨hl_p3, hu_p3⟩
  rw [← eT5] at z5
  refine wp_bif (inb_of (by omega) (by omega)) ?_
  refine wp_letv (fun v6 _ => ?_)
  refine wp_bif (inb_of (by omega) (by omega)) ?_
  refine wp_letv (fun T7 eT7 => ?_)
  have z7 := iq_row (k := 4) (e := 112 + 6 * v1 + 4) (v := v6) z5.1 z5.2.1 z5.2.2 (by omega) (by decide) (by omega) (bnd v6)
  rw [← eT7] at z7
  refine wp_bif (inb_of (by omega) (by omega)) ?_
  refine wp_letv (fun T8 eT8 => ?_)
  have z8 := iq_row (k := 5) (e := 112 + 6 * v1 + 5) (v := p4) z7.1 z7.2.1 z7.2.2 (by omega) (by decide) (by omega) ⟨hl_p4, (by show p4.toInt ≤ 39; omega)⟩
  rw [← eT8] at z8
  have r8 : T8.1 10 (112 + 6 * n + 5) = p4 := by
    rw [eT8, cl_idx (e := 112 + 6 * v1 + 5) (n := 112 + 6 * n + 5) (by omega)]
    exact ma_at _ _ _ _
  refine wp_bif (inb_of (by omega) (by omega)) ?_
  refine wp_letv (fun v9 ev9 => ?_)
  have e9 : v9.toInt = (n : Int) := by rw [ev9]; exact z8.2.2
  have t9 := tA (a := v9) (b := 1) (by omega) (by omega)
  refine wp_bif (inb_of (by omega) (by omega)) ?_
  refine wp_letv (fun T10 eT10 => ?_)
  refine wp_some ⟨?_, ?_, ?_⟩
  · rw [eT10]
    exact IQ_10 (i := 5) z8.1 rfl (show (0 : Int) ≤ (v9 + 1).toInt ∧ (v9 + 1).toInt ≤ 40 from ⟨by omega, by omega⟩) (bk_5 z8.1.2.1.1 z8.2.2 (by omega) (by rw [r8]; omega))
  · rw [eT10]
    exact z8.2.1.w (Or.inr rfl)
  · rw [eT10]
    rw [show (ma T8 10 (5 : Int32).toNatClampNeg (v9 + 1)).1 10 5 = v9 + 1 from ma_at _ _ _ _]
    omega
theorem tm_faceBy {P : Nat → Nat → Option Int} {p0 p1 p2 p3 : Int32} {T : mT} (hl_p1 : 0 ≤ p1.toInt) (hu_p1 : p1.toInt ≤ 7) (hl_p2 : 0 ≤ p2.toInt) (hu_p2 : p2.toInt ≤ 7) (hl_p3 : 0 ≤ p3.toInt) (hu_p3 : p3.toInt ≤ 7) (hr : p0.toInt < (T.1 0 2).toInt) (hI : IQ P T) : wp (fm_faceBy p0 p1 p2 p3 T) (fun w => (0 ≤ (w.1).toInt) ∧ ((w.1).toInt ≤ 63) ∧ (IQ P w.2) ∧ (Sm T w.2)) := by
  unfold fm_faceBy
  have l_0 : (0 : Int32).toInt = 0 := by decide
  refine wp_bind (Q := fun w => (0 ≤ (w.1).toInt) ∧ ((w.1).toInt ≤ 63) ∧ (IQ P w.2) ∧ (Sm T w.2)) ?_ (fun w1 h1 => ?_)
  · refine wp_eq (fun _ => ?_) (fun _ => ?_)
    · refine wp_bind (tm_believedBy hI) (fun q4 h4 => ?_)
      exact wp_some h4
    · refine wp_bind (tm_personOf_0 hl_p3 hu_p3 hI) (fun q3 h3 => ?_)
      exact wp_some ⟨h3.1, h3.2, hI, Sm.rfl'⟩
  · obtain ⟨x1, x2, x3, x4⟩ := h1
    refine wp_bind (tm_words hl_p1 hu_p1 hl_p2 hu_p2 x3) (fun q5 h5 => ?_)
    refine wp_bind (tm_clauseFor (by rw [h5.2 0 2 (Or.inr (by decide)), x4 0 2 (Or.inr (by decide))]; exact hr) h5.1) (fun q6 h6 => ?_)
    refine wp_le (fun hc => ?_) (fun hc => wp_some ⟨x1, x2, h6.1, x4.trans (h5.2.trans h6.2.1)⟩)
    refine wp_bind (tm_allMarks h6.1) (fun q8 h8 => ?_)
    refine wp_bind (tm_heldSum (CA.same h6.2.1 (h6.2.2 (by omega))) h8.1 h6.1) (fun q9 h9 => ?_)
    exact wp_some ⟨h9.2.2.1, Int.le_trans h9.2.2.2 h8.2, h9.1, x4.trans (h5.2.trans (h6.2.1.trans h9.2.1))⟩
theorem tm_mayBe {P : Nat → Nat → Option Int} {p0 : Int32} {T : mT}  (hI : IQ P T) : wp (fm_mayBe p0 T) (fun w => (w = true → (p0).toInt < (T.1 0 2).toInt)) := by
  unfold fm_mayBe
  obtain ⟨m_1, e_m1⟩ : ∃ x : Int32, x = (-1) := ⟨_, rfl⟩
  rw [← e_m1]
  have l_m1 : m_1.toInt = -1 := by rw [e_m1]; decide
  have c4 := im_0_2 hI
  refine wp_eqn (fun hc1 => ?_) ?_
  · exact wp_some (fun _ => by omega)
  · refine wp_bind (tm_isRule hI) (fun q2 h3 => ?_)
    refine wp_b (fun hb5 => ?_) (fun hb5 => ?_)
    · exact wp_some (fun e => by cases e)
    · obtain ⟨k6, k7⟩ := h3 hb5
      exact wp_some (fun _ => by omega)
theorem tm_glassGoes {P : Nat → Nat → Option Int} {p0 : Int32} {T : mT} (hl_p0 : 0 ≤ p0.toInt) (hu_p0 : p0.toInt ≤ 7) (hI : IQ P T) : wp (fm_glassGoes p0 T) (fun w => (IQ P w) ∧ (w.1 14 = T.1 14)) := by
  unfold fm_glassGoes
  have l_0 : (0 : Int32).toInt = 0 := by decide
  have l_3 : (3 : Int32).toInt = 3 := by decide
  have l_4 : (4 : Int32).toInt = 4 := by decide
  refine wp_bif (inb_of (by omega) (by omega)) ?_
  refine wp_letv (fun T1 eT1 => ?_)
  have hIT1 : IQ P T1 := by rw [eT1]; exact (iq_10_3 hI (by omega) (by omega))
  have hKT1 : T1.1 14 = T.1 14 := by rw [eT1]; exact (ma_no _ _ _ (by decide))
  refine wp_bif (inb_of (by omega) (by omega)) ?_
  refine wp_letv (fun T2 eT2 => ?_)
  have hIT2 : IQ P T2 := by rw [eT2]; exact (iq_10_4 hIT1 (by omega) (by omega))
  have hKT2 : T2.1 14 = T.1 14 := by rw [eT2]; exact (ma_no _ _ _ (by decide)).trans hKT1
  exact wp_some ⟨hIT2, hKT2⟩
theorem tm_heeding_L4 {P : Nat → Nat → Option Int} {k1 : Int32} {T : mT} (hl_k1 : 0 ≤ k1.toInt) (hu_k1 : k1.toInt ≤ 7) (hI : IQ P T) : ∀ (N : Nat) (a2 : Int32) (a3 : Int32), -1 ≤ a2.toInt → a2.toInt ≤ 7 → 0 ≤ a3.toInt → a3.toInt ≤ 8 → 8 - a3.toInt < (N : Int) → wp (fm_heeding_L4 k1 T N a2 a3) (fun w => (-1 ≤ (w.1).toInt) ∧ ((w.1).toInt ≤ 7) ∧ (0 ≤ (w.2).toInt) ∧ ((w.2).toInt ≤ 8)) := by
  intro N
  induction N with
  | zero =>
    intro a2 a3 vl_a2 vu_a2 vl_a3 vu_a3 hm
    exfalso; omega
  | succ N ih =>
    intro a2 a3 vl_a2 vu_a2 vl_a3 vu_a3 hm
    rw [fm_heeding_L4]
    have l_0 : (0 : Int32).toInt = 0 := by decide
    have l_1 : (1 : Int32).toInt = 1 := by decide
    refine wp_bif (inb_of (by omega) (by omega)) ?_
    refine wp_letv (fun v1 ev1 => ?_)
    have c1 := im_10_1 hI
    rw [← ev1] at c1
    have c2 := im_10_1 hI
    have c3 : (v1).toInt = ((T.1 10 ((1 : Int32)).toNatClampNeg)).toInt := congrArg Int32.toInt ev1
    refine wp_le (fun hc4 => ?_) (fun hc4 => ?_)
    · skip
      exact wp_some ⟨(by first | omega | (dsimp only; omega)), (by first | omega | (dsimp only; omega)), (by first | omega | (dsimp only; omega)), (by first | omega | (dsimp only; omega))⟩
    · skip
      refine wp_eqn (fun hc5 => ?_) ?_
      · skip
        have t6 : (a3 + (1 : Int32) : Int32).toInt = (a3).toInt + ((1 : Int32)).toInt := tA (by omega) (by omega)
        exact (ih a2 (a3 + (1 : Int32)) (by omega) (by omega) (by omega) (by omega) (by omega))
      · skip
        refine wp_bind (tm_tieOf (by omega) (by omega) (by omega) (by omega) hI) (fun q4 hq7 => ?_)
        refine wp_le (fun hc8 => ?_) (fun hc8 => ?_)
        · skip
          refine wp_bind (tm_tieOf (by omega) (by omega) (by omega) (by omega) hI) (fun q6 hq9 => ?_)
          refine wp_le (fun hc10 => ?_) (fun hc10 => ?_)
          · skip
            have t11 : (a3 + (1 : Int32) : Int32).toInt = (a3).toInt + ((1 : Int32)).toInt := tA (by omega) (by omega)
            exact (ih a2 (a3 + (1 : Int32)) (by omega) (by omega) (by omega) (by omega) (by omega))
          · skip
            have t12 : (a3 + (1 : Int32) : Int32).toInt = (a3).toInt + ((1 : Int32)).toInt := tA (by omega) (by omega)
            exact (ih a3 (a3 + (1 : Int32)) (by omega) (by omega) (by omega) (by omega) (by omega))
        · skip
          refine wp_le (fun hc13 => ?_) (fun hc13 => ?_)
          · skip
            have t14 : (a3 + (1 : Int32) : Int32).toInt = (a3).toInt + ((1 : Int32)).toInt := tA (by omega) (by omega)
            exact (ih a2 (a3 + (1 : Int32)) (by omega) (by omega) (by omega) (by omega) (by omega))
          · skip
            have t15 : (a3 + (1 : Int32) : Int32).toInt = (a3).toInt + ((1 : Int32)).toInt := tA (by omega) (by omega)
            exact (ih a3 (a3 + (1 : Int32)) (by omega) (by omega) (by omega) (by omega) (by omega))
theorem tm_heeding {P : Nat → Nat → Option Int} {p0 : Int32} {T : mT} (hl_p0 : 0 ≤ p0.toInt) (hu_p0 : p0.toInt ≤ 7) (hI : IQ P T) : wp (fm_heeding p0 T) (fun w => (-1 ≤ (w).toInt) ∧ ((w).toInt ≤ 7)) := by
  unfold fm_heeding
  obtain ⟨m_1, e_m1⟩ : ∃ x : Int32, x = (-1) := ⟨_, rfl⟩
  try rw [← e_m1]
  have l_m1 : m_1.toInt = -1 := by rw [e_m1]; decide
  have l_0 : (0 : Int32).toInt = 0 := by decide
  have fu : (FU : Int) = 1000000 := rfl
  refine wp_bind (tm_heeding_L4 (by omega) (by omega) hI FU m_1 (0 : Int32) (by omega) (by omega) (by omega) (by omega) (by omega)) (fun w9 hq1 => ?_)
  obtain ⟨h2, h3, h4, h5⟩ := hq1
  exact wp_some ⟨(by first | omega | (dsimp only; omega)), (by first | omega | (dsimp only; omega))⟩
theorem tm_passes_L83 {P : Nat → Nat → Option Int} {k1 : Int32} {T : mT}  (hI : IQ P T) : ∀ (N : Nat) (a2 : Int32) (a3 : Int32), -1 ≤ a2.toInt → a2.toInt ≤ 7 → -1 ≤ a3.toInt → a3.toInt ≤ 7 → a3.toInt + 1 < (N : Int) → wp (fm_passes_L83 k1 T N a2 a3) (fun w => (-1 ≤ (w.1).toInt) ∧ ((w.1).toInt ≤ 7) ∧ (-1 ≤ (w.2).toInt) ∧ ((w.2).toInt ≤ 7)) := by
  intro N
  induction N with
  | zero =>
    intro a2 a3 vl_a2 vu_a2 vl_a3 vu_a3 hm
    exfalso; omega
  | succ N ih =>
    intro a2 a3 vl_a2 vu_a2 vl_a3 vu_a3 hm
    rw [fm_passes_L83]
    obtain ⟨m_1, e_m1⟩ : ∃ x : Int32, x = (-1) := ⟨_, rfl⟩
    try rw [← e_m1]
    have l_m1 : m_1.toInt = -1 := by rw [e_m1]; decide
    have l_0 : (0 : Int32).toInt = 0 := by decide
    have l_104 : (104 : Int32).toInt = 104 := by decide
    have l_3 : (3 : Int32).toInt = 3 := by decide
    have l_4 : (4 : Int32).toInt = 4 := by decide
    refine wp_lt (fun hc1 => ?_) (fun hc1 => ?_)
    · skip
      exact wp_some ⟨(by first | omega | (dsimp only; omega)), (by first | omega | (dsimp only; omega)), (by first | omega | (dsimp only; omega)), (by first | omega | (dsimp only; omega))⟩
    · skip
      refine wp_bif (inb_of (by omega) (by omega)) ?_
      refine wp_letv (fun v17 ev17 => ?_)
      have c2 := im_10_4 hI
      rw [← ev17] at c2
      have c3 := im_10_4 hI
      have c4 : (v17).toInt = ((T.1 10 ((4 : Int32)).toNatClampNeg)).toInt := congrArg Int32.toInt ev17
      refine wp_eq_lo (by omega) (fun hc5 => ?_) (fun hc5 => ?_)
      · skip
        refine wp_bif (inb_of (by omega) (by omega)) ?_
        refine wp_letv (fun v19 ev19 => ?_)
        have c6 := im_10_3 hI
        rw [← ev19] at c6
        have c7 := im_10_3 hI
        have c8 : (v19).toInt = ((T.1 10 ((3 : Int32)).toNatClampNeg)).toInt := congrArg Int32.toInt ev19
        have t9 : ((104 : Int32) + v19 : Int32).toInt = ((104 : Int32)).toInt + (v19).toInt := tA (by omega) (by omega)
        refine wp_bif (inb_of (by omega) (by omega)) ?_
        refine wp_letv (fun v20 ev20 => ?_)
        refine wp_bind (tm_isOf ) (fun q21 hq10 => ?_)
        refine wp_b (fun hb11 => ?_) (fun hb11 => ?_)
        · skip
          have t12 : (a3 + m_1 : Int32).toInt = (a3).toInt + (m_1).toInt := tA (by omega) (by omega)
          exact (ih a2 (a3 + m_1) (by omega) (by omega) (by omega) (by omega) (by omega))
        · skip
          refine wp_bind (tm_personOf (by omega) (by omega) (by omega) (by omega) hI) (fun q23 hq13 => ?_)
          refine wp_eqn (fun hc14 => ?_) ?_
          · skip
            have t15 : (a3 + m_1 : Int32).toInt = (a3).toInt + (m_1).toInt := tA (by omega) (by omega)
            exact (ih a3 (a3 + m_1) (by omega) (by omega) (by omega) (by omega) (by omega))
          · skip
            have t16 : (a3 + m_1 : Int32).toInt = (a3).toInt + (m_1).toInt := tA (by omega) (by omega)
            exact (ih a2 (a3 + m_1) (by omega) (by omega) (by omega) (by omega) (by omega))
      · skip
        exact wp_some ⟨(by first | omega | (dsimp only; omega)), (by first | omega | (dsimp only; omega)), (by first | omega | (dsimp only; omega)), (by first | omega | (dsimp only; omega))⟩
theorem tm_leanOf_L4 {P : Nat → Nat → Option Int} {k1 : Int32} {T : mT}  (hI : IQ P T) : ∀ (N : Nat) (a2 : Int32) (a3 : Int32), 0 ≤ a3.toInt → a3.toInt ≤ 40 → 40 - a3.toInt < (N : Int) → wp (fm_leanOf_L4 k1 T N a2 a3) (fun w => (0 ≤ (w.2).toInt) ∧ ((w.2).toInt ≤ 40)) := by
  intro N
  induction N with
  | zero =>
    intro a2 a3 vl_a3 vu_a3 hm
    exfalso; omega
  | succ N ih =>
    intro a2 a3 vl_a3 vu_a3 hm
    rw [fm_leanOf_L4]
    have l_0 : (0 : Int32).toInt = 0 := by decide
    have l_1 : (1 : Int32).toInt = 1 := by decide
    have l_5 : (5 : Int32).toInt = 5 := by decide
    refine wp_bif (inb_of (by omega) (by omega)) ?_
    refine wp_letv (fun v1 ev1 => ?_)
    have c1 := im_10_5 hI
    rw [← ev1] at c1
    have c2 := im_10_5 hI
    have c3 : (v1).toInt = ((T.1 10 ((5 : Int32)).toNatClampNeg)).toInt := congrArg Int32.toInt ev1
    refine wp_le (fun hc4 => ?_) (fun hc4 => ?_)
    · skip
      exact wp_some ⟨(by first | omega | (dsimp only; omega)), (by first | omega | (dsimp only; omega))⟩
    · skip
      refine wp_bind (tm_tellingOf_0 (by omega) (by omega) hI) (fun q3 hq5 => ?_)
      obtain ⟨h6, h7⟩ := hq5
      refine wp_eqn (fun hc8 => ?_) ?_
      · skip
        refine wp_bind (tm_tellingOf_2 (by omega) (by omega) hI) (fun q5 hq9 => ?_)
        obtain ⟨h10, h11⟩ := hq9
        refine wp_eqn (fun hc12 => ?_) ?_
        · skip
          have t13 : (a3 + (1 : Int32) : Int32).toInt = (a3).toInt + ((1 : Int32)).toInt := tA (by omega) (by omega)
          exact (ih a2 (a3 + (1 : Int32)) (by omega) (by omega) (by omega))
        · skip
          refine wp_bind (tm_tellingOf_3 (by omega) (by omega) hI) (fun q7 hq14 => ?_)
          obtain ⟨h15, h16⟩ := hq14
          refine wp_bind (tm_tellingOf_2 (by omega) (by omega) hI) (fun q8 hq17 => ?_)
          obtain ⟨h18, h19⟩ := hq17
          refine wp_bind (tm_personOf_0 (by omega) (by omega) hI) (fun q9 hq20 => ?_)
          obtain ⟨h21, h22⟩ := hq20
          have t23 := xor_i (a := q7) (b := q9) (n := 6) (m := 63) (by decide) (by decide) (by omega) (by omega) (by omega) (by omega)
          refine wp_bind (tm_bits (by omega) (by omega)) (fun q10 hq24 => ?_)
          refine wp_bif (inb_of (by omega) (by omega)) ?_
          refine wp_letv (fun v11 ev11 => ?_)
          have c25 := im_10_0 hI
          rw [← ev11] at c25
          have c26 := im_10_0 hI
          have c27 : (v11).toInt = ((T.1 10 ((0 : Int32)).toNatClampNeg)).toInt := congrArg Int32.toInt ev11
          have t28 : (a3 + (1 : Int32) : Int32).toInt = (a3).toInt + ((1 : Int32)).toInt := tA (by omega) (by omega)
          exact (ih (a2 + (v11 - ((2 : Int32) * q10))) (a3 + (1 : Int32)) (by omega) (by omega) (by omega))
      · skip
        have t29 : (a3 + (1 : Int32) : Int32).toInt = (a3).toInt + ((1 : Int32)).toInt := tA (by omega) (by omega)
        exact (ih a2 (a3 + (1 : Int32)) (by omega) (by omega) (by omega))
theorem tm_leanOf {P : Nat → Nat → Option Int} {p0 : Int32} {T : mT}  (hI : IQ P T) : wp (fm_leanOf p0 T) (fun w => True) := by
  unfold fm_leanOf
  have l_0 : (0 : Int32).toInt = 0 := by decide
  have fu : (FU : Int) = 1000000 := rfl
  refine wp_bind (tm_leanOf_L4 hI FU (0 : Int32) (0 : Int32) (by omega) (by omega) (by omega)) (fun w12 hq1 => ?_)
  obtain ⟨h2, h3⟩ := hq1
  exact wp_some trivial
theorem tm_lean {P : Nat → Nat → Option Int} {p0 : Int32} {T : mT}  (hI : IQ P T) : wp (fm_lean p0 T) (fun w => True) := by
  unfold fm_lean
  refine wp_bind (tm_isPerson hI) (fun q1 hq1 => ?_)
  have h2 := hq1
  refine wp_b (fun hb3 => ?_) (fun hb3 => ?_)
  · skip
    exact wp_some trivial
  · skip
    obtain ⟨k4, k5⟩ := h2 hb3
    refine wp_bind (tm_leanOf hI) (fun q3 hq6 => ?_)
    exact wp_some trivial
theorem tm_countFor_L5 {P : Nat → Nat → Option Int} {k1 : Int32} {k2 : Int32} {T : mT}  (hI : IQ P T) : ∀ (N : Nat) (a3 : Int32) (a4 : Int32), 0 ≤ a4.toInt → a4.toInt ≤ 40 → 40 - a4.toInt < (N : Int) → wp (fm_countFor_L5 k1 k2 T N a3 a4) (fun w => (0 ≤ (w.2).toInt) ∧ ((w.2).toInt ≤ 40)) := by
  intro N
  induction N with
  | zero =>
    intro a3 a4 vl_a4 vu_a4 hm
    exfalso; omega
  | succ N ih =>
    intro a3 a4 vl_a4 vu_a4 hm
    rw [fm_countFor_L5]
    have l_1 : (1 : Int32).toInt = 1 := by decide
    have l_5 : (5 : Int32).toInt = 5 := by decide
    refine wp_bif (inb_of (by omega) (by omega)) ?_
    refine wp_letv (fun v1 ev1 => ?_)
    have c1 := im_10_5 hI
    rw [← ev1] at c1
    have c2 := im_10_5 hI
    have c3 : (v1).toInt = ((T.1 10 ((5 : Int32)).toNatClampNeg)).toInt := congrArg Int32.toInt ev1
    refine wp_le (fun hc4 => ?_) (fun hc4 => ?_)
    · skip
      exact wp_some ⟨(by first | omega | (dsimp only; omega)), (by first | omega | (dsimp only; omega))⟩
    · skip
      refine wp_bind (tm_tellingOf_2 (by omega) (by omega) hI) (fun q3 hq5 => ?_)
      obtain ⟨h6, h7⟩ := hq5
      refine wp_eqn (fun hc8 => ?_) ?_
      · skip
        refine wp_bind (tm_tellingOf_0 (by omega) (by omega) hI) (fun q5 hq9 => ?_)
        obtain ⟨h10, h11⟩ := hq9
        refine wp_eqn (fun hc12 => ?_) ?_
        · skip
          have t13 : (a4 + (1 : Int32) : Int32).toInt = (a4).toInt + ((1 : Int32)).toInt := tA (by omega) (by omega)
          exact (ih a3 (a4 + (1 : Int32)) (by omega) (by omega) (by omega))
        · skip
          refine wp_bind (tm_tellingOf_3 (by omega) (by omega) hI) (fun q7 hq14 => ?_)
          obtain ⟨h15, h16⟩ := hq14
          refine wp_bind (tm_isOf ) (fun q8 hq17 => ?_)
          refine wp_b (fun hb18 => ?_) (fun hb18 => ?_)
          · skip
            refine wp_bind (tm_tellingOf_0 (by omega) (by omega) hI) (fun q10 hq19 => ?_)
            obtain ⟨h20, h21⟩ := hq19
            refine wp_bind (tm_leanOf hI) (fun q11 hq22 => ?_)
            have t23 : (a4 + (1 : Int32) : Int32).toInt = (a4).toInt + ((1 : Int32)).toInt := tA (by omega) (by omega)
            exact (ih (a3 + (-q11)) (a4 + (1 : Int32)) (by omega) (by omega) (by omega))
          · skip
            refine wp_bind (tm_tellingOf_0 (by omega) (by omega) hI) (fun q12 hq24 => ?_)
            obtain ⟨h25, h26⟩ := hq24
            refine wp_bind (tm_leanOf hI) (fun q13 hq27 => ?_)
            have t28 : (a4 + (1 : Int32) : Int32).toInt = (a4).toInt + ((1 : Int32)).toInt := tA (by omega) (by omega)
            exact (ih (a3 + q13) (a4 + (1 : Int32)) (by omega) (by omega) (by omega))
      · skip
        have t29 : (a4 + (1 : Int32) : Int32).toInt = (a4).toInt + ((1 : Int32)).toInt := tA (by omega) (by omega)
        exact (ih a3 (a4 + (1 : Int32)) (by omega) (by omega) (by omega))
theorem tm_countFor {P : Nat → Nat → Option Int} {p0 : Int32} {p1 : Int32} {T : mT}  (hI : IQ P T) : wp (fm_countFor p0 p1 T) (fun w => True) := by
  unfold fm_countFor
  have l_0 : (0 : Int32).toInt = 0 := by decide
  have fu : (FU : Int) = 1000000 := rfl
  refine wp_bind (tm_countFor_L5 hI FU (0 : Int32) (0 : Int32) (by omega) (by omega) (by omega)) (fun w14 hq1 => ?_)
  obtain ⟨h2, h3⟩ := hq1
  exact wp_some trivial
theorem tm_likeliest_L25 {P : Nat → Nat → Option Int} {k1 : Int32} {k2 : Int32} {T : mT}  (hI : IQ P T) : ∀ (N : Nat) (a3 : Int32) (a4 : Int32), 0 ≤ a4.toInt → a4.toInt ≤ 6 → 6 - a4.toInt < (N : Int) → wp (fm_likeliest_L25 k1 k2 T N a3 a4) (fun w => (0 ≤ (w.2).toInt) ∧ ((w.2).toInt ≤ 6)) := by
  intro N
  induction N with
  | zero =>
    intro a3 a4 vl_a4 vu_a4 hm
    exfalso; omega
  | succ N ih =>
    intro a3 a4 vl_a4 vu_a4 hm
    rw [fm_likeliest_L25]
    have l_0 : (0 : Int32).toInt = 0 := by decide
    have l_1 : (1 : Int32).toInt = 1 := by decide
    refine wp_bif (inb_of (by omega) (by omega)) ?_
    refine wp_letv (fun v5 ev5 => ?_)
    have c1 := im_10_0 hI
    rw [← ev5] at c1
    have c2 := im_10_0 hI
    have c3 : (v5).toInt = ((T.1 10 ((0 : Int32)).toNatClampNeg)).toInt := congrArg Int32.toInt ev5
    refine wp_le (fun hc4 => ?_) (fun hc4 => ?_)
    · skip
      exact wp_some ⟨(by first | omega | (dsimp only; omega)), (by first | omega | (dsimp only; omega))⟩
    · skip
      refine wp_bind (tm_countFor hI) (fun q7 hq5 => ?_)
      refine wp_eqn (fun hc6 => ?_) ?_
      · skip
        refine wp_lt (fun hc7 => ?_) (fun hc7 => ?_)
        · skip
          have t8 : (a4 + (1 : Int32) : Int32).toInt = (a4).toInt + ((1 : Int32)).toInt := tA (by omega) (by omega)
          exact (ih (a3 ||| ((1 : Int32) <<< (a4 &&& (31 : Int32)))) (a4 + (1 : Int32)) (by omega) (by omega) (by omega))
        · skip
          refine wp_eqn (fun hc9 => ?_) ?_
          · skip
            refine wp_eq_hi (by omega) (fun hc10 => ?_) (fun hc10 => ?_)
            · skip
              have t11 : (a4 + (1 : Int32) : Int32).toInt = (a4).toInt + ((1 : Int32)).toInt := tA (by omega) (by omega)
              exact (ih (a3 ||| ((1 : Int32) <<< (a4 &&& (31 : Int32)))) (a4 + (1 : Int32)) (by omega) (by omega) (by omega))
            · skip
              have t12 : (a4 + (1 : Int32) : Int32).toInt = (a4).toInt + ((1 : Int32)).toInt := tA (by omega) (by omega)
              exact (ih (a3 ||| (0 : Int32)) (a4 + (1 : Int32)) (by omega) (by omega) (by omega))
          · skip
            have t13 : (a4 + (1 : Int32) : Int32).toInt = (a4).toInt + ((1 : Int32)).toInt := tA (by omega) (by omega)
            exact (ih (a3 ||| (0 : Int32)) (a4 + (1 : Int32)) (by omega) (by omega) (by omega))
      · skip
        refine wp_eqn (fun hc14 => ?_) ?_
        · skip
          refine wp_eqn (fun hc15 => ?_) ?_
          · skip
            have t16 : (a4 + (1 : Int32) : Int32).toInt = (a4).toInt + ((1 : Int32)).toInt := tA (by omega) (by omega)
            exact (ih (a3 ||| ((1 : Int32) <<< (a4 &&& (31 : Int32)))) (a4 + (1 : Int32)) (by omega) (by omega) (by omega))
          · skip
            have t17 : (a4 + (1 : Int32) : Int32).toInt = (a4).toInt + ((1 : Int32)).toInt := tA (by omega) (by omega)
            exact (ih (a3 ||| (0 : Int32)) (a4 + (1 : Int32)) (by omega) (by omega) (by omega))
        · skip
          have t18 : (a4 + (1 : Int32) : Int32).toInt = (a4).toInt + ((1 : Int32)).toInt := tA (by omega) (by omega)
          exact (ih (a3 ||| (0 : Int32)) (a4 + (1 : Int32)) (by omega) (by omega) (by omega))
