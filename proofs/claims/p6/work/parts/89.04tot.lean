/-! ===== every method of the class answers (by program) 4 ===== -/
theorem tc_X7_reckoned {P : Nat → Nat → Option Int} {b : Nat} {p0 : Int32} {p1 : Int32} {p2 : Nat} {S : cT} (hk_b : cK b = 6) (hk_p2 : cK p2 = 7) (hI : IC P S) : wp (fc_X7_reckoned b p0 p1 p2 S) (fun w => (IC P w.2) ∧ (w.2.2.2 = S.2.2)) := by
  unfold fc_X7_reckoned
  have l_0 : (0 : Int32).toInt = 0 := by decide
  have l_1 : (1 : Int32).toInt = 1 := by decide
  have l_400 : (400 : Int32).toInt = 400 := by decide
  have fu : (FU : Int) = 1000000 := rfl
  have mx := mx_i p0 0
  refine wp_bind (Q := fun w => (0 ≤ (w.1).toInt) ∧ ((w.1).toInt ≤ 64) ∧ (IC P w.2.2) ∧ (w.2.2.2.2 = S.2.2)) ?_ (fun w46 h46 => ?_)
  · by_cases h : (mxI p0 0).toInt ≤ 400
    · refine wp_mono (tc_X7_reckoned_L16 hk_b hk_p2 (ko_7_2 hk_p2) FU 0 (mxI p0 0) S (by omega) (by omega) (by omega) h hI (by omega)) (fun w hw => ?_)
      obtain ⟨h1, h2, h3, h4, h5, h6⟩ := hw
      exact ⟨h1, h2, h5, h6⟩
    · rw [show FU = 999999 + 1 from rfl, fc_X7_reckoned_L16]
      refine wp_le (fun _ => wp_some ⟨by dsimp only; omega, by dsimp only; omega, hI, rfl⟩) (fun _ => ?_)
      exact wp_le (fun _ => wp_some ⟨by dsimp only; omega, by dsimp only; omega, hI, rfl⟩) (fun h2 => absurd h2 (by omega))
  · obtain ⟨h1, h2, h3, h4⟩ := h46
    refine wp_lt (fun _ => wp_some ⟨h3, h4⟩) (fun hc => ?_)
    have t := tS (a := w46.1) (b := 1) (by omega) (by omega)
    exact wp_bif (inb_of (by omega) (by omega)) (wp_letv (fun v _ => wp_some ⟨h3, h4⟩))
theorem tc_X7_chosen_L3 {P : Nat → Nat → Option Int} {k0 : Nat} {k1 : Int32} {k2 : Nat} {k3 : Int32} (hk_k0 : cK k0 = 6) (hk_k2 : cK k2 = 7)  : ∀ (N : Nat) (a5 : Int32) (S : cT), 0 ≤ a5.toInt → a5.toInt ≤ 12 → IC P S → 12 - a5.toInt < (N : Int) → wp (fc_X7_chosen_L3 k0 k1 k2 k3 N a5 S) (fun w => Sum.elim (fun w => (0 ≤ (w.1).toInt) ∧ ((w.1).toInt ≤ 12) ∧ (IC P w.2) ∧ (w.2.2.2 = S.2.2)) (fun w => (IC P w.2) ∧ (w.2.2.2 = S.2.2)) w) := by
  intro N
  induction N with
  | zero =>
    intro a5 S vl_a5 vu_a5 hI hm
    exfalso; omega
  | succ N ih =>
    intro a5 S vl_a5 vu_a5 hI hm
    rw [fc_X7_chosen_L3]
    have l_1 : (1 : Int32).toInt = 1 := by decide
    have l_12 : (12 : Int32).toInt = 12 := by decide
    have c1 := ic_6_6 hI hk_k0
    refine wp_le (fun hc2 => ?_) (fun hc2 => ?_)
    · skip
      exact wp_some ⟨(by first | omega | (dsimp only; omega)), (by first | omega | (dsimp only; omega)), hI, rfl⟩
    · skip
      refine wp_le (fun hc3 => ?_) (fun hc3 => ?_)
      · skip
        exact wp_some ⟨(by first | omega | (dsimp only; omega)), (by first | omega | (dsimp only; omega)), hI, rfl⟩
      · skip
        refine wp_bif (inb_of (by omega) (by omega)) ?_
        refine wp_letv (fun v3 ev3 => ?_)
        refine wp_eqn (fun hc4 => ?_) ?_
        · skip
          refine wp_bif (inb_of (by omega) (by omega)) ?_
          refine wp_letv (fun v5 ev5 => ?_)
          refine wp_bif (inb_of (by omega) (by omega)) ?_
          refine wp_letv (fun v6 ev6 => ?_)
          refine wp_eqn (fun hc5 => ?_) ?_
          · skip
            refine wp_bif (inb_of (by omega) (by omega)) ?_
            refine wp_letv (fun v8 ev8 => ?_)
            refine wp_bif (inb_of (by omega) (by omega)) ?_
            refine wp_letv (fun v9 ev9 => ?_)
            refine wp_bind (tc_X7_reckoned hk_k0 hk_k2 hI) (fun q10 hq6 => ?_)
            obtain ⟨h7, h8⟩ := hq6
            exact wp_some ⟨h7, h8⟩
          · skip
            refine wp_bif (inb_of (by omega) (by omega)) ?_
            refine wp_letv (fun v11 ev11 => ?_)
            refine wp_bif (inb_of (by omega) (by omega)) ?_
            refine wp_letv (fun v12 ev12 => ?_)
            refine wp_bind (tc_X7_reckoned hk_k0 hk_k2 hI) (fun q13 hq9 => ?_)
            obtain ⟨h10, h11⟩ := hq9
            refine wp_if (fun hc12 => ?_) (fun hc12 => ?_)
            · skip
              have t13 : (a5 + (1 : Int32) : Int32).toInt = (a5).toInt + ((1 : Int32)).toInt := tA (by omega) (by omega)
              have zz14 := (ih (a5 + (1 : Int32)) q13.2 (by omega) (by omega) h10 (by omega))
              exact wp_mono zz14 (fun _ h => sum_mono h (fun w hw => ⟨hw.1, hw.2.1, hw.2.2.1, hw.2.2.2.trans h11⟩) (fun w hw => ⟨hw.1, hw.2.trans h11⟩))
            · skip
              refine wp_bif (inb_of (by omega) (by omega)) ?_
              refine wp_letv (fun v15 ev15 => ?_)
              refine wp_bif (inb_of (by omega) (by omega)) ?_
              refine wp_letv (fun v16 ev16 => ?_)
              refine wp_bind (tc_X7_reckoned hk_k0 hk_k2 h10) (fun q17 hq15 => ?_)
              obtain ⟨h16, h17⟩ := hq15
              exact wp_some ⟨h16, (h17.trans h11)⟩
        · skip
          have t18 : (a5 + (1 : Int32) : Int32).toInt = (a5).toInt + ((1 : Int32)).toInt := tA (by omega) (by omega)
          exact (ih (a5 + (1 : Int32)) S (by omega) (by omega) hI (by omega))
theorem tc_X7_chosen {P : Nat → Nat → Option Int} {b : Nat} {p0 : Int32} {p1 : Nat} {p2 : Int32} {p3 : Int32} {S : cT} (hk_b : cK b = 6) (hk_p1 : cK p1 = 7) (hI : IC P S) : wp (fc_X7_chosen b p0 p1 p2 p3 S) (fun w => (IC P w.2) ∧ (w.2.2.2 = S.2.2)) := by
  unfold fc_X7_chosen
  have l_0 : (0 : Int32).toInt = 0 := by decide
  have fu : (FU : Int) = 1000000 := rfl
  refine wp_bind (tc_X7_chosen_L3 hk_b hk_p1 FU (0 : Int32) S (by omega) (by omega) hI (by omega)) (fun w18 hq1 => ?_)
  refine wp_sum hq1 (fun w18a hq2 => ?_) (fun w18b hq2 => ?_)
  · skip
    obtain ⟨h3, h4, h5, h6⟩ := hq2
    exact wp_some ⟨h5, h6⟩
  · skip
    obtain ⟨h7, h8⟩ := hq2
    exact wp_some ⟨h7, h8⟩
theorem tc_X4_told {P : Nat → Nat → Option Int} {b : Nat} {p0 : Nat} {p1 : Nat} {p2 : Int32} {p3 : Int32} {p4 : Int32} {p5 : Int32} {S : cT} (hk_b : cK b = 3) (hk_p0 : cK p0 = 2) (hk_p1 : cK p1 = 6) (hI : IC P S) : wp (fc_X4_told b p0 p1 p2 p3 p4 p5 S) (fun w => (IC P w.2) ∧ (w.2.2.2 = S.2.2)) := by
  unfold fc_X4_told
  refine wp_bind (tc_X9_set (ko_3_1 hk_b) hk_p0 hI) (fun q1 hq1 => ?_)
  obtain ⟨h2, h3⟩ := hq1
  refine wp_bind (tc_X2_lastFace hk_p0 h2) (fun q2 hq4 => ?_)
  refine wp_bind (tc_X7_chosen hk_p1 (ko_3_1 hk_b) h2) (fun q3 hq5 => ?_)
  obtain ⟨h6, h7⟩ := hq5
  exact wp_some ⟨h6, (h7.trans h3)⟩
theorem tc_X9_setAs {P : Nat → Nat → Option Int} {b : Nat} {p0 : Nat} {p1 : Int32} {S : cT} (hk_b : cK b = 7) (hk_p0 : cK p0 = 2) (hI : IC P S) : wp (fc_X9_setAs b p0 p1 S) (fun w => (IC P w) ∧ (w.2.2 = S.2.2)) := by
  unfold fc_X9_setAs
  have l_6 : (6 : Int32).toInt = 6 := by decide
  have l_7 : (7 : Int32).toInt = 7 := by decide
  refine wp_bind (tc_X6_at (ko_2_6 hk_p0) hI) (fun q1 hq1 => ?_)
  refine wp_bind (tc_X6_at (ko_2_6 hk_p0) hI) (fun q2 hq2 => ?_)
  refine wp_bind (tc_X6_at (ko_2_6 hk_p0) hI) (fun q3 hq3 => ?_)
  refine wp_bind (tc_X6_at (ko_2_6 hk_p0) hI) (fun q4 hq4 => ?_)
  refine wp_bind (tc_X9_set hk_b hk_p0 hI) (fun q5 hq5 => ?_)
  obtain ⟨h6, h7⟩ := hq5
  refine wp_bind (tc_X6_at (ko_2_6 hk_p0) h6) (fun q6 hq8 => ?_)
  refine wp_bif (inb_of (by omega) (by omega)) ?_
  refine wp_letv (fun S8 eS8 => ?_)
  have hIS8 : IC P S8 := by rw [eS8]; exact (iw_cb h6)
  have hpS8 : S8.2.2 = S.2.2 := by rw [eS8]; exact h7
  refine wp_bind (tc_X6_at (ko_2_6 hk_p0) hIS8) (fun q9 hq9 => ?_)
  refine wp_bif (inb_of (by omega) (by omega)) ?_
  refine wp_letv (fun S11 eS11 => ?_)
  have hIS11 : IC P S11 := by rw [eS11]; exact (iw_cb hIS8)
  have hpS11 : S11.2.2 = S.2.2 := by rw [eS11]; exact hpS8
  exact wp_some ⟨hIS11, hpS11⟩
theorem tc_X4_weightOf {P : Nat → Nat → Option Int} {b : Nat} {p0 : Nat} {p1 : Nat} {p2 : Int32} {S : cT} (hk_b : cK b = 3) (hk_p0 : cK p0 = 2) (hk_p1 : cK p1 = 6) (hI : IC P S) : wp (fc_X4_weightOf b p0 p1 p2 S) (fun w => (IC P w.2) ∧ (w.2.2.2 = S.2.2)) := by
  unfold fc_X4_weightOf
  refine wp_bind (tc_X9_setAs (ko_3_1 hk_b) hk_p0 hI) (fun q1 hq1 => ?_)
  obtain ⟨h2, h3⟩ := hq1
  refine wp_bind (tc_X2_isLook hk_p0 h2) (fun q2 hq4 => ?_)
  refine wp_b (fun hb5 => ?_) (fun hb5 => ?_)
  · skip
    refine wp_bind (tc_X7_chosen hk_p1 (ko_3_1 hk_b) h2) (fun q4 hq6 => ?_)
    obtain ⟨h7, h8⟩ := hq6
    exact wp_some ⟨h7, (h8.trans h3)⟩
  · skip
    refine wp_bind (tc_X7_chosen hk_p1 (ko_3_1 hk_b) h2) (fun q5 hq9 => ?_)
    obtain ⟨h10, h11⟩ := hq9
    exact wp_some ⟨h10, (h11.trans h3)⟩
theorem tc_X4_clearSums_L2 {P : Nat → Nat → Option Int} {k0 : Nat} (hk_k0 : cK k0 = 3)  : ∀ (N : Nat) (a1 : Int32) (S : cT), 0 ≤ a1.toInt → a1.toInt ≤ 6 → IC P S → 6 - a1.toInt < (N : Int) → wp (fc_X4_clearSums_L2 k0 N a1 S) (fun w => (0 ≤ (w.1).toInt) ∧ ((w.1).toInt ≤ 6) ∧ (IC P w.2) ∧ (w.2.2.2 = S.2.2)) := by
  intro N
  induction N with
  | zero =>
    intro a1 S vl_a1 vu_a1 hI hm
    exfalso; omega
  | succ N ih =>
    intro a1 S vl_a1 vu_a1 hI hm
    rw [fc_X4_clearSums_L2]
    have l_1 : (1 : Int32).toInt = 1 := by decide
    have l_6 : (6 : Int32).toInt = 6 := by decide
    refine wp_le (fun hc1 => ?_) (fun hc1 => ?_)
    · skip
      exact wp_some ⟨(by first | omega | (dsimp only; omega)), (by first | omega | (dsimp only; omega)), hI, rfl⟩
    · skip
      refine wp_bif (inb_of (by omega) (by omega)) ?_
      refine wp_letv (fun S3 eS3 => ?_)
      have hIS3 : IC P S3 := by rw [eS3]; exact (iw_20 hI (kw_3_4 hk_k0))
      have hpS3 : S3.2.2 = S.2.2 := by rw [eS3]; exact rfl
      have t2 : (a1 + (1 : Int32) : Int32).toInt = (a1).toInt + ((1 : Int32)).toInt := tA (by omega) (by omega)
      have zz3 := (ih (a1 + (1 : Int32)) S3 (by omega) (by omega) hIS3 (by omega))
      exact wp_mono zz3 (fun w hw => ⟨hw.1, hw.2.1, hw.2.2.1, hw.2.2.2.trans hpS3⟩)
theorem tc_X4_clearSums {P : Nat → Nat → Option Int} {b : Nat} {S : cT} (hk_b : cK b = 3) (hI : IC P S) : wp (fc_X4_clearSums b S) (fun w => (IC P w) ∧ (w.2.2 = S.2.2)) := by
  unfold fc_X4_clearSums
  have l_0 : (0 : Int32).toInt = 0 := by decide
  have fu : (FU : Int) = 1000000 := rfl
  refine wp_bind (tc_X4_clearSums_L2 hk_b FU (0 : Int32) S (by omega) (by omega) hI (by omega)) (fun w4 hq1 => ?_)
  obtain ⟨h2, h3, h4, h5⟩ := hq1
  exact wp_some ⟨h4, h5⟩
theorem tc_X4_addFace_L3 {P : Nat → Nat → Option Int} {k0 : Nat} {k1 : Nat} {k2 : Int32} {k3 : Int32} (hk_k0 : cK k0 = 3) (hk_k1 : cK k1 = 2)  : ∀ (N : Nat) (a4 : Int32) (S : cT), 0 ≤ a4.toInt → a4.toInt ≤ 6 → IC P S → 6 - a4.toInt < (N : Int) → wp (fc_X4_addFace_L3 k0 k1 k2 k3 N a4 S) (fun w => (0 ≤ (w.1).toInt) ∧ ((w.1).toInt ≤ 6) ∧ (IC P w.2) ∧ (w.2.2.2 = S.2.2)) := by
  intro N
  induction N with
  | zero =>
    intro a4 S vl_a4 vu_a4 hI hm
    exfalso; omega
  | succ N ih =>
    intro a4 S vl_a4 vu_a4 hI hm
    rw [fc_X4_addFace_L3]
    have l_0 : (0 : Int32).toInt = 0 := by decide
    have l_1 : (1 : Int32).toInt = 1 := by decide
    have l_6 : (6 : Int32).toInt = 6 := by decide
    have c1 := ic_2_8 hI hk_k1
    refine wp_le (fun hc2 => ?_) (fun hc2 => ?_)
    · skip
      exact wp_some ⟨(by first | omega | (dsimp only; omega)), (by first | omega | (dsimp only; omega)), hI, rfl⟩
    · skip
      refine wp_le (fun hc3 => ?_) (fun hc3 => ?_)
      · skip
        exact wp_some ⟨(by first | omega | (dsimp only; omega)), (by first | omega | (dsimp only; omega)), hI, rfl⟩
      · skip
        refine wp_bif (inb_of (by omega) (by omega)) ?_
        refine wp_letv (fun v3 ev3 => ?_)
        have t4 := and_i (k2 >>> (a4 &&& (31 : Int32))) (c := 1) l_1 (by decide)
        refine wp_eq_lo (by omega) (fun hc5 => ?_) (fun hc5 => ?_)
        · skip
          refine wp_bif (inb_of (by omega) (by omega)) ?_
          refine wp_letv (fun S6 eS6 => ?_)
          have hIS6 : IC P S6 := by rw [eS6]; exact (iw_20 hI (kw_3_4 hk_k0))
          have hpS6 : S6.2.2 = S.2.2 := by rw [eS6]; exact rfl
          have t6 : (a4 + (1 : Int32) : Int32).toInt = (a4).toInt + ((1 : Int32)).toInt := tA (by omega) (by omega)
          have zz7 := (ih (a4 + (1 : Int32)) S6 (by omega) (by omega) hIS6 (by omega))
          exact wp_mono zz7 (fun w hw => ⟨hw.1, hw.2.1, hw.2.2.1, hw.2.2.2.trans hpS6⟩)
        · skip
          refine wp_bif (inb_of (by omega) (by omega)) ?_
          refine wp_letv (fun S8 eS8 => ?_)
          have hIS8 : IC P S8 := by rw [eS8]; exact (iw_20 hI (kw_3_4 hk_k0))
          have hpS8 : S8.2.2 = S.2.2 := by rw [eS8]; exact rfl
          have t8 : (a4 + (1 : Int32) : Int32).toInt = (a4).toInt + ((1 : Int32)).toInt := tA (by omega) (by omega)
          have zz9 := (ih (a4 + (1 : Int32)) S8 (by omega) (by omega) hIS8 (by omega))
          exact wp_mono zz9 (fun w hw => ⟨hw.1, hw.2.1, hw.2.2.1, hw.2.2.2.trans hpS8⟩)
theorem tc_X4_addFace {P : Nat → Nat → Option Int} {b : Nat} {p0 : Nat} {p1 : Int32} {p2 : Int32} {S : cT} (hk_b : cK b = 3) (hk_p0 : cK p0 = 2) (hI : IC P S) : wp (fc_X4_addFace b p0 p1 p2 S) (fun w => (IC P w) ∧ (w.2.2 = S.2.2)) := by
  unfold fc_X4_addFace
  have l_0 : (0 : Int32).toInt = 0 := by decide
  have fu : (FU : Int) = 1000000 := rfl
  refine wp_bind (tc_X4_addFace_L3 hk_b hk_p0 FU (0 : Int32) S (by omega) (by omega) hI (by omega)) (fun w9 hq1 => ?_)
  obtain ⟨h2, h3, h4, h5⟩ := hq1
  exact wp_some ⟨h4, h5⟩
theorem tc_X4_addUp_L7 {P : Nat → Nat → Option Int} {k0 : Nat} {k1 : Nat} {k2 : Nat} {k3 : Int32} (hk_k0 : cK k0 = 3) (hk_k1 : cK k1 = 2) (hk_k2 : cK k2 = 6)  : ∀ (N : Nat) (a4 : Int32) (S : cT), 0 ≤ a4.toInt → a4.toInt ≤ 40 → IC P S → 40 - a4.toInt < (N : Int) → wp (fc_X4_addUp_L7 k0 k1 k2 k3 N a4 S) (fun w => (0 ≤ (w.1).toInt) ∧ ((w.1).toInt ≤ 40) ∧ (IC P w.2) ∧ (w.2.2.2 = S.2.2)) := by
  intro N
  induction N with
  | zero =>
    intro a4 S vl_a4 vu_a4 hI hm
    exfalso; omega
  | succ N ih =>
    intro a4 S vl_a4 vu_a4 hI hm
    rw [fc_X4_addUp_L7]
    have l_1 : (1 : Int32).toInt = 1 := by decide
    have c1 := ic_2_6_3 hI hk_k1
    refine wp_le (fun hc2 => ?_) (fun hc2 => ?_)
    · skip
      exact wp_some ⟨(by first | omega | (dsimp only; omega)), (by first | omega | (dsimp only; omega)), hI, rfl⟩
    · skip
      refine wp_bind (tc_X6_at (ko_2_6 hk_k1) hI) (fun q3 hq3 => ?_)
      refine wp_eqn (fun hc4 => ?_) ?_
      · skip
        refine wp_bind (tc_X6_at (ko_2_6 hk_k1) hI) (fun q5 hq5 => ?_)
        refine wp_eqn (fun hc6 => ?_) ?_
        · skip
          refine wp_bind (tc_X6_at (ko_2_6 hk_k1) hI) (fun q7 hq7 => ?_)
          refine wp_bind (tc_X4_weightOf hk_k0 hk_k1 hk_k2 hI) (fun q8 hq8 => ?_)
          obtain ⟨h9, h10⟩ := hq8
          refine wp_bind (tc_X4_addFace hk_k0 hk_k1 h9) (fun q9 hq11 => ?_)
          obtain ⟨h12, h13⟩ := hq11
          have t14 : (a4 + (1 : Int32) : Int32).toInt = (a4).toInt + ((1 : Int32)).toInt := tA (by omega) (by omega)
          have zz15 := (ih (a4 + (1 : Int32)) q9 (by omega) (by omega) h12 (by omega))
          exact wp_mono zz15 (fun w hw => ⟨hw.1, hw.2.1, hw.2.2.1, hw.2.2.2.trans (h13.trans h10)⟩)
        · skip
          have t16 : (a4 + (1 : Int32) : Int32).toInt = (a4).toInt + ((1 : Int32)).toInt := tA (by omega) (by omega)
          exact (ih (a4 + (1 : Int32)) S (by omega) (by omega) hI (by omega))
      · skip
        have t17 : (a4 + (1 : Int32) : Int32).toInt = (a4).toInt + ((1 : Int32)).toInt := tA (by omega) (by omega)
        exact (ih (a4 + (1 : Int32)) S (by omega) (by omega) hI (by omega))
theorem tc_X4_addUp {P : Nat → Nat → Option Int} {b : Nat} {p0 : Nat} {p1 : Nat} {p2 : Int32} {S : cT} (hk_b : cK b = 3) (hk_p0 : cK p0 = 2) (hk_p1 : cK p1 = 6) (hI : IC P S) : wp (fc_X4_addUp b p0 p1 p2 S) (fun w => (IC P w) ∧ (w.2.2 = S.2.2)) := by
  unfold fc_X4_addUp
  have l_0 : (0 : Int32).toInt = 0 := by decide
  have fu : (FU : Int) = 1000000 := rfl
  refine wp_bind (tc_X4_clearSums hk_b hI) (fun q1 hq1 => ?_)
  obtain ⟨h2, h3⟩ := hq1
  refine wp_bind (tc_X4_addUp_L7 hk_b hk_p0 hk_p1 FU (0 : Int32) q1 (by omega) (by omega) h2 (by omega)) (fun w10 hq4 => ?_)
  obtain ⟨h5, h6, h7, h8⟩ := hq4
  exact wp_some ⟨h7, (h8.trans h3)⟩
theorem tc_X4_addLeans_L6 {P : Nat → Nat → Option Int} {k0 : Nat} {k1 : Nat} {k2 : Int32} (hk_k0 : cK k0 = 3) (hk_k1 : cK k1 = 2)  : ∀ (N : Nat) (a3 : Int32) (S : cT), 0 ≤ a3.toInt → a3.toInt ≤ 40 → IC P S → 40 - a3.toInt < (N : Int) → wp (fc_X4_addLeans_L6 k0 k1 k2 N a3 S) (fun w => (0 ≤ (w.1).toInt) ∧ ((w.1).toInt ≤ 40) ∧ (IC P w.2) ∧ (w.2.2.2 = S.2.2)) := by
  intro N
  induction N with
  | zero =>
    intro a3 S vl_a3 vu_a3 hI hm
    exfalso; omega
  | succ N ih =>
    intro a3 S vl_a3 vu_a3 hI hm
    rw [fc_X4_addLeans_L6]
    have l_1 : (1 : Int32).toInt = 1 := by decide
    have c1 := ic_2_6_3 hI hk_k1
    refine wp_le (fun hc2 => ?_) (fun hc2 => ?_)
    · skip
      exact wp_some ⟨(by first | omega | (dsimp only; omega)), (by first | omega | (dsimp only; omega)), hI, rfl⟩
    · skip
      refine wp_bind (tc_X6_at (ko_2_6 hk_k1) hI) (fun q3 hq3 => ?_)
      refine wp_bind (tc_X6_at (ko_2_6 hk_k1) hI) (fun q4 hq4 => ?_)
      refine wp_eqn (fun hc5 => ?_) ?_
      · skip
        refine wp_eqn (fun hc6 => ?_) ?_
        · skip
          have t7 : (a3 + (1 : Int32) : Int32).toInt = (a3).toInt + ((1 : Int32)).toInt := tA (by omega) (by omega)
          exact (ih (a3 + (1 : Int32)) S (by omega) (by omega) hI (by omega))
        · skip
          refine wp_bind (tc_X6_at (ko_2_6 hk_k1) hI) (fun q7 hq8 => ?_)
          refine wp_bind (tc_X2_leanOf hk_k1 hI) (fun q8 hq9 => ?_)
          refine wp_bind (tc_X4_addFace hk_k0 hk_k1 hI) (fun q9 hq10 => ?_)
          obtain ⟨h11, h12⟩ := hq10
          have t13 : (a3 + (1 : Int32) : Int32).toInt = (a3).toInt + ((1 : Int32)).toInt := tA (by omega) (by omega)
          have zz14 := (ih (a3 + (1 : Int32)) q9 (by omega) (by omega) h11 (by omega))
          exact wp_mono zz14 (fun w hw => ⟨hw.1, hw.2.1, hw.2.2.1, hw.2.2.2.trans h12⟩)
      · skip
        have t15 : (a3 + (1 : Int32) : Int32).toInt = (a3).toInt + ((1 : Int32)).toInt := tA (by omega) (by omega)
        exact (ih (a3 + (1 : Int32)) S (by omega) (by omega) hI (by omega))
theorem tc_X4_addLeans {P : Nat → Nat → Option Int} {b : Nat} {p0 : Nat} {p1 : Int32} {S : cT} (hk_b : cK b = 3) (hk_p0 : cK p0 = 2) (hI : IC P S) : wp (fc_X4_addLeans b p0 p1 S) (fun w => (IC P w) ∧ (w.2.2 = S.2.2)) := by
  unfold fc_X4_addLeans
  have l_0 : (0 : Int32).toInt = 0 := by decide
  have fu : (FU : Int) = 1000000 := rfl
  refine wp_bind (tc_X4_clearSums hk_b hI) (fun q1 hq1 => ?_)
  obtain ⟨h2, h3⟩ := hq1
  refine wp_bind (tc_X4_addLeans_L6 hk_b hk_p0 FU (0 : Int32) q1 (by omega) (by omega) h2 (by omega)) (fun w10 hq4 => ?_)
  obtain ⟨h5, h6, h7, h8⟩ := hq4
  exact wp_some ⟨h7, (h8.trans h3)⟩
theorem tc_X4_marksAbove_L4 {P : Nat → Nat → Option Int} {k0 : Nat} {k1 : Nat} {S : cT} (hk_k0 : cK k0 = 3) (hk_k1 : cK k1 = 2) (hI : IC P S) : ∀ (N : Nat) (a2 : Int32) (a3 : Int32), 0 ≤ a3.toInt → a3.toInt ≤ 6 → 6 - a3.toInt < (N : Int) → wp (fc_X4_marksAbove_L4 k0 k1 S N a2 a3) (fun w => (0 ≤ (w.2).toInt) ∧ ((w.2).toInt ≤ 6)) := by
  intro N
  induction N with
  | zero =>
    intro a2 a3 vl_a3 vu_a3 hm
    exfalso; omega
  | succ N ih =>
    intro a2 a3 vl_a3 vu_a3 hm
    rw [fc_X4_marksAbove_L4]
    have l_0 : (0 : Int32).toInt = 0 := by decide
    have l_1 : (1 : Int32).toInt = 1 := by decide
    have l_6 : (6 : Int32).toInt = 6 := by decide
    have c1 := ic_2_8 hI hk_k1
    refine wp_le (fun hc2 => ?_) (fun hc2 => ?_)
    · skip
      exact wp_some ⟨(by first | omega | (dsimp only; omega)), (by first | omega | (dsimp only; omega))⟩
    · skip
      refine wp_le (fun hc3 => ?_) (fun hc3 => ?_)
      · skip
        exact wp_some ⟨(by first | omega | (dsimp only; omega)), (by first | omega | (dsimp only; omega))⟩
      · skip
        refine wp_bif (inb_of (by omega) (by omega)) ?_
        refine wp_letv (fun v3 ev3 => ?_)
        refine wp_le (fun hc4 => ?_) (fun hc4 => ?_)
        · skip
          have t5 : (a3 + (1 : Int32) : Int32).toInt = (a3).toInt + ((1 : Int32)).toInt := tA (by omega) (by omega)
          exact (ih a2 (a3 + (1 : Int32)) (by omega) (by omega) (by omega))
        · skip
          have t6 : (a3 + (1 : Int32) : Int32).toInt = (a3).toInt + ((1 : Int32)).toInt := tA (by omega) (by omega)
          exact (ih (a2 ||| ((1 : Int32) <<< (a3 &&& (31 : Int32)))) (a3 + (1 : Int32)) (by omega) (by omega) (by omega))
theorem tc_X4_marksAbove {P : Nat → Nat → Option Int} {b : Nat} {p0 : Nat} {S : cT} (hk_b : cK b = 3) (hk_p0 : cK p0 = 2) (hI : IC P S) : wp (fc_X4_marksAbove b p0 S) (fun w => True) := by
  unfold fc_X4_marksAbove
  have l_0 : (0 : Int32).toInt = 0 := by decide
  have fu : (FU : Int) = 1000000 := rfl
  refine wp_bind (tc_X4_marksAbove_L4 hk_b hk_p0 hI FU (0 : Int32) (0 : Int32) (by omega) (by omega) (by omega)) (fun w5 hq1 => ?_)
  obtain ⟨h2, h3⟩ := hq1
  exact wp_some trivial
theorem tc_X4_believed {P : Nat → Nat → Option Int} {b : Nat} {p0 : Nat} {p1 : Nat} {p2 : Int32} {S : cT} (hk_b : cK b = 3) (hk_p0 : cK p0 = 2) (hk_p1 : cK p1 = 6) (hI : IC P S) : wp (fc_X4_believed b p0 p1 p2 S) (fun w => (IC P w.2) ∧ (w.2.2.2 = S.2.2)) := by
  unfold fc_X4_believed
  refine wp_bind (tc_X4_addUp hk_b hk_p0 hk_p1 hI) (fun q1 hq1 => ?_)
  obtain ⟨h2, h3⟩ := hq1
  refine wp_bind (tc_X4_marksAbove hk_b hk_p0 h2) (fun q2 hq4 => ?_)
  exact wp_some ⟨h2, h3⟩
theorem tc_X4_marksEven_L4 {P : Nat → Nat → Option Int} {k0 : Nat} {k1 : Nat} {S : cT} (hk_k0 : cK k0 = 3) (hk_k1 : cK k1 = 2) (hI : IC P S) : ∀ (N : Nat) (a2 : Int32) (a3 : Int32), 0 ≤ a3.toInt → a3.toInt ≤ 6 → 6 - a3.toInt < (N : Int) → wp (fc_X4_marksEven_L4 k0 k1 S N a2 a3) (fun w => (0 ≤ (w.2).toInt) ∧ ((w.2).toInt ≤ 6)) := by
  intro N
  induction N with
  | zero =>
    intro a2 a3 vl_a3 vu_a3 hm
    exfalso; omega
  | succ N ih =>
    intro a2 a3 vl_a3 vu_a3 hm
    rw [fc_X4_marksEven_L4]
    have l_0 : (0 : Int32).toInt = 0 := by decide
    have l_1 : (1 : Int32).toInt = 1 := by decide
    have l_6 : (6 : Int32).toInt = 6 := by decide
    have c1 := ic_2_8 hI hk_k1
    refine wp_le (fun hc2 => ?_) (fun hc2 => ?_)
    · skip
      exact wp_some ⟨(by first | omega | (dsimp only; omega)), (by first | omega | (dsimp only; omega))⟩
    · skip
      refine wp_le (fun hc3 => ?_) (fun hc3 => ?_)
      · skip
        exact wp_some ⟨(by first | omega | (dsimp only; omega)), (by first | omega | (dsimp only; omega))⟩
      · skip
        refine wp_bif (inb_of (by omega) (by omega)) ?_
        refine wp_letv (fun v3 ev3 => ?_)
        refine wp_eqn (fun hc4 => ?_) ?_
        · skip
          have t5 : (a3 + (1 : Int32) : Int32).toInt = (a3).toInt + ((1 : Int32)).toInt := tA (by omega) (by omega)
          exact (ih (a2 ||| ((1 : Int32) <<< (a3 &&& (31 : Int32)))) (a3 + (1 : Int32)) (by omega) (by omega) (by omega))
        · skip
          have t6 : (a3 + (1 : Int32) : Int32).toInt = (a3).toInt + ((1 : Int32)).toInt := tA (by omega) (by omega)
          exact (ih a2 (a3 + (1 : Int32)) (by omega) (by omega) (by omega))
theorem tc_X4_marksEven {P : Nat → Nat → Option Int} {b : Nat} {p0 : Nat} {S : cT} (hk_b : cK b = 3) (hk_p0 : cK p0 = 2) (hI : IC P S) : wp (fc_X4_marksEven b p0 S) (fun w => True) := by
  unfold fc_X4_marksEven
  have l_0 : (0 : Int32).toInt = 0 := by decide
  have fu : (FU : Int) = 1000000 := rfl
  refine wp_bind (tc_X4_marksEven_L4 hk_b hk_p0 hI FU (0 : Int32) (0 : Int32) (by omega) (by omega) (by omega)) (fun w5 hq1 => ?_)
  obtain ⟨h2, h3⟩ := hq1
  exact wp_some trivial
theorem tc_X4_open {P : Nat → Nat → Option Int} {b : Nat} {p0 : Nat} {p1 : Nat} {p2 : Int32} {S : cT} (hk_b : cK b = 3) (hk_p0 : cK p0 = 2) (hk_p1 : cK p1 = 6) (hI : IC P S) : wp (fc_X4_open b p0 p1 p2 S) (fun w => (IC P w.2) ∧ (w.2.2.2 = S.2.2)) := by
  unfold fc_X4_open
  refine wp_bind (tc_X4_addUp hk_b hk_p0 hk_p1 hI) (fun q1 hq1 => ?_)
  obtain ⟨h2, h3⟩ := hq1
  refine wp_bind (tc_X4_marksEven hk_b hk_p0 h2) (fun q2 hq4 => ?_)
  exact wp_some ⟨h2, h3⟩
theorem tc_X4_marksTurnedBy_L37 {P : Nat → Nat → Option Int} {k0 : Nat} {k1 : Nat} {k5 : Int32} {S : cT} (hk_k0 : cK k0 = 3) (hk_k1 : cK k1 = 2) (hI : IC P S) : ∀ (N : Nat) (a6 : Int32) (a7 : Int32), 0 ≤ a7.toInt → a7.toInt ≤ 6 → 6 - a7.toInt < (N : Int) → wp (fc_X4_marksTurnedBy_L37 k0 k1 k5 S N a6 a7) (fun w => (0 ≤ (w.2).toInt) ∧ ((w.2).toInt ≤ 6)) := by
  intro N
  induction N with
  | zero =>
    intro a6 a7 vl_a7 vu_a7 hm
    exfalso; omega
  | succ N ih =>
    intro a6 a7 vl_a7 vu_a7 hm
    rw [fc_X4_marksTurnedBy_L37]
    have l_0 : (0 : Int32).toInt = 0 := by decide
    have l_1 : (1 : Int32).toInt = 1 := by decide
    have l_6 : (6 : Int32).toInt = 6 := by decide
    have c1 := ic_2_8 hI hk_k1
    refine wp_le (fun hc2 => ?_) (fun hc2 => ?_)
    · skip
      exact wp_some ⟨(by first | omega | (dsimp only; omega)), (by first | omega | (dsimp only; omega))⟩
    · skip
      refine wp_le (fun hc3 => ?_) (fun hc3 => ?_)
      · skip
        exact wp_some ⟨(by first | omega | (dsimp only; omega)), (by first | omega | (dsimp only; omega))⟩
      · skip
        refine wp_le (fun hc4 => ?_) (fun hc4 => ?_)
        · skip
          have t5 : (a7 + (1 : Int32) : Int32).toInt = (a7).toInt + ((1 : Int32)).toInt := tA (by omega) (by omega)
          exact (ih a6 (a7 + (1 : Int32)) (by omega) (by omega) (by omega))
        · skip
          refine wp_bif (inb_of (by omega) (by omega)) ?_
          refine wp_letv (fun v6 ev6 => ?_)
          refine wp_lt (fun hc6 => ?_) (fun hc6 => ?_)
          · skip
            have t7 : (a7 + (1 : Int32) : Int32).toInt = (a7).toInt + ((1 : Int32)).toInt := tA (by omega) (by omega)
            exact (ih a6 (a7 + (1 : Int32)) (by omega) (by omega) (by omega))
          · skip
            have t8 : (a7 + (1 : Int32) : Int32).toInt = (a7).toInt + ((1 : Int32)).toInt := tA (by omega) (by omega)
            exact (ih (a6 + (1 : Int32)) (a7 + (1 : Int32)) (by omega) (by omega) (by omega))
theorem tc_X4_marksTurnedBy {P : Nat → Nat → Option Int} {b : Nat} {p0 : Nat} {p1 : Nat} {p2 : Int32} {p3 : Int32} {S : cT} (hk_b : cK b = 3) (hk_p0 : cK p0 = 2) (hk_p1 : cK p1 = 6) (hI : IC P S) : wp (fc_X4_marksTurnedBy b p0 p1 p2 p3 S) (fun w => (IC P w.2) ∧ (w.2.2.2 = S.2.2)) := by
  unfold fc_X4_marksTurnedBy
  have l_0 : (0 : Int32).toInt = 0 := by decide
  have fu : (FU : Int) = 1000000 := rfl
  refine wp_bind (tc_X9_set (ko_3_1 hk_b) hk_p0 hI) (fun q1 hq1 => ?_)
  obtain ⟨h2, h3⟩ := hq1
  refine wp_bind (tc_X7_chosen hk_p1 (ko_3_1 hk_b) h2) (fun q2 hq4 => ?_)
  obtain ⟨h5, h6⟩ := hq4
  refine wp_bind (tc_X4_marksTurnedBy_L37 hk_b hk_p0 h5 FU (0 : Int32) (0 : Int32) (by omega) (by omega) (by omega)) (fun w8 hq7 => ?_)
  obtain ⟨h8, h9⟩ := hq7
  exact wp_some ⟨h5, (h6.trans h3)⟩
theorem tc_X5_addWorths_L38 {P : Nat → Nat → Option Int} {k0 : Nat} {k1 : Nat} {k2 : Int32} {k3 : Int32} (hk_k0 : cK k0 = 4) (hk_k1 : cK k1 = 2) (hl_k3 : 1 ≤ k3.toInt) (hu_k3 : k3.toInt ≤ 512)  : ∀ (N : Nat) (a4 : Int32) (S : cT), 0 ≤ a4.toInt → a4.toInt ≤ 512 → IC P S → 512 - a4.toInt < (N : Int) → wp (fc_X5_addWorths_L38 k0 k1 k2 k3 N a4 S) (fun w => (0 ≤ (w.1).toInt) ∧ ((w.1).toInt ≤ 512) ∧ (IC P w.2) ∧ (w.2.2.2 = S.2.2)) := by
  intro N
  induction N with
  | zero =>
    intro a4 S vl_a4 vu_a4 hI hm
    exfalso; omega
  | succ N ih =>
    intro a4 S vl_a4 vu_a4 hI hm
    rw [fc_X5_addWorths_L38]
    have l_1 : (1 : Int32).toInt = 1 := by decide
    refine wp_le (fun hc1 => ?_) (fun hc1 => ?_)
    · skip
      exact wp_some ⟨(by first | omega | (dsimp only; omega)), (by first | omega | (dsimp only; omega)), hI, rfl⟩
    · skip
      refine wp_bif (inb_of (by omega) (by omega)) ?_
      refine wp_letv (fun v7 ev7 => ?_)
      refine wp_bind (tc_X6_at (ko_2_8 hk_k1) hI) (fun q8 hq2 => ?_)
      have t3 : (k3 + a4 : Int32).toInt = (k3).toInt + (a4).toInt := tA (by omega) (by omega)
      refine wp_bif (inb_of (by omega) (by omega)) ?_
      refine wp_letv (fun S10 eS10 => ?_)
      have hIS10 : IC P S10 := by rw [eS10]; exact (iw_20 hI (kw_4_2 hk_k0))
      have hpS10 : S10.2.2 = S.2.2 := by rw [eS10]; exact rfl
      have t4 : (a4 + (1 : Int32) : Int32).toInt = (a4).toInt + ((1 : Int32)).toInt := tA (by omega) (by omega)
      have zz5 := (ih (a4 + (1 : Int32)) S10 (by omega) (by omega) hIS10 (by omega))
      exact wp_mono zz5 (fun w hw => ⟨hw.1, hw.2.1, hw.2.2.1, hw.2.2.2.trans hpS10⟩)
theorem tc_X5_addWorths_L14 {P : Nat → Nat → Option Int} {k0 : Nat} {k1 : Nat} (hk_k0 : cK k0 = 4) (hk_k1 : cK k1 = 2)  : ∀ (N : Nat) (a2 : Int32) (S : cT), 0 ≤ a2.toInt → a2.toInt ≤ 10 → IC P S → 10 - a2.toInt < (N : Int) → wp (fc_X5_addWorths_L14 k0 k1 N a2 S) (fun w => (0 ≤ (w.1).toInt) ∧ ((w.1).toInt ≤ 10) ∧ (IC P w.2) ∧ (w.2.2.2 = S.2.2)) := by
  intro N
  induction N with
  | zero =>
    intro a2 S vl_a2 vu_a2 hI hm
    exfalso; omega
  | succ N ih =>
    intro a2 S vl_a2 vu_a2 hI hm
    rw [fc_X5_addWorths_L14]
    have l_0 : (0 : Int32).toInt = 0 := by decide
    have l_1 : (1 : Int32).toInt = 1 := by decide
    have l_10 : (10 : Int32).toInt = 10 := by decide
    have l_16 : (16 : Int32).toInt = 16 := by decide
    have l_64 : (64 : Int32).toInt = 64 := by decide
    have fu : (FU : Int) = 1000000 := rfl
    have c1 := ic_2_8_3 hI hk_k1
    refine wp_le (fun hc2 => ?_) (fun hc2 => ?_)
    · skip
      exact wp_some ⟨(by first | omega | (dsimp only; omega)), (by first | omega | (dsimp only; omega)), hI, rfl⟩
    · skip
      refine wp_le (fun hc3 => ?_) (fun hc3 => ?_)
      · skip
        exact wp_some ⟨(by first | omega | (dsimp only; omega)), (by first | omega | (dsimp only; omega)), hI, rfl⟩
      · skip
        have t4 := shl_i (e := a2) (n := 9) (by omega) (by omega) (by decide)
        refine wp_bind (tc_X5_addWorths_L38 hk_k0 hk_k1 (by omega) (by omega) FU (0 : Int32) S (by omega) (by omega) hI (by omega)) (fun w11 hq5 => ?_)
        obtain ⟨h6, h7, h8, h9⟩ := hq5
        refine wp_dz (by decide) ?_
        have t10 := mn_i ((2 * ((1 : Int32) <<< (a2 &&& 31))) / 64) 16
        have b11 := bnd ((2 * ((1 : Int32) <<< (a2 &&& 31))) / 64)
        have t12 := mx_i 1 (mnI ((2 * ((1 : Int32) <<< (a2 &&& 31))) / 64) 16)
        have b13 := bnd (mnI ((2 * ((1 : Int32) <<< (a2 &&& 31))) / 64) 16)
        refine wp_letv (fun S13 eS13 => ?_)
        have hIS13 : IC P S13 := by rw [eS13]; exact (iw_4_3 h8 hk_k0 (by omega) (by omega))
        have hpS13 : S13.2.2 = S.2.2 := by rw [eS13]; exact h9
        have t14 : (a2 + (1 : Int32) : Int32).toInt = (a2).toInt + ((1 : Int32)).toInt := tA (by omega) (by omega)
        have zz15 := (ih (a2 + (1 : Int32)) S13 (by omega) (by omega) hIS13 (by omega))
        exact wp_mono zz15 (fun w hw => ⟨hw.1, hw.2.1, hw.2.2.1, hw.2.2.2.trans hpS13⟩)
theorem tc_X5_addWorths {P : Nat → Nat → Option Int} {b : Nat} {p0 : Nat} {S : cT} (hk_b : cK b = 4) (hk_p0 : cK p0 = 2) (hI : IC P S) : wp (fc_X5_addWorths b p0 S) (fun w => (IC P w) ∧ (w.2.2 = S.2.2)) := by
  unfold fc_X5_addWorths
  have l_0 : (0 : Int32).toInt = 0 := by decide
  have l_1 : (1 : Int32).toInt = 1 := by decide
  have fu : (FU : Int) = 1000000 := rfl
  refine wp_bif (inb_of (by omega) (by omega)) ?_
  refine wp_letv (fun S2 eS2 => ?_)
  have hIS2 : IC P S2 := by rw [eS2]; exact (iw_20 hI (kw_4_2 hk_b))
  have hpS2 : S2.2.2 = S.2.2 := by rw [eS2]; exact rfl
  refine wp_letv (fun S3 eS3 => ?_)
  have hIS3 : IC P S3 := by rw [eS3]; exact (iw_4_3 hIS2 hk_b (by omega) (by omega))
  have hpS3 : S3.2.2 = S.2.2 := by rw [eS3]; exact hpS2
  refine wp_bind (tc_X5_addWorths_L14 hk_b hk_p0 FU (0 : Int32) S3 (by omega) (by omega) hIS3 (by omega)) (fun w14 hq1 => ?_)
  obtain ⟨h2, h3, h4, h5⟩ := hq1
  exact wp_some ⟨h4, (h5.trans hpS3)⟩
theorem tc_X5_start {P : Nat → Nat → Option Int} {p0 : Int32} {p1 : Int32} {S : cT}  (hI : IC P S) : wp (fc_X5_start p0 p1 S) (fun w => (0 ≤ (w).toInt) ∧ ((w).toInt ≤ 2032)) := by
  unfold fc_X5_start
  have l_0 : (0 : Int32).toInt = 0 := by decide
  have l_127 : (127 : Int32).toInt = 127 := by decide
  have l_16 : (16 : Int32).toInt = 16 := by decide
  have l_8 : (8 : Int32).toInt = 8 := by decide
  have t1 := mn_i ((p0 * 8) + p1) 127
  have b2 := bnd ((p0 * 8) + p1)
  have t3 := mx_i 0 (mnI ((p0 * 8) + p1) 127)
  have b4 := bnd (mnI ((p0 * 8) + p1) 127)
  have t5 : ((mxI 0 (mnI ((p0 * 8) + p1) 127)) * (16 : Int32) : Int32).toInt = ((mxI 0 (mnI ((p0 * 8) + p1) 127))).toInt * 16 := tMR l_16 (by omega) (by omega)
  exact wp_some ⟨(by first | omega | (dsimp only; omega)), (by first | omega | (dsimp only; omega))⟩
theorem tc_X5_canGo {P : Nat → Nat → Option Int} {p0 : Nat} {p1 : Int32} {p2 : Int32} {S : cT} (hk_p0 : cK p0 = 2) (hI : IC P S) : wp (fc_X5_canGo p0 p1 p2 S) (fun w => True) := by
  unfold fc_X5_canGo
  refine wp_eqn (fun hc1 => ?_) ?_
  · skip
    exact wp_some trivial
  · skip
    refine wp_bind (tc_X2_hasBoat hk_p0 hI) (fun q2 hq2 => ?_)
    have h3 := hq2
    refine wp_b (fun hb4 => ?_) (fun hb4 => ?_)
    · skip
      exact wp_some trivial
    · skip
      obtain ⟨k5, k6, k7, k8⟩ := h3 hb4
      exact wp_some trivial
theorem tc_X5_gather_L10 {P : Nat → Nat → Option Int} {k0 : Nat} {k5 : Int32} (hk_k0 : cK k0 = 4) (hl_k5 : 0 ≤ k5.toInt) (hu_k5 : k5.toInt ≤ 2032)  : ∀ (N : Nat) (a6 : Int32) (S : cT), 0 ≤ a6.toInt → a6.toInt ≤ 16 → IC P S → 16 - a6.toInt < (N : Int) → wp (fc_X5_gather_L10 k0 k5 N a6 S) (fun w => (0 ≤ (w.1).toInt) ∧ ((w.1).toInt ≤ 16) ∧ (IC P w.2) ∧ (w.2.2.2 = S.2.2)) := by
  intro N
  induction N with
  | zero =>
    intro a6 S vl_a6 vu_a6 hI hm
    exfalso; omega
  | succ N ih =>
    intro a6 S vl_a6 vu_a6 hI hm
    rw [fc_X5_gather_L10]
    have l_1 : (1 : Int32).toInt = 1 := by decide
    have c1 := ic_4_3 hI hk_k0
    refine wp_le (fun hc2 => ?_) (fun hc2 => ?_)
    · skip
      exact wp_some ⟨(by first | omega | (dsimp only; omega)), (by first | omega | (dsimp only; omega)), hI, rfl⟩
    · skip
      have t3 : (k5 + a6 : Int32).toInt = (k5).toInt + (a6).toInt := tA (by omega) (by omega)
      refine wp_bif (inb_of (by omega) (by omega)) ?_
      refine wp_letv (fun S4 eS4 => ?_)
      have hIS4 : IC P S4 := by rw [eS4]; exact (iw_cb hI)
      have hpS4 : S4.2.2 = S.2.2 := by rw [eS4]; exact rfl
      have t4 : (a6 + (1 : Int32) : Int32).toInt = (a6).toInt + ((1 : Int32)).toInt := tA (by omega) (by omega)
      have zz5 := (ih (a6 + (1 : Int32)) S4 (by omega) (by omega) hIS4 (by omega))
      exact wp_mono zz5 (fun w hw => ⟨hw.1, hw.2.1, hw.2.2.1, hw.2.2.2.trans hpS4⟩)
theorem tc_X5_gather_L85 {P : Nat → Nat → Option Int} {k0 : Nat} {k5 : Int32} {k7 : Int32} (hk_k0 : cK k0 = 4) (hl_k5 : 0 ≤ k5.toInt) (hu_k5 : k5.toInt ≤ 2032) (hl_k7 : 0 ≤ k7.toInt) (hu_k7 : k7.toInt ≤ 2032)  : ∀ (N : Nat) (a8 : Int32) (S : cT), 0 ≤ a8.toInt → a8.toInt ≤ 16 → IC P S → 16 - a8.toInt < (N : Int) → wp (fc_X5_gather_L85 k0 k5 k7 N a8 S) (fun w => (0 ≤ (w.1).toInt) ∧ ((w.1).toInt ≤ 16) ∧ (IC P w.2) ∧ (w.2.2.2 = S.2.2)) := by
  intro N
  induction N with
  | zero =>
    intro a8 S vl_a8 vu_a8 hI hm
    exfalso; omega
  | succ N ih =>
    intro a8 S vl_a8 vu_a8 hI hm
    rw [fc_X5_gather_L85]
    have l_1 : (1 : Int32).toInt = 1 := by decide
    have c1 := ic_4_3 hI hk_k0
    refine wp_le (fun hc2 => ?_) (fun hc2 => ?_)
    · skip
      exact wp_some ⟨(by first | omega | (dsimp only; omega)), (by first | omega | (dsimp only; omega)), hI, rfl⟩
    · skip
      have t3 : (k5 + a8 : Int32).toInt = (k5).toInt + (a8).toInt := tA (by omega) (by omega)
      refine wp_bif (inb_of (by omega) (by omega)) ?_
      refine wp_letv (fun v12 ev12 => ?_)
      have t4 : (k7 + a8 : Int32).toInt = (k7).toInt + (a8).toInt := tA (by omega) (by omega)
      refine wp_bif (inb_of (by omega) (by omega)) ?_
      refine wp_letv (fun v13 ev13 => ?_)
      refine wp_bif (inb_of (by omega) (by omega)) ?_
      refine wp_letv (fun S15 eS15 => ?_)
      have hIS15 : IC P S15 := by rw [eS15]; exact (iw_cb hI)
      have hpS15 : S15.2.2 = S.2.2 := by rw [eS15]; exact rfl
      have t5 : (a8 + (1 : Int32) : Int32).toInt = (a8).toInt + ((1 : Int32)).toInt := tA (by omega) (by omega)
      have zz6 := (ih (a8 + (1 : Int32)) S15 (by omega) (by omega) hIS15 (by omega))
      exact wp_mono zz6 (fun w hw => ⟨hw.1, hw.2.1, hw.2.2.1, hw.2.2.2.trans hpS15⟩)
theorem tc_X5_gather_L53 {P : Nat → Nat → Option Int} {k0 : Nat} {k1 : Nat} {k2 : Int32} {k3 : Int32} {k5 : Int32} (hk_k0 : cK k0 = 4) (hk_k1 : cK k1 = 2) (hl_k5 : 0 ≤ k5.toInt) (hu_k5 : k5.toInt ≤ 2032)  : ∀ (N : Nat) (a6 : Int32) (S : cT), 0 ≤ a6.toInt → a6.toInt ≤ 8 → IC P S → 8 - a6.toInt < (N : Int) → wp (fc_X5_gather_L53 k0 k1 k2 k3 k5 N a6 S) (fun w => (0 ≤ (w.1).toInt) ∧ ((w.1).toInt ≤ 8) ∧ (IC P w.2) ∧ (w.2.2.2 = S.2.2)) := by
  intro N
  induction N with
  | zero =>
    intro a6 S vl_a6 vu_a6 hI hm
    exfalso; omega
  | succ N ih =>
    intro a6 S vl_a6 vu_a6 hI hm
    rw [fc_X5_gather_L53]
    have l_0 : (0 : Int32).toInt = 0 := by decide
    have l_1 : (1 : Int32).toInt = 1 := by decide
    have fu : (FU : Int) = 1000000 := rfl
    have c1 := ic_2_9 hI hk_k1
    refine wp_le (fun hc2 => ?_) (fun hc2 => ?_)
    · skip
      exact wp_some ⟨(by first | omega | (dsimp only; omega)), (by first | omega | (dsimp only; omega)), hI, rfl⟩
    · skip
      refine wp_bind (tc_X5_canGo hk_k1 hI) (fun q8 hq3 => ?_)
      refine wp_b (fun hb4 => ?_) (fun hb4 => ?_)
      · skip
        have t5 : (a6 + (1 : Int32) : Int32).toInt = (a6).toInt + ((1 : Int32)).toInt := tA (by omega) (by omega)
        exact (ih (a6 + (1 : Int32)) S (by omega) (by omega) hI (by omega))
      · skip
        refine wp_bind (tc_X5_start hI) (fun q10 hq6 => ?_)
        obtain ⟨h7, h8⟩ := hq6
        refine wp_bind (tc_X5_gather_L85 hk_k0 (by omega) (by omega) (by omega) (by omega) FU (0 : Int32) S (by omega) (by omega) hI (by omega)) (fun w16 hq9 => ?_)
        obtain ⟨h10, h11, h12, h13⟩ := hq9
        have t14 : (a6 + (1 : Int32) : Int32).toInt = (a6).toInt + ((1 : Int32)).toInt := tA (by omega) (by omega)
        have zz15 := (ih (a6 + (1 : Int32)) w16.2 (by omega) (by omega) h12 (by omega))
        exact wp_mono zz15 (fun w hw => ⟨hw.1, hw.2.1, hw.2.2.1, hw.2.2.2.trans h13⟩)
theorem tc_X5_gather {P : Nat → Nat → Option Int} {b : Nat} {p0 : Nat} {p1 : Int32} {p2 : Int32} {p3 : Int32} {S : cT} (hk_b : cK b = 4) (hk_p0 : cK p0 = 2) (hI : IC P S) : wp (fc_X5_gather b p0 p1 p2 p3 S) (fun w => (IC P w) ∧ (w.2.2 = S.2.2)) := by
  unfold fc_X5_gather
  have l_0 : (0 : Int32).toInt = 0 := by decide
  have fu : (FU : Int) = 1000000 := rfl
  refine wp_bind (tc_X5_start hI) (fun q1 hq1 => ?_)
  obtain ⟨h2, h3⟩ := hq1
  refine wp_bind (tc_X5_gather_L10 hk_b (by omega) (by omega) FU (0 : Int32) S (by omega) (by omega) hI (by omega)) (fun w5 hq4 => ?_)
  obtain ⟨h5, h6, h7, h8⟩ := hq4
  refine wp_eqn (fun hc9 => ?_) ?_
  · skip
    refine wp_bind (tc_X5_gather_L53 hk_b hk_p0 (by omega) (by omega) FU (0 : Int32) w5.2 (by omega) (by omega) h7 (by omega)) (fun w17 hq10 => ?_)
    obtain ⟨h11, h12, h13, h14⟩ := hq10
    exact wp_some ⟨h13, (h14.trans h8)⟩
  · skip
    refine wp_bif (inb_of (by omega) (by omega)) ?_
    refine wp_letv (fun S19 eS19 => ?_)
    have hIS19 : IC P S19 := by rw [eS19]; exact (iw_cb h7)
    have hpS19 : S19.2.2 = S.2.2 := by rw [eS19]; exact h8
    exact wp_some ⟨hIS19, hpS19⟩
theorem tc_X5_served_L5 {P : Nat → Nat → Option Int} {k0 : Nat} {k1 : Int32} {k2 : Int32} {S : cT} (hk_k0 : cK k0 = 2) (hI : IC P S) : ∀ (N : Nat) (a3 : Int32) (a4 : Int32), 0 ≤ a4.toInt → a4.toInt ≤ 10 → 10 - a4.toInt < (N : Int) → wp (fc_X5_served_L5 k0 k1 k2 S N a3 a4) (fun w => (0 ≤ (w.2).toInt) ∧ ((w.2).toInt ≤ 10)) := by
  intro N
  induction N with
  | zero =>
    intro a3 a4 vl_a4 vu_a4 hm
    exfalso; omega
  | succ N ih =>
    intro a3 a4 vl_a4 vu_a4 hm
    rw [fc_X5_served_L5]
    have l_1 : (1 : Int32).toInt = 1 := by decide
    have c1 := ic_2_8_3 hI hk_k0
    refine wp_le (fun hc2 => ?_) (fun hc2 => ?_)
    · skip
      exact wp_some ⟨(by first | omega | (dsimp only; omega)), (by first | omega | (dsimp only; omega))⟩
    · skip
      refine wp_bind (tc_X6_at (ko_2_8 hk_k0) hI) (fun q2 hq3 => ?_)
      refine wp_eqn (fun hc4 => ?_) ?_
      · skip
        refine wp_bind (tc_X6_at (ko_2_8 hk_k0) hI) (fun q4 hq5 => ?_)
        refine wp_lt (fun hc6 => ?_) (fun hc6 => ?_)
        · skip
          have t7 : (a4 + (1 : Int32) : Int32).toInt = (a4).toInt + ((1 : Int32)).toInt := tA (by omega) (by omega)
          exact (ih a3 (a4 + (1 : Int32)) (by omega) (by omega) (by omega))
        · skip
          refine wp_bind (tc_X6_at (ko_2_8 hk_k0) hI) (fun q6 hq8 => ?_)
          refine wp_lt (fun hc9 => ?_) (fun hc9 => ?_)
          · skip
            have t10 : (a4 + (1 : Int32) : Int32).toInt = (a4).toInt + ((1 : Int32)).toInt := tA (by omega) (by omega)
            exact (ih a3 (a4 + (1 : Int32)) (by omega) (by omega) (by omega))
          · skip
            have t11 : (a4 + (1 : Int32) : Int32).toInt = (a4).toInt + ((1 : Int32)).toInt := tA (by omega) (by omega)
            exact (ih (a3 ||| ((1 : Int32) <<< (a4 &&& (31 : Int32)))) (a4 + (1 : Int32)) (by omega) (by omega) (by omega))
      · skip
        have t12 : (a4 + (1 : Int32) : Int32).toInt = (a4).toInt + ((1 : Int32)).toInt := tA (by omega) (by omega)
        exact (ih a3 (a4 + (1 : Int32)) (by omega) (by omega) (by omega))
theorem tc_X5_served {P : Nat → Nat → Option Int} {p0 : Nat} {p1 : Int32} {p2 : Int32} {S : cT} (hk_p0 : cK p0 = 2) (hI : IC P S) : wp (fc_X5_served p0 p1 p2 S) (fun w => True) := by
  unfold fc_X5_served
  have l_0 : (0 : Int32).toInt = 0 := by decide
  have fu : (FU : Int) = 1000000 := rfl
  refine wp_bind (tc_X5_served_L5 hk_p0 hI FU (0 : Int32) (0 : Int32) (by omega) (by omega) (by omega)) (fun w8 hq1 => ?_)
  obtain ⟨h2, h3⟩ := hq1
  exact wp_some trivial
theorem tc_X5_serveWithinWords_L2 {P : Nat → Nat → Option Int} {k0 : Nat} {k1 : Int32} {k2 : Int32} (hk_k0 : cK k0 = 4) (hl_k1 : 0 ≤ k1.toInt) (hu_k1 : k1.toInt ≤ 2032) (hl_k2 : 0 ≤ k2.toInt) (hu_k2 : k2.toInt ≤ 5)  : ∀ (N : Nat) (a3 : Int32) (S : cT), 0 ≤ a3.toInt → a3.toInt ≤ 16 → IC P S → 16 - a3.toInt < (N : Int) → wp (fc_X5_serveWithinWords_L2 k0 k1 k2 N a3 S) (fun w => (0 ≤ (w.1).toInt) ∧ ((w.1).toInt ≤ 16) ∧ (IC P w.2) ∧ (w.2.2.2 = S.2.2)) := by
  intro N
  induction N with
  | zero =>
    intro a3 S vl_a3 vu_a3 hI hm
    exfalso; omega
  | succ N ih =>
    intro a3 S vl_a3 vu_a3 hI hm
    rw [fc_X5_serveWithinWords_L2]
    have l_1 : (1 : Int32).toInt = 1 := by decide
    have c1 := ic_4_3 hI hk_k0
    refine wp_le (fun hc2 => ?_) (fun hc2 => ?_)
    · skip
      exact wp_some ⟨(by first | omega | (dsimp only; omega)), (by first | omega | (dsimp only; omega)), hI, rfl⟩
    · skip
      have t3 : (k1 + a3 : Int32).toInt = (k1).toInt + (a3).toInt := tA (by omega) (by omega)
      refine wp_bif (inb_of (by omega) (by omega)) ?_
      refine wp_letv (fun v2 ev2 => ?_)
      refine wp_bif (inb_of (by omega) (by omega)) ?_
      refine wp_bif (inb_of (by omega) (by omega)) ?_
      refine wp_bif (inb_of (by omega) (by omega)) ?_
      refine wp_letv (fun S6 eS6 => ?_)
      have hIS6 : IC P S6 := by rw [eS6]; exact (iw_cb hI)
      have hpS6 : S6.2.2 = S.2.2 := by rw [eS6]; exact rfl
      have t4 : (a3 + (1 : Int32) : Int32).toInt = (a3).toInt + ((1 : Int32)).toInt := tA (by omega) (by omega)
      have zz5 := (ih (a3 + (1 : Int32)) S6 (by omega) (by omega) hIS6 (by omega))
      exact wp_mono zz5 (fun w hw => ⟨hw.1, hw.2.1, hw.2.2.1, hw.2.2.2.trans hpS6⟩)
theorem tc_X5_serveWithinWords {P : Nat → Nat → Option Int} {b : Nat} {p0 : Int32} {p1 : Int32} {S : cT} (hk_b : cK b = 4) (hl_p0 : 0 ≤ p0.toInt) (hu_p0 : p0.toInt ≤ 2032) (hl_p1 : 0 ≤ p1.toInt) (hu_p1 : p1.toInt ≤ 5) (hI : IC P S) : wp (fc_X5_serveWithinWords b p0 p1 S) (fun w => (IC P w) ∧ (w.2.2 = S.2.2)) := by
  unfold fc_X5_serveWithinWords
  have l_0 : (0 : Int32).toInt = 0 := by decide
  have fu : (FU : Int) = 1000000 := rfl
  refine wp_bind (tc_X5_serveWithinWords_L2 hk_b (by omega) (by omega) (by omega) (by omega) FU (0 : Int32) S (by omega) (by omega) hI (by omega)) (fun w7 hq1 => ?_)
  obtain ⟨h2, h3, h4, h5⟩ := hq1
  exact wp_some ⟨h4, h5⟩
theorem tc_X5_serveByWords_L2 {P : Nat → Nat → Option Int} {k0 : Nat} {k1 : Int32} {k2 : Int32} (hk_k0 : cK k0 = 4) (hl_k1 : 0 ≤ k1.toInt) (hu_k1 : k1.toInt ≤ 2032) (hl_k2 : 1 ≤ k2.toInt) (hu_k2 : k2.toInt ≤ 8)  : ∀ (N : Nat) (a3 : Int32) (S : cT), 0 ≤ a3.toInt → a3.toInt ≤ 16 → IC P S → 16 - a3.toInt < (N : Int) → wp (fc_X5_serveByWords_L2 k0 k1 k2 N a3 S) (fun w => (0 ≤ (w.1).toInt) ∧ ((w.1).toInt ≤ 16) ∧ (IC P w.2) ∧ (w.2.2.2 = S.2.2)) := by
  intro N
  induction N with
  | zero =>
    intro a3 S vl_a3 vu_a3 hI hm
    exfalso; omega
  | succ N ih =>
    intro a3 S vl_a3 vu_a3 hI hm
    rw [fc_X5_serveByWords_L2]
    have l_0 : (0 : Int32).toInt = 0 := by decide
    have l_1 : (1 : Int32).toInt = 1 := by decide
    have c1 := ic_4_3 hI hk_k0
    have t2 : (a3 + k2 : Int32).toInt = (a3).toInt + (k2).toInt := tA (by omega) (by omega)
    refine wp_le (fun hc3 => ?_) (fun hc3 => ?_)
    · skip
      exact wp_some ⟨(by first | omega | (dsimp only; omega)), (by first | omega | (dsimp only; omega)), hI, rfl⟩
    · skip
      have t4 := andL_i a3 k2 (by omega)
      refine wp_eq_lo (by omega) (fun hc5 => ?_) (fun hc5 => ?_)
      · skip
        have t6 : (k1 + a3 : Int32).toInt = (k1).toInt + (a3).toInt := tA (by omega) (by omega)
        have t7 : ((k1 + a3) + k2 : Int32).toInt = ((k1 + a3)).toInt + (k2).toInt := tA (by omega) (by omega)
        refine wp_bif (inb_of (by omega) (by omega)) ?_
        refine wp_letv (fun v3 ev3 => ?_)
        refine wp_bif (inb_of (by omega) (by omega)) ?_
        refine wp_letv (fun v4 ev4 => ?_)
        refine wp_bif (inb_of (by omega) (by omega)) ?_
        refine wp_letv (fun S6 eS6 => ?_)
        have hIS6 : IC P S6 := by rw [eS6]; exact (iw_cb hI)
        have hpS6 : S6.2.2 = S.2.2 := by rw [eS6]; exact rfl
        refine wp_bif (inb_of (by omega) (by omega)) ?_
        refine wp_letv (fun S8 eS8 => ?_)
        have hIS8 : IC P S8 := by rw [eS8]; exact (iw_cb hIS6)
        have hpS8 : S8.2.2 = S.2.2 := by rw [eS8]; exact hpS6
        have t8 : (a3 + (1 : Int32) : Int32).toInt = (a3).toInt + ((1 : Int32)).toInt := tA (by omega) (by omega)
        have zz9 := (ih (a3 + (1 : Int32)) S8 (by omega) (by omega) hIS8 (by omega))
        exact wp_mono zz9 (fun w hw => ⟨hw.1, hw.2.1, hw.2.2.1, hw.2.2.2.trans hpS8⟩)
      · skip
        have t10 : (a3 + (1 : Int32) : Int32).toInt = (a3).toInt + ((1 : Int32)).toInt := tA (by omega) (by omega)
        exact (ih (a3 + (1 : Int32)) S (by omega) (by omega) hI (by omega))
