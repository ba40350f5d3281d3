/-! ===== every method of the class answers (by program) 6 ===== -/
theorem tb_X8_readTest {P : Nat → Nat → Option Int} {D : Int} {rd : RD} {p0 : Nat} {p1 : Nat} {p2 : Int32} {S : cT} (hk_p0 : cK p0 = 8) (hk_p1 : cK p1 = 6) (hl_p2 : 0 ≤ p2.toInt) (hu_p2 : p2.toInt ≤ 10) (hrd : ∀ (w p0 p1 : Nat) (p2 : Int32) (S : cT), cK p0 = 8 → cK p1 = 6 → IC P S → 0 ≤ p2.toInt → p2.toInt ≤ 10 → w ≤ 2 → 3 * (10 - p2.toInt) + 3 - (w : Int) ≤ D → wp (rd w p0 p1 p2 S) (fun w => (IC P w) ∧ (w.2.2 = S.2.2))) (hD : 3 * (10 - p2.toInt) + 3 - 0 ≤ D + 1) (hI : IC P S) : wp (fb_X8_readTest rd p0 p1 p2 S) (fun w => (IC P w) ∧ (w.2.2 = S.2.2)) := by
  unfold fb_X8_readTest
  have l_0 : (0 : Int32).toInt = 0 := by decide
  have fu : (FU : Int) = 1000000 := rfl
  refine wp_bind (hrd _ _ _ _ _ hk_p0 hk_p1 hI (by omega) (by omega) (by omega) (by omega)) (fun q1 hq1 => ?_)
  obtain ⟨h2, h3⟩ := hq1
  refine wp_bind (tb_X8_readTest_L11 hk_p0 hk_p1 (by omega) (by omega) hrd (by omega) FU (0 : Int32) (0 : Int32) q1 (by omega) (by omega) h2 (by omega)) (fun w25 hq4 => ?_)
  obtain ⟨h5, h6, h7, h8⟩ := hq4
  refine wp_eqn (fun hc9 => ?_) ?_
  · skip
    exact wp_some ⟨h7, (h8.trans h3)⟩
  · skip
    refine wp_bind (tc_X7_addCode hk_p1 h7) (fun q27 hq10 => ?_)
    obtain ⟨h11, h12⟩ := hq10
    exact wp_some ⟨h11, (h12.trans (h8.trans h3))⟩
theorem tb_X8_readFact {P : Nat → Nat → Option Int} {D : Int} {rd : RD} {p0 : Nat} {p1 : Nat} {p2 : Int32} {S : cT} (hk_p0 : cK p0 = 8) (hk_p1 : cK p1 = 6) (hl_p2 : 0 ≤ p2.toInt) (hu_p2 : p2.toInt ≤ 10) (hrd : ∀ (w p0 p1 : Nat) (p2 : Int32) (S : cT), cK p0 = 8 → cK p1 = 6 → IC P S → 0 ≤ p2.toInt → p2.toInt ≤ 10 → w ≤ 2 → 3 * (10 - p2.toInt) + 3 - (w : Int) ≤ D → wp (rd w p0 p1 p2 S) (fun w => (IC P w) ∧ (w.2.2 = S.2.2))) (hD : 3 * (10 - p2.toInt) + 3 - 1 ≤ D + 1) (hI : IC P S) : wp (fb_X8_readFact rd p0 p1 p2 S) (fun w => (IC P w) ∧ (w.2.2 = S.2.2)) := by
  unfold fb_X8_readFact
  have l_317 : (317 : Int32).toInt = 317 := by decide
  have l_60 : (60 : Int32).toInt = 60 := by decide
  have l_91 : (91 : Int32).toInt = 91 := by decide
  refine wp_eqn (fun hc1 => ?_) ?_
  · skip
    refine wp_bind (hrd _ _ _ _ _ hk_p0 hk_p1 hI (by omega) (by omega) (by omega) (by omega)) (fun q2 hq2 => ?_)
    obtain ⟨h3, h4⟩ := hq2
    exact wp_some ⟨h3, h4⟩
  · skip
    refine wp_eqn (fun hc5 => ?_) ?_
    · skip
      refine wp_bind (hrd _ _ _ _ _ hk_p0 hk_p1 hI (by omega) (by omega) (by omega) (by omega)) (fun q14 hq6 => ?_)
      obtain ⟨h7, h8⟩ := hq6
      exact wp_some ⟨h7, h8⟩
    · skip
      refine wp_bind (tc_X8_readSum hk_p0 hk_p1 hI) (fun q4 hq9 => ?_)
      obtain ⟨h10, h11⟩ := hq9
      refine wp_bind (tc_X8_isComparing ) (fun q5 hq12 => ?_)
      refine wp_b (fun hb13 => ?_) (fun hb13 => ?_)
      · skip
        refine wp_bind (tc_X10_refuse hk_p0 h10) (fun q13 hq14 => ?_)
        obtain ⟨h15, h16⟩ := hq14
        exact wp_some ⟨h15, (h16.trans h11)⟩
      · skip
        refine wp_lt (fun hc17 => ?_) (fun hc17 => ?_)
        · skip
          refine wp_letv (fun S8 eS8 => ?_)
          have hIS8 : IC P S8 := by rw [eS8]; exact (iw_6_7 h10 hk_p1)
          have hpS8 : S8.2.2 = S.2.2 := by rw [eS8]; exact h11
          refine wp_bind (tc_X10_step hk_p0 hIS8) (fun q9 hq18 => ?_)
          obtain ⟨h19, h20⟩ := hq18
          refine wp_bind (tc_X8_readSum hk_p0 hk_p1 h19) (fun q10 hq21 => ?_)
          obtain ⟨h22, h23⟩ := hq21
          refine wp_bind (tc_X7_addCode hk_p1 h22) (fun q11 hq24 => ?_)
          obtain ⟨h25, h26⟩ := hq24
          exact wp_some ⟨h25, (h26.trans (h23.trans (h20.trans hpS8)))⟩
        · skip
          refine wp_bind (tc_X10_refuse hk_p0 h10) (fun q12 hq27 => ?_)
          obtain ⟨h28, h29⟩ := hq27
          exact wp_some ⟨h28, (h29.trans h11)⟩
theorem tb_X8_readOpened {P : Nat → Nat → Option Int} {D : Int} {rd : RD} {p0 : Nat} {p1 : Nat} {p2 : Int32} {S : cT} (hk_p0 : cK p0 = 8) (hk_p1 : cK p1 = 6) (hl_p2 : 0 ≤ p2.toInt) (hu_p2 : p2.toInt ≤ 10) (hrd : ∀ (w p0 p1 : Nat) (p2 : Int32) (S : cT), cK p0 = 8 → cK p1 = 6 → IC P S → 0 ≤ p2.toInt → p2.toInt ≤ 10 → w ≤ 2 → 3 * (10 - p2.toInt) + 3 - (w : Int) ≤ D → wp (rd w p0 p1 p2 S) (fun w => (IC P w) ∧ (w.2.2 = S.2.2))) (hD : 3 * (10 - p2.toInt) + 3 - 2 ≤ D + 1) (hI : IC P S) : wp (fb_X8_readOpened rd p0 p1 p2 S) (fun w => (IC P w) ∧ (w.2.2 = S.2.2)) := by
  unfold fb_X8_readOpened
  have l_0 : (0 : Int32).toInt = 0 := by decide
  have l_1 : (1 : Int32).toInt = 1 := by decide
  have l_10 : (10 : Int32).toInt = 10 := by decide
  have l_317 : (317 : Int32).toInt = 317 := by decide
  have l_93 : (93 : Int32).toInt = 93 := by decide
  refine wp_lt (fun hc1 => ?_) (fun hc1 => ?_)
  · skip
    refine wp_bind (Q := fun w => (0 ≤ (w).toInt) ∧ ((w).toInt ≤ 1)) ?_ (fun w2 hq2 => ?_)
    · skip
      refine wp_eqn (fun hc3 => ?_) ?_
      · skip
        exact wp_some ⟨(by first | omega | (dsimp only; omega)), (by first | omega | (dsimp only; omega))⟩
      · skip
        exact wp_some ⟨(by first | omega | (dsimp only; omega)), (by first | omega | (dsimp only; omega))⟩
    · skip
      obtain ⟨h4, h5⟩ := hq2
      refine wp_bind (tc_X10_step hk_p0 hI) (fun q4 hq6 => ?_)
      obtain ⟨h7, h8⟩ := hq6
      refine wp_eq_lo (by omega) (fun hc9 => ?_) (fun hc9 => ?_)
      · skip
        have t10 : (p2 + (1 : Int32) : Int32).toInt = (p2).toInt + ((1 : Int32)).toInt := tA (by omega) (by omega)
        refine wp_bind (hrd _ _ _ _ _ hk_p0 hk_p1 h7 (by omega) (by omega) (by omega) (by omega)) (fun q6 hq11 => ?_)
        obtain ⟨h12, h13⟩ := hq11
        refine wp_eqn (fun hc14 => ?_) ?_
        · skip
          refine wp_bind (tc_X10_step hk_p0 h12) (fun q8 hq15 => ?_)
          obtain ⟨h16, h17⟩ := hq15
          exact wp_some ⟨h16, (h17.trans (h13.trans h8))⟩
        · skip
          refine wp_bind (tc_X10_refuse hk_p0 h12) (fun q9 hq18 => ?_)
          obtain ⟨h19, h20⟩ := hq18
          refine wp_bind (tc_X10_step hk_p0 h19) (fun q10 hq21 => ?_)
          obtain ⟨h22, h23⟩ := hq21
          exact wp_some ⟨h22, (h23.trans (h20.trans (h13.trans h8)))⟩
      · skip
        have t24 : (p2 + (1 : Int32) : Int32).toInt = (p2).toInt + ((1 : Int32)).toInt := tA (by omega) (by omega)
        refine wp_bind (hrd _ _ _ _ _ hk_p0 hk_p1 h7 (by omega) (by omega) (by omega) (by omega)) (fun q11 hq25 => ?_)
        obtain ⟨h26, h27⟩ := hq25
        refine wp_bind (tc_X7_addCode hk_p1 h26) (fun q12 hq28 => ?_)
        obtain ⟨h29, h30⟩ := hq28
        exact wp_some ⟨h29, (h30.trans (h27.trans h8))⟩
  · skip
    refine wp_bind (tc_X10_refuse hk_p0 hI) (fun q13 hq31 => ?_)
    obtain ⟨h32, h33⟩ := hq31
    exact wp_some ⟨h32, h33⟩
theorem tc_rd {P : Nat → Nat → Option Int} : ∀ (N w p0 p1 : Nat) (p2 : Int32) (S : cT), cK p0 = 8 → cK p1 = 6 → IC P S → 0 ≤ p2.toInt → p2.toInt ≤ 10 → w ≤ 2 → 3 * (10 - p2.toInt) + 3 - (w : Int) ≤ (N : Int) → wp (fc_rd N w p0 p1 p2 S) (fun w => (IC P w) ∧ (w.2.2 = S.2.2)) := by
  intro N
  induction N with
  | zero =>
    intro w p0 p1 p2 S h0 h1 hI a1 a2 a3 a4
    exfalso; omega
  | succ N ih =>
    intro w p0 p1 p2 S h0 h1 hI a1 a2 a3 a4
    match w, a3, a4 with
    | 0, _, a4 => exact tb_X8_readTest (D := (N : Int)) h0 h1 a1 a2 ih (by omega) hI
    | 1, _, a4 => exact tb_X8_readFact (D := (N : Int)) h0 h1 a1 a2 ih (by omega) hI
    | 2, _, a4 => exact tb_X8_readOpened (D := (N : Int)) h0 h1 a1 a2 ih (by omega) hI
    | w + 3, a3, _ => omega
theorem tc_X8_readClause {P : Nat → Nat → Option Int} {p0 : Nat} {p1 : Nat} {p2 : Int32} {S : cT} (hk_p0 : cK p0 = 8) (hk_p1 : cK p1 = 6) (hI : IC P S) : wp (fc_X8_readClause p0 p1 p2 S) (fun w => (IC P w) ∧ (w.2.2 = S.2.2)) := by
  unfold fc_X8_readClause
  have l_0 : (0 : Int32).toInt = 0 := by decide
  have l_12 : (12 : Int32).toInt = 12 := by decide
  have l_312 : (312 : Int32).toInt = 312 := by decide
  have l_313 : (313 : Int32).toInt = 313 := by decide
  have l_314 : (314 : Int32).toInt = 314 := by decide
  refine wp_eqn (fun hc1 => ?_) ?_
  · skip
    refine wp_lt (fun hc2 => ?_) (fun hc2 => ?_)
    · skip
      refine wp_bind (tc_X10_step hk_p0 hI) (fun q3 hq3 => ?_)
      obtain ⟨h4, h5⟩ := hq3
      refine wp_bind (tc_X8_readSum hk_p0 hk_p1 h4) (fun q4 hq6 => ?_)
      obtain ⟨h7, h8⟩ := hq6
      refine wp_bind (Q := fun w => (IC P w) ∧ (w.2.2 = S.2.2)) ?_ (fun w5 hq9 => ?_)
      · skip
        refine wp_eqn (fun hc10 => ?_) ?_
        · skip
          refine wp_bind (tc_X10_step hk_p0 h7) (fun q7 hq11 => ?_)
          obtain ⟨h12, h13⟩ := hq11
          refine wp_bind (tc_rd _ _ _ _ _ _ hk_p0 hk_p1 h12 (by omega) (by omega) (by omega) (by omega)) (fun q8 hq14 => ?_)
          obtain ⟨h15, h16⟩ := hq14
          exact wp_some ⟨h15, (h16.trans (h13.trans (h8.trans h5)))⟩
        · skip
          exact wp_some ⟨h7, (h8.trans h5)⟩
      · skip
        obtain ⟨h17, h18⟩ := hq9
        refine wp_bind (tc_X7_addClause hk_p1 h17) (fun q9 hq19 => ?_)
        obtain ⟨h20, h21⟩ := hq19
        exact wp_some ⟨h20, (h21.trans h18)⟩
    · skip
      refine wp_bind (tc_X10_refuse hk_p0 hI) (fun q10 hq22 => ?_)
      obtain ⟨h23, h24⟩ := hq22
      exact wp_some ⟨h23, h24⟩
  · skip
    refine wp_eqn (fun hc25 => ?_) ?_
    · skip
      refine wp_lt (fun hc26 => ?_) (fun hc26 => ?_)
      · skip
        refine wp_bind (tc_X10_step hk_p0 hI) (fun q13 hq27 => ?_)
        obtain ⟨h28, h29⟩ := hq27
        refine wp_bind (tc_X8_readSum hk_p0 hk_p1 h28) (fun q14 hq30 => ?_)
        obtain ⟨h31, h32⟩ := hq30
        refine wp_bind (Q := fun w => (IC P w) ∧ (w.2.2 = S.2.2)) ?_ (fun w15 hq33 => ?_)
        · skip
          refine wp_eqn (fun hc34 => ?_) ?_
          · skip
            refine wp_bind (tc_X10_step hk_p0 h31) (fun q17 hq35 => ?_)
            obtain ⟨h36, h37⟩ := hq35
            refine wp_bind (tc_rd _ _ _ _ _ _ hk_p0 hk_p1 h36 (by omega) (by omega) (by omega) (by omega)) (fun q18 hq38 => ?_)
            obtain ⟨h39, h40⟩ := hq38
            exact wp_some ⟨h39, (h40.trans (h37.trans (h32.trans h29)))⟩
          · skip
            exact wp_some ⟨h31, (h32.trans h29)⟩
        · skip
          obtain ⟨h41, h42⟩ := hq33
          refine wp_bind (tc_X7_addClause hk_p1 h41) (fun q19 hq43 => ?_)
          obtain ⟨h44, h45⟩ := hq43
          exact wp_some ⟨h44, (h45.trans h42)⟩
      · skip
        refine wp_bind (tc_X10_refuse hk_p0 hI) (fun q20 hq46 => ?_)
        obtain ⟨h47, h48⟩ := hq46
        exact wp_some ⟨h47, h48⟩
    · skip
      refine wp_bind (tc_X10_refuse hk_p0 hI) (fun q21 hq49 => ?_)
      obtain ⟨h50, h51⟩ := hq49
      exact wp_some ⟨h50, h51⟩
theorem tc_X8_readAll_L10 {P : Nat → Nat → Option Int} {k0 : Nat} {k1 : Nat} (hk_k0 : cK k0 = 8) (hk_k1 : cK k1 = 6)  : ∀ (N : Nat) (a2 : Int32) (S : cT), 0 ≤ a2.toInt → a2.toInt ≤ 13 → IC P S → 13 - a2.toInt < (N : Int) → wp (fc_X8_readAll_L10 k0 k1 N a2 S) (fun w => (0 ≤ (w.1).toInt) ∧ ((w.1).toInt ≤ 13) ∧ (IC P w.2) ∧ (w.2.2.2 = S.2.2)) := by
  intro N
  induction N with
  | zero =>
    intro a2 S vl_a2 vu_a2 hI hm
    exfalso; omega
  | succ N ih =>
    intro a2 S vl_a2 vu_a2 hI hm
    rw [fc_X8_readAll_L10]
    have l_1 : (1 : Int32).toInt = 1 := by decide
    have l_12 : (12 : Int32).toInt = 12 := by decide
    have l_59 : (59 : Int32).toInt = 59 := by decide
    refine wp_lt (fun hc1 => ?_) (fun hc1 => ?_)
    · skip
      exact wp_some ⟨(by first | omega | (dsimp only; omega)), (by first | omega | (dsimp only; omega)), hI, rfl⟩
    · skip
      refine wp_bind (tc_X8_readClause hk_k0 hk_k1 hI) (fun q4 hq2 => ?_)
      obtain ⟨h3, h4⟩ := hq2
      refine wp_eqn (fun hc5 => ?_) ?_
      · skip
        refine wp_bind (tc_X10_step hk_k0 h3) (fun q6 hq6 => ?_)
        obtain ⟨h7, h8⟩ := hq6
        have t9 : (a2 + (1 : Int32) : Int32).toInt = (a2).toInt + ((1 : Int32)).toInt := tA (by omega) (by omega)
        have zz10 := (ih (a2 + (1 : Int32)) q6 (by omega) (by omega) h7 (by omega))
        exact wp_mono zz10 (fun w hw => ⟨hw.1, hw.2.1, hw.2.2.1, hw.2.2.2.trans (h8.trans h4)⟩)
      · skip
        exact wp_some ⟨(by first | omega | (dsimp only; omega)), (by first | omega | (dsimp only; omega)), h3, h4⟩
theorem tc_X8_readAll {P : Nat → Nat → Option Int} {p0 : Nat} {p1 : Nat} {S : cT} (hk_p0 : cK p0 = 8) (hk_p1 : cK p1 = 6) (hI : IC P S) : wp (fc_X8_readAll p0 p1 S) (fun w => (IC P w) ∧ (w.2.2 = S.2.2)) := by
  unfold fc_X8_readAll
  have l_0 : (0 : Int32).toInt = 0 := by decide
  have l_260 : (260 : Int32).toInt = 260 := by decide
  have fu : (FU : Int) = 1000000 := rfl
  refine wp_bind (tc_X7_clear hk_p1 hI) (fun q1 hq1 => ?_)
  obtain ⟨h2, h3⟩ := hq1
  refine wp_bind (tc_X10_scan hk_p0 h2) (fun q2 hq4 => ?_)
  obtain ⟨h5, h6⟩ := hq4
  refine wp_bind (tc_X8_readAll_L10 hk_p0 hk_p1 FU (0 : Int32) q2 (by omega) (by omega) h5 (by omega)) (fun w7 hq7 => ?_)
  obtain ⟨h8, h9, h10, h11⟩ := hq7
  refine wp_eqn (fun hc12 => ?_) ?_
  · skip
    exact wp_some ⟨h10, (h11.trans (h6.trans h3))⟩
  · skip
    refine wp_bind (tc_X10_refuse hk_p0 h10) (fun q9 hq13 => ?_)
    obtain ⟨h14, h15⟩ := hq13
    exact wp_some ⟨h14, (h15.trans (h11.trans (h6.trans h3)))⟩
theorem tc_X10_append_L3 {P : Nat → Nat → Option Int} {k0 : Nat} {k1 : Int32} (hk_k0 : cK k0 = 8) (hX : P k0 4 = none) (hX2 : ∀ j, P (k0 + 1) j = none)  : ∀ (N : Nat) (a2 : Int32) (S : cT), -8 ≤ a2.toInt → a2.toInt ≤ 24 → IC P S → a2.toInt + 8 < (N : Int) → wp (fc_X10_append_L3 k0 k1 N a2 S) (fun w => (-8 ≤ (w.1).toInt) ∧ ((w.1).toInt ≤ 24) ∧ (IC P w.2) ∧ (w.2.2.2 = S.2.2)) := by
  intro N
  induction N with
  | zero =>
    intro a2 S vl_a2 vu_a2 hI hm
    exfalso; omega
  | succ N ih =>
    intro a2 S vl_a2 vu_a2 hI hm
    rw [fc_X10_append_L3]
    obtain ⟨m_8, e_m8⟩ : ∃ x : Int32, x = (-8) := ⟨_, rfl⟩
    try rw [← e_m8]
    have l_m8 : m_8.toInt = -8 := by rw [e_m8]; decide
    have l_0 : (0 : Int32).toInt = 0 := by decide
    have l_1 : (1 : Int32).toInt = 1 := by decide
    have l_400 : (400 : Int32).toInt = 400 := by decide
    refine wp_lt (fun hc1 => ?_) (fun hc1 => ?_)
    · skip
      exact wp_some ⟨(by first | omega | (dsimp only; omega)), (by first | omega | (dsimp only; omega)), hI, rfl⟩
    · skip
      have c2 := ic_8_4 hI hk_k0
      refine wp_lt (fun hc3 => ?_) (fun hc3 => ?_)
      · skip
        have t4 : (a2 + m_8 : Int32).toInt = (a2).toInt + (m_8).toInt := tA (by omega) (by omega)
        exact (ih (a2 + m_8) S (by omega) (by omega) hI (by omega))
      · skip
        refine wp_le (fun hc5 => ?_) (fun hc5 => ?_)
        · skip
          have t6 : (a2 + m_8 : Int32).toInt = (a2).toInt + (m_8).toInt := tA (by omega) (by omega)
          exact (ih (a2 + m_8) S (by omega) (by omega) hI (by omega))
        · skip
          refine wp_bif (inb_of (by omega) (by omega)) ?_
          refine wp_letv (fun S5 eS5 => ?_)
          have hIS5 : IC P S5 := by rw [eS5]; exact (iw_b hI (ko_8_1 hk_k0) (hX2 _))
          have hpS5 : S5.2.2 = S.2.2 := by rw [eS5]; exact rfl
          have c7 := ic_8_4 hIS5 hk_k0
          have f8 : ((S5.1 k0 4)).toInt = ((S.1 k0 4)).toInt := by rw [eS5]; exact congrArg Int32.toInt (ca_ne (Or.inl (k_ne hk_k0 (ko_8_1 hk_k0) (by decide))))
          have t9 : ((S5.1 k0 4) + (1 : Int32) : Int32).toInt = ((S5.1 k0 4)).toInt + ((1 : Int32)).toInt := tA (by omega) (by omega)
          refine wp_letv (fun S6 eS6 => ?_)
          have hIS6 : IC P S6 := by rw [eS6]; exact (iw_8_4 hIS5 hk_k0 (by omega) (by omega) hX)
          have hpS6 : S6.2.2 = S.2.2 := by rw [eS6]; exact hpS5
          have t10 : (a2 + m_8 : Int32).toInt = (a2).toInt + (m_8).toInt := tA (by omega) (by omega)
          have zz11 := (ih (a2 + m_8) S6 (by omega) (by omega) hIS6 (by omega))
          exact wp_mono zz11 (fun w hw => ⟨hw.1, hw.2.1, hw.2.2.1, hw.2.2.2.trans hpS6⟩)
theorem tc_X10_append {P : Nat → Nat → Option Int} {b : Nat} {p0 : Int32} {S : cT} (hk_b : cK b = 8) (hX : P b 4 = none) (hX2 : ∀ j, P (b + 1) j = none) (hI : IC P S) : wp (fc_X10_append b p0 S) (fun w => (IC P w) ∧ (w.2.2 = S.2.2)) := by
  unfold fc_X10_append
  have l_24 : (24 : Int32).toInt = 24 := by decide
  have fu : (FU : Int) = 1000000 := rfl
  refine wp_bind (tc_X10_append_L3 hk_b hX hX2 FU (24 : Int32) S (by omega) (by omega) hI (by omega)) (fun w7 hq1 => ?_)
  obtain ⟨h2, h3, h4, h5⟩ := hq1
  exact wp_some ⟨h4, h5⟩
theorem tc_X11_feed {P : Nat → Nat → Option Int} {b : Nat} {p0 : Int32} {p1 : Int32} {p2 : Int32} {p3 : Int32} {p4 : Int32} {S : cT} (hk_b : cK b = 9) (hX : P (b + 1) 4 = none) (hX2 : ∀ j, P (b + 1 + 1) j = none) (hI : IC P S) : wp (fc_X11_feed b p0 p1 p2 p3 p4 S) (fun w => (IC P w.2) ∧ (w.2.2.2 = S.2.2)) := by
  unfold fc_X11_feed
  obtain ⟨m_1, e_m1⟩ : ∃ x : Int32, x = (-1) := ⟨_, rfl⟩
  try rw [← e_m1]
  have l_m1 : m_1.toInt = -1 := by rw [e_m1]; decide
  have l_20 : (20 : Int32).toInt = 20 := by decide
  have l_400 : (400 : Int32).toInt = 400 := by decide
  have c1 := ic_8_4 hI (ko_9_1 hk_b)
  have t2 : ((S.1 (b + 1) 4) + (20 : Int32) : Int32).toInt = ((S.1 (b + 1) 4)).toInt + ((20 : Int32)).toInt := tA (by omega) (by omega)
  refine wp_le (fun hc3 => ?_) (fun hc3 => ?_)
  · skip
    refine wp_bind (tc_X10_append (ko_9_1 hk_b) hX hX2 hI) (fun q2 hq4 => ?_)
    obtain ⟨h5, h6⟩ := hq4
    refine wp_bind (tc_X10_append (ko_9_1 hk_b) hX hX2 h5) (fun q3 hq7 => ?_)
    obtain ⟨h8, h9⟩ := hq7
    refine wp_bind (tc_X10_append (ko_9_1 hk_b) hX hX2 h8) (fun q4 hq10 => ?_)
    obtain ⟨h11, h12⟩ := hq10
    refine wp_bind (tc_X10_append (ko_9_1 hk_b) hX hX2 h11) (fun q5 hq13 => ?_)
    obtain ⟨h14, h15⟩ := hq13
    refine wp_bind (tc_X10_append (ko_9_1 hk_b) hX hX2 h14) (fun q6 hq16 => ?_)
    obtain ⟨h17, h18⟩ := hq16
    exact wp_some ⟨h17, (h18.trans (h15.trans (h12.trans (h9.trans h6))))⟩
  · skip
    exact wp_some ⟨hI, rfl⟩
theorem tc_X11_end {P : Nat → Nat → Option Int} {b : Nat} {p0 : Int32} {S : cT} (hk_b : cK b = 9) (hX : P (b + 1) 4 = none) (hI : IC P S) : wp (fc_X11_end b p0 S) (fun w => (IC P w.2) ∧ (w.2.2.2 = S.2.2)) := by
  unfold fc_X11_end
  obtain ⟨m_1, e_m1⟩ : ∃ x : Int32, x = (-1) := ⟨_, rfl⟩
  try rw [← e_m1]
  have l_m1 : m_1.toInt = -1 := by rw [e_m1]; decide
  have l_0 : (0 : Int32).toInt = 0 := by decide
  refine wp_lt (fun hc1 => ?_) (fun hc1 => ?_)
  · skip
    exact wp_some ⟨hI, rfl⟩
  · skip
    have c2 := ic_8_4 hI (ko_9_1 hk_b)
    refine wp_le (fun hc3 => ?_) (fun hc3 => ?_)
    · skip
      refine wp_letv (fun S3 eS3 => ?_)
      have hIS3 : IC P S3 := by rw [eS3]; exact (iw_8_4 hI (ko_9_1 hk_b) (by omega) (by omega) hX)
      have hpS3 : S3.2.2 = S.2.2 := by rw [eS3]; exact rfl
      exact wp_some ⟨hIS3, hpS3⟩
    · skip
      exact wp_some ⟨hI, rfl⟩
/-- a cell is held to the number that it has -/
def pnA (P : Nat → Nat → Option Int) (q j : Nat) (v : Int) : Nat → Nat → Option Int := fun q' j' => if q' = q ∧ j' = j then some v else P q' j'
theorem IC_pin {P : Nat → Nat → Option Int} {S : cT} {q j : Nat} (hI : IC P S) (h : pinO q j = true) : IC (pnA P q j (S.1 q j).toInt) S := by
  refine ⟨hI.1, fun q' j' v hv => ?_, hI.2.2⟩
  unfold pnA at hv
  by_cases e : q' = q ∧ j' = j
  · rw [if_pos e] at hv
    obtain ⟨rfl, rfl⟩ := e
    exact ⟨h, Option.some.inj hv⟩
  · rw [if_neg e] at hv
    exact hI.2.1 q' j' v hv
theorem IC_unpin {P : Nat → Nat → Option Int} {S : cT} {q j : Nat} {v : Int} (hI : IC (pnA P q j v) S) (hP : P q j = none) : IC P S ∧ (S.1 q j).toInt = v := by
  refine ⟨⟨hI.1, fun q' j' u hu => ?_, hI.2.2⟩, (hI.2.1 q j v (if_pos ⟨rfl, rfl⟩)).2⟩
  refine hI.2.1 q' j' u ?_
  unfold pnA
  rw [if_neg]
  · exact hu
  · rintro ⟨rfl, rfl⟩
    rw [hP] at hu
    cases hu
theorem tc_X11_rule {P : Nat → Nat → Option Int} {b : Nat} {S : cT} (hk_b : cK b = 9) (hX : P (b + 1) 4 = none) (hY : P b 11 = none) (hI : IC P S) : wp (fc_X11_rule b S) (fun w => (IC P w.2) ∧ (w.2.2.2 = S.2.2)) := by
  unfold fc_X11_rule
  have l_0 : (0 : Int32).toInt = 0 := by decide
  have l_1 : (1 : Int32).toInt = 1 := by decide
  have l_6 : (6 : Int32).toInt = 6 := by decide
  refine wp_lt (fun _ => wp_some ⟨hI, rfl⟩) (fun h0 => ?_)
  refine wp_lt (fun h6 => ?_) (fun _ => wp_some ⟨hI, rfl⟩)
  refine wp_bif (inb_of (by omega) (by omega)) ?_
  have hJ := IC_pin (q := b) (j := 11) hI (by unfold pinO; rw [hk_b]; rfl)
  refine wp_bind (tc_X8_readAll (ko_9_1 hk_b) (k_rule (by omega) (by omega)) hJ) (fun q4 h4 => ?_)
  obtain ⟨i4, e4⟩ := IC_unpin h4.1 hY
  refine wp_letv (fun S5 e5 => ?_)
  have h5 : IC P S5 := by rw [e5]; exact iw_8_4 i4 (ko_9_1 hk_b) (by omega) (by omega) hX
  have p5 : S5.2.2 = S.2.2 := by rw [e5]; exact h4.2
  have g5 : (S5.1 b 11).toInt = (S.1 b 11).toInt := by rw [e5, ca_ne (Or.inl (k_ne hk_b (ko_9_1 hk_b) (by decide)))]; exact e4
  refine wp_eqn (fun _ => ?_) (wp_some ⟨h5, p5⟩)
  have t := tA (a := S5.1 b 11) (b := 1) (by omega) (by omega)
  refine wp_letv (fun S7 e7 => ?_)
  exact wp_some ⟨by rw [e7]; exact iw_9_11 h5 hk_b (by omega) (by omega) hY, by rw [e7]; exact p5⟩
theorem tc_X11_isRule {P : Nat → Nat → Option Int} {b : Nat} {p0 : Int32} {S : cT} (hk_b : cK b = 9) (hI : IC P S) : wp (fc_X11_isRule b p0 S) (fun w => (w = true → 0 ≤ (p0).toInt ∧ (p0).toInt ≤ 5)) := by
  unfold fc_X11_isRule
  have l_0 : (0 : Int32).toInt = 0 := by decide
  have l_6 : (6 : Int32).toInt = 6 := by decide
  refine wp_lt (fun hc1 => ?_) (fun hc1 => ?_)
  · skip
    exact wp_some (fun e => by cases e)
  · skip
    have c2 := ic_9_11 hI hk_b
    refine wp_le (fun hc3 => ?_) (fun hc3 => ?_)
    · skip
      exact wp_some (fun e => by cases e)
    · skip
      refine wp_le (fun hc4 => ?_) (fun hc4 => ?_)
      · skip
        exact wp_some (fun e => by cases e)
      · skip
        exact wp_some (fun _ => ⟨(by first | omega | (dsimp only; omega)), (by first | omega | (dsimp only; omega))⟩)
theorem tc_X11_isRuleOrNone {P : Nat → Nat → Option Int} {b : Nat} {p0 : Int32} {S : cT} (hk_b : cK b = 9) (hI : IC P S) : wp (fc_X11_isRuleOrNone b p0 S) (fun w => True) := by
  unfold fc_X11_isRuleOrNone
  obtain ⟨m_1, e_m1⟩ : ∃ x : Int32, x = (-1) := ⟨_, rfl⟩
  try rw [← e_m1]
  have l_m1 : m_1.toInt = -1 := by rw [e_m1]; decide
  refine wp_eqn (fun hc1 => ?_) ?_
  · skip
    exact wp_some trivial
  · skip
    refine wp_bind (tc_X11_isRule hk_b hI) (fun q2 hq2 => ?_)
    have h3 := hq2
    refine wp_b (fun hb4 => ?_) (fun hb4 => ?_)
    · skip
      exact wp_some trivial
    · skip
      obtain ⟨k5, k6⟩ := h3 hb4
      exact wp_some trivial
theorem tc_X11_force {P : Nat → Nat → Option Int} {b : Nat} {p0 : Int32} {S : cT} (hk_b : cK b = 9) (hX : P S.2.2.1 13 = none) (hI : IC P S) : wp (fc_X11_force b p0 S) (fun w => (IC P w.2) ∧ (w.2.2.2 = S.2.2)) := by
  unfold fc_X11_force
  obtain ⟨m_2, e_m2⟩ : ∃ x : Int32, x = (-2) := ⟨_, rfl⟩
  try rw [← e_m2]
  have l_m2 : m_2.toInt = -2 := by rw [e_m2]; decide
  refine wp_bind (tc_X11_isRuleOrNone hk_b hI) (fun q1 hq1 => ?_)
  refine wp_b (fun hb2 => ?_) (fun hb2 => ?_)
  · skip
    exact wp_some ⟨hI, rfl⟩
  · skip
    refine wp_bif (beq_k (IC_isle hI)) ?_
    refine wp_letv (fun S4 eS4 => ?_)
    have hIS4 : IC P S4 := by rw [eS4]; exact (iw_2_13 hI (IC_isle hI) hX)
    have hpS4 : S4.2.2 = S.2.2 := by rw [eS4]; exact rfl
    exact wp_some ⟨hIS4, hpS4⟩
theorem tc_X11_ruleAt {P : Nat → Nat → Option Int} {b : Nat} {p0 : Int32} {S : cT} (hk_b : cK b = 9) (hI : IC P S) : wp (fc_X11_ruleAt b p0 S) (fun w => (cK w = 6)) := by
  unfold fc_X11_ruleAt
  refine wp_bind (tc_X11_isRule hk_b hI) (fun q1 hq1 => ?_)
  have h2 := hq1
  refine wp_b (fun hb3 => ?_) (fun hb3 => ?_)
  · skip
    exact wp_some (ko_9_43 hk_b)
  · skip
    obtain ⟨k4, k5⟩ := h2 hb3
    refine wp_bif (inb_of (by omega) (by omega)) ?_
    exact wp_some (k_rule (by omega) (by omega))
theorem tc_X11_inForce {P : Nat → Nat → Option Int} {b : Nat} {S : cT} (hk_b : cK b = 9) (hI : IC P S) : wp (fc_X11_inForce b S) (fun w => (cK w = 6)) := by
  unfold fc_X11_inForce
  refine wp_bif (beq_k (IC_isle hI)) ?_
  refine wp_bind (tc_X11_ruleAt hk_b hI) (fun q2 hq1 => ?_)
  have h2 := hq1
  refine wp_bif (beq_k h2) ?_
  exact wp_some h2
theorem tc_X11_person {P : Nat → Nat → Option Int} {b : Nat} {p0 : Int32} {p1 : Int32} {S : cT} (hk_b : cK b = 9) (hI : IC P S) : wp (fc_X11_person b p0 p1 S) (fun w => (IC P w.2) ∧ (w.2.2.2 = S.2.2)) := by
  unfold fc_X11_person
  obtain ⟨m_1, e_m1⟩ : ∃ x : Int32, x = (-1) := ⟨_, rfl⟩
  try rw [← e_m1]
  have l_m1 : m_1.toInt = -1 := by rw [e_m1]; decide
  have l_0 : (0 : Int32).toInt = 0 := by decide
  have l_1 : (1 : Int32).toInt = 1 := by decide
  have l_2 : (2 : Int32).toInt = 2 := by decide
  have l_3 : (3 : Int32).toInt = 3 := by decide
  have l_4 : (4 : Int32).toInt = 4 := by decide
  have l_5 : (5 : Int32).toInt = 5 := by decide
  have l_6 : (6 : Int32).toInt = 6 := by decide
  have l_7 : (7 : Int32).toInt = 7 := by decide
  refine wp_bif (beq_k (IC_isle hI)) ?_
  refine wp_bind (tc_X2_has (IC_isle hI) hI) (fun q2 hq1 => ?_)
  have h2 := hq1
  refine wp_b (fun hb3 => ?_) (fun hb3 => ?_)
  · skip
    exact wp_some ⟨hI, rfl⟩
  · skip
    obtain ⟨k4, k5, k6⟩ := h2 hb3
    refine wp_eqn (fun hc7 => ?_) ?_
    · skip
      refine wp_bif (inb_of (by omega) (by omega)) ?_
      refine wp_letv (fun v5 ev5 => ?_)
      exact wp_some ⟨hI, rfl⟩
    · skip
      refine wp_eqn (fun hc8 => ?_) ?_
      · skip
        refine wp_bif (inb_of (by omega) (by omega)) ?_
        refine wp_letv (fun v7 ev7 => ?_)
        exact wp_some ⟨hI, rfl⟩
      · skip
        refine wp_eqn (fun hc9 => ?_) ?_
        · skip
          refine wp_bif (inb_of (by omega) (by omega)) ?_
          refine wp_letv (fun v9 ev9 => ?_)
          exact wp_some ⟨hI, rfl⟩
        · skip
          refine wp_eqn (fun hc10 => ?_) ?_
          · skip
            refine wp_bind (tc_X2_looksOf (IC_isle hI) hI) (fun q11 hq11 => ?_)
            exact wp_some ⟨hI, rfl⟩
          · skip
            refine wp_eqn (fun hc12 => ?_) ?_
            · skip
              refine wp_bind (tc_X11_inForce hk_b hI) (fun q13 hq13 => ?_)
              have h14 := hq13
              refine wp_bif (beq_k h14) ?_
              refine wp_bind (tc_X4_believed (ko_9_101 hk_b) (IC_isle hI) h14 hI) (fun q15 hq15 => ?_)
              obtain ⟨h16, h17⟩ := hq15
              exact wp_some ⟨h16, h17⟩
            · skip
              refine wp_eqn (fun hc18 => ?_) ?_
              · skip
                refine wp_bind (tc_X11_inForce hk_b hI) (fun q17 hq19 => ?_)
                have h20 := hq19
                refine wp_bif (beq_k h20) ?_
                refine wp_bind (tc_X4_open (ko_9_101 hk_b) (IC_isle hI) h20 hI) (fun q19 hq21 => ?_)
                obtain ⟨h22, h23⟩ := hq21
                exact wp_some ⟨h22, h23⟩
              · skip
                refine wp_eqn (fun hc24 => ?_) ?_
                · skip
                  have c25 := ic_2_11 hI (IC_isle hI)
                  refine wp_eq_lo (by omega) (fun hc26 => ?_) (fun hc26 => ?_)
                  · skip
                    exact wp_some ⟨hI, rfl⟩
                  · skip
                    refine wp_eqn (fun hc27 => ?_) ?_
                    · skip
                      exact wp_some ⟨hI, rfl⟩
                    · skip
                      exact wp_some ⟨hI, rfl⟩
                · skip
                  refine wp_eqn (fun hc28 => ?_) ?_
                  · skip
                    refine wp_bif (inb_of (by omega) (by omega)) ?_
                    refine wp_letv (fun v24 ev24 => ?_)
                    exact wp_some ⟨hI, rfl⟩
                  · skip
                    exact wp_some ⟨hI, rfl⟩
theorem tc_X11_sum {P : Nat → Nat → Option Int} {b : Nat} {p0 : Int32} {p1 : Int32} {S : cT} (hk_b : cK b = 9) (hI : IC P S) : wp (fc_X11_sum b p0 p1 S) (fun w => (IC P w.2) ∧ (w.2.2.2 = S.2.2)) := by
  unfold fc_X11_sum
  obtain ⟨m_1000000, e_m1000000⟩ : ∃ x : Int32, x = (-1000000) := ⟨_, rfl⟩
  try rw [← e_m1000000]
  have l_m1000000 : m_1000000.toInt = -1000000 := by rw [e_m1000000]; decide
  refine wp_bif (beq_k (IC_isle hI)) ?_
  refine wp_bind (tc_X2_has (IC_isle hI) hI) (fun q2 hq1 => ?_)
  have h2 := hq1
  refine wp_b (fun hb3 => ?_) (fun hb3 => ?_)
  · skip
    exact wp_some ⟨hI, rfl⟩
  · skip
    obtain ⟨k4, k5, k6⟩ := h2 hb3
    refine wp_bind (tc_X2_hasMark (IC_isle hI) hI) (fun q4 hq7 => ?_)
    have h8 := hq7
    refine wp_b (fun hb9 => ?_) (fun hb9 => ?_)
    · skip
      exact wp_some ⟨hI, rfl⟩
    · skip
      obtain ⟨k10, k11⟩ := h8 hb9
      refine wp_bind (tc_X11_inForce hk_b hI) (fun q6 hq12 => ?_)
      have h13 := hq12
      refine wp_bif (beq_k h13) ?_
      refine wp_bind (tc_X4_addUp (ko_9_101 hk_b) (IC_isle hI) h13 hI) (fun q8 hq14 => ?_)
      obtain ⟨h15, h16⟩ := hq14
      refine wp_bif (inb_of (by omega) (by omega)) ?_
      refine wp_letv (fun v9 ev9 => ?_)
      exact wp_some ⟨h15, h16⟩
theorem tc_X11_tie {P : Nat → Nat → Option Int} {b : Nat} {p0 : Int32} {p1 : Int32} {S : cT} (hk_b : cK b = 9) (hI : IC P S) : wp (fc_X11_tie b p0 p1 S) (fun w => True) := by
  unfold fc_X11_tie
  refine wp_bif (beq_k (IC_isle hI)) ?_
  refine wp_bind (tc_X2_hasTwo (IC_isle hI) hI) (fun q2 hq1 => ?_)
  have h2 := hq1
  refine wp_b (fun hb3 => ?_) (fun hb3 => ?_)
  · skip
    exact wp_some trivial
  · skip
    obtain ⟨k4, k5, k6, k7⟩ := h2 hb3
    refine wp_bind (tc_X2_heed (IC_isle hI) hI) (fun q4 hq8 => ?_)
    exact wp_some trivial
theorem tc_X11_telling {P : Nat → Nat → Option Int} {b : Nat} {p0 : Int32} {p1 : Int32} {S : cT} (hk_b : cK b = 9) (hI : IC P S) : wp (fc_X11_telling b p0 p1 S) (fun w => True) := by
  unfold fc_X11_telling
  have l_0 : (0 : Int32).toInt = 0 := by decide
  have l_1 : (1 : Int32).toInt = 1 := by decide
  have l_2 : (2 : Int32).toInt = 2 := by decide
  have l_3 : (3 : Int32).toInt = 3 := by decide
  have l_4 : (4 : Int32).toInt = 4 := by decide
  have l_5 : (5 : Int32).toInt = 5 := by decide
  have l_6 : (6 : Int32).toInt = 6 := by decide
  refine wp_bif (beq_k (IC_isle hI)) ?_
  refine wp_bind (tc_X6_has (ko_2_6 (IC_isle hI)) hI) (fun q2 hq1 => ?_)
  have h2 := hq1
  refine wp_b (fun hb3 => ?_) (fun hb3 => ?_)
  · skip
    exact wp_some trivial
  · skip
    obtain ⟨k4, k5, k6⟩ := h2 hb3
    refine wp_eqn (fun hc7 => ?_) ?_
    · skip
      refine wp_bind (tc_X6_at (ko_2_6 (IC_isle hI)) hI) (fun q5 hq8 => ?_)
      exact wp_some trivial
    · skip
      refine wp_eqn (fun hc9 => ?_) ?_
      · skip
        refine wp_bind (tc_X6_at (ko_2_6 (IC_isle hI)) hI) (fun q7 hq10 => ?_)
        exact wp_some trivial
      · skip
        refine wp_eqn (fun hc11 => ?_) ?_
        · skip
          refine wp_bind (tc_X6_at (ko_2_6 (IC_isle hI)) hI) (fun q9 hq12 => ?_)
          exact wp_some trivial
        · skip
          refine wp_eqn (fun hc13 => ?_) ?_
          · skip
            refine wp_bind (tc_X6_at (ko_2_6 (IC_isle hI)) hI) (fun q11 hq14 => ?_)
            exact wp_some trivial
          · skip
            refine wp_eqn (fun hc15 => ?_) ?_
            · skip
              refine wp_bind (tc_X6_at (ko_2_6 (IC_isle hI)) hI) (fun q13 hq16 => ?_)
              exact wp_some trivial
            · skip
              refine wp_eqn (fun hc17 => ?_) ?_
              · skip
                refine wp_bind (tc_X6_at (ko_2_6 (IC_isle hI)) hI) (fun q15 hq18 => ?_)
                exact wp_some trivial
              · skip
                refine wp_eqn (fun hc19 => ?_) ?_
                · skip
                  refine wp_bind (tc_X2_isLook (IC_isle hI) hI) (fun q17 hq20 => ?_)
                  refine wp_b (fun hb21 => ?_) (fun hb21 => ?_)
                  · skip
                    exact wp_some trivial
                  · skip
                    exact wp_some trivial
                · skip
                  exact wp_some trivial
theorem tc_X11_canAct {P : Nat → Nat → Option Int} {b : Nat} {S : cT} (hk_b : cK b = 9) (hI : IC P S) : wp (fc_X11_canAct b S) (fun w => True) := by
  unfold fc_X11_canAct
  have l_0 : (0 : Int32).toInt = 0 := by decide
  have l_9999 : (9999 : Int32).toInt = 9999 := by decide
  refine wp_bif (beq_k (IC_isle hI)) ?_
  have c1 := ic_2_9 hI (IC_isle hI)
  refine wp_le (fun hc2 => ?_) (fun hc2 => ?_)
  · skip
    exact wp_some trivial
  · skip
    refine wp_le (fun hc3 => ?_) (fun hc3 => ?_)
    · skip
      exact wp_some trivial
    · skip
      exact wp_some trivial
theorem tc_X11_canTell {P : Nat → Nat → Option Int} {b : Nat} {S : cT} (hk_b : cK b = 9) (hI : IC P S) : wp (fc_X11_canTell b S) (fun w => True) := by
  unfold fc_X11_canTell
  refine wp_bind (tc_X11_canAct hk_b hI) (fun q1 hq1 => ?_)
  refine wp_b (fun hb2 => ?_) (fun hb2 => ?_)
  · skip
    exact wp_some trivial
  · skip
    refine wp_bif (beq_k (IC_isle hI)) ?_
    refine wp_bind (tc_X6_isFull (ko_2_6 (IC_isle hI)) hI) (fun q4 hq3 => ?_)
    refine wp_b (fun hb4 => ?_) (fun hb4 => ?_)
    · skip
      exact wp_some trivial
    · skip
      exact wp_some trivial
theorem tc_X11_tell {P : Nat → Nat → Option Int} {b : Nat} {p0 : Int32} {p1 : Int32} {p2 : Int32} {p3 : Int32} {S : cT} (hk_b : cK b = 9) (hI : IC P S) : wp (fc_X11_tell b p0 p1 p2 p3 S) (fun w => (IC P w.2) ∧ (w.2.2.2 = S.2.2)) := by
  unfold fc_X11_tell
  obtain ⟨m_1, e_m1⟩ : ∃ x : Int32, x = (-1) := ⟨_, rfl⟩
  try rw [← e_m1]
  have l_m1 : m_1.toInt = -1 := by rw [e_m1]; decide
  refine wp_bind (tc_X11_isRuleOrNone hk_b hI) (fun q1 hq1 => ?_)
  refine wp_b (fun hb2 => ?_) (fun hb2 => ?_)
  · skip
    exact wp_some ⟨hI, rfl⟩
  · skip
    refine wp_bif (beq_k (IC_isle hI)) ?_
    refine wp_bind (tc_X2_hasTwo (IC_isle hI) hI) (fun q4 hq3 => ?_)
    have h4 := hq3
    refine wp_b (fun hb5 => ?_) (fun hb5 => ?_)
    · skip
      exact wp_some ⟨hI, rfl⟩
    · skip
      obtain ⟨k6, k7, k8, k9⟩ := h4 hb5
      refine wp_bind (tc_X2_has (IC_isle hI) hI) (fun q6 hq10 => ?_)
      have h11 := hq10
      refine wp_b (fun hb12 => ?_) (fun hb12 => ?_)
      · skip
        exact wp_some ⟨hI, rfl⟩
      · skip
        obtain ⟨k13, k14, k15⟩ := h11 hb12
        refine wp_bind (tc_X11_canTell hk_b hI) (fun q8 hq16 => ?_)
        refine wp_b (fun hb17 => ?_) (fun hb17 => ?_)
        · skip
          exact wp_some ⟨hI, rfl⟩
        · skip
          refine wp_bind (Q := fun w => (IC P w.2) ∧ (w.2.2.2 = S.2.2)) ?_ (fun w10 hq18 => ?_)
          · skip
            refine wp_eqn (fun hc19 => ?_) ?_
            · skip
              refine wp_bind (tc_X11_inForce hk_b hI) (fun q13 hq20 => ?_)
              have h21 := hq20
              refine wp_bif (beq_k h21) ?_
              refine wp_bind (tc_X4_believed (ko_9_101 hk_b) (IC_isle hI) h21 hI) (fun q15 hq22 => ?_)
              obtain ⟨h23, h24⟩ := hq22
              exact wp_some ⟨h23, h24⟩
            · skip
              refine wp_bind (tc_X2_faceOf (IC_isle hI) hI) (fun q12 hq25 => ?_)
              exact wp_some ⟨hI, rfl⟩
          · skip
            obtain ⟨h26, h27⟩ := hq18
            refine wp_bif (beq_k (IC_isle h26)) ?_
            refine wp_bind (tc_X11_ruleAt hk_b h26) (fun q17 hq28 => ?_)
            have h29 := hq28
            refine wp_bif (beq_k h29) ?_
            refine wp_bind (tc_X4_told (ko_9_101 hk_b) (IC_isle h26) h29 h26) (fun q19 hq30 => ?_)
            obtain ⟨h31, h32⟩ := hq30
            refine wp_bif (beq_k (IC_isle h31)) ?_
            refine wp_bind (tc_X1_remember (ko_9_99 hk_b) (IC_isle h31) h31) (fun q21 hq33 => ?_)
            obtain ⟨h34, h35, h36⟩ := hq33
            refine wp_bif (beq_k (IC_isle h34)) ?_
            refine wp_bind (tc_X2_addTelling (IC_isle h34) h34) (fun q23 hq37 => ?_)
            obtain ⟨h38, h39⟩ := hq37
            refine wp_bif (beq_k (IC_isle h38)) ?_
            refine wp_letv (fun S25 eS25 => ?_)
            have hIS25 : IC P S25 := by rw [eS25]; exact (iw_2_12 h38 (IC_isle h38))
            have hpS25 : S25.2.2 = S.2.2 := by rw [eS25]; exact (h39.trans (h35.trans (h32.trans h27)))
            refine wp_bif (beq_k (IC_isle hIS25)) ?_
            exact wp_some ⟨hIS25, hpS25⟩
theorem tc_X11_retell {P : Nat → Nat → Option Int} {b : Nat} {p0 : Int32} {p1 : Int32} {p2 : Int32} {S : cT} (hk_b : cK b = 9) (hI : IC P S) : wp (fc_X11_retell b p0 p1 p2 S) (fun w => (IC P w.2) ∧ (w.2.2.2 = S.2.2)) := by
  unfold fc_X11_retell
  obtain ⟨m_1, e_m1⟩ : ∃ x : Int32, x = (-1) := ⟨_, rfl⟩
  try rw [← e_m1]
  have l_m1 : m_1.toInt = -1 := by rw [e_m1]; decide
  refine wp_bif (beq_k (IC_isle hI)) ?_
  refine wp_bind (tc_X6_has (ko_2_6 (IC_isle hI)) hI) (fun q2 hq1 => ?_)
  have h2 := hq1
  refine wp_b (fun hb3 => ?_) (fun hb3 => ?_)
  · skip
    exact wp_some ⟨hI, rfl⟩
  · skip
    obtain ⟨k4, k5, k6⟩ := h2 hb3
    refine wp_bind (tc_X2_isFace (IC_isle hI) hI) (fun q4 hq7 => ?_)
    refine wp_b (fun hb8 => ?_) (fun hb8 => ?_)
    · skip
      exact wp_some ⟨hI, rfl⟩
    · skip
      refine wp_bind (tc_X11_canTell hk_b hI) (fun q6 hq9 => ?_)
      refine wp_b (fun hb10 => ?_) (fun hb10 => ?_)
      · skip
        exact wp_some ⟨hI, rfl⟩
      · skip
        refine wp_bind (tc_X6_at (ko_2_6 (IC_isle hI)) hI) (fun q8 hq11 => ?_)
        refine wp_bind (tc_X2_hasTwo (IC_isle hI) hI) (fun q9 hq12 => ?_)
        have h13 := hq12
        refine wp_b (fun hb14 => ?_) (fun hb14 => ?_)
        · skip
          exact wp_some ⟨hI, rfl⟩
        · skip
          obtain ⟨k15, k16, k17, k18⟩ := h13 hb14
          refine wp_bind (tc_X6_at (ko_2_6 (IC_isle hI)) hI) (fun q11 hq19 => ?_)
          refine wp_bind (tc_X6_at (ko_2_6 (IC_isle hI)) hI) (fun q12 hq20 => ?_)
          refine wp_bind (tc_X1_remember (ko_9_99 hk_b) (IC_isle hI) hI) (fun q13 hq21 => ?_)
          obtain ⟨h22, h23, h24⟩ := hq21
          refine wp_bif (beq_k (IC_isle h22)) ?_
          refine wp_bind (tc_X2_addTelling (IC_isle h22) h22) (fun q15 hq25 => ?_)
          obtain ⟨h26, h27⟩ := hq25
          refine wp_bif (beq_k (IC_isle h26)) ?_
          refine wp_letv (fun S17 eS17 => ?_)
          have hIS17 : IC P S17 := by rw [eS17]; exact (iw_2_12 h26 (IC_isle h26))
          have hpS17 : S17.2.2 = S.2.2 := by rw [eS17]; exact (h27.trans h23)
          refine wp_bif (beq_k (IC_isle hIS17)) ?_
          exact wp_some ⟨hIS17, hpS17⟩
theorem tc_X11_look {P : Nat → Nat → Option Int} {b : Nat} {S : cT} (hk_b : cK b = 9) (hI : IC P S) : wp (fc_X11_look b S) (fun w => (IC P w.2) ∧ (w.2.2.2 = S.2.2)) := by
  unfold fc_X11_look
  obtain ⟨m_1, e_m1⟩ : ∃ x : Int32, x = (-1) := ⟨_, rfl⟩
  try rw [← e_m1]
  have l_m1 : m_1.toInt = -1 := by rw [e_m1]; decide
  refine wp_bind (tc_X11_canTell hk_b hI) (fun q1 hq1 => ?_)
  refine wp_b (fun hb2 => ?_) (fun hb2 => ?_)
  · skip
    exact wp_some ⟨hI, rfl⟩
  · skip
    refine wp_bif (beq_k (IC_isle hI)) ?_
    refine wp_bind (tc_X1_remember (ko_9_99 hk_b) (IC_isle hI) hI) (fun q4 hq3 => ?_)
    obtain ⟨h4, h5, h6⟩ := hq3
    refine wp_bif (beq_k (IC_isle h4)) ?_
    refine wp_bind (tc_X2_addLook (IC_isle h4) h4) (fun q6 hq7 => ?_)
    obtain ⟨h8, h9⟩ := hq7
    refine wp_bif (beq_k (IC_isle h8)) ?_
    refine wp_letv (fun S8 eS8 => ?_)
    have hIS8 : IC P S8 := by rw [eS8]; exact (iw_2_12 h8 (IC_isle h8))
    have hpS8 : S8.2.2 = S.2.2 := by rw [eS8]; exact (h9.trans h5)
    refine wp_bif (beq_k (IC_isle hIS8)) ?_
    exact wp_some ⟨hIS8, hpS8⟩
theorem tc_X11_give {P : Nat → Nat → Option Int} {b : Nat} {p0 : Int32} {S : cT} (hk_b : cK b = 9) (hI : IC P S) : wp (fc_X11_give b p0 S) (fun w => (IC P w.2) ∧ (w.2.2.2 = S.2.2)) := by
  unfold fc_X11_give
  obtain ⟨m_1, e_m1⟩ : ∃ x : Int32, x = (-1) := ⟨_, rfl⟩
  try rw [← e_m1]
  have l_m1 : m_1.toInt = -1 := by rw [e_m1]; decide
  have l_0 : (0 : Int32).toInt = 0 := by decide
  refine wp_bind (tc_X11_canAct hk_b hI) (fun q1 hq1 => ?_)
  refine wp_b (fun hb2 => ?_) (fun hb2 => ?_)
  · skip
    exact wp_some ⟨hI, rfl⟩
  · skip
    refine wp_bif (beq_k (IC_isle hI)) ?_
    have c3 := ic_2_11 hI (IC_isle hI)
    refine wp_eq_lo (by omega) (fun hc4 => ?_) (fun hc4 => ?_)
    · skip
      refine wp_bind (tc_X2_hasBoat (IC_isle hI) hI) (fun q5 hq5 => ?_)
      have h6 := hq5
      refine wp_b (fun hb7 => ?_) (fun hb7 => ?_)
      · skip
        exact wp_some ⟨hI, rfl⟩
      · skip
        obtain ⟨k8, k9, k10, k11⟩ := h6 hb7
        refine wp_bind (tc_X1_remember (ko_9_99 hk_b) (IC_isle hI) hI) (fun q7 hq12 => ?_)
        obtain ⟨h13, h14, h15⟩ := hq12
        refine wp_bif (beq_k (IC_isle h13)) ?_
        refine wp_letv (fun S9 eS9 => ?_)
        have hIS9 : IC P S9 := by rw [eS9]; exact (iw_2_10 h13 (IC_isle h13))
        have hpS9 : S9.2.2 = S.2.2 := by rw [eS9]; exact h14
        refine wp_bif (beq_k (IC_isle hIS9)) ?_
        refine wp_letv (fun S11 eS11 => ?_)
        have hIS11 : IC P S11 := by rw [eS11]; exact (iw_2_12 hIS9 (IC_isle hIS9))
        have hpS11 : S11.2.2 = S.2.2 := by rw [eS11]; exact hpS9
        refine wp_bif (beq_k (IC_isle hIS11)) ?_
        exact wp_some ⟨hIS11, hpS11⟩
    · skip
      exact wp_some ⟨hI, rfl⟩
theorem tc_X11_save {P : Nat → Nat → Option Int} {b : Nat} {S : cT} (hk_b : cK b = 9) (hI : IC P S) : wp (fc_X11_save b S) (fun w => (IC P w.2) ∧ (w.2.2.2 = S.2.2)) := by
  unfold fc_X11_save
  refine wp_bind (tc_X11_canAct hk_b hI) (fun q1 _ => ?_)
  refine wp_b (fun _ => wp_some ⟨hI, rfl⟩) (fun _ => ?_)
  refine wp_bif (beq_k (IC_isle hI)) ?_
  refine wp_bind (tc_X2_has (IC_isle hI) hI) (fun q4 h4 => ?_)
  refine wp_b (fun _ => wp_some ⟨hI, rfl⟩) (fun hb => ?_)
  obtain ⟨g1, g2, g3⟩ := h4 hb
  refine wp_bind (tc_X1_remember (ko_9_99 hk_b) (IC_isle hI) hI) (fun q6 h6 => ?_)
  obtain ⟨i6, p6, f6⟩ := h6
  have e6 : q6.1 q6.2.2.1 10 = S.1 S.2.2.1 10 := by rw [f6 _ _ (IC_isle i6), p6]
  have gl : (q6.1 q6.2.2.1 10).toInt = (S.1 S.2.2.1 10).toInt := congrArg Int32.toInt e6
  refine wp_bif (beq_k (IC_isle i6)) ?_
  refine wp_bif (inb_of (by omega) (by omega)) ?_
  refine wp_letv (fun v8 _ => ?_)
  refine wp_bif (inb_of (by omega) (by omega)) ?_
  refine wp_letv (fun S10 e10 => ?_)
  have h10 : IC P S10 := by rw [e10]; exact iw_20 i6 (kw_2_3 (IC_isle i6))
  have p10 : S10.2.2 = q6.2.2 := by rw [e10]; rfl
  refine wp_bif (beq_k (IC_isle h10)) ?_
  refine wp_letv (fun S12 e12 => ?_)
  have h12 : IC P S12 := by rw [e12]; exact iw_2_12 h10 (IC_isle h10)
  have p12 : S12.2.2 = q6.2.2 := by rw [e12]; exact p10
  have g12 : (S12.1 S12.2.2.1 10).toInt = (S.1 S.2.2.1 10).toInt := by
    rw [p12, e12, ca_ne (Or.inr (by decide)), e10, ca_ne (Or.inl (k_ne (IC_isle i6) (ko_2_3 (IC_isle i6)) (by decide)))]
    exact gl
  refine wp_bif (beq_k (IC_isle h12)) ?_
  refine wp_bif (inb_of (by omega) (by omega)) ?_
  exact wp_letv (fun v14 _ => wp_some ⟨h12, p12.trans p6⟩)
theorem tc_X11_sell {P : Nat → Nat → Option Int} {b : Nat} {p0 : Int32} {p1 : Int32} {p2 : Int32} {S : cT} (hk_b : cK b = 9) (hI : IC P S) : wp (fc_X11_sell b p0 p1 p2 S) (fun w => (IC P w.2) ∧ (w.2.2.2 = S.2.2)) := by
  unfold fc_X11_sell
  obtain ⟨m_1, e_m1⟩ : ∃ x : Int32, x = (-1) := ⟨_, rfl⟩
  try rw [← e_m1]
  have l_m1 : m_1.toInt = -1 := by rw [e_m1]; decide
  have l_0 : (0 : Int32).toInt = 0 := by decide
  have l_1 : (1 : Int32).toInt = 1 := by decide
  refine wp_bif (beq_k (IC_isle hI)) ?_
  refine wp_bind (tc_X2_hasTwo (IC_isle hI) hI) (fun q2 hq1 => ?_)
  have h2 := hq1
  refine wp_b (fun hb3 => ?_) (fun hb3 => ?_)
  · skip
    exact wp_some ⟨hI, rfl⟩
  · skip
    obtain ⟨k4, k5, k6, k7⟩ := h2 hb3
    refine wp_bif (inb_of (by omega) (by omega)) ?_
    refine wp_letv (fun v4 ev4 => ?_)
    refine wp_lt (fun hc8 => ?_) (fun hc8 => ?_)
    · skip
      exact wp_some ⟨hI, rfl⟩
    · skip
      refine wp_lt (fun hc9 => ?_) (fun hc9 => ?_)
      · skip
        exact wp_some ⟨hI, rfl⟩
      · skip
        refine wp_bif (inb_of (by omega) (by omega)) ?_
        refine wp_letv (fun v7 ev7 => ?_)
        refine wp_le (fun hc10 => ?_) (fun hc10 => ?_)
        · skip
          refine wp_bind (tc_X1_remember (ko_9_99 hk_b) (IC_isle hI) hI) (fun q9 hq11 => ?_)
          obtain ⟨h12, h13, h14⟩ := hq11
          refine wp_bif (beq_k (IC_isle h12)) ?_
          refine wp_bif (inb_of (by omega) (by omega)) ?_
          refine wp_letv (fun v11 ev11 => ?_)
          refine wp_bif (inb_of (by omega) (by omega)) ?_
          refine wp_letv (fun S13 eS13 => ?_)
          have hIS13 : IC P S13 := by rw [eS13]; exact (iw_20 h12 (kw_2_3 (IC_isle h12)))
          have hpS13 : S13.2.2 = S.2.2 := by rw [eS13]; exact h13
          refine wp_bif (beq_k (IC_isle hIS13)) ?_
          refine wp_bif (inb_of (by omega) (by omega)) ?_
          refine wp_letv (fun v15 ev15 => ?_)
          refine wp_bif (inb_of (by omega) (by omega)) ?_
          refine wp_letv (fun S17 eS17 => ?_)
          have hIS17 : IC P S17 := by rw [eS17]; exact (iw_20 hIS13 (kw_2_3 (IC_isle hIS13)))
          have hpS17 : S17.2.2 = S.2.2 := by rw [eS17]; exact hpS13
          refine wp_bif (beq_k (IC_isle hIS17)) ?_
          refine wp_bif (inb_of (by omega) (by omega)) ?_
          refine wp_letv (fun v19 ev19 => ?_)
          refine wp_bif (inb_of (by omega) (by omega)) ?_
          refine wp_letv (fun S21 eS21 => ?_)
          have hIS21 : IC P S21 := by rw [eS21]; exact (iw_20 hIS17 (kw_2_2 (IC_isle hIS17)))
          have hpS21 : S21.2.2 = S.2.2 := by rw [eS21]; exact hpS17
          refine wp_bif (beq_k (IC_isle hIS21)) ?_
          refine wp_bif (inb_of (by omega) (by omega)) ?_
          refine wp_letv (fun v23 ev23 => ?_)
          refine wp_bif (inb_of (by omega) (by omega)) ?_
          refine wp_letv (fun S25 eS25 => ?_)
          have hIS25 : IC P S25 := by rw [eS25]; exact (iw_20 hIS21 (kw_2_2 (IC_isle hIS21)))
          have hpS25 : S25.2.2 = S.2.2 := by rw [eS25]; exact hpS21
          refine wp_bif (beq_k (IC_isle hIS25)) ?_
          refine wp_bif (inb_of (by omega) (by omega)) ?_
          refine wp_letv (fun v27 ev27 => ?_)
          exact wp_some ⟨hIS25, hpS25⟩
        · skip
          exact wp_some ⟨hI, rfl⟩
