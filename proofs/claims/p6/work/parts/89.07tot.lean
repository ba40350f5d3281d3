/-! ===== every method of the class answers (by program) 7 ===== -/
theorem tc_X11_spend {P : Nat → Nat → Option Int} {b : Nat} {p0 : Int32} {S : cT} (hk_b : cK b = 9) (hI : IC P S) : wp (fc_X11_spend b p0 S) (fun w => (IC P w.2) ∧ (w.2.2.2 = S.2.2)) := by
  unfold fc_X11_spend
  obtain ⟨m_1, e_m1⟩ : ∃ x : Int32, x = (-1) := ⟨_, rfl⟩
  try rw [← e_m1]
  have l_m1 : m_1.toInt = -1 := by rw [e_m1]; decide
  have l_0 : (0 : Int32).toInt = 0 := by decide
  have l_1 : (1 : Int32).toInt = 1 := by decide
  refine wp_bind (tc_X11_canAct hk_b hI) (fun q1 hq1 => ?_)
  refine wp_b (fun hb2 => ?_) (fun hb2 => ?_)
  · skip
    exact wp_some ⟨hI, rfl⟩
  · skip
    refine wp_bif (beq_k (IC_isle hI)) ?_
    refine wp_bind (tc_X2_has (IC_isle hI) hI) (fun q4 hq3 => ?_)
    have h4 := hq3
    refine wp_b (fun hb5 => ?_) (fun hb5 => ?_)
    · skip
      exact wp_some ⟨hI, rfl⟩
    · skip
      obtain ⟨k6, k7, k8⟩ := h4 hb5
      refine wp_bif (inb_of (by omega) (by omega)) ?_
      refine wp_letv (fun v6 ev6 => ?_)
      refine wp_lt (fun hc9 => ?_) (fun hc9 => ?_)
      · skip
        exact wp_some ⟨hI, rfl⟩
      · skip
        refine wp_eqn (fun hc10 => ?_) ?_
        · skip
          exact wp_some ⟨hI, rfl⟩
        · skip
          refine wp_bind (tc_X1_remember (ko_9_99 hk_b) (IC_isle hI) hI) (fun q9 hq11 => ?_)
          obtain ⟨h12, h13, h14⟩ := hq11
          refine wp_bif (beq_k (IC_isle h12)) ?_
          refine wp_bif (inb_of (by omega) (by omega)) ?_
          refine wp_letv (fun v11 ev11 => ?_)
          refine wp_bif (inb_of (by omega) (by omega)) ?_
          refine wp_letv (fun S13 eS13 => ?_)
          have hIS13 : IC P S13 := by rw [eS13]; exact (iw_20 h12 (kw_2_3 (IC_isle h12)))
          have hpS13 : S13.2.2 = S.2.2 := by rw [eS13]; exact h13
          refine wp_bif (beq_k (IC_isle hIS13)) ?_
          refine wp_letv (fun S15 eS15 => ?_)
          have hIS15 : IC P S15 := by rw [eS15]; exact (iw_2_10 hIS13 (IC_isle hIS13))
          have hpS15 : S15.2.2 = S.2.2 := by rw [eS15]; exact hpS13
          refine wp_bif (beq_k (IC_isle hIS15)) ?_
          refine wp_letv (fun S17 eS17 => ?_)
          have hIS17 : IC P S17 := by rw [eS17]; exact (iw_2_11 hIS15 (IC_isle hIS15) (by omega) (by omega))
          have hpS17 : S17.2.2 = S.2.2 := by rw [eS17]; exact hpS15
          refine wp_bif (beq_k (IC_isle hIS17)) ?_
          refine wp_letv (fun S19 eS19 => ?_)
          have hIS19 : IC P S19 := by rw [eS19]; exact (iw_2_12 hIS17 (IC_isle hIS17))
          have hpS19 : S19.2.2 = S.2.2 := by rw [eS19]; exact hpS17
          refine wp_bif (beq_k (IC_isle hIS19)) ?_
          exact wp_some ⟨hIS19, hpS19⟩
theorem tc_X11_keep {P : Nat → Nat → Option Int} {b : Nat} {p0 : Int32} {S : cT} (hk_b : cK b = 9) (hl_p0 : 0 ≤ p0.toInt) (hu_p0 : p0.toInt ≤ 1) (hI : IC P S) : wp (fc_X11_keep b p0 S) (fun w => (IC P w.2) ∧ (w.2.2.2 = S.2.2)) := by
  unfold fc_X11_keep
  have l_0 : (0 : Int32).toInt = 0 := by decide
  refine wp_bif (beq_k (IC_isle hI)) ?_
  have c1 := ic_2_9 hI (IC_isle hI)
  refine wp_eq_lo (by omega) (fun hc2 => ?_) (fun hc2 => ?_)
  · skip
    exact wp_some ⟨hI, rfl⟩
  · skip
    have c3 := ic_2_11 hI (IC_isle hI)
    refine wp_eqn (fun hc4 => ?_) ?_
    · skip
      exact wp_some ⟨hI, rfl⟩
    · skip
      refine wp_bind (tc_X1_remember (ko_9_99 hk_b) (IC_isle hI) hI) (fun q4 hq5 => ?_)
      obtain ⟨h6, h7, h8⟩ := hq5
      refine wp_bif (beq_k (IC_isle h6)) ?_
      refine wp_bif (isB_of (by omega) (by omega)) ?_
      refine wp_letv (fun S7 eS7 => ?_)
      have hIS7 : IC P S7 := by rw [eS7]; exact (iw_2_11 h6 (IC_isle h6) (by omega) (by omega))
      have hpS7 : S7.2.2 = S.2.2 := by rw [eS7]; exact h7
      exact wp_some ⟨hIS7, hpS7⟩
theorem tc_X11_rest {P : Nat → Nat → Option Int} {b : Nat} {S : cT} (hk_b : cK b = 9) (hI : IC P S) : wp (fc_X11_rest b S) (fun w => (IC P w.2) ∧ (w.2.2.2 = S.2.2)) := by
  unfold fc_X11_rest
  obtain ⟨m_1, e_m1⟩ : ∃ x : Int32, x = (-1) := ⟨_, rfl⟩
  try rw [← e_m1]
  have l_m1 : m_1.toInt = -1 := by rw [e_m1]; decide
  refine wp_bind (tc_X11_canAct hk_b hI) (fun q1 hq1 => ?_)
  refine wp_b (fun hb2 => ?_) (fun hb2 => ?_)
  · skip
    exact wp_some ⟨hI, rfl⟩
  · skip
    refine wp_bif (beq_k (IC_isle hI)) ?_
    refine wp_bind (tc_X1_remember (ko_9_99 hk_b) (IC_isle hI) hI) (fun q4 hq3 => ?_)
    obtain ⟨h4, h5, h6⟩ := hq3
    refine wp_bif (beq_k (IC_isle h4)) ?_
    refine wp_letv (fun S6 eS6 => ?_)
    have hIS6 : IC P S6 := by rw [eS6]; exact (iw_2_12 h4 (IC_isle h4))
    have hpS6 : S6.2.2 = S.2.2 := by rw [eS6]; exact h5
    refine wp_bif (beq_k (IC_isle hIS6)) ?_
    exact wp_some ⟨hIS6, hpS6⟩
theorem tc_X11_undo {P : Nat → Nat → Option Int} {b : Nat} {S : cT} (hk_b : cK b = 9) (hI : IC P S) : wp (fc_X11_undo b S) (fun w => (IC P w.2) ∧ (w.2.2.2 = S.2.2)) := by
  unfold fc_X11_undo
  obtain ⟨m_1, e_m1⟩ : ∃ x : Int32, x = (-1) := ⟨_, rfl⟩
  try rw [← e_m1]
  have l_m1 : m_1.toInt = -1 := by rw [e_m1]; decide
  have l_1 : (1 : Int32).toInt = 1 := by decide
  refine wp_le (fun hc1 => ?_) (fun hc1 => ?_)
  · skip
    refine wp_bif (beq_k (IC_isle hI)) ?_
    refine wp_bind (tc_X1_restore (ko_9_99 hk_b) (IC_isle hI) hI) (fun q3 hq2 => ?_)
    obtain ⟨h3, h4⟩ := hq2
    exact wp_some ⟨h3, h4⟩
  · skip
    exact wp_some ⟨hI, rfl⟩
theorem tc_X11_tellWhoHeedsMost {P : Nat → Nat → Option Int} {b : Nat} {p0 : Nat} {S : cT} (hk_b : cK b = 9) (hk_p0 : cK p0 = 6) (hI : IC P S) : wp (fc_X11_tellWhoHeedsMost b p0 S) (fun w => (IC P w) ∧ (w.2.2 = S.2.2)) := by
  unfold fc_X11_tellWhoHeedsMost
  obtain ⟨m_1, e_m1⟩ : ∃ x : Int32, x = (-1) := ⟨_, rfl⟩
  try rw [← e_m1]
  have l_m1 : m_1.toInt = -1 := by rw [e_m1]; decide
  have l_0 : (0 : Int32).toInt = 0 := by decide
  refine wp_bif (beq_k (IC_isle hI)) ?_
  refine wp_bind (Q := fun w => True) ?_ (fun w2 hq1 => ?_)
  · skip
    have c2 := ic_2_9 hI (IC_isle hI)
    refine wp_le (fun hc3 => ?_) (fun hc3 => ?_)
    · skip
      exact wp_some trivial
    · skip
      refine wp_dz (by omega) ?_
      exact wp_some trivial
  · skip
    refine wp_bind (tc_X2_whoHeedsMost (IC_isle hI) hI) (fun q5 hq4 => ?_)
    refine wp_eqn (fun hc5 => ?_) ?_
    · skip
      exact wp_some ⟨hI, rfl⟩
    · skip
      refine wp_bind (tc_X2_faceOf (IC_isle hI) hI) (fun q7 hq6 => ?_)
      refine wp_bind (tc_X4_told (ko_9_101 hk_b) (IC_isle hI) hk_p0 hI) (fun q8 hq7 => ?_)
      obtain ⟨h8, h9⟩ := hq7
      refine wp_bif (beq_k (IC_isle h8)) ?_
      refine wp_bind (tc_X2_addTelling (IC_isle h8) h8) (fun q10 hq10 => ?_)
      obtain ⟨h11, h12⟩ := hq10
      exact wp_some ⟨h11, (h12.trans h9)⟩
theorem tc_X11_runHour {P : Nat → Nat → Option Int} {b : Nat} {p0 : Nat} {S : cT} (hk_b : cK b = 9) (hk_p0 : cK p0 = 6) (hI : IC P S) : wp (fc_X11_runHour b p0 S) (fun w => (IC P w) ∧ (w.2.2 = S.2.2)) := by
  unfold fc_X11_runHour
  obtain ⟨m_1, e_m1⟩ : ∃ x : Int32, x = (-1) := ⟨_, rfl⟩
  try rw [← e_m1]
  have l_m1 : m_1.toInt = -1 := by rw [e_m1]; decide
  have l_0 : (0 : Int32).toInt = 0 := by decide
  have l_1 : (1 : Int32).toInt = 1 := by decide
  refine wp_bif (beq_k (IC_isle hI)) ?_
  refine wp_bind (tc_X2_lookers (IC_isle hI) hI) (fun q2 hq1 => ?_)
  refine wp_bind (tc_X6_isFull (ko_2_6 (IC_isle hI)) hI) (fun q3 hq2 => ?_)
  refine wp_bind (Q := fun w => (IC P w) ∧ (w.2.2 = S.2.2)) ?_ (fun w4 hq3 => ?_)
  · skip
    refine wp_b (fun hb4 => ?_) (fun hb4 => ?_)
    · skip
      have t5 := and_i (q2 >>> ((S.1 S.2.2.1 10) &&& (31 : Int32))) (c := 1) l_1 (by decide)
      refine wp_eq_lo (by omega) (fun hc6 => ?_) (fun hc6 => ?_)
      · skip
        refine wp_bind (tc_X2_addLook (IC_isle hI) hI) (fun q8 hq7 => ?_)
        obtain ⟨h8, h9⟩ := hq7
        exact wp_some ⟨h8, h9⟩
      · skip
        refine wp_bind (tc_X11_tellWhoHeedsMost hk_b hk_p0 hI) (fun q7 hq10 => ?_)
        obtain ⟨h11, h12⟩ := hq10
        exact wp_some ⟨h11, h12⟩
    · skip
      exact wp_some ⟨hI, rfl⟩
  · skip
    obtain ⟨h13, h14⟩ := hq3
    refine wp_bif (beq_k (IC_isle h13)) ?_
    refine wp_bind (tc_X2_nextToLook (IC_isle h13) h13) (fun q10 hq15 => ?_)
    refine wp_bind (Q := fun w => (IC P w) ∧ (w.2.2 = S.2.2)) ?_ (fun w11 hq16 => ?_)
    · skip
      have c17 := ic_2_11 h13 (IC_isle h13)
      refine wp_eq_lo (by omega) (fun hc18 => ?_) (fun hc18 => ?_)
      · skip
        refine wp_eqn (fun hc19 => ?_) ?_
        · skip
          exact wp_some ⟨h13, h14⟩
        · skip
          refine wp_letv (fun S14 eS14 => ?_)
          have hIS14 : IC P S14 := by rw [eS14]; exact (iw_2_10 h13 (IC_isle h13))
          have hpS14 : S14.2.2 = S.2.2 := by rw [eS14]; exact h14
          exact wp_some ⟨hIS14, hpS14⟩
      · skip
        exact wp_some ⟨h13, h14⟩
    · skip
      obtain ⟨h20, h21⟩ := hq16
      refine wp_bif (beq_k (IC_isle h20)) ?_
      refine wp_letv (fun S16 eS16 => ?_)
      have hIS16 : IC P S16 := by rw [eS16]; exact (iw_2_12 h20 (IC_isle h20))
      have hpS16 : S16.2.2 = S.2.2 := by rw [eS16]; exact h21
      exact wp_some ⟨hIS16, hpS16⟩
theorem tc_X11_run_L55 {P : Nat → Nat → Option Int} {k0 : Nat} {k1 : Int32} {k2 : Int32} (hk_k0 : cK k0 = 9) (hl_k1 : 0 ≤ k1.toInt) (hu_k1 : k1.toInt ≤ 5) (hl_k2 : 1 ≤ k2.toInt) (hu_k2 : k2.toInt ≤ 60)  : ∀ (N : Nat) (a3 : Int32) (S : cT), 0 ≤ a3.toInt → a3.toInt ≤ 60 → IC P S → 60 - a3.toInt < (N : Int) → wp (fc_X11_run_L55 k0 k1 k2 N a3 S) (fun w => (0 ≤ (w.1).toInt) ∧ ((w.1).toInt ≤ 60) ∧ (IC P w.2) ∧ (w.2.2.2 = S.2.2)) := by
  intro N
  induction N with
  | zero =>
    intro a3 S vl_a3 vu_a3 hI hm
    exfalso; omega
  | succ N ih =>
    intro a3 S vl_a3 vu_a3 hI hm
    rw [fc_X11_run_L55]
    have l_1 : (1 : Int32).toInt = 1 := by decide
    refine wp_le (fun hc1 => ?_) (fun hc1 => ?_)
    · skip
      exact wp_some ⟨(by first | omega | (dsimp only; omega)), (by first | omega | (dsimp only; omega)), hI, rfl⟩
    · skip
      refine wp_bif (inb_of (by omega) (by omega)) ?_
      refine wp_bind (tc_X11_runHour hk_k0 (k_rule (by omega) (by omega)) hI) (fun q11 hq2 => ?_)
      obtain ⟨h3, h4⟩ := hq2
      have t5 : (a3 + (1 : Int32) : Int32).toInt = (a3).toInt + ((1 : Int32)).toInt := tA (by omega) (by omega)
      have zz6 := (ih (a3 + (1 : Int32)) q11 (by omega) (by omega) h3 (by omega))
      exact wp_mono zz6 (fun w hw => ⟨hw.1, hw.2.1, hw.2.2.1, hw.2.2.2.trans h4⟩)
theorem tc_X11_run {P : Nat → Nat → Option Int} {b : Nat} {p0 : Int32} {p1 : Int32} {S : cT} (hk_b : cK b = 9) (hI : IC P S) : wp (fc_X11_run b p0 p1 S) (fun w => (IC P w.2) ∧ (w.2.2.2 = S.2.2)) := by
  unfold fc_X11_run
  obtain ⟨m_1, e_m1⟩ : ∃ x : Int32, x = (-1) := ⟨_, rfl⟩
  try rw [← e_m1]
  have l_m1 : m_1.toInt = -1 := by rw [e_m1]; decide
  have l_0 : (0 : Int32).toInt = 0 := by decide
  have l_1 : (1 : Int32).toInt = 1 := by decide
  have l_60 : (60 : Int32).toInt = 60 := by decide
  have l_9999 : (9999 : Int32).toInt = 9999 := by decide
  have fu : (FU : Int) = 1000000 := rfl
  refine wp_bind (tc_X11_isRule hk_b hI) (fun q1 hq1 => ?_)
  have h2 := hq1
  refine wp_b (fun hb3 => ?_) (fun hb3 => ?_)
  · skip
    exact wp_some ⟨hI, rfl⟩
  · skip
    obtain ⟨k4, k5⟩ := h2 hb3
    refine wp_bif (beq_k (IC_isle hI)) ?_
    have c6 := ic_2_9 hI (IC_isle hI)
    refine wp_eq_lo (by omega) (fun hc7 => ?_) (fun hc7 => ?_)
    · skip
      exact wp_some ⟨hI, rfl⟩
    · skip
      refine wp_lt (fun hc8 => ?_) (fun hc8 => ?_)
      · skip
        exact wp_some ⟨hI, rfl⟩
      · skip
        refine wp_lt (fun hc9 => ?_) (fun hc9 => ?_)
        · skip
          exact wp_some ⟨hI, rfl⟩
        · skip
          refine wp_le (fun hc10 => ?_) (fun hc10 => ?_)
          · skip
            refine wp_bind (tc_X1_forget (ko_9_99 hk_b) hI) (fun q8 hq11 => ?_)
            obtain ⟨h12, h13⟩ := hq11
            refine wp_bind (tc_X11_run_L55 hk_b (by omega) (by omega) (by omega) (by omega) FU (0 : Int32) q8 (by omega) (by omega) h12 (by omega)) (fun w12 hq14 => ?_)
            obtain ⟨h15, h16, h17, h18⟩ := hq14
            refine wp_bif (beq_k (IC_isle h17)) ?_
            exact wp_some ⟨h17, (h18.trans h13)⟩
          · skip
            exact wp_some ⟨hI, rfl⟩
theorem tc_X11_lean {P : Nat → Nat → Option Int} {b : Nat} {p0 : Int32} {S : cT} (hk_b : cK b = 9) (hI : IC P S) : wp (fc_X11_lean b p0 S) (fun w => True) := by
  unfold fc_X11_lean
  refine wp_bif (beq_k (IC_isle hI)) ?_
  refine wp_bind (tc_X2_has (IC_isle hI) hI) (fun q2 hq1 => ?_)
  have h2 := hq1
  refine wp_b (fun hb3 => ?_) (fun hb3 => ?_)
  · skip
    exact wp_some trivial
  · skip
    obtain ⟨k4, k5, k6⟩ := h2 hb3
    refine wp_bind (tc_X2_leanOf (IC_isle hI) hI) (fun q4 hq7 => ?_)
    exact wp_some trivial
theorem tc_X11_likeliest {P : Nat → Nat → Option Int} {b : Nat} {p0 : Int32} {p1 : Int32} {S : cT} (hk_b : cK b = 9) (hI : IC P S) : wp (fc_X11_likeliest b p0 p1 S) (fun w => (IC P w.2) ∧ (w.2.2.2 = S.2.2)) := by
  unfold fc_X11_likeliest
  obtain ⟨m_1, e_m1⟩ : ∃ x : Int32, x = (-1) := ⟨_, rfl⟩
  try rw [← e_m1]
  have l_m1 : m_1.toInt = -1 := by rw [e_m1]; decide
  have l_0 : (0 : Int32).toInt = 0 := by decide
  have l_1 : (1 : Int32).toInt = 1 := by decide
  refine wp_bif (beq_k (IC_isle hI)) ?_
  refine wp_bind (tc_X2_has (IC_isle hI) hI) (fun q2 hq1 => ?_)
  have h2 := hq1
  refine wp_b (fun hb3 => ?_) (fun hb3 => ?_)
  · skip
    exact wp_some ⟨hI, rfl⟩
  · skip
    obtain ⟨k4, k5, k6⟩ := h2 hb3
    refine wp_bind (tc_X4_addLeans (ko_9_101 hk_b) (IC_isle hI) hI) (fun q4 hq7 => ?_)
    obtain ⟨h8, h9⟩ := hq7
    refine wp_eqn (fun hc10 => ?_) ?_
    · skip
      refine wp_bif (beq_k (IC_isle h8)) ?_
      refine wp_bind (tc_X4_marksAbove (ko_9_101 hk_b) (IC_isle h8) h8) (fun q7 hq11 => ?_)
      exact wp_some ⟨h8, h9⟩
    · skip
      refine wp_eqn (fun hc12 => ?_) ?_
      · skip
        refine wp_bif (beq_k (IC_isle h8)) ?_
        refine wp_bind (tc_X4_marksEven (ko_9_101 hk_b) (IC_isle h8) h8) (fun q10 hq13 => ?_)
        exact wp_some ⟨h8, h9⟩
      · skip
        exact wp_some ⟨h8, h9⟩
theorem tc_X11_flatters {P : Nat → Nat → Option Int} {b : Nat} {p0 : Int32} {p1 : Int32} {S : cT} (hk_b : cK b = 9) (hI : IC P S) : wp (fc_X11_flatters b p0 p1 S) (fun w => True) := by
  unfold fc_X11_flatters
  have l_0 : (0 : Int32).toInt = 0 := by decide
  have l_1 : (1 : Int32).toInt = 1 := by decide
  refine wp_eqn (fun hc1 => ?_) ?_
  · skip
    refine wp_bif (beq_k (IC_isle hI)) ?_
    refine wp_bind (tc_X2_has (IC_isle hI) hI) (fun q7 hq2 => ?_)
    have h3 := hq2
    refine wp_b (fun hb4 => ?_) (fun hb4 => ?_)
    · skip
      refine wp_eqn (fun hc5 => ?_) ?_
      · skip
        have c6 := ic_2_9 hI (IC_isle hI)
        refine wp_le (fun hc7 => ?_) (fun hc7 => ?_)
        · skip
          exact wp_some trivial
        · skip
          refine wp_bind (tc_X2_flatterer (IC_isle hI) hI) (fun q11 hq8 => ?_)
          exact wp_some trivial
      · skip
        exact wp_some trivial
    · skip
      obtain ⟨k9, k10, k11⟩ := h3 hb4
      refine wp_bind (tc_X2_flatteryOf (IC_isle hI) hI) (fun q12 hq12 => ?_)
      exact wp_some trivial
  · skip
    refine wp_eqn (fun hc13 => ?_) ?_
    · skip
      refine wp_bif (beq_k (IC_isle hI)) ?_
      have c14 := ic_2_9 hI (IC_isle hI)
      refine wp_le (fun hc15 => ?_) (fun hc15 => ?_)
      · skip
        exact wp_some trivial
      · skip
        refine wp_bind (tc_X2_flatterer (IC_isle hI) hI) (fun q5 hq16 => ?_)
        exact wp_some trivial
    · skip
      exact wp_some trivial
theorem tc_X11_ask_L46 {P : Nat → Nat → Option Int} {k0 : Nat} {k1 : Int32} (hk_k0 : cK k0 = 9)  : ∀ (N : Nat) (a3 : Int32) (a4 : Int32) (a5 : Int32) (S : cT), 0 ≤ a5.toInt → a5.toInt ≤ 8 → IC P S → 8 - a5.toInt < (N : Int) → wp (fc_X11_ask_L46 k0 k1 N a3 a4 a5 S) (fun w => (0 ≤ (w.2.2.1).toInt) ∧ ((w.2.2.1).toInt ≤ 8) ∧ (IC P w.2.2.2) ∧ (w.2.2.2.2.2 = S.2.2)) := by
  intro N
  induction N with
  | zero =>
    intro a3 a4 a5 S vl_a5 vu_a5 hI hm
    exfalso; omega
  | succ N ih =>
    intro a3 a4 a5 S vl_a5 vu_a5 hI hm
    rw [fc_X11_ask_L46]
    obtain ⟨m_1, e_m1⟩ : ∃ x : Int32, x = (-1) := ⟨_, rfl⟩
    try rw [← e_m1]
    have l_m1 : m_1.toInt = -1 := by rw [e_m1]; decide
    have l_1 : (1 : Int32).toInt = 1 := by decide
    refine wp_bif (beq_k (IC_isle hI)) ?_
    have c1 := ic_2_9 hI (IC_isle hI)
    refine wp_le (fun hc2 => ?_) (fun hc2 => ?_)
    · skip
      exact wp_some ⟨(by first | omega | (dsimp only; omega)), (by first | omega | (dsimp only; omega)), hI, rfl⟩
    · skip
      refine wp_eqn (fun hc3 => ?_) ?_
      · skip
        have t4 : (a5 + (1 : Int32) : Int32).toInt = (a5).toInt + ((1 : Int32)).toInt := tA (by omega) (by omega)
        exact (ih a3 a4 (a5 + (1 : Int32)) S (by omega) (by omega) hI (by omega))
      · skip
        refine wp_bind (tc_X11_inForce hk_k0 hI) (fun q12 hq5 => ?_)
        have h6 := hq5
        refine wp_bif (beq_k h6) ?_
        refine wp_bind (tc_X4_marksTurnedBy (ko_9_101 hk_k0) (IC_isle hI) h6 hI) (fun q14 hq7 => ?_)
        obtain ⟨h8, h9⟩ := hq7
        refine wp_eqn (fun hc10 => ?_) ?_
        · skip
          have t11 : (a5 + (1 : Int32) : Int32).toInt = (a5).toInt + ((1 : Int32)).toInt := tA (by omega) (by omega)
          have zz12 := (ih a5 q14.1 (a5 + (1 : Int32)) q14.2 (by omega) (by omega) h8 (by omega))
          exact wp_mono zz12 (fun w hw => ⟨hw.1, hw.2.1, hw.2.2.1, hw.2.2.2.trans h9⟩)
        · skip
          refine wp_le (fun hc13 => ?_) (fun hc13 => ?_)
          · skip
            have t14 : (a5 + (1 : Int32) : Int32).toInt = (a5).toInt + ((1 : Int32)).toInt := tA (by omega) (by omega)
            have zz15 := (ih a3 a4 (a5 + (1 : Int32)) q14.2 (by omega) (by omega) h8 (by omega))
            exact wp_mono zz15 (fun w hw => ⟨hw.1, hw.2.1, hw.2.2.1, hw.2.2.2.trans h9⟩)
          · skip
            have t16 : (a5 + (1 : Int32) : Int32).toInt = (a5).toInt + ((1 : Int32)).toInt := tA (by omega) (by omega)
            have zz17 := (ih a5 q14.1 (a5 + (1 : Int32)) q14.2 (by omega) (by omega) h8 (by omega))
            exact wp_mono zz17 (fun w hw => ⟨hw.1, hw.2.1, hw.2.2.1, hw.2.2.2.trans h9⟩)
theorem tc_X11_ask {P : Nat → Nat → Option Int} {b : Nat} {p0 : Int32} {p1 : Int32} {S : cT} (hk_b : cK b = 9) (hI : IC P S) : wp (fc_X11_ask b p0 p1 S) (fun w => (IC P w.2) ∧ (w.2.2.2 = S.2.2)) := by
  unfold fc_X11_ask
  obtain ⟨m_2, e_m2⟩ : ∃ x : Int32, x = (-2) := ⟨_, rfl⟩
  try rw [← e_m2]
  have l_m2 : m_2.toInt = -2 := by rw [e_m2]; decide
  obtain ⟨m_1, e_m1⟩ : ∃ x : Int32, x = (-1) := ⟨_, rfl⟩
  try rw [← e_m1]
  have l_m1 : m_1.toInt = -1 := by rw [e_m1]; decide
  have l_0 : (0 : Int32).toInt = 0 := by decide
  have l_1 : (1 : Int32).toInt = 1 := by decide
  have fu : (FU : Int) = 1000000 := rfl
  refine wp_bif (beq_k (IC_isle hI)) ?_
  refine wp_bind (tc_X2_has (IC_isle hI) hI) (fun q2 hq1 => ?_)
  have h2 := hq1
  refine wp_b (fun hb3 => ?_) (fun hb3 => ?_)
  · skip
    exact wp_some ⟨hI, rfl⟩
  · skip
    obtain ⟨k4, k5, k6⟩ := h2 hb3
    refine wp_lt (fun hc7 => ?_) (fun hc7 => ?_)
    · skip
      exact wp_some ⟨hI, rfl⟩
    · skip
      refine wp_le (fun hc8 => ?_) (fun hc8 => ?_)
      · skip
        refine wp_bind (tc_X11_inForce hk_b hI) (fun q6 hq9 => ?_)
        have h10 := hq9
        refine wp_bif (beq_k h10) ?_
        refine wp_bind (tc_X4_addUp (ko_9_101 hk_b) (IC_isle hI) h10 hI) (fun q8 hq11 => ?_)
        obtain ⟨h12, h13⟩ := hq11
        refine wp_bind (tc_X11_ask_L46 hk_b FU m_1 (0 : Int32) (0 : Int32) q8 (by omega) (by omega) h12 (by omega)) (fun w17 hq14 => ?_)
        obtain ⟨h15, h16, h17, h18⟩ := hq14
        refine wp_eq_hi (by omega) (fun hc19 => ?_) (fun hc19 => ?_)
        · skip
          exact wp_some ⟨h17, (h18.trans h13)⟩
        · skip
          refine wp_eqn (fun hc20 => ?_) ?_
          · skip
            exact wp_some ⟨h17, (h18.trans h13)⟩
          · skip
            exact wp_some ⟨h17, (h18.trans h13)⟩
      · skip
        exact wp_some ⟨hI, rfl⟩
theorem tc_X11_chain {P : Nat → Nat → Option Int} {b : Nat} {p0 : Int32} {p1 : Int32} {S : cT} (hk_b : cK b = 9) (hI : IC P S) : wp (fc_X11_chain b p0 p1 S) (fun w => True) := by
  unfold fc_X11_chain
  have l_0 : (0 : Int32).toInt = 0 := by decide
  have l_1 : (1 : Int32).toInt = 1 := by decide
  have l_2 : (2 : Int32).toInt = 2 := by decide
  refine wp_bif (beq_k (IC_isle hI)) ?_
  refine wp_bind (tc_X6_has (ko_2_6 (IC_isle hI)) hI) (fun q2 hq1 => ?_)
  have h2 := hq1
  refine wp_b (fun hb3 => ?_) (fun hb3 => ?_)
  · skip
    exact wp_some trivial
  · skip
    obtain ⟨k4, k5, k6⟩ := h2 hb3
    refine wp_eqn (fun hc7 => ?_) ?_
    · skip
      refine wp_bind (tc_X6_at (ko_2_6 (IC_isle hI)) hI) (fun q5 hq8 => ?_)
      exact wp_some trivial
    · skip
      refine wp_eqn (fun hc9 => ?_) ?_
      · skip
        refine wp_bind (tc_X2_firstOf (IC_isle hI) hI) (fun q7 hq10 => ?_)
        refine wp_bind (tc_X6_at (ko_2_6 (IC_isle hI)) hI) (fun q8 hq11 => ?_)
        exact wp_some trivial
      · skip
        refine wp_eqn (fun hc12 => ?_) ?_
        · skip
          refine wp_bind (tc_X2_firstOf (IC_isle hI) hI) (fun q10 hq13 => ?_)
          exact wp_some trivial
        · skip
          exact wp_some trivial
theorem tc_X11_slip {P : Nat → Nat → Option Int} {b : Nat} {p0 : Int32} {p1 : Int32} {S : cT} (hk_b : cK b = 9) (hI : IC P S) : wp (fc_X11_slip b p0 p1 S) (fun w => True) := by
  unfold fc_X11_slip
  obtain ⟨m_1, e_m1⟩ : ∃ x : Int32, x = (-1) := ⟨_, rfl⟩
  try rw [← e_m1]
  have l_m1 : m_1.toInt = -1 := by rw [e_m1]; decide
  refine wp_bif (beq_k (IC_isle hI)) ?_
  refine wp_bind (tc_X6_has (ko_2_6 (IC_isle hI)) hI) (fun q2 hq1 => ?_)
  have h2 := hq1
  refine wp_b (fun hb3 => ?_) (fun hb3 => ?_)
  · skip
    exact wp_some trivial
  · skip
    obtain ⟨k4, k5, k6⟩ := h2 hb3
    refine wp_bind (tc_X2_hasMark (IC_isle hI) hI) (fun q4 hq7 => ?_)
    have h8 := hq7
    refine wp_b (fun hb9 => ?_) (fun hb9 => ?_)
    · skip
      exact wp_some trivial
    · skip
      obtain ⟨k10, k11⟩ := h8 hb9
      refine wp_bind (tc_X2_slippedAt (IC_isle hI) hI) (fun q6 hq12 => ?_)
      refine wp_eqn (fun hc13 => ?_) ?_
      · skip
        exact wp_some trivial
      · skip
        exact wp_some trivial
theorem tc_X11_wish {P : Nat → Nat → Option Int} {b : Nat} {p0 : Int32} {p1 : Int32} {p2 : Int32} {p3 : Int32} {S : cT} (hk_b : cK b = 9) (hR : P (S.2.2.1 + 8) 3 = none) (hR1 : ∀ j, P (S.2.2.1 + 8 + 1) j = none) (hI : IC P S) : wp (fc_X11_wish b p0 p1 p2 p3 S) (fun w => (IC P w.2) ∧ (w.2.2.2 = S.2.2)) := by
  unfold fc_X11_wish
  obtain ⟨m_2, e_m2⟩ : ∃ x : Int32, x = (-2) := ⟨_, rfl⟩
  try rw [← e_m2]
  have l_m2 : m_2.toInt = -2 := by rw [e_m2]; decide
  obtain ⟨m_1, e_m1⟩ : ∃ x : Int32, x = (-1) := ⟨_, rfl⟩
  try rw [← e_m1]
  have l_m1 : m_1.toInt = -1 := by rw [e_m1]; decide
  have l_0 : (0 : Int32).toInt = 0 := by decide
  have l_1 : (1 : Int32).toInt = 1 := by decide
  have l_16 : (16 : Int32).toInt = 16 := by decide
  have l_99 : (99 : Int32).toInt = 99 := by decide
  refine wp_eqn (fun hc1 => ?_) ?_
  · skip
    refine wp_bif (beq_k (IC_isle hI)) ?_
    refine wp_bind (tc_X6_cutTo (ko_2_8 (IC_isle hI)) hR hI) (fun q15 hq2 => ?_)
    obtain ⟨h3, h4⟩ := hq2
    exact wp_some ⟨h3, h4⟩
  · skip
    refine wp_bif (beq_k (IC_isle hI)) ?_
    refine wp_bind (tc_X2_has (IC_isle hI) hI) (fun q3 hq5 => ?_)
    have h6 := hq5
    refine wp_b (fun hb7 => ?_) (fun hb7 => ?_)
    · skip
      exact wp_some ⟨hI, rfl⟩
    · skip
      obtain ⟨k8, k9, k10⟩ := h6 hb7
      refine wp_lt (fun hc11 => ?_) (fun hc11 => ?_)
      · skip
        exact wp_some ⟨hI, rfl⟩
      · skip
        refine wp_lt (fun hc12 => ?_) (fun hc12 => ?_)
        · skip
          exact wp_some ⟨hI, rfl⟩
        · skip
          refine wp_lt (fun hc13 => ?_) (fun hc13 => ?_)
          · skip
            refine wp_lt (fun hc14 => ?_) (fun hc14 => ?_)
            · skip
              exact wp_some ⟨hI, rfl⟩
            · skip
              refine wp_lt (fun hc15 => ?_) (fun hc15 => ?_)
              · skip
                exact wp_some ⟨hI, rfl⟩
              · skip
                refine wp_bind (tc_X6_isFull (ko_2_8 (IC_isle hI)) hI) (fun q10 hq16 => ?_)
                refine wp_b (fun hb17 => ?_) (fun hb17 => ?_)
                · skip
                  refine wp_bind (tc_X2_addWish (IC_isle hI) hR hR1 hI) (fun q12 hq18 => ?_)
                  obtain ⟨h19, h20⟩ := hq18
                  refine wp_bif (beq_k (IC_isle h19)) ?_
                  exact wp_some ⟨h19, h20⟩
                · skip
                  exact wp_some ⟨hI, rfl⟩
          · skip
            exact wp_some ⟨hI, rfl⟩
theorem tc_X11_round {P : Nat → Nat → Option Int} {b : Nat} {p0 : Int32} {p1 : Int32} {S : cT} (hk_b : cK b = 9) (hI : IC P S) : wp (fc_X11_round b p0 p1 S) (fun w => (IC P w.2) ∧ (w.2.2.2 = S.2.2)) := by
  unfold fc_X11_round
  obtain ⟨m_2, e_m2⟩ : ∃ x : Int32, x = (-2) := ⟨_, rfl⟩
  try rw [← e_m2]
  have l_m2 : m_2.toInt = -2 := by rw [e_m2]; decide
  obtain ⟨m_1, e_m1⟩ : ∃ x : Int32, x = (-1) := ⟨_, rfl⟩
  try rw [← e_m1]
  have l_m1 : m_1.toInt = -1 := by rw [e_m1]; decide
  have l_0 : (0 : Int32).toInt = 0 := by decide
  have l_1 : (1 : Int32).toInt = 1 := by decide
  have l_16 : (16 : Int32).toInt = 16 := by decide
  refine wp_bif (beq_k (IC_isle hI)) ?_
  have c1 := ic_2_9 hI (IC_isle hI)
  refine wp_eq_lo (by omega) (fun hc2 => ?_) (fun hc2 => ?_)
  · skip
    exact wp_some ⟨hI, rfl⟩
  · skip
    refine wp_lt (fun hc3 => ?_) (fun hc3 => ?_)
    · skip
      exact wp_some ⟨hI, rfl⟩
    · skip
      refine wp_lt (fun hc4 => ?_) (fun hc4 => ?_)
      · skip
        exact wp_some ⟨hI, rfl⟩
      · skip
        refine wp_lt (fun hc5 => ?_) (fun hc5 => ?_)
        · skip
          exact wp_some ⟨hI, rfl⟩
        · skip
          refine wp_lt (fun hc6 => ?_) (fun hc6 => ?_)
          · skip
            refine wp_bind (tc_X5_plan (ko_9_106 hk_b) (IC_isle hI) hI) (fun q7 hq7 => ?_)
            obtain ⟨h8, h9⟩ := hq7
            refine wp_eq_lo (by omega) (fun hc10 => ?_) (fun hc10 => ?_)
            · skip
              exact wp_some ⟨h8, h9⟩
            · skip
              refine wp_bif (inb_of (by omega) (by omega)) ?_
              refine wp_letv (fun v9 ev9 => ?_)
              exact wp_some ⟨h8, h9⟩
          · skip
            exact wp_some ⟨hI, rfl⟩
theorem tc_X11_view {P : Nat → Nat → Option Int} {b : Nat} {p0 : Int32} {p1 : Int32} {S : cT} (hk_b : cK b = 9) (hR : P (S.2.2.1 + 10) 3 = none) (hR1 : ∀ j, P (S.2.2.1 + 10 + 1) j = none) (hI : IC P S) : wp (fc_X11_view b p0 p1 S) (fun w => (IC P w.2) ∧ (w.2.2.2 = S.2.2)) := by
  unfold fc_X11_view
  obtain ⟨m_2, e_m2⟩ : ∃ x : Int32, x = (-2) := ⟨_, rfl⟩
  try rw [← e_m2]
  have l_m2 : m_2.toInt = -2 := by rw [e_m2]; decide
  obtain ⟨m_1, e_m1⟩ : ∃ x : Int32, x = (-1) := ⟨_, rfl⟩
  try rw [← e_m1]
  have l_m1 : m_1.toInt = -1 := by rw [e_m1]; decide
  have l_0 : (0 : Int32).toInt = 0 := by decide
  refine wp_eqn (fun hc1 => ?_) ?_
  · skip
    refine wp_bif (beq_k (IC_isle hI)) ?_
    refine wp_bind (tc_X6_cutTo (ko_2_10 (IC_isle hI)) hR hI) (fun q12 hq2 => ?_)
    obtain ⟨h3, h4⟩ := hq2
    exact wp_some ⟨h3, h4⟩
  · skip
    refine wp_eqn (fun hc5 => ?_) ?_
    · skip
      exact wp_some ⟨hI, rfl⟩
    · skip
      refine wp_bif (beq_k (IC_isle hI)) ?_
      refine wp_bind (tc_X2_isFace (IC_isle hI) hI) (fun q4 hq6 => ?_)
      refine wp_b (fun hb7 => ?_) (fun hb7 => ?_)
      · skip
        exact wp_some ⟨hI, rfl⟩
      · skip
        refine wp_eqn (fun hc8 => ?_) ?_
        · skip
          refine wp_bind (tc_X6_isFull (ko_2_10 (IC_isle hI)) hI) (fun q7 hq9 => ?_)
          refine wp_b (fun hb10 => ?_) (fun hb10 => ?_)
          · skip
            refine wp_bind (tc_X2_addView (IC_isle hI) hR hR1 hI) (fun q9 hq11 => ?_)
            obtain ⟨h12, h13⟩ := hq11
            refine wp_bif (beq_k (IC_isle h12)) ?_
            exact wp_some ⟨h12, h13⟩
          · skip
            exact wp_some ⟨hI, rfl⟩
        · skip
          exact wp_some ⟨hI, rfl⟩
theorem tc_X11_fits {P : Nat → Nat → Option Int} {b : Nat} {p0 : Int32} {S : cT} (hk_b : cK b = 9) (hI : IC P S) : wp (fc_X11_fits b p0 S) (fun w => True) := by
  unfold fc_X11_fits
  refine wp_bif (beq_k (IC_isle hI)) ?_
  refine wp_bind (tc_X6_has (ko_2_10 (IC_isle hI)) hI) (fun q2 hq1 => ?_)
  have h2 := hq1
  refine wp_b (fun hb3 => ?_) (fun hb3 => ?_)
  · skip
    exact wp_some trivial
  · skip
    obtain ⟨k4, k5, k6⟩ := h2 hb3
    refine wp_bind (tc_X2_peopleFitting (IC_isle hI) hI) (fun q4 hq7 => ?_)
    exact wp_some trivial
theorem tc_X11_views {P : Nat → Nat → Option Int} {b : Nat} {p0 : Int32} {S : cT} (hk_b : cK b = 9) (hI : IC P S) : wp (fc_X11_views b p0 S) (fun w => (IC P w.2) ∧ (w.2.2.2 = S.2.2)) := by
  unfold fc_X11_views
  obtain ⟨m_1, e_m1⟩ : ∃ x : Int32, x = (-1) := ⟨_, rfl⟩
  try rw [← e_m1]
  have l_m1 : m_1.toInt = -1 := by rw [e_m1]; decide
  have l_0 : (0 : Int32).toInt = 0 := by decide
  have l_1 : (1 : Int32).toInt = 1 := by decide
  have l_2 : (2 : Int32).toInt = 2 := by decide
  refine wp_bif (beq_k (IC_isle hI)) ?_
  have c1 := ic_2_9 hI (IC_isle hI)
  refine wp_eq_lo (by omega) (fun hc2 => ?_) (fun hc2 => ?_)
  · skip
    exact wp_some ⟨hI, rfl⟩
  · skip
    refine wp_eqn (fun hc3 => ?_) ?_
    · skip
      refine wp_bind (tc_X0_fewestFor (ko_9_110 hk_b) (IC_isle hI) hI) (fun q4 hq4 => ?_)
      obtain ⟨h5, h6⟩ := hq4
      exact wp_some ⟨h5, h6⟩
    · skip
      refine wp_eqn (fun hc7 => ?_) ?_
      · skip
        refine wp_bind (tc_X2_mostViewsOfOne (IC_isle hI) hI) (fun q6 hq8 => ?_)
        refine wp_bind (tc_X2_sworn (IC_isle hI) hI) (fun q7 hq9 => ?_)
        exact wp_some ⟨hI, rfl⟩
      · skip
        refine wp_eqn (fun hc10 => ?_) ?_
        · skip
          refine wp_bind (tc_X2_mostViewsOfOne (IC_isle hI) hI) (fun q9 hq11 => ?_)
          exact wp_some ⟨hI, rfl⟩
        · skip
          exact wp_some ⟨hI, rfl⟩
theorem tc_X11_drawSlips_L5 {P : Nat → Nat → Option Int} {k1 : Nat} {k2 : Int32} (hk_k1 : cK k1 = 2) (hX : P k1 14 = none)  : ∀ (N : Nat) (a3 : Int32) (a4 : Int32) (S : cT), 0 ≤ a4.toInt → a4.toInt ≤ 6 → IC P S → 6 - a4.toInt < (N : Int) → wp (fc_X11_drawSlips_L5 k1 k2 N a3 a4 S) (fun w => (0 ≤ (w.2.1).toInt) ∧ ((w.2.1).toInt ≤ 6) ∧ (IC P w.2.2) ∧ (w.2.2.2.2 = S.2.2)) := by
  intro N
  induction N with
  | zero =>
    intro a3 a4 S vl_a4 vu_a4 hI hm
    exfalso; omega
  | succ N ih =>
    intro a3 a4 S vl_a4 vu_a4 hI hm
    rw [fc_X11_drawSlips_L5]
    have l_1 : (1 : Int32).toInt = 1 := by decide
    have l_100 : (100 : Int32).toInt = 100 := by decide
    have c1 := ic_2_8 hI hk_k1
    refine wp_le (fun hc2 => ?_) (fun hc2 => ?_)
    · skip
      exact wp_some ⟨(by first | omega | (dsimp only; omega)), (by first | omega | (dsimp only; omega)), hI, rfl⟩
    · skip
      refine wp_bind (tc_X2_nextDraw hk_k1 hX hI) (fun q2 hq3 => ?_)
      obtain ⟨h4, h5⟩ := hq3
      refine wp_dz (by decide) ?_
      refine wp_le (fun hc6 => ?_) (fun hc6 => ?_)
      · skip
        have t7 : (a4 + (1 : Int32) : Int32).toInt = (a4).toInt + ((1 : Int32)).toInt := tA (by omega) (by omega)
        have zz8 := (ih a3 (a4 + (1 : Int32)) q2.2 (by omega) (by omega) h4 (by omega))
        exact wp_mono zz8 (fun w hw => ⟨hw.1, hw.2.1, hw.2.2.1, hw.2.2.2.trans h5⟩)
      · skip
        have t9 : (a4 + (1 : Int32) : Int32).toInt = (a4).toInt + ((1 : Int32)).toInt := tA (by omega) (by omega)
        have zz10 := (ih (a3 ||| ((1 : Int32) <<< (a4 &&& (31 : Int32)))) (a4 + (1 : Int32)) q2.2 (by omega) (by omega) h4 (by omega))
        exact wp_mono zz10 (fun w hw => ⟨hw.1, hw.2.1, hw.2.2.1, hw.2.2.2.trans h5⟩)
theorem tc_X11_drawSlips {P : Nat → Nat → Option Int} {b : Nat} {p0 : Nat} {p1 : Int32} {S : cT} (hk_b : cK b = 9) (hk_p0 : cK p0 = 2) (hX : P p0 14 = none) (hI : IC P S) : wp (fc_X11_drawSlips b p0 p1 S) (fun w => (IC P w.2) ∧ (w.2.2.2 = S.2.2)) := by
  unfold fc_X11_drawSlips
  have l_0 : (0 : Int32).toInt = 0 := by decide
  have fu : (FU : Int) = 1000000 := rfl
  refine wp_bind (tc_X11_drawSlips_L5 hk_p0 hX FU (0 : Int32) (0 : Int32) S (by omega) (by omega) hI (by omega)) (fun w5 hq1 => ?_)
  obtain ⟨h2, h3, h4, h5⟩ := hq1
  exact wp_some ⟨h4, h5⟩
theorem tc_X11_drawHour {P : Nat → Nat → Option Int} {b : Nat} {p0 : Nat} {p1 : Nat} {p2 : Int32} {S : cT} (hk_b : cK b = 9) (hk_p0 : cK p0 = 2) (hk_p1 : cK p1 = 6) (hX : P p0 14 = none) (hI : IC P S) : wp (fc_X11_drawHour b p0 p1 p2 S) (fun w => (IC P w) ∧ (w.2.2 = S.2.2)) := by
  unfold fc_X11_drawHour
  have l_0 : (0 : Int32).toInt = 0 := by decide
  have l_1 : (1 : Int32).toInt = 1 := by decide
  refine wp_bind (Q := fun w => (1 ≤ (w).toInt) ∧ ((w).toInt ≤ 8)) ?_ (fun w1 hq1 => ?_)
  · skip
    have c2 := ic_2_9 hI hk_p0
    refine wp_le (fun hc3 => ?_) (fun hc3 => ?_)
    · skip
      exact wp_some ⟨(by first | omega | (dsimp only; omega)), (by first | omega | (dsimp only; omega))⟩
    · skip
      exact wp_some ⟨(by first | omega | (dsimp only; omega)), (by first | omega | (dsimp only; omega))⟩
  · skip
    obtain ⟨h4, h5⟩ := hq1
    refine wp_bind (tc_X2_nextDraw hk_p0 hX hI) (fun q3 hq6 => ?_)
    obtain ⟨h7, h8⟩ := hq6
    refine wp_dz (by omega) ?_
    refine wp_bind (tc_X2_nextDraw hk_p0 hX h7) (fun q5 hq9 => ?_)
    obtain ⟨h10, h11⟩ := hq9
    refine wp_dz (by omega) ?_
    refine wp_bind (tc_X6_isFull (ko_2_6 hk_p0) h10) (fun q7 hq12 => ?_)
    refine wp_bind (Q := fun w => (IC P w) ∧ (w.2.2 = S.2.2)) ?_ (fun w8 hq13 => ?_)
    · skip
      refine wp_b (fun hb14 => ?_) (fun hb14 => ?_)
      · skip
        refine wp_eqn (fun hc15 => ?_) ?_
        · skip
          refine wp_eqn (fun hc16 => ?_) ?_
          · skip
            refine wp_bind (tc_X2_addLook hk_p0 h10) (fun q12 hq17 => ?_)
            obtain ⟨h18, h19⟩ := hq17
            exact wp_some ⟨h18, (h19.trans (h11.trans h8))⟩
          · skip
            exact wp_some ⟨h10, (h11.trans h8)⟩
        · skip
          refine wp_bind (tc_X2_faceOf hk_p0 h10) (fun q13 hq20 => ?_)
          refine wp_bind (tc_X4_told (ko_9_101 hk_b) hk_p0 hk_p1 h10) (fun q14 hq21 => ?_)
          obtain ⟨h22, h23⟩ := hq21
          refine wp_bind (tc_X11_drawSlips hk_b hk_p0 hX h22) (fun q15 hq24 => ?_)
          obtain ⟨h25, h26⟩ := hq24
          refine wp_bind (tc_X2_addTelling hk_p0 h25) (fun q16 hq27 => ?_)
          obtain ⟨h28, h29⟩ := hq27
          exact wp_some ⟨h28, (h29.trans (h26.trans (h23.trans (h11.trans h8))))⟩
      · skip
        exact wp_some ⟨h10, (h11.trans h8)⟩
    · skip
      obtain ⟨h30, h31⟩ := hq13
      refine wp_letv (fun S17 eS17 => ?_)
      have hIS17 : IC P S17 := by rw [eS17]; exact (iw_2_12 h30 hk_p0)
      have hpS17 : S17.2.2 = S.2.2 := by rw [eS17]; exact h31
      exact wp_some ⟨hIS17, hpS17⟩
theorem tc_X11_peopleWhoKnow_L4 {P : Nat → Nat → Option Int} {k0 : Nat} {k1 : Nat} (hk_k0 : cK k0 = 9) (hk_k1 : cK k1 = 2)  : ∀ (N : Nat) (a2 : Int32) (a3 : Int32) (S : cT), 0 ≤ a3.toInt → a3.toInt ≤ 8 → IC P S → 8 - a3.toInt < (N : Int) → wp (fc_X11_peopleWhoKnow_L4 k0 k1 N a2 a3 S) (fun w => (0 ≤ (w.2.1).toInt) ∧ ((w.2.1).toInt ≤ 8) ∧ (IC P w.2.2) ∧ (w.2.2.2.2 = S.2.2)) := by
  intro N
  induction N with
  | zero =>
    intro a2 a3 S vl_a3 vu_a3 hI hm
    exfalso; omega
  | succ N ih =>
    intro a2 a3 S vl_a3 vu_a3 hI hm
    rw [fc_X11_peopleWhoKnow_L4]
    have l_1 : (1 : Int32).toInt = 1 := by decide
    have c1 := ic_2_9 hI hk_k1
    refine wp_le (fun hc2 => ?_) (fun hc2 => ?_)
    · skip
      exact wp_some ⟨(by first | omega | (dsimp only; omega)), (by first | omega | (dsimp only; omega)), hI, rfl⟩
    · skip
      refine wp_bind (tc_X11_inForce hk_k0 hI) (fun q2 hq3 => ?_)
      have h4 := hq3
      refine wp_bif (beq_k h4) ?_
      refine wp_bind (tc_X4_believed (ko_9_101 hk_k0) hk_k1 h4 hI) (fun q4 hq5 => ?_)
      obtain ⟨h6, h7⟩ := hq5
      refine wp_bind (tc_X2_faceOf hk_k1 h6) (fun q5 hq8 => ?_)
      refine wp_eqn (fun hc9 => ?_) ?_
      · skip
        have t10 : (a3 + (1 : Int32) : Int32).toInt = (a3).toInt + ((1 : Int32)).toInt := tA (by omega) (by omega)
        have zz11 := (ih (a2 + (1 : Int32)) (a3 + (1 : Int32)) q4.2 (by omega) (by omega) h6 (by omega))
        exact wp_mono zz11 (fun w hw => ⟨hw.1, hw.2.1, hw.2.2.1, hw.2.2.2.trans h7⟩)
      · skip
        have t12 : (a3 + (1 : Int32) : Int32).toInt = (a3).toInt + ((1 : Int32)).toInt := tA (by omega) (by omega)
        have zz13 := (ih a2 (a3 + (1 : Int32)) q4.2 (by omega) (by omega) h6 (by omega))
        exact wp_mono zz13 (fun w hw => ⟨hw.1, hw.2.1, hw.2.2.1, hw.2.2.2.trans h7⟩)
theorem tc_X11_peopleWhoKnow {P : Nat → Nat → Option Int} {b : Nat} {p0 : Nat} {S : cT} (hk_b : cK b = 9) (hk_p0 : cK p0 = 2) (hI : IC P S) : wp (fc_X11_peopleWhoKnow b p0 S) (fun w => (IC P w.2) ∧ (w.2.2.2 = S.2.2)) := by
  unfold fc_X11_peopleWhoKnow
  have l_0 : (0 : Int32).toInt = 0 := by decide
  have fu : (FU : Int) = 1000000 := rfl
  refine wp_bind (tc_X11_peopleWhoKnow_L4 hk_b hk_p0 FU (0 : Int32) (0 : Int32) S (by omega) (by omega) hI (by omega)) (fun w7 hq1 => ?_)
  obtain ⟨h2, h3, h4, h5⟩ := hq1
  exact wp_some ⟨h4, h5⟩
theorem tc_X11_marksOpen_L4 {P : Nat → Nat → Option Int} {k0 : Nat} {k1 : Nat} (hk_k0 : cK k0 = 9) (hk_k1 : cK k1 = 2)  : ∀ (N : Nat) (a2 : Int32) (a3 : Int32) (S : cT), 0 ≤ a3.toInt → a3.toInt ≤ 8 → IC P S → 8 - a3.toInt < (N : Int) → wp (fc_X11_marksOpen_L4 k0 k1 N a2 a3 S) (fun w => (0 ≤ (w.2.1).toInt) ∧ ((w.2.1).toInt ≤ 8) ∧ (IC P w.2.2) ∧ (w.2.2.2.2 = S.2.2)) := by
  intro N
  induction N with
  | zero =>
    intro a2 a3 S vl_a3 vu_a3 hI hm
    exfalso; omega
  | succ N ih =>
    intro a2 a3 S vl_a3 vu_a3 hI hm
    rw [fc_X11_marksOpen_L4]
    have l_1 : (1 : Int32).toInt = 1 := by decide
    have c1 := ic_2_9 hI hk_k1
    refine wp_le (fun hc2 => ?_) (fun hc2 => ?_)
    · skip
      exact wp_some ⟨(by first | omega | (dsimp only; omega)), (by first | omega | (dsimp only; omega)), hI, rfl⟩
    · skip
      refine wp_bind (tc_X11_inForce hk_k0 hI) (fun q2 hq3 => ?_)
      have h4 := hq3
      refine wp_bif (beq_k h4) ?_
      refine wp_bind (tc_X4_open (ko_9_101 hk_k0) hk_k1 h4 hI) (fun q4 hq5 => ?_)
      obtain ⟨h6, h7⟩ := hq5
      refine wp_bind (tc_J6_bitCount_0f7a4 ) (fun q5 hq8 => ?_)
      have t9 : (a3 + (1 : Int32) : Int32).toInt = (a3).toInt + ((1 : Int32)).toInt := tA (by omega) (by omega)
      have zz10 := (ih (a2 + q5) (a3 + (1 : Int32)) q4.2 (by omega) (by omega) h6 (by omega))
      exact wp_mono zz10 (fun w hw => ⟨hw.1, hw.2.1, hw.2.2.1, hw.2.2.2.trans h7⟩)
theorem tc_X11_marksOpen {P : Nat → Nat → Option Int} {b : Nat} {p0 : Nat} {S : cT} (hk_b : cK b = 9) (hk_p0 : cK p0 = 2) (hI : IC P S) : wp (fc_X11_marksOpen b p0 S) (fun w => (IC P w.2) ∧ (w.2.2.2 = S.2.2)) := by
  unfold fc_X11_marksOpen
  have l_0 : (0 : Int32).toInt = 0 := by decide
  have fu : (FU : Int) = 1000000 := rfl
  refine wp_bind (tc_X11_marksOpen_L4 hk_b hk_p0 FU (0 : Int32) (0 : Int32) S (by omega) (by omega) hI (by omega)) (fun w6 hq1 => ?_)
  obtain ⟨h2, h3, h4, h5⟩ := hq1
  exact wp_some ⟨h4, h5⟩
theorem tc_X11_drawn_L127 {P : Nat → Nat → Option Int} {k0 : Nat} {k1 : Int32} {k3 : Int32} {k4 : Int32} (hk_k0 : cK k0 = 9) (hl_k3 : 1 ≤ k3.toInt) (hu_k3 : k3.toInt ≤ 60)  : ∀ (N : Nat) (a8 : Int32) (S : cT), 0 ≤ a8.toInt → a8.toInt ≤ 60 → IC P S → P S.2.2.2 14 = none → 60 - a8.toInt < (N : Int) → wp (fc_X11_drawn_L127 k0 k1 k3 k4 N a8 S) (fun w => (0 ≤ (w.1).toInt) ∧ ((w.1).toInt ≤ 60) ∧ (IC P w.2) ∧ (w.2.2.2 = S.2.2)) := by
  intro N
  induction N with
  | zero =>
    intro a8 S vl_a8 vu_a8 hI xi_0 hm
    exfalso; omega
  | succ N ih =>
    intro a8 S vl_a8 vu_a8 hI xi_0 hm
    rw [fc_X11_drawn_L127]
    have l_1 : (1 : Int32).toInt = 1 := by decide
    refine wp_le (fun hc1 => ?_) (fun hc1 => ?_)
    · skip
      exact wp_some ⟨(by first | omega | (dsimp only; omega)), (by first | omega | (dsimp only; omega)), hI, rfl⟩
    · skip
      refine wp_bif (beq_k (IC_spare hI)) ?_
      refine wp_bind (tc_X11_ruleAt hk_k0 hI) (fun q24 hq2 => ?_)
      have h3 := hq2
      refine wp_bif (beq_k h3) ?_
      refine wp_bind (tc_X11_drawHour hk_k0 (IC_spare hI) h3 xi_0 hI) (fun q26 hq4 => ?_)
      obtain ⟨h5, h6⟩ := hq4
      have t7 : (a8 + (1 : Int32) : Int32).toInt = (a8).toInt + ((1 : Int32)).toInt := tA (by omega) (by omega)
      have zz8 := (ih (a8 + (1 : Int32)) q26 (by omega) (by omega) h5 (by rw [h6]; exact xi_0) (by omega))
      exact wp_mono zz8 (fun w hw => ⟨hw.1, hw.2.1, hw.2.2.1, hw.2.2.2.trans h6⟩)
theorem tc_X11_drawn_L84 {P : Nat → Nat → Option Int} {k0 : Nat} {k1 : Int32} {k2 : Int32} {k3 : Int32} {k4 : Int32} {k5 : Int32} (hk_k0 : cK k0 = 9) (hl_k2 : 1 ≤ k2.toInt) (hu_k2 : k2.toInt ≤ 20) (hl_k3 : 1 ≤ k3.toInt) (hu_k3 : k3.toInt ≤ 60)  : ∀ (N : Nat) (a6 : Int32) (a7 : Int32) (S : cT), 0 ≤ a7.toInt → a7.toInt ≤ 20 → IC P S → P S.2.2.2 14 = none → 20 - a7.toInt < (N : Int) → wp (fc_X11_drawn_L84 k0 k1 k2 k3 k4 k5 N a6 a7 S) (fun w => (0 ≤ (w.2.1).toInt) ∧ ((w.2.1).toInt ≤ 20) ∧ (IC P w.2.2) ∧ (w.2.2.2.2 = S.2.2)) := by
  intro N
  induction N with
  | zero =>
    intro a6 a7 S vl_a7 vu_a7 hI xi_0 hm
    exfalso; omega
  | succ N ih =>
    intro a6 a7 S vl_a7 vu_a7 hI xi_0 hm
    rw [fc_X11_drawn_L84]
    have l_0 : (0 : Int32).toInt = 0 := by decide
    have l_1 : (1 : Int32).toInt = 1 := by decide
    have fu : (FU : Int) = 1000000 := rfl
    refine wp_le (fun hc1 => ?_) (fun hc1 => ?_)
    · skip
      exact wp_some ⟨(by first | omega | (dsimp only; omega)), (by first | omega | (dsimp only; omega)), hI, rfl⟩
    · skip
      refine wp_bif (beq_k (IC_spare hI)) ?_
      refine wp_bif (beq_k (IC_isle hI)) ?_
      refine wp_letv (fun S18 eS18 => ?_)
      have hIS18 : IC P S18 := by rw [eS18]; exact (iw_2_12 hI (IC_spare hI))
      have hpS18 : S18.2.2 = S.2.2 := by rw [eS18]; exact rfl
      refine wp_bif (beq_k (IC_spare hIS18)) ?_
      refine wp_bif (beq_k (IC_isle hIS18)) ?_
      refine wp_bind (tc_X6_cutTo (ko_2_6 (IC_spare hIS18)) (np_26 hIS18 (IC_spare hIS18)) hIS18) (fun q21 hq2 => ?_)
      obtain ⟨h3, h4⟩ := hq2
      refine wp_bind (tc_X11_drawn_L127 hk_k0 (by omega) (by omega) FU (0 : Int32) q21 (by omega) (by omega) h3 (by rw [(h4.trans hpS18)]; exact xi_0) (by omega)) (fun w27 hq5 => ?_)
      obtain ⟨h6, h7, h8, h9⟩ := hq5
      refine wp_eqn (fun hc10 => ?_) ?_
      · skip
        refine wp_bif (beq_k (IC_spare h8)) ?_
        refine wp_bind (tc_X11_peopleWhoKnow hk_k0 (IC_spare h8) h8) (fun q32 hq11 => ?_)
        obtain ⟨h12, h13⟩ := hq11
        have t14 : (a7 + (1 : Int32) : Int32).toInt = (a7).toInt + ((1 : Int32)).toInt := tA (by omega) (by omega)
        have zz15 := (ih (a6 + q32.1) (a7 + (1 : Int32)) q32.2 (by omega) (by omega) h12 (by rw [(h13.trans (h9.trans (h4.trans hpS18)))]; exact xi_0) (by omega))
        exact wp_mono zz15 (fun w hw => ⟨hw.1, hw.2.1, hw.2.2.1, hw.2.2.2.trans (h13.trans (h9.trans (h4.trans hpS18)))⟩)
      · skip
        refine wp_bif (beq_k (IC_spare h8)) ?_
        refine wp_bind (tc_X11_marksOpen hk_k0 (IC_spare h8) h8) (fun q30 hq16 => ?_)
        obtain ⟨h17, h18⟩ := hq16
        have t19 : (a7 + (1 : Int32) : Int32).toInt = (a7).toInt + ((1 : Int32)).toInt := tA (by omega) (by omega)
        have zz20 := (ih (a6 + q30.1) (a7 + (1 : Int32)) q30.2 (by omega) (by omega) h17 (by rw [(h18.trans (h9.trans (h4.trans hpS18)))]; exact xi_0) (by omega))
        exact wp_mono zz20 (fun w hw => ⟨hw.1, hw.2.1, hw.2.2.1, hw.2.2.2.trans (h18.trans (h9.trans (h4.trans hpS18)))⟩)
theorem tc_X11_drawn {P : Nat → Nat → Option Int} {b : Nat} {p0 p1 p2 p3 p4 : Int32} {S : cT} (hk_b : cK b = 9) (hN : NP P S.2.2.2) (hI : IC P S) : wp (fc_X11_drawn b p0 p1 p2 p3 p4 S) (fun w => (IC P w.2) ∧ (w.2.2.2 = S.2.2)) := by
  unfold fc_X11_drawn
  have hX : P S.2.2.2 14 = none := hN 0 14 (by decide)
  have l_0 : (0 : Int32).toInt = 0 := by decide
  have l_1 : (1 : Int32).toInt = 1 := by decide
  have l_20 : (20 : Int32).toInt = 20 := by decide
  have l_60 : (60 : Int32).toInt = 60 := by decide
  have fu : (FU : Int) = 1000000 := rfl
  refine wp_bind (tc_X11_isRuleOrNone hk_b hI) (fun q1 _ => ?_)
  refine wp_b (fun _ => wp_some ⟨hI, rfl⟩) (fun _ => ?_)
  refine wp_bif (beq_k (IC_isle hI)) ?_
  refine wp_eqn (fun _ => wp_some ⟨hI, rfl⟩) ?_
  refine wp_lt (fun _ => wp_some ⟨hI, rfl⟩) (fun _ => ?_)
  refine wp_le (fun _ => ?_) (fun _ => wp_some ⟨hI, rfl⟩)
  refine wp_lt (fun _ => wp_some ⟨hI, rfl⟩) (fun a1 => ?_)
  refine wp_lt (fun _ => wp_some ⟨hI, rfl⟩) (fun a2 => ?_)
  refine wp_lt (fun _ => wp_some ⟨hI, rfl⟩) (fun a3 => ?_)
  refine wp_lt (fun _ => wp_some ⟨hI, rfl⟩) (fun a4 => ?_)
  refine wp_lt (fun _ => wp_some ⟨hI, rfl⟩) (fun _ => ?_)
  refine wp_le (fun _ => ?_) (fun _ => wp_some ⟨hI, rfl⟩)
  refine wp_bif (beq_k (IC_spare hI)) ?_
  have hne : S.2.2.1 ≠ S.2.2.2 := by
    rcases hI.2.2 with ⟨x, y⟩ | ⟨x, y⟩ <;> rw [x, y] <;> decide
  refine wp_bind (tc_X2_copyFrom (IC_spare hI) (IC_isle hI) hN hne hI) (fun q14 h14 => ?_)
  refine wp_bind (tc_X11_drawn_L84 hk_b (by omega) (by omega) (by omega) (by omega) FU 0 0 q14 (by omega) (by omega) h14.1 (by rw [h14.2.1]; exact hX) (by omega)) (fun w33 h33 => ?_)
  obtain ⟨-, -, i33, p33⟩ := h33
  exact wp_some ⟨i33, p33.trans h14.2.1⟩
theorem tc_X11_count {P : Nat → Nat → Option Int} {b : Nat} {p0 : Int32} {S : cT} (hk_b : cK b = 9) (hI : IC P S) : wp (fc_X11_count b p0 S) (fun w => True) := by
  unfold fc_X11_count
  have l_0 : (0 : Int32).toInt = 0 := by decide
  have l_1 : (1 : Int32).toInt = 1 := by decide
  have l_10 : (10 : Int32).toInt = 10 := by decide
  have l_11 : (11 : Int32).toInt = 11 := by decide
  have l_2 : (2 : Int32).toInt = 2 := by decide
  have l_3 : (3 : Int32).toInt = 3 := by decide
  have l_4 : (4 : Int32).toInt = 4 := by decide
  have l_5 : (5 : Int32).toInt = 5 := by decide
  have l_6 : (6 : Int32).toInt = 6 := by decide
  have l_7 : (7 : Int32).toInt = 7 := by decide
  have l_8 : (8 : Int32).toInt = 8 := by decide
  have l_9 : (9 : Int32).toInt = 9 := by decide
  refine wp_eqn (fun hc1 => ?_) ?_
  · skip
    refine wp_bif (beq_k (IC_isle hI)) ?_
    exact wp_some trivial
  · skip
    refine wp_eqn (fun hc2 => ?_) ?_
    · skip
      refine wp_bif (beq_k (IC_isle hI)) ?_
      exact wp_some trivial
    · skip
      refine wp_eqn (fun hc3 => ?_) ?_
      · skip
        exact wp_some trivial
      · skip
        refine wp_eqn (fun hc4 => ?_) ?_
        · skip
          refine wp_bif (beq_k (IC_isle hI)) ?_
          exact wp_some trivial
        · skip
          refine wp_eqn (fun hc5 => ?_) ?_
          · skip
            refine wp_bif (beq_k (IC_isle hI)) ?_
            exact wp_some trivial
          · skip
            refine wp_eqn (fun hc6 => ?_) ?_
            · skip
              refine wp_bif (beq_k (IC_isle hI)) ?_
              have c7 := ic_2_9 hI (IC_isle hI)
              refine wp_eq_lo (by omega) (fun hc8 => ?_) (fun hc8 => ?_)
              · skip
                exact wp_some trivial
              · skip
                exact wp_some trivial
            · skip
              refine wp_eqn (fun hc9 => ?_) ?_
              · skip
                refine wp_bif (beq_k (IC_isle hI)) ?_
                exact wp_some trivial
              · skip
                refine wp_eqn (fun hc10 => ?_) ?_
                · skip
                  refine wp_bif (beq_k (IC_isle hI)) ?_
                  exact wp_some trivial
                · skip
                  refine wp_eqn (fun hc11 => ?_) ?_
                  · skip
                    refine wp_bif (beq_k (IC_isle hI)) ?_
                    exact wp_some trivial
                  · skip
                    refine wp_eqn (fun hc12 => ?_) ?_
                    · skip
                      exact wp_some trivial
                    · skip
                      refine wp_eqn (fun hc13 => ?_) ?_
                      · skip
                        refine wp_bif (beq_k (IC_isle hI)) ?_
                        exact wp_some trivial
                      · skip
                        refine wp_eqn (fun hc14 => ?_) ?_
                        · skip
                          exact wp_some trivial
                        · skip
                          exact wp_some trivial
