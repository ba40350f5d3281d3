/-! ===== every method of the class answers (by program) 2 ===== -/
theorem tc_X2_lookers_L4 {P : Nat → Nat → Option Int} {k0 : Nat} {S : cT} (hk_k0 : cK k0 = 2) (hI : IC P S) : ∀ (N : Nat) (a1 : Int32) (a2 : Int32), 0 ≤ a2.toInt → a2.toInt ≤ 40 → 40 - a2.toInt < (N : Int) → wp (fc_X2_lookers_L4 k0 S N a1 a2) (fun w => (0 ≤ (w.2).toInt) ∧ ((w.2).toInt ≤ 40)) := by
  intro N
  induction N with
  | zero =>
    intro a1 a2 vl_a2 vu_a2 hm
    exfalso; omega
  | succ N ih =>
    intro a1 a2 vl_a2 vu_a2 hm
    rw [fc_X2_lookers_L4]
    have l_1 : (1 : Int32).toInt = 1 := by decide
    have c1 := ic_2_6_3 hI hk_k0
    refine wp_le (fun hc2 => ?_) (fun hc2 => ?_)
    · skip
      exact wp_some ⟨(by first | omega | (dsimp only; omega)), (by first | omega | (dsimp only; omega))⟩
    · skip
      refine wp_bind (tc_X2_isLook hk_k0 hI) (fun q2 hq3 => ?_)
      refine wp_b (fun hb4 => ?_) (fun hb4 => ?_)
      · skip
        have t5 : (a2 + (1 : Int32) : Int32).toInt = (a2).toInt + ((1 : Int32)).toInt := tA (by omega) (by omega)
        exact (ih a1 (a2 + (1 : Int32)) (by omega) (by omega) (by omega))
      · skip
        refine wp_bind (tc_X6_at (ko_2_6 hk_k0) hI) (fun q4 hq6 => ?_)
        have t7 : (a2 + (1 : Int32) : Int32).toInt = (a2).toInt + ((1 : Int32)).toInt := tA (by omega) (by omega)
        exact (ih (a1 ||| ((1 : Int32) <<< (q4 &&& (31 : Int32)))) (a2 + (1 : Int32)) (by omega) (by omega) (by omega))
theorem tc_X2_lookers {P : Nat → Nat → Option Int} {b : Nat} {S : cT} (hk_b : cK b = 2) (hI : IC P S) : wp (fc_X2_lookers b S) (fun w => True) := by
  unfold fc_X2_lookers
  have l_0 : (0 : Int32).toInt = 0 := by decide
  have fu : (FU : Int) = 1000000 := rfl
  refine wp_bind (tc_X2_lookers_L4 hk_b hI FU (0 : Int32) (0 : Int32) (by omega) (by omega) (by omega)) (fun w5 hq1 => ?_)
  obtain ⟨h2, h3⟩ := hq1
  exact wp_some trivial
theorem tc_X2_nextToLook_L2 {P : Nat → Nat → Option Int} {k0 : Nat} {k1 : Int32} {S : cT} (hk_k0 : cK k0 = 2) (hI : IC P S) : ∀ (N : Nat) (a2 : Int32), 0 ≤ a2.toInt → a2.toInt ≤ 8 → 8 - a2.toInt < (N : Int) → wp (fc_X2_nextToLook_L2 k0 k1 S N a2) (fun w => Sum.elim (fun w => (0 ≤ (w).toInt) ∧ ((w).toInt ≤ 8)) (fun w => True) w) := by
  intro N
  induction N with
  | zero =>
    intro a2 vl_a2 vu_a2 hm
    exfalso; omega
  | succ N ih =>
    intro a2 vl_a2 vu_a2 hm
    rw [fc_X2_nextToLook_L2]
    have l_0 : (0 : Int32).toInt = 0 := by decide
    have l_1 : (1 : Int32).toInt = 1 := by decide
    have c1 := ic_2_9 hI hk_k0
    refine wp_le (fun hc2 => ?_) (fun hc2 => ?_)
    · skip
      exact wp_some ⟨(by first | omega | (dsimp only; omega)), (by first | omega | (dsimp only; omega))⟩
    · skip
      refine wp_bind (tc_X2_hasBoat hk_k0 hI) (fun q2 hq3 => ?_)
      have h4 := hq3
      refine wp_b (fun hb5 => ?_) (fun hb5 => ?_)
      · skip
        have t6 : (a2 + (1 : Int32) : Int32).toInt = (a2).toInt + ((1 : Int32)).toInt := tA (by omega) (by omega)
        exact (ih (a2 + (1 : Int32)) (by omega) (by omega) (by omega))
      · skip
        obtain ⟨k7, k8, k9, k10⟩ := h4 hb5
        have t11 := and_i (k1 >>> (a2 &&& (31 : Int32))) (c := 1) l_1 (by decide)
        refine wp_eq_lo (by omega) (fun hc12 => ?_) (fun hc12 => ?_)
        · skip
          exact wp_some trivial
        · skip
          have t13 : (a2 + (1 : Int32) : Int32).toInt = (a2).toInt + ((1 : Int32)).toInt := tA (by omega) (by omega)
          exact (ih (a2 + (1 : Int32)) (by omega) (by omega) (by omega))
theorem tc_X2_nextToLook {P : Nat → Nat → Option Int} {b : Nat} {p0 : Int32} {S : cT} (hk_b : cK b = 2) (hI : IC P S) : wp (fc_X2_nextToLook b p0 S) (fun w => True) := by
  unfold fc_X2_nextToLook
  have l_0 : (0 : Int32).toInt = 0 := by decide
  have fu : (FU : Int) = 1000000 := rfl
  refine wp_bind (tc_X2_nextToLook_L2 hk_b hI FU (0 : Int32) (by omega) (by omega) (by omega)) (fun w5 hq1 => ?_)
  refine wp_sum hq1 (fun w5a hq2 => ?_) (fun w5b hq2 => ?_)
  · skip
    obtain ⟨h3, h4⟩ := hq2
    exact wp_some trivial
  · skip
    exact wp_some trivial
theorem tc_J6_bitCount_0f7a4 {p0 : Int32}   : wp (fc_J6_bitCount_0f7a4 p0) (fun w => True) := by
  unfold fc_J6_bitCount_0f7a4
  exact wp_some trivial
theorem tc_X2_leanOf_L4 {P : Nat → Nat → Option Int} {k0 : Nat} {k1 : Int32} {S : cT} (hk_k0 : cK k0 = 2) (hI : IC P S) : ∀ (N : Nat) (a2 : Int32) (a3 : Int32), 0 ≤ a3.toInt → a3.toInt ≤ 40 → 40 - a3.toInt < (N : Int) → wp (fc_X2_leanOf_L4 k0 k1 S N a2 a3) (fun w => (0 ≤ (w.2).toInt) ∧ ((w.2).toInt ≤ 40)) := by
  intro N
  induction N with
  | zero =>
    intro a2 a3 vl_a3 vu_a3 hm
    exfalso; omega
  | succ N ih =>
    intro a2 a3 vl_a3 vu_a3 hm
    rw [fc_X2_leanOf_L4]
    have l_1 : (1 : Int32).toInt = 1 := by decide
    have c1 := ic_2_6_3 hI hk_k0
    refine wp_le (fun hc2 => ?_) (fun hc2 => ?_)
    · skip
      exact wp_some ⟨(by first | omega | (dsimp only; omega)), (by first | omega | (dsimp only; omega))⟩
    · skip
      refine wp_bind (tc_X6_at (ko_2_6 hk_k0) hI) (fun q2 hq3 => ?_)
      refine wp_bind (tc_X6_at (ko_2_6 hk_k0) hI) (fun q3 hq4 => ?_)
      refine wp_eqn (fun hc5 => ?_) ?_
      · skip
        refine wp_eqn (fun hc6 => ?_) ?_
        · skip
          have t7 : (a3 + (1 : Int32) : Int32).toInt = (a3).toInt + ((1 : Int32)).toInt := tA (by omega) (by omega)
          exact (ih a2 (a3 + (1 : Int32)) (by omega) (by omega) (by omega))
        · skip
          refine wp_bind (tc_X6_at (ko_2_6 hk_k0) hI) (fun q6 hq8 => ?_)
          refine wp_bind (tc_X2_faceOf hk_k0 hI) (fun q7 hq9 => ?_)
          refine wp_bind (tc_J6_bitCount_0f7a4 ) (fun q8 hq10 => ?_)
          have t11 : (a3 + (1 : Int32) : Int32).toInt = (a3).toInt + ((1 : Int32)).toInt := tA (by omega) (by omega)
          exact (ih (a2 + ((S.1 k0 8) - ((2 : Int32) * q8))) (a3 + (1 : Int32)) (by omega) (by omega) (by omega))
      · skip
        have t12 : (a3 + (1 : Int32) : Int32).toInt = (a3).toInt + ((1 : Int32)).toInt := tA (by omega) (by omega)
        exact (ih a2 (a3 + (1 : Int32)) (by omega) (by omega) (by omega))
theorem tc_X2_leanOf {P : Nat → Nat → Option Int} {b : Nat} {p0 : Int32} {S : cT} (hk_b : cK b = 2) (hI : IC P S) : wp (fc_X2_leanOf b p0 S) (fun w => True) := by
  unfold fc_X2_leanOf
  have l_0 : (0 : Int32).toInt = 0 := by decide
  have fu : (FU : Int) = 1000000 := rfl
  refine wp_bind (tc_X2_leanOf_L4 hk_b hI FU (0 : Int32) (0 : Int32) (by omega) (by omega) (by omega)) (fun w9 hq1 => ?_)
  obtain ⟨h2, h3⟩ := hq1
  exact wp_some trivial
theorem tc_X2_flatteryOf_L4 {P : Nat → Nat → Option Int} {k0 : Nat} {k1 : Int32} {S : cT} (hk_k0 : cK k0 = 2) (hI : IC P S) : ∀ (N : Nat) (a2 : Int32) (a3 : Int32), 0 ≤ a3.toInt → a3.toInt ≤ 40 → 40 - a3.toInt < (N : Int) → wp (fc_X2_flatteryOf_L4 k0 k1 S N a2 a3) (fun w => (0 ≤ (w.2).toInt) ∧ ((w.2).toInt ≤ 40)) := by
  intro N
  induction N with
  | zero =>
    intro a2 a3 vl_a3 vu_a3 hm
    exfalso; omega
  | succ N ih =>
    intro a2 a3 vl_a3 vu_a3 hm
    rw [fc_X2_flatteryOf_L4]
    have l_1 : (1 : Int32).toInt = 1 := by decide
    have c1 := ic_2_6_3 hI hk_k0
    refine wp_le (fun hc2 => ?_) (fun hc2 => ?_)
    · skip
      exact wp_some ⟨(by first | omega | (dsimp only; omega)), (by first | omega | (dsimp only; omega))⟩
    · skip
      refine wp_bind (tc_X6_at (ko_2_6 hk_k0) hI) (fun q2 hq3 => ?_)
      refine wp_bind (tc_X6_at (ko_2_6 hk_k0) hI) (fun q3 hq4 => ?_)
      refine wp_eqn (fun hc5 => ?_) ?_
      · skip
        refine wp_bind (tc_X6_at (ko_2_6 hk_k0) hI) (fun q5 hq6 => ?_)
        refine wp_eqn (fun hc7 => ?_) ?_
        · skip
          refine wp_bind (tc_X6_at (ko_2_6 hk_k0) hI) (fun q7 hq8 => ?_)
          refine wp_bind (tc_X2_faceOf hk_k0 hI) (fun q8 hq9 => ?_)
          refine wp_bind (tc_J6_bitCount_0f7a4 ) (fun q9 hq10 => ?_)
          refine wp_bind (tc_J6_bitCount_0f7a4 ) (fun q10 hq11 => ?_)
          have t12 : (a3 + (1 : Int32) : Int32).toInt = (a3).toInt + ((1 : Int32)).toInt := tA (by omega) (by omega)
          exact (ih (a2 + (q9 - q10)) (a3 + (1 : Int32)) (by omega) (by omega) (by omega))
        · skip
          have t13 : (a3 + (1 : Int32) : Int32).toInt = (a3).toInt + ((1 : Int32)).toInt := tA (by omega) (by omega)
          exact (ih a2 (a3 + (1 : Int32)) (by omega) (by omega) (by omega))
      · skip
        have t14 : (a3 + (1 : Int32) : Int32).toInt = (a3).toInt + ((1 : Int32)).toInt := tA (by omega) (by omega)
        exact (ih a2 (a3 + (1 : Int32)) (by omega) (by omega) (by omega))
theorem tc_X2_flatteryOf {P : Nat → Nat → Option Int} {b : Nat} {p0 : Int32} {S : cT} (hk_b : cK b = 2) (hI : IC P S) : wp (fc_X2_flatteryOf b p0 S) (fun w => True) := by
  unfold fc_X2_flatteryOf
  have l_0 : (0 : Int32).toInt = 0 := by decide
  have fu : (FU : Int) = 1000000 := rfl
  refine wp_bind (tc_X2_flatteryOf_L4 hk_b hI FU (0 : Int32) (0 : Int32) (by omega) (by omega) (by omega)) (fun w11 hq1 => ?_)
  obtain ⟨h2, h3⟩ := hq1
  exact wp_some trivial
theorem tc_X2_flatterer_L6 {P : Nat → Nat → Option Int} {k0 : Nat} {S : cT} (hk_k0 : cK k0 = 2) (hI : IC P S) : ∀ (N : Nat) (a1 : Int32) (a2 : Int32) (a3 : Int32), 0 ≤ a3.toInt → a3.toInt ≤ 8 → 8 - a3.toInt < (N : Int) → wp (fc_X2_flatterer_L6 k0 S N a1 a2 a3) (fun w => (0 ≤ (w.2.2).toInt) ∧ ((w.2.2).toInt ≤ 8)) := by
  intro N
  induction N with
  | zero =>
    intro a1 a2 a3 vl_a3 vu_a3 hm
    exfalso; omega
  | succ N ih =>
    intro a1 a2 a3 vl_a3 vu_a3 hm
    rw [fc_X2_flatterer_L6]
    have l_1 : (1 : Int32).toInt = 1 := by decide
    have c1 := ic_2_9 hI hk_k0
    refine wp_le (fun hc2 => ?_) (fun hc2 => ?_)
    · skip
      exact wp_some ⟨(by first | omega | (dsimp only; omega)), (by first | omega | (dsimp only; omega))⟩
    · skip
      refine wp_bind (tc_X2_flatteryOf hk_k0 hI) (fun q2 hq3 => ?_)
      refine wp_le (fun hc4 => ?_) (fun hc4 => ?_)
      · skip
        have t5 : (a3 + (1 : Int32) : Int32).toInt = (a3).toInt + ((1 : Int32)).toInt := tA (by omega) (by omega)
        exact (ih a1 a2 (a3 + (1 : Int32)) (by omega) (by omega) (by omega))
      · skip
        have t6 : (a3 + (1 : Int32) : Int32).toInt = (a3).toInt + ((1 : Int32)).toInt := tA (by omega) (by omega)
        exact (ih a3 q2 (a3 + (1 : Int32)) (by omega) (by omega) (by omega))
theorem tc_X2_flatterer {P : Nat → Nat → Option Int} {b : Nat} {S : cT} (hk_b : cK b = 2) (hI : IC P S) : wp (fc_X2_flatterer b S) (fun w => True) := by
  unfold fc_X2_flatterer
  obtain ⟨m_1, e_m1⟩ : ∃ x : Int32, x = (-1) := ⟨_, rfl⟩
  try rw [← e_m1]
  have l_m1 : m_1.toInt = -1 := by rw [e_m1]; decide
  have l_0 : (0 : Int32).toInt = 0 := by decide
  have fu : (FU : Int) = 1000000 := rfl
  refine wp_bind (tc_X2_flatterer_L6 hk_b hI FU m_1 (0 : Int32) (0 : Int32) (by omega) (by omega) (by omega)) (fun w4 hq1 => ?_)
  obtain ⟨h2, h3⟩ := hq1
  exact wp_some trivial
theorem tc_X2_firstOf_L4 {P : Nat → Nat → Option Int} {k0 : Nat} {S : cT} (hk_k0 : cK k0 = 2) (hI : IC P S) : ∀ (N : Nat) (a2 : Int32) (a3 : Int32), 0 ≤ a3.toInt → a3.toInt ≤ 40 → 40 - a3.toInt < (N : Int) → wp (fc_X2_firstOf_L4 k0 S N a2 a3) (fun w => (0 ≤ (w.2).toInt) ∧ ((w.2).toInt ≤ 40)) := by
  intro N
  induction N with
  | zero =>
    intro a2 a3 vl_a3 vu_a3 hm
    exfalso; omega
  | succ N ih =>
    intro a2 a3 vl_a3 vu_a3 hm
    rw [fc_X2_firstOf_L4]
    obtain ⟨m_1, e_m1⟩ : ∃ x : Int32, x = (-1) := ⟨_, rfl⟩
    try rw [← e_m1]
    have l_m1 : m_1.toInt = -1 := by rw [e_m1]; decide
    have l_1 : (1 : Int32).toInt = 1 := by decide
    have l_40 : (40 : Int32).toInt = 40 := by decide
    refine wp_le (fun hc1 => ?_) (fun hc1 => ?_)
    · skip
      exact wp_some ⟨(by first | omega | (dsimp only; omega)), (by first | omega | (dsimp only; omega))⟩
    · skip
      refine wp_bind (tc_X6_at (ko_2_6 hk_k0) hI) (fun q2 hq2 => ?_)
      refine wp_eqn (fun hc3 => ?_) ?_
      · skip
        exact wp_some ⟨(by first | omega | (dsimp only; omega)), (by first | omega | (dsimp only; omega))⟩
      · skip
        refine wp_bind (tc_X6_at (ko_2_6 hk_k0) hI) (fun q4 hq4 => ?_)
        have t5 : (a3 + (1 : Int32) : Int32).toInt = (a3).toInt + ((1 : Int32)).toInt := tA (by omega) (by omega)
        exact (ih q4 (a3 + (1 : Int32)) (by omega) (by omega) (by omega))
theorem tc_X2_firstOf {P : Nat → Nat → Option Int} {b : Nat} {p0 : Int32} {S : cT} (hk_b : cK b = 2) (hI : IC P S) : wp (fc_X2_firstOf b p0 S) (fun w => True) := by
  unfold fc_X2_firstOf
  have l_0 : (0 : Int32).toInt = 0 := by decide
  have fu : (FU : Int) = 1000000 := rfl
  refine wp_bind (tc_X2_firstOf_L4 hk_b hI FU p0 (0 : Int32) (by omega) (by omega) (by omega)) (fun w5 hq1 => ?_)
  obtain ⟨h2, h3⟩ := hq1
  exact wp_some trivial
theorem tc_X2_slippedAt_L8 {P : Nat → Nat → Option Int} {k0 : Nat} {k2 : Int32} {S : cT} (hk_k0 : cK k0 = 2) (hI : IC P S) : ∀ (N : Nat) (a3 : Int32) (a4 : Int32) (a5 : Int32), 0 ≤ a5.toInt → a5.toInt ≤ 40 → 40 - a5.toInt < (N : Int) → wp (fc_X2_slippedAt_L8 k0 k2 S N a3 a4 a5) (fun w => (0 ≤ (w.2.2).toInt) ∧ ((w.2.2).toInt ≤ 40)) := by
  intro N
  induction N with
  | zero =>
    intro a3 a4 a5 vl_a5 vu_a5 hm
    exfalso; omega
  | succ N ih =>
    intro a3 a4 a5 vl_a5 vu_a5 hm
    rw [fc_X2_slippedAt_L8]
    obtain ⟨m_1, e_m1⟩ : ∃ x : Int32, x = (-1) := ⟨_, rfl⟩
    try rw [← e_m1]
    have l_m1 : m_1.toInt = -1 := by rw [e_m1]; decide
    have l_0 : (0 : Int32).toInt = 0 := by decide
    have l_1 : (1 : Int32).toInt = 1 := by decide
    have l_40 : (40 : Int32).toInt = 40 := by decide
    refine wp_le (fun hc1 => ?_) (fun hc1 => ?_)
    · skip
      exact wp_some ⟨(by first | omega | (dsimp only; omega)), (by first | omega | (dsimp only; omega))⟩
    · skip
      refine wp_bind (tc_X6_at (ko_2_6 hk_k0) hI) (fun q2 hq2 => ?_)
      refine wp_eqn (fun hc3 => ?_) ?_
      · skip
        exact wp_some ⟨(by first | omega | (dsimp only; omega)), (by first | omega | (dsimp only; omega))⟩
      · skip
        refine wp_bind (tc_X6_at (ko_2_6 hk_k0) hI) (fun q4 hq4 => ?_)
        refine wp_bind (tc_X6_at (ko_2_6 hk_k0) hI) (fun q5 hq5 => ?_)
        refine wp_bind (tc_X6_at (ko_2_6 hk_k0) hI) (fun q6 hq6 => ?_)
        have t7 := and_i ((q5 ^^^ q6) >>> (k2 &&& (31 : Int32))) (c := 1) l_1 (by decide)
        refine wp_eq_lo (by omega) (fun hc8 => ?_) (fun hc8 => ?_)
        · skip
          have t9 : (a5 + (1 : Int32) : Int32).toInt = (a5).toInt + ((1 : Int32)).toInt := tA (by omega) (by omega)
          exact (ih a3 q4 (a5 + (1 : Int32)) (by omega) (by omega) (by omega))
        · skip
          have t10 : (a5 + (1 : Int32) : Int32).toInt = (a5).toInt + ((1 : Int32)).toInt := tA (by omega) (by omega)
          exact (ih a4 q4 (a5 + (1 : Int32)) (by omega) (by omega) (by omega))
theorem tc_X2_slippedAt {P : Nat → Nat → Option Int} {b : Nat} {p0 : Int32} {p1 : Int32} {S : cT} (hk_b : cK b = 2) (hI : IC P S) : wp (fc_X2_slippedAt b p0 p1 S) (fun w => True) := by
  unfold fc_X2_slippedAt
  obtain ⟨m_1, e_m1⟩ : ∃ x : Int32, x = (-1) := ⟨_, rfl⟩
  try rw [← e_m1]
  have l_m1 : m_1.toInt = -1 := by rw [e_m1]; decide
  have l_0 : (0 : Int32).toInt = 0 := by decide
  have fu : (FU : Int) = 1000000 := rfl
  refine wp_bind (tc_X2_slippedAt_L8 hk_b hI FU m_1 p0 (0 : Int32) (by omega) (by omega) (by omega)) (fun w8 hq1 => ?_)
  obtain ⟨h2, h3⟩ := hq1
  exact wp_some trivial
theorem tc_X2_peopleFitting_L4 {P : Nat → Nat → Option Int} {k0 : Nat} {k1 : Int32} {S : cT} (hk_k0 : cK k0 = 2) (hI : IC P S) : ∀ (N : Nat) (a2 : Int32) (a3 : Int32), 0 ≤ a3.toInt → a3.toInt ≤ 8 → 8 - a3.toInt < (N : Int) → wp (fc_X2_peopleFitting_L4 k0 k1 S N a2 a3) (fun w => (0 ≤ (w.2).toInt) ∧ ((w.2).toInt ≤ 8)) := by
  intro N
  induction N with
  | zero =>
    intro a2 a3 vl_a3 vu_a3 hm
    exfalso; omega
  | succ N ih =>
    intro a2 a3 vl_a3 vu_a3 hm
    rw [fc_X2_peopleFitting_L4]
    have l_1 : (1 : Int32).toInt = 1 := by decide
    have c1 := ic_2_9 hI hk_k0
    refine wp_le (fun hc2 => ?_) (fun hc2 => ?_)
    · skip
      exact wp_some ⟨(by first | omega | (dsimp only; omega)), (by first | omega | (dsimp only; omega))⟩
    · skip
      refine wp_bind (tc_X2_faceOf hk_k0 hI) (fun q2 hq3 => ?_)
      refine wp_bind (tc_X2_canBeOf hk_k0 hI) (fun q3 hq4 => ?_)
      refine wp_b (fun hb5 => ?_) (fun hb5 => ?_)
      · skip
        have t6 : (a3 + (1 : Int32) : Int32).toInt = (a3).toInt + ((1 : Int32)).toInt := tA (by omega) (by omega)
        exact (ih a2 (a3 + (1 : Int32)) (by omega) (by omega) (by omega))
      · skip
        have t7 : (a3 + (1 : Int32) : Int32).toInt = (a3).toInt + ((1 : Int32)).toInt := tA (by omega) (by omega)
        exact (ih (a2 ||| ((1 : Int32) <<< (a3 &&& (31 : Int32)))) (a3 + (1 : Int32)) (by omega) (by omega) (by omega))
theorem tc_X2_peopleFitting {P : Nat → Nat → Option Int} {b : Nat} {p0 : Int32} {S : cT} (hk_b : cK b = 2) (hI : IC P S) : wp (fc_X2_peopleFitting b p0 S) (fun w => True) := by
  unfold fc_X2_peopleFitting
  have l_0 : (0 : Int32).toInt = 0 := by decide
  have fu : (FU : Int) = 1000000 := rfl
  refine wp_bind (tc_X2_peopleFitting_L4 hk_b hI FU (0 : Int32) (0 : Int32) (by omega) (by omega) (by omega)) (fun w5 hq1 => ?_)
  obtain ⟨h2, h3⟩ := hq1
  exact wp_some trivial
theorem tc_X2_mostViewsOfOne_L4 {P : Nat → Nat → Option Int} {k0 : Nat} {S : cT} (hk_k0 : cK k0 = 2) (hI : IC P S) : ∀ (N : Nat) (a1 : Int32) (a2 : Int32), 0 ≤ a2.toInt → a2.toInt ≤ 8 → 8 - a2.toInt < (N : Int) → wp (fc_X2_mostViewsOfOne_L4 k0 S N a1 a2) (fun w => (0 ≤ (w.2).toInt) ∧ ((w.2).toInt ≤ 8)) := by
  intro N
  induction N with
  | zero =>
    intro a1 a2 vl_a2 vu_a2 hm
    exfalso; omega
  | succ N ih =>
    intro a1 a2 vl_a2 vu_a2 hm
    rw [fc_X2_mostViewsOfOne_L4]
    have l_1 : (1 : Int32).toInt = 1 := by decide
    have c1 := ic_2_9 hI hk_k0
    refine wp_le (fun hc2 => ?_) (fun hc2 => ?_)
    · skip
      exact wp_some ⟨(by first | omega | (dsimp only; omega)), (by first | omega | (dsimp only; omega))⟩
    · skip
      refine wp_bind (tc_X2_faceOf hk_k0 hI) (fun q2 hq3 => ?_)
      refine wp_bind (tc_X2_viewsOf hk_k0 hI) (fun q3 hq4 => ?_)
      refine wp_bind (tc_J6_bitCount_0f7a4 ) (fun q4 hq5 => ?_)
      have t6 : (a2 + (1 : Int32) : Int32).toInt = (a2).toInt + ((1 : Int32)).toInt := tA (by omega) (by omega)
      exact (ih (mxI a1 q4) (a2 + (1 : Int32)) (by omega) (by omega) (by omega))
theorem tc_X2_mostViewsOfOne {P : Nat → Nat → Option Int} {b : Nat} {S : cT} (hk_b : cK b = 2) (hI : IC P S) : wp (fc_X2_mostViewsOfOne b S) (fun w => True) := by
  unfold fc_X2_mostViewsOfOne
  have l_0 : (0 : Int32).toInt = 0 := by decide
  have fu : (FU : Int) = 1000000 := rfl
  refine wp_bind (tc_X2_mostViewsOfOne_L4 hk_b hI FU (0 : Int32) (0 : Int32) (by omega) (by omega) (by omega)) (fun w5 hq1 => ?_)
  obtain ⟨h2, h3⟩ := hq1
  exact wp_some trivial
theorem tc_X2_sworn_L4 {P : Nat → Nat → Option Int} {k0 : Nat} {k1 : Int32} {S : cT} (hk_k0 : cK k0 = 2) (hI : IC P S) : ∀ (N : Nat) (a2 : Int32) (a3 : Int32), 0 ≤ a3.toInt → a3.toInt ≤ 8 → 8 - a3.toInt < (N : Int) → wp (fc_X2_sworn_L4 k0 k1 S N a2 a3) (fun w => (0 ≤ (w.2).toInt) ∧ ((w.2).toInt ≤ 8)) := by
  intro N
  induction N with
  | zero =>
    intro a2 a3 vl_a3 vu_a3 hm
    exfalso; omega
  | succ N ih =>
    intro a2 a3 vl_a3 vu_a3 hm
    rw [fc_X2_sworn_L4]
    have l_1 : (1 : Int32).toInt = 1 := by decide
    have c1 := ic_2_9 hI hk_k0
    refine wp_le (fun hc2 => ?_) (fun hc2 => ?_)
    · skip
      exact wp_some ⟨(by first | omega | (dsimp only; omega)), (by first | omega | (dsimp only; omega))⟩
    · skip
      refine wp_bind (tc_X2_faceOf hk_k0 hI) (fun q2 hq3 => ?_)
      refine wp_bind (tc_X2_viewsOf hk_k0 hI) (fun q3 hq4 => ?_)
      refine wp_bind (tc_J6_bitCount_0f7a4 ) (fun q4 hq5 => ?_)
      refine wp_eqn (fun hc6 => ?_) ?_
      · skip
        have t7 : (a3 + (1 : Int32) : Int32).toInt = (a3).toInt + ((1 : Int32)).toInt := tA (by omega) (by omega)
        exact (ih (a2 ||| ((1 : Int32) <<< (a3 &&& (31 : Int32)))) (a3 + (1 : Int32)) (by omega) (by omega) (by omega))
      · skip
        have t8 : (a3 + (1 : Int32) : Int32).toInt = (a3).toInt + ((1 : Int32)).toInt := tA (by omega) (by omega)
        exact (ih a2 (a3 + (1 : Int32)) (by omega) (by omega) (by omega))
theorem tc_X2_sworn {P : Nat → Nat → Option Int} {b : Nat} {p0 : Int32} {S : cT} (hk_b : cK b = 2) (hI : IC P S) : wp (fc_X2_sworn b p0 S) (fun w => True) := by
  unfold fc_X2_sworn
  have l_0 : (0 : Int32).toInt = 0 := by decide
  have fu : (FU : Int) = 1000000 := rfl
  refine wp_bind (tc_X2_sworn_L4 hk_b hI FU (0 : Int32) (0 : Int32) (by omega) (by omega) (by omega)) (fun w6 hq1 => ?_)
  obtain ⟨h2, h3⟩ := hq1
  exact wp_some trivial
theorem tc_X10_byteAt {P : Nat → Nat → Option Int} {b : Nat} {p0 : Int32} {S : cT} (hk_b : cK b = 8) (hI : IC P S) : wp (fc_X10_byteAt b p0 S) (fun w => True) := by
  unfold fc_X10_byteAt
  have l_0 : (0 : Int32).toInt = 0 := by decide
  have l_400 : (400 : Int32).toInt = 400 := by decide
  refine wp_lt (fun hc1 => ?_) (fun hc1 => ?_)
  · skip
    exact wp_some trivial
  · skip
    have c2 := ic_8_4 hI hk_b
    refine wp_le (fun hc3 => ?_) (fun hc3 => ?_)
    · skip
      exact wp_some trivial
    · skip
      refine wp_le (fun hc4 => ?_) (fun hc4 => ?_)
      · skip
        exact wp_some trivial
      · skip
        refine wp_bif (inb_of (by omega) (by omega)) ?_
        refine wp_letv (fun v4 ev4 => ?_)
        exact wp_some trivial
theorem tc_X10_isDigit {p0 : Int32}   : wp (fc_X10_isDigit p0) (fun w => True) := by
  unfold fc_X10_isDigit
  have l_48 : (48 : Int32).toInt = 48 := by decide
  have l_57 : (57 : Int32).toInt = 57 := by decide
  refine wp_lt (fun hc1 => ?_) (fun hc1 => ?_)
  · skip
    exact wp_some trivial
  · skip
    refine wp_lt (fun hc2 => ?_) (fun hc2 => ?_)
    · skip
      exact wp_some trivial
    · skip
      exact wp_some trivial
theorem tc_X10_addToken {P : Nat → Nat → Option Int} {b : Nat} {p0 : Int32} {p1 : Int32} {p2 : Int32} {S : cT} (hk_b : cK b = 8) (hI : IC P S) : wp (fc_X10_addToken b p0 p1 p2 S) (fun w => (IC P w) ∧ (w.2.2 = S.2.2)) := by
  unfold fc_X10_addToken
  have l_0 : (0 : Int32).toInt = 0 := by decide
  have l_1 : (1 : Int32).toInt = 1 := by decide
  have l_400 : (400 : Int32).toInt = 400 := by decide
  have c1 := ic_8_5 hI hk_b
  refine wp_lt (fun hc2 => ?_) (fun hc2 => ?_)
  · skip
    exact wp_some ⟨hI, rfl⟩
  · skip
    refine wp_lt (fun hc3 => ?_) (fun hc3 => ?_)
    · skip
      exact wp_some ⟨hI, rfl⟩
    · skip
      refine wp_bif (inb_of (by omega) (by omega)) ?_
      refine wp_letv (fun S4 eS4 => ?_)
      have hIS4 : IC P S4 := by rw [eS4]; exact (iw_20 hI (kw_8_2 hk_b))
      have hpS4 : S4.2.2 = S.2.2 := by rw [eS4]; exact rfl
      have c4 := ic_8_5 hIS4 hk_b
      have f5 : ((S4.1 b 5)).toInt = ((S.1 b 5)).toInt := by rw [eS4]; exact congrArg Int32.toInt (ca_ne (Or.inl (k_ne hk_b (ko_8_2 hk_b) (by decide))))
      refine wp_bif (inb_of (by omega) (by omega)) ?_
      refine wp_letv (fun S6 eS6 => ?_)
      have hIS6 : IC P S6 := by rw [eS6]; exact (iw_20 hIS4 (kw_8_3 hk_b))
      have hpS6 : S6.2.2 = S.2.2 := by rw [eS6]; exact hpS4
      have c6 := ic_8_5 hIS6 hk_b
      have f7 : ((S6.1 b 5)).toInt = ((S4.1 b 5)).toInt := by rw [eS6]; exact congrArg Int32.toInt (ca_ne (Or.inl (k_ne hk_b (ko_8_3 hk_b) (by decide))))
      refine wp_bif (inb_of (by omega) (by omega)) ?_
      refine wp_letv (fun S8 eS8 => ?_)
      have hIS8 : IC P S8 := by rw [eS8]; exact (iw_20 hIS6 (kw_8_4 hk_b))
      have hpS8 : S8.2.2 = S.2.2 := by rw [eS8]; exact hpS6
      have c8 := ic_8_5 hIS8 hk_b
      have f9 : ((S8.1 b 5)).toInt = ((S6.1 b 5)).toInt := by rw [eS8]; exact congrArg Int32.toInt (ca_ne (Or.inl (k_ne hk_b (ko_8_4 hk_b) (by decide))))
      have t10 : ((S8.1 b 5) + (1 : Int32) : Int32).toInt = ((S8.1 b 5)).toInt + ((1 : Int32)).toInt := tA (by omega) (by omega)
      refine wp_letv (fun S9 eS9 => ?_)
      have hIS9 : IC P S9 := by rw [eS9]; exact (iw_8_5 hIS8 hk_b (by omega) (by omega))
      have hpS9 : S9.2.2 = S.2.2 := by rw [eS9]; exact hpS8
      exact wp_some ⟨hIS9, hpS9⟩
theorem tc_X10_scanNumber_L7 {P : Nat → Nat → Option Int} {k0 : Nat} {S : cT} (hk_k0 : cK k0 = 8) (hI : IC P S) : ∀ (N : Nat) (a2 : Int32) (a3 : Int32) (a4 : Int32), 0 ≤ a4.toInt → a4.toInt ≤ 400 → 400 - a4.toInt < (N : Int) → wp (fc_X10_scanNumber_L7 k0 S N a2 a3 a4) (fun w => (0 ≤ (w.2.2).toInt) ∧ ((w.2.2).toInt ≤ 400)) := by
  intro N
  induction N with
  | zero =>
    intro a2 a3 a4 vl_a4 vu_a4 hm
    exfalso; omega
  | succ N ih =>
    intro a2 a3 a4 vl_a4 vu_a4 hm
    rw [fc_X10_scanNumber_L7]
    have l_1 : (1 : Int32).toInt = 1 := by decide
    have l_400 : (400 : Int32).toInt = 400 := by decide
    have l_5 : (5 : Int32).toInt = 5 := by decide
    refine wp_le (fun hc1 => ?_) (fun hc1 => ?_)
    · skip
      exact wp_some ⟨(by first | omega | (dsimp only; omega)), (by first | omega | (dsimp only; omega))⟩
    · skip
      refine wp_bind (tc_X10_byteAt hk_k0 hI) (fun q2 hq2 => ?_)
      refine wp_bind (tc_X10_isDigit ) (fun q3 hq3 => ?_)
      refine wp_b (fun hb4 => ?_) (fun hb4 => ?_)
      · skip
        exact wp_some ⟨(by first | omega | (dsimp only; omega)), (by first | omega | (dsimp only; omega))⟩
      · skip
        refine wp_le (fun hc5 => ?_) (fun hc5 => ?_)
        · skip
          have t6 : (a4 + (1 : Int32) : Int32).toInt = (a4).toInt + ((1 : Int32)).toInt := tA (by omega) (by omega)
          exact (ih (a2 + (1 : Int32)) a3 (a4 + (1 : Int32)) (by omega) (by omega) (by omega))
        · skip
          refine wp_bind (tc_X10_byteAt hk_k0 hI) (fun q6 hq7 => ?_)
          have t8 : (a4 + (1 : Int32) : Int32).toInt = (a4).toInt + ((1 : Int32)).toInt := tA (by omega) (by omega)
          exact (ih (a2 + (1 : Int32)) (((a3 * (10 : Int32)) + q6) - (48 : Int32)) (a4 + (1 : Int32)) (by omega) (by omega) (by omega))
theorem tc_X10_scanNumber {P : Nat → Nat → Option Int} {b : Nat} {p0 : Int32} {S : cT} (hk_b : cK b = 8) (hI : IC P S) : wp (fc_X10_scanNumber b p0 S) (fun w => (IC P w.2) ∧ (w.2.2.2 = S.2.2)) := by
  unfold fc_X10_scanNumber
  have l_0 : (0 : Int32).toInt = 0 := by decide
  have l_5 : (5 : Int32).toInt = 5 := by decide
  have fu : (FU : Int) = 1000000 := rfl
  refine wp_bind (tc_X10_scanNumber_L7 hk_b hI FU p0 (0 : Int32) (0 : Int32) (by omega) (by omega) (by omega)) (fun w7 hq1 => ?_)
  obtain ⟨h2, h3⟩ := hq1
  refine wp_le (fun hc4 => ?_) (fun hc4 => ?_)
  · skip
    refine wp_bind (tc_X10_addToken hk_b hI) (fun q9 hq5 => ?_)
    obtain ⟨h6, h7⟩ := hq5
    exact wp_some ⟨h6, h7⟩
  · skip
    refine wp_bind (tc_X10_addToken hk_b hI) (fun q10 hq8 => ?_)
    obtain ⟨h9, h10⟩ := hq8
    exact wp_some ⟨h9, h10⟩
theorem tc_X10_isLetter {p0 : Int32}   : wp (fc_X10_isLetter p0) (fun w => True) := by
  unfold fc_X10_isLetter
  have l_122 : (122 : Int32).toInt = 122 := by decide
  have l_97 : (97 : Int32).toInt = 97 := by decide
  refine wp_lt (fun hc1 => ?_) (fun hc1 => ?_)
  · skip
    exact wp_some trivial
  · skip
    refine wp_lt (fun hc2 => ?_) (fun hc2 => ?_)
    · skip
      exact wp_some trivial
    · skip
      exact wp_some trivial
theorem tc_X10_isWordAt_L3 {P : Nat → Nat → Option Int} {k0 : Nat} {k1 : Int32} {k2 : Int32} {k3 : Int32} {S : cT} (hk_k0 : cK k0 = 8) (hI : IC P S) : ∀ (N : Nat) (a4 : Int32), 0 ≤ a4.toInt → a4.toInt ≤ 93 → 93 - a4.toInt < (N : Int) → wp (fc_X10_isWordAt_L3 k0 k1 k2 k3 S N a4) (fun w => Sum.elim (fun w => (0 ≤ (w).toInt) ∧ ((w).toInt ≤ 93)) (fun w => True) w) := by
  intro N
  induction N with
  | zero =>
    intro a4 vl_a4 vu_a4 hm
    exfalso; omega
  | succ N ih =>
    intro a4 vl_a4 vu_a4 hm
    rw [fc_X10_isWordAt_L3]
    have l_1 : (1 : Int32).toInt = 1 := by decide
    have l_93 : (93 : Int32).toInt = 93 := by decide
    refine wp_le (fun hc1 => ?_) (fun hc1 => ?_)
    · skip
      exact wp_some ⟨(by first | omega | (dsimp only; omega)), (by first | omega | (dsimp only; omega))⟩
    · skip
      refine wp_le (fun hc2 => ?_) (fun hc2 => ?_)
      · skip
        exact wp_some ⟨(by first | omega | (dsimp only; omega)), (by first | omega | (dsimp only; omega))⟩
      · skip
        refine wp_bif (inb_of (by omega) (by omega)) ?_
        refine wp_bind (tc_X10_byteAt hk_k0 hI) (fun q4 hq3 => ?_)
        refine wp_eqn (fun hc4 => ?_) ?_
        · skip
          have t5 : (a4 + (1 : Int32) : Int32).toInt = (a4).toInt + ((1 : Int32)).toInt := tA (by omega) (by omega)
          exact (ih (a4 + (1 : Int32)) (by omega) (by omega) (by omega))
        · skip
          exact wp_some trivial
theorem tc_X10_isWordAt {P : Nat → Nat → Option Int} {b : Nat} {p0 : Int32} {p1 : Int32} {p2 : Int32} {S : cT} (hk_b : cK b = 8) (hl_p0 : 0 ≤ p0.toInt) (hu_p0 : p0.toInt ≤ 93) (hI : IC P S) : wp (fc_X10_isWordAt b p0 p1 p2 S) (fun w => True) := by
  unfold fc_X10_isWordAt
  have fu : (FU : Int) = 1000000 := rfl
  refine wp_bind (tc_X10_isWordAt_L3 hk_b hI FU p0 (by omega) (by omega) (by omega)) (fun w6 hq1 => ?_)
  refine wp_sum hq1 (fun w6a hq2 => ?_) (fun w6b hq2 => ?_)
  · skip
    obtain ⟨h3, h4⟩ := hq2
    exact wp_some trivial
  · skip
    exact wp_some trivial
theorem tc_X10_wordOf_L10 {P : Nat → Nat → Option Int} {k0 : Nat} {k1 : Int32} {k2 : Int32} {S : cT} (hk_k0 : cK k0 = 8) (hI : IC P S) : ∀ (N : Nat) (a3 : Int32) (a4 : Int32) (a5 : Int32), 0 ≤ a4.toInt → a4.toInt ≤ 93 → 0 ≤ a5.toInt → a5.toInt ≤ 93 → 93 - a5.toInt < (N : Int) → wp (fc_X10_wordOf_L10 k0 k1 k2 S N a3 a4 a5) (fun w => Sum.elim (fun w => (0 ≤ (w.2.1).toInt) ∧ ((w.2.1).toInt ≤ 93) ∧ (0 ≤ (w.2.2).toInt) ∧ ((w.2.2).toInt ≤ 93)) (fun w => True) w) := by
  intro N
  induction N with
  | zero =>
    intro a3 a4 a5 vl_a4 vu_a4 vl_a5 vu_a5 hm
    exfalso; omega
  | succ N ih =>
    intro a3 a4 a5 vl_a4 vu_a4 vl_a5 vu_a5 hm
    rw [fc_X10_wordOf_L10]
    have l_1 : (1 : Int32).toInt = 1 := by decide
    have l_32 : (32 : Int32).toInt = 32 := by decide
    have l_93 : (93 : Int32).toInt = 93 := by decide
    refine wp_le (fun hc1 => ?_) (fun hc1 => ?_)
    · skip
      exact wp_some ⟨(by first | omega | (dsimp only; omega)), (by first | omega | (dsimp only; omega)), (by first | omega | (dsimp only; omega)), (by first | omega | (dsimp only; omega))⟩
    · skip
      refine wp_bif (inb_of (by omega) (by omega)) ?_
      refine wp_eqn (fun hc2 => ?_) ?_
      · skip
        have t3 : (a5 - a4 : Int32).toInt = (a5).toInt - (a4).toInt := tS (by omega) (by omega)
        refine wp_eqn (fun hc4 => ?_) ?_
        · skip
          refine wp_bind (tc_X10_isWordAt hk_k0 (by omega) (by omega) hI) (fun q5 hq5 => ?_)
          refine wp_b (fun hb6 => ?_) (fun hb6 => ?_)
          · skip
            have t7 : (a5 + (1 : Int32) : Int32).toInt = (a5).toInt + ((1 : Int32)).toInt := tA (by omega) (by omega)
            exact (ih (a3 + (1 : Int32)) (a5 + (1 : Int32)) (a5 + (1 : Int32)) (by omega) (by omega) (by omega) (by omega) (by omega))
          · skip
            exact wp_some trivial
        · skip
          have t8 : (a5 + (1 : Int32) : Int32).toInt = (a5).toInt + ((1 : Int32)).toInt := tA (by omega) (by omega)
          exact (ih (a3 + (1 : Int32)) (a5 + (1 : Int32)) (a5 + (1 : Int32)) (by omega) (by omega) (by omega) (by omega) (by omega))
      · skip
        have t9 : (a5 + (1 : Int32) : Int32).toInt = (a5).toInt + ((1 : Int32)).toInt := tA (by omega) (by omega)
        exact (ih a3 a4 (a5 + (1 : Int32)) (by omega) (by omega) (by omega) (by omega) (by omega))
theorem tc_X10_wordOf {P : Nat → Nat → Option Int} {b : Nat} {p0 : Int32} {p1 : Int32} {S : cT} (hk_b : cK b = 8) (hI : IC P S) : wp (fc_X10_wordOf b p0 p1 S) (fun w => True) := by
  unfold fc_X10_wordOf
  have l_1 : (1 : Int32).toInt = 1 := by decide
  have fu : (FU : Int) = 1000000 := rfl
  refine wp_bind (tc_X10_wordOf_L10 hk_b hI FU (300 : Int32) (1 : Int32) (1 : Int32) (by omega) (by omega) (by omega) (by omega) (by omega)) (fun w7 hq1 => ?_)
  refine wp_sum hq1 (fun w7a hq2 => ?_) (fun w7b hq2 => ?_)
  · skip
    obtain ⟨h3, h4, h5, h6⟩ := hq2
    exact wp_some trivial
  · skip
    exact wp_some trivial
theorem tc_X10_scanWord_L4 {P : Nat → Nat → Option Int} {k0 : Nat} {S : cT} (hk_k0 : cK k0 = 8) (hI : IC P S) : ∀ (N : Nat) (a2 : Int32) (a3 : Int32), 0 ≤ a3.toInt → a3.toInt ≤ 400 → 400 - a3.toInt < (N : Int) → wp (fc_X10_scanWord_L4 k0 S N a2 a3) (fun w => (0 ≤ (w.2).toInt) ∧ ((w.2).toInt ≤ 400)) := by
  intro N
  induction N with
  | zero =>
    intro a2 a3 vl_a3 vu_a3 hm
    exfalso; omega
  | succ N ih =>
    intro a2 a3 vl_a3 vu_a3 hm
    rw [fc_X10_scanWord_L4]
    have l_1 : (1 : Int32).toInt = 1 := by decide
    have l_400 : (400 : Int32).toInt = 400 := by decide
    refine wp_le (fun hc1 => ?_) (fun hc1 => ?_)
    · skip
      exact wp_some ⟨(by first | omega | (dsimp only; omega)), (by first | omega | (dsimp only; omega))⟩
    · skip
      refine wp_bind (tc_X10_byteAt hk_k0 hI) (fun q2 hq2 => ?_)
      refine wp_bind (tc_X10_isLetter ) (fun q3 hq3 => ?_)
      refine wp_b (fun hb4 => ?_) (fun hb4 => ?_)
      · skip
        exact wp_some ⟨(by first | omega | (dsimp only; omega)), (by first | omega | (dsimp only; omega))⟩
      · skip
        have t5 : (a3 + (1 : Int32) : Int32).toInt = (a3).toInt + ((1 : Int32)).toInt := tA (by omega) (by omega)
        exact (ih (a2 + (1 : Int32)) (a3 + (1 : Int32)) (by omega) (by omega) (by omega))
theorem tc_X10_scanWord {P : Nat → Nat → Option Int} {b : Nat} {p0 : Int32} {S : cT} (hk_b : cK b = 8) (hI : IC P S) : wp (fc_X10_scanWord b p0 S) (fun w => (IC P w.2) ∧ (w.2.2.2 = S.2.2)) := by
  unfold fc_X10_scanWord
  have l_0 : (0 : Int32).toInt = 0 := by decide
  have fu : (FU : Int) = 1000000 := rfl
  refine wp_bind (tc_X10_scanWord_L4 hk_b hI FU p0 (0 : Int32) (by omega) (by omega) (by omega)) (fun w5 hq1 => ?_)
  obtain ⟨h2, h3⟩ := hq1
  refine wp_bind (tc_X10_wordOf hk_b hI) (fun q6 hq4 => ?_)
  refine wp_bind (tc_X10_addToken hk_b hI) (fun q7 hq5 => ?_)
  obtain ⟨h6, h7⟩ := hq5
  exact wp_some ⟨h6, h7⟩
theorem tc_X10_scanOne {P : Nat → Nat → Option Int} {b : Nat} {p0 : Int32} {S : cT} (hk_b : cK b = 8) (hI : IC P S) : wp (fc_X10_scanOne b p0 S) (fun w => (IC P w.2) ∧ (w.2.2.2 = S.2.2)) := by
  unfold fc_X10_scanOne
  have l_256 : (256 : Int32).toInt = 256 := by decide
  have l_257 : (257 : Int32).toInt = 257 := by decide
  have l_32 : (32 : Int32).toInt = 32 := by decide
  have l_60 : (60 : Int32).toInt = 60 := by decide
  have l_61 : (61 : Int32).toInt = 61 := by decide
  have l_62 : (62 : Int32).toInt = 62 := by decide
  refine wp_bind (tc_X10_byteAt hk_b hI) (fun q1 hq1 => ?_)
  refine wp_eqn (fun hc2 => ?_) ?_
  · skip
    exact wp_some ⟨hI, rfl⟩
  · skip
    refine wp_bind (tc_X10_isDigit ) (fun q3 hq3 => ?_)
    refine wp_b (fun hb4 => ?_) (fun hb4 => ?_)
    · skip
      refine wp_bind (tc_X10_isLetter ) (fun q5 hq5 => ?_)
      refine wp_b (fun hb6 => ?_) (fun hb6 => ?_)
      · skip
        refine wp_eqn (fun hc7 => ?_) ?_
        · skip
          refine wp_bind (tc_X10_byteAt hk_b hI) (fun q8 hq8 => ?_)
          refine wp_eqn (fun hc9 => ?_) ?_
          · skip
            refine wp_bind (Q := fun w => (256 ≤ (w).toInt) ∧ ((w).toInt ≤ 257)) ?_ (fun w11 hq10 => ?_)
            · skip
              refine wp_eq_hi (by omega) (fun hc11 => ?_) (fun hc11 => ?_)
              · skip
                exact wp_some ⟨(by first | omega | (dsimp only; omega)), (by first | omega | (dsimp only; omega))⟩
              · skip
                exact wp_some ⟨(by first | omega | (dsimp only; omega)), (by first | omega | (dsimp only; omega))⟩
            · skip
              obtain ⟨h12, h13⟩ := hq10
              refine wp_bind (tc_X10_addToken hk_b hI) (fun q13 hq14 => ?_)
              obtain ⟨h15, h16⟩ := hq14
              exact wp_some ⟨h15, h16⟩
          · skip
            refine wp_bind (tc_X10_addToken hk_b hI) (fun q10 hq17 => ?_)
            obtain ⟨h18, h19⟩ := hq17
            exact wp_some ⟨h18, h19⟩
        · skip
          refine wp_eqn (fun hc20 => ?_) ?_
          · skip
            refine wp_bind (tc_X10_byteAt hk_b hI) (fun q16 hq21 => ?_)
            refine wp_eqn (fun hc22 => ?_) ?_
            · skip
              refine wp_bind (Q := fun w => (256 ≤ (w).toInt) ∧ ((w).toInt ≤ 257)) ?_ (fun w19 hq23 => ?_)
              · skip
                refine wp_eqn (fun hc24 => ?_) ?_
                · skip
                  exact wp_some ⟨(by first | omega | (dsimp only; omega)), (by first | omega | (dsimp only; omega))⟩
                · skip
                  exact wp_some ⟨(by first | omega | (dsimp only; omega)), (by first | omega | (dsimp only; omega))⟩
              · skip
                obtain ⟨h25, h26⟩ := hq23
                refine wp_bind (tc_X10_addToken hk_b hI) (fun q21 hq27 => ?_)
                obtain ⟨h28, h29⟩ := hq27
                exact wp_some ⟨h28, h29⟩
            · skip
              refine wp_bind (tc_X10_addToken hk_b hI) (fun q18 hq30 => ?_)
              obtain ⟨h31, h32⟩ := hq30
              exact wp_some ⟨h31, h32⟩
          · skip
            refine wp_bind (tc_X10_addToken hk_b hI) (fun q15 hq33 => ?_)
            obtain ⟨h34, h35⟩ := hq33
            exact wp_some ⟨h34, h35⟩
      · skip
        refine wp_bind (tc_X10_scanWord hk_b hI) (fun q22 hq36 => ?_)
        obtain ⟨h37, h38⟩ := hq36
        exact wp_some ⟨h37, h38⟩
    · skip
      refine wp_bind (tc_X10_scanNumber hk_b hI) (fun q23 hq39 => ?_)
      obtain ⟨h40, h41⟩ := hq39
      exact wp_some ⟨h40, h41⟩
theorem tc_X10_scan_L19 {P : Nat → Nat → Option Int} {k0 : Nat} (hk_k0 : cK k0 = 8)  : ∀ (N : Nat) (a1 : Int32) (a2 : Int32) (S : cT), 0 ≤ a2.toInt → a2.toInt ≤ 400 → IC P S → 400 - a2.toInt < (N : Int) → wp (fc_X10_scan_L19 k0 N a1 a2 S) (fun w => (0 ≤ (w.2.1).toInt) ∧ ((w.2.1).toInt ≤ 400) ∧ (IC P w.2.2) ∧ (w.2.2.2.2 = S.2.2)) := by
  intro N
  induction N with
  | zero =>
    intro a1 a2 S vl_a2 vu_a2 hI hm
    exfalso; omega
  | succ N ih =>
    intro a1 a2 S vl_a2 vu_a2 hI hm
    rw [fc_X10_scan_L19]
    have l_1 : (1 : Int32).toInt = 1 := by decide
    have l_400 : (400 : Int32).toInt = 400 := by decide
    refine wp_le (fun hc1 => ?_) (fun hc1 => ?_)
    · skip
      exact wp_some ⟨(by first | omega | (dsimp only; omega)), (by first | omega | (dsimp only; omega)), hI, rfl⟩
    · skip
      have c2 := ic_8_4 hI hk_k0
      refine wp_le (fun hc3 => ?_) (fun hc3 => ?_)
      · skip
        exact wp_some ⟨(by first | omega | (dsimp only; omega)), (by first | omega | (dsimp only; omega)), hI, rfl⟩
      · skip
        refine wp_bind (tc_X10_scanOne hk_k0 hI) (fun q6 hq4 => ?_)
        obtain ⟨h5, h6⟩ := hq4
        have t7 : (a2 + (1 : Int32) : Int32).toInt = (a2).toInt + ((1 : Int32)).toInt := tA (by omega) (by omega)
        have zz8 := (ih q6.1 (a2 + (1 : Int32)) q6.2 (by omega) (by omega) h5 (by omega))
        exact wp_mono zz8 (fun w hw => ⟨hw.1, hw.2.1, hw.2.2.1, hw.2.2.2.trans h6⟩)
theorem tc_X10_scan {P : Nat → Nat → Option Int} {b : Nat} {S : cT} (hk_b : cK b = 8) (hI : IC P S) : wp (fc_X10_scan b S) (fun w => (IC P w) ∧ (w.2.2 = S.2.2)) := by
  unfold fc_X10_scan
  have l_0 : (0 : Int32).toInt = 0 := by decide
  have fu : (FU : Int) = 1000000 := rfl
  refine wp_letv (fun S1 eS1 => ?_)
  have hIS1 : IC P S1 := by rw [eS1]; exact (iw_8_5 hI hk_b (by omega) (by omega))
  have hpS1 : S1.2.2 = S.2.2 := by rw [eS1]; exact rfl
  refine wp_letv (fun S2 eS2 => ?_)
  have hIS2 : IC P S2 := by rw [eS2]; exact (iw_8_6 hIS1 hk_b (by omega) (by omega))
  have hpS2 : S2.2.2 = S.2.2 := by rw [eS2]; exact hpS1
  refine wp_letv (fun S3 eS3 => ?_)
  have hIS3 : IC P S3 := by rw [eS3]; exact (iw_8_7 hIS2 hk_b)
  have hpS3 : S3.2.2 = S.2.2 := by rw [eS3]; exact hpS2
  refine wp_bind (tc_X10_scan_L19 hk_b FU (0 : Int32) (0 : Int32) S3 (by omega) (by omega) hIS3 (by omega)) (fun w7 hq1 => ?_)
  obtain ⟨h2, h3, h4, h5⟩ := hq1
  refine wp_bind (tc_X10_addToken hk_b h4) (fun q8 hq6 => ?_)
  obtain ⟨h7, h8⟩ := hq6
  refine wp_bif (inb_of (by omega) (by omega)) ?_
  refine wp_letv (fun v9 ev9 => ?_)
  refine wp_letv (fun S10 eS10 => ?_)
  have hIS10 : IC P S10 := by rw [eS10]; exact (iw_8_8 h7 hk_b)
  have hpS10 : S10.2.2 = S.2.2 := by rw [eS10]; exact (h8.trans (h5.trans hpS3))
  refine wp_bif (inb_of (by omega) (by omega)) ?_
  refine wp_letv (fun v11 ev11 => ?_)
  refine wp_letv (fun S12 eS12 => ?_)
  have hIS12 : IC P S12 := by rw [eS12]; exact (iw_8_9 hIS10 hk_b)
  have hpS12 : S12.2.2 = S.2.2 := by rw [eS12]; exact hpS10
  exact wp_some ⟨hIS12, hpS12⟩
theorem tc_X10_refuse {P : Nat → Nat → Option Int} {b : Nat} {p0 : Int32} {S : cT} (hk_b : cK b = 8) (hI : IC P S) : wp (fc_X10_refuse b p0 S) (fun w => (IC P w) ∧ (w.2.2 = S.2.2)) := by
  unfold fc_X10_refuse
  have l_0 : (0 : Int32).toInt = 0 := by decide
  have l_400 : (400 : Int32).toInt = 400 := by decide
  refine wp_eqn (fun hc1 => ?_) ?_
  · skip
    have c2 := ic_8_6 hI hk_b
    refine wp_lt (fun hc3 => ?_) (fun hc3 => ?_)
    · skip
      exact wp_some ⟨hI, rfl⟩
    · skip
      refine wp_lt (fun hc4 => ?_) (fun hc4 => ?_)
      · skip
        exact wp_some ⟨hI, rfl⟩
      · skip
        refine wp_bif (inb_of (by omega) (by omega)) ?_
        refine wp_letv (fun v4 ev4 => ?_)
        refine wp_letv (fun S5 eS5 => ?_)
        have hIS5 : IC P S5 := by rw [eS5]; exact (iw_8_7 hI hk_b)
        have hpS5 : S5.2.2 = S.2.2 := by rw [eS5]; exact rfl
        refine wp_letv (fun S6 eS6 => ?_)
        have hIS6 : IC P S6 := by rw [eS6]; exact (iw_8_8 hIS5 hk_b)
        have hpS6 : S6.2.2 = S.2.2 := by rw [eS6]; exact hpS5
        exact wp_some ⟨hIS6, hpS6⟩
  · skip
    exact wp_some ⟨hI, rfl⟩
theorem tc_X10_step {P : Nat → Nat → Option Int} {b : Nat} {S : cT} (hk_b : cK b = 8) (hI : IC P S) : wp (fc_X10_step b S) (fun w => (IC P w) ∧ (w.2.2 = S.2.2)) := by
  unfold fc_X10_step
  have l_0 : (0 : Int32).toInt = 0 := by decide
  have l_1 : (1 : Int32).toInt = 1 := by decide
  have l_400 : (400 : Int32).toInt = 400 := by decide
  refine wp_eqn (fun hc1 => ?_) ?_
  · skip
    have c2 := ic_8_6 hI hk_b
    refine wp_lt (fun hc3 => ?_) (fun hc3 => ?_)
    · skip
      exact wp_some ⟨hI, rfl⟩
    · skip
      have c4 := ic_8_5 hI hk_b
      have t5 : ((S.1 b 6) + (1 : Int32) : Int32).toInt = ((S.1 b 6)).toInt + ((1 : Int32)).toInt := tA (by omega) (by omega)
      refine wp_le (fun hc6 => ?_) (fun hc6 => ?_)
      · skip
        exact wp_some ⟨hI, rfl⟩
      · skip
        refine wp_le (fun hc7 => ?_) (fun hc7 => ?_)
        · skip
          exact wp_some ⟨hI, rfl⟩
        · skip
          refine wp_letv (fun S5 eS5 => ?_)
          have hIS5 : IC P S5 := by rw [eS5]; exact (iw_8_6 hI hk_b (by omega) (by omega))
          have hpS5 : S5.2.2 = S.2.2 := by rw [eS5]; exact rfl
          have c8 := ic_8_6 hIS5 hk_b
          have f9 : ((S5.1 b 6)).toInt = (((S.1 b 6) + (1 : Int32))).toInt := by rw [eS5]; exact congrArg Int32.toInt (ca_at _ _ _ _)
          refine wp_bif (inb_of (by omega) (by omega)) ?_
          refine wp_letv (fun v6 ev6 => ?_)
          refine wp_letv (fun S7 eS7 => ?_)
          have hIS7 : IC P S7 := by rw [eS7]; exact (iw_8_8 hIS5 hk_b)
          have hpS7 : S7.2.2 = S.2.2 := by rw [eS7]; exact hpS5
          have c10 := ic_8_6 hIS7 hk_b
          have f11 : ((S7.1 b 6)).toInt = ((S5.1 b 6)).toInt := by rw [eS7]; exact congrArg Int32.toInt (ca_ne (Or.inr (by decide)))
          refine wp_bif (inb_of (by omega) (by omega)) ?_
          refine wp_letv (fun v8 ev8 => ?_)
          refine wp_letv (fun S9 eS9 => ?_)
          have hIS9 : IC P S9 := by rw [eS9]; exact (iw_8_9 hIS7 hk_b)
          have hpS9 : S9.2.2 = S.2.2 := by rw [eS9]; exact hpS7
          exact wp_some ⟨hIS9, hpS9⟩
  · skip
    exact wp_some ⟨hI, rfl⟩
theorem tc_X10_takeNumber {P : Nat → Nat → Option Int} {b : Nat} {p0 : Int32} {p1 : Int32} {S : cT} (hk_b : cK b = 8) (hI : IC P S) : wp (fc_X10_takeNumber b p0 p1 S) (fun w => (IC P w.2) ∧ (w.2.2.2 = S.2.2)) := by
  unfold fc_X10_takeNumber
  have l_258 : (258 : Int32).toInt = 258 := by decide
  refine wp_eqn (fun hc1 => ?_) ?_
  · skip
    refine wp_lt (fun hc2 => ?_) (fun hc2 => ?_)
    · skip
      refine wp_bind (tc_X10_refuse hk_b hI) (fun q3 hq3 => ?_)
      obtain ⟨h4, h5⟩ := hq3
      exact wp_some ⟨h4, h5⟩
    · skip
      refine wp_le (fun hc6 => ?_) (fun hc6 => ?_)
      · skip
        refine wp_bind (tc_X10_step hk_b hI) (fun q5 hq7 => ?_)
        obtain ⟨h8, h9⟩ := hq7
        exact wp_some ⟨h8, h9⟩
      · skip
        refine wp_bind (tc_X10_refuse hk_b hI) (fun q6 hq10 => ?_)
        obtain ⟨h11, h12⟩ := hq10
        exact wp_some ⟨h11, h12⟩
  · skip
    refine wp_bind (tc_X10_refuse hk_b hI) (fun q7 hq13 => ?_)
    obtain ⟨h14, h15⟩ := hq13
    exact wp_some ⟨h14, h15⟩
theorem tc_X10_takeNumber_m {P : Nat → Nat → Option Int} {b : Nat} {S : cT} (hk_b : cK b = 8) (hI : IC P S) : wp (fc_X10_takeNumber b 1 6 S) (fun w => (1 ≤ (w.1).toInt) ∧ ((w.1).toInt ≤ 6) ∧ (IC P w.2) ∧ (w.2.2.2 = S.2.2)) := by
  unfold fc_X10_takeNumber
  have l_1 : (1 : Int32).toInt = 1 := by decide
  have l_6 : (6 : Int32).toInt = 6 := by decide
  refine wp_eqn (fun _ => ?_) ?_
  · refine wp_lt (fun h1 => ?_) (fun h1 => ?_)
    · refine wp_bind (tc_X10_refuse hk_b hI) (fun q h => ?_)
      exact wp_some ⟨by dsimp only; omega, by dsimp only; omega, h.1, h.2⟩
    · refine wp_le (fun h2 => ?_) (fun h2 => ?_)
      · refine wp_bind (tc_X10_step hk_b hI) (fun q h => ?_)
        exact wp_some ⟨by dsimp only; omega, by dsimp only; omega, h.1, h.2⟩
      · refine wp_bind (tc_X10_refuse hk_b hI) (fun q h => ?_)
        exact wp_some ⟨by dsimp only; omega, by dsimp only; omega, h.1, h.2⟩
  · refine wp_bind (tc_X10_refuse hk_b hI) (fun q h => ?_)
    exact wp_some ⟨by dsimp only; omega, by dsimp only; omega, h.1, h.2⟩
