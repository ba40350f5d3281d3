/-! ===== every method of the class answers (by program) 5 ===== -/
theorem tc_X5_serveByWords {P : Nat → Nat → Option Int} {b : Nat} {p0 : Int32} {p1 : Int32} {S : cT} (hk_b : cK b = 4) (hl_p0 : 0 ≤ p0.toInt) (hu_p0 : p0.toInt ≤ 2032) (hl_p1 : 1 ≤ p1.toInt) (hu_p1 : p1.toInt ≤ 8) (hI : IC P S) : wp (fc_X5_serveByWords b p0 p1 S) (fun w => (IC P w) ∧ (w.2.2 = S.2.2)) := by
  unfold fc_X5_serveByWords
  have l_0 : (0 : Int32).toInt = 0 := by decide
  have fu : (FU : Int) = 1000000 := rfl
  refine wp_bind (tc_X5_serveByWords_L2 hk_b (by omega) (by omega) (by omega) (by omega) FU (0 : Int32) S (by omega) (by omega) hI (by omega)) (fun w9 hq1 => ?_)
  obtain ⟨h2, h3, h4, h5⟩ := hq1
  exact wp_some ⟨h4, h5⟩
theorem tc_X5_serve_L2 {P : Nat → Nat → Option Int} {k0 : Nat} {k1 : Int32} {k2 : Int32} (hk_k0 : cK k0 = 4) (hl_k1 : 0 ≤ k1.toInt) (hu_k1 : k1.toInt ≤ 2032)  : ∀ (N : Nat) (a3 : Int32) (S : cT), 0 ≤ a3.toInt → a3.toInt ≤ 10 → IC P S → 10 - a3.toInt < (N : Int) → wp (fc_X5_serve_L2 k0 k1 k2 N a3 S) (fun w => (0 ≤ (w.1).toInt) ∧ ((w.1).toInt ≤ 10) ∧ (IC P w.2) ∧ (w.2.2.2 = S.2.2)) := by
  intro N
  induction N with
  | zero =>
    intro a3 S vl_a3 vu_a3 hI hm
    exfalso; omega
  | succ N ih =>
    intro a3 S vl_a3 vu_a3 hI hm
    rw [fc_X5_serve_L2]
    have l_0 : (0 : Int32).toInt = 0 := by decide
    have l_1 : (1 : Int32).toInt = 1 := by decide
    have l_10 : (10 : Int32).toInt = 10 := by decide
    have l_6 : (6 : Int32).toInt = 6 := by decide
    refine wp_le (fun hc1 => ?_) (fun hc1 => ?_)
    · skip
      exact wp_some ⟨(by first | omega | (dsimp only; omega)), (by first | omega | (dsimp only; omega)), hI, rfl⟩
    · skip
      have t2 := and_i (k2 >>> (a3 &&& (31 : Int32))) (c := 1) l_1 (by decide)
      refine wp_eq_lo (by omega) (fun hc3 => ?_) (fun hc3 => ?_)
      · skip
        have t4 : (a3 + (1 : Int32) : Int32).toInt = (a3).toInt + ((1 : Int32)).toInt := tA (by omega) (by omega)
        exact (ih (a3 + (1 : Int32)) S (by omega) (by omega) hI (by omega))
      · skip
        refine wp_le (fun hc5 => ?_) (fun hc5 => ?_)
        · skip
          have t6 : (a3 - (6 : Int32) : Int32).toInt = (a3).toInt - ((6 : Int32)).toInt := tS (by omega) (by omega)
          have t7 := shl_i (e := (a3 - (6 : Int32))) (n := 3) (by omega) (by omega) (by decide)
          refine wp_bind (tc_X5_serveByWords hk_k0 (by omega) (by omega) (by omega) (by omega) hI) (fun q4 hq8 => ?_)
          obtain ⟨h9, h10⟩ := hq8
          have t11 : (a3 + (1 : Int32) : Int32).toInt = (a3).toInt + ((1 : Int32)).toInt := tA (by omega) (by omega)
          have zz12 := (ih (a3 + (1 : Int32)) q4 (by omega) (by omega) h9 (by omega))
          exact wp_mono zz12 (fun w hw => ⟨hw.1, hw.2.1, hw.2.2.1, hw.2.2.2.trans h10⟩)
        · skip
          refine wp_bind (tc_X5_serveWithinWords hk_k0 (by omega) (by omega) (by omega) (by omega) hI) (fun q5 hq13 => ?_)
          obtain ⟨h14, h15⟩ := hq13
          have t16 : (a3 + (1 : Int32) : Int32).toInt = (a3).toInt + ((1 : Int32)).toInt := tA (by omega) (by omega)
          have zz17 := (ih (a3 + (1 : Int32)) q5 (by omega) (by omega) h14 (by omega))
          exact wp_mono zz17 (fun w hw => ⟨hw.1, hw.2.1, hw.2.2.1, hw.2.2.2.trans h15⟩)
theorem tc_X5_serve {P : Nat → Nat → Option Int} {b : Nat} {p0 : Int32} {p1 : Int32} {S : cT} (hk_b : cK b = 4) (hl_p0 : 0 ≤ p0.toInt) (hu_p0 : p0.toInt ≤ 2032) (hI : IC P S) : wp (fc_X5_serve b p0 p1 S) (fun w => (IC P w) ∧ (w.2.2 = S.2.2)) := by
  unfold fc_X5_serve
  have l_0 : (0 : Int32).toInt = 0 := by decide
  have fu : (FU : Int) = 1000000 := rfl
  refine wp_bind (tc_X5_serve_L2 hk_b (by omega) (by omega) FU (0 : Int32) S (by omega) (by omega) hI (by omega)) (fun w6 hq1 => ?_)
  obtain ⟨h2, h3, h4, h5⟩ := hq1
  exact wp_some ⟨h4, h5⟩
theorem tc_X5_mostWith_L28 {P : Nat → Nat → Option Int} {k0 : Nat} {k2 : Int32} {k4 : Int32} {S : cT} (hk_k0 : cK k0 = 4) (hI : IC P S) : ∀ (N : Nat) (a3 : Int32) (a5 : Int64) (a7 : Int32), 0 ≤ a7.toInt → a7.toInt ≤ 64 → 64 - a7.toInt < (N : Int) → wp (fc_X5_mostWith_L28 k0 k2 k4 S N a3 a5 a7) (fun w => (0 ≤ (w.2.2).toInt) ∧ ((w.2.2).toInt ≤ 64)) := by
  intro N
  induction N with
  | zero =>
    intro a3 a5 a7 vl_a7 vu_a7 hm
    exfalso; omega
  | succ N ih =>
    intro a3 a5 a7 vl_a7 vu_a7 hm
    rw [fc_X5_mostWith_L28]
    have l_1 : (1 : Int32).toInt = 1 := by decide
    have l_1023 : (1023 : Int32).toInt = 1023 := by decide
    have l_64 : (64 : Int32).toInt = 64 := by decide
    refine wp_le (fun hc1 => ?_) (fun hc1 => ?_)
    · skip
      exact wp_some ⟨(by first | omega | (dsimp only; omega)), (by first | omega | (dsimp only; omega))⟩
    · skip
      refine wp_if (fun hc2 => ?_) (fun hc2 => ?_)
      · skip
        exact wp_some ⟨(by first | omega | (dsimp only; omega)), (by first | omega | (dsimp only; omega))⟩
      · skip
        refine wp_bind (Q := fun w => True) ?_ (fun w5 hq3 => ?_)
        · skip
          refine wp_if (fun hc4 => ?_) (fun hc4 => ?_)
          · skip
            exact wp_some trivial
          · skip
            have t5 := and_i (((k4 * (64 : Int32)) + a7) ||| k2) (c := 1023) l_1023 (by decide)
            refine wp_bif (inb_of (by omega) (by omega)) ?_
            refine wp_letv (fun v7 ev7 => ?_)
            exact wp_some trivial
        · skip
          have t6 : (a7 + (1 : Int32) : Int32).toInt = (a7).toInt + ((1 : Int32)).toInt := tA (by omega) (by omega)
          exact (ih w5 (((a5).toUInt64 >>> ((((1 : Int32)).toInt64).toUInt64 &&& (Int64.toUInt64 63)))).toInt64 (a7 + (1 : Int32)) (by omega) (by omega) (by omega))
theorem tc_X5_mostWith_L5 {P : Nat → Nat → Option Int} {k0 : Nat} {k1 : Int32} {k2 : Int32} {S : cT} (hk_k0 : cK k0 = 4) (hl_k1 : 0 ≤ k1.toInt) (hu_k1 : k1.toInt ≤ 2032) (hI : IC P S) : ∀ (N : Nat) (a3 : Int32) (a4 : Int32), 0 ≤ a4.toInt → a4.toInt ≤ 16 → 16 - a4.toInt < (N : Int) → wp (fc_X5_mostWith_L5 k0 k1 k2 S N a3 a4) (fun w => (0 ≤ (w.2).toInt) ∧ ((w.2).toInt ≤ 16)) := by
  intro N
  induction N with
  | zero =>
    intro a3 a4 vl_a4 vu_a4 hm
    exfalso; omega
  | succ N ih =>
    intro a3 a4 vl_a4 vu_a4 hm
    rw [fc_X5_mostWith_L5]
    have l_0 : (0 : Int32).toInt = 0 := by decide
    have l_1 : (1 : Int32).toInt = 1 := by decide
    have fu : (FU : Int) = 1000000 := rfl
    have c1 := ic_4_3 hI hk_k0
    refine wp_le (fun hc2 => ?_) (fun hc2 => ?_)
    · skip
      exact wp_some ⟨(by first | omega | (dsimp only; omega)), (by first | omega | (dsimp only; omega))⟩
    · skip
      have t3 : (k1 + a4 : Int32).toInt = (k1).toInt + (a4).toInt := tA (by omega) (by omega)
      refine wp_bif (inb_of (by omega) (by omega)) ?_
      refine wp_letv (fun v2 ev2 => ?_)
      refine wp_bind (tc_X5_mostWith_L28 hk_k0 hI FU a3 v2 (0 : Int32) (by omega) (by omega) (by omega)) (fun w8 hq4 => ?_)
      obtain ⟨h5, h6⟩ := hq4
      have t7 : (a4 + (1 : Int32) : Int32).toInt = (a4).toInt + ((1 : Int32)).toInt := tA (by omega) (by omega)
      exact (ih w8.1 (a4 + (1 : Int32)) (by omega) (by omega) (by omega))
theorem tc_X5_mostWith {P : Nat → Nat → Option Int} {b : Nat} {p0 : Int32} {p1 : Int32} {S : cT} (hk_b : cK b = 4) (hl_p0 : 0 ≤ p0.toInt) (hu_p0 : p0.toInt ≤ 2032) (hI : IC P S) : wp (fc_X5_mostWith b p0 p1 S) (fun w => True) := by
  unfold fc_X5_mostWith
  have l_0 : (0 : Int32).toInt = 0 := by decide
  have fu : (FU : Int) = 1000000 := rfl
  refine wp_bind (tc_X5_mostWith_L5 hk_b (by omega) (by omega) hI FU (0 : Int32) (0 : Int32) (by omega) (by omega) (by omega)) (fun w9 hq1 => ?_)
  obtain ⟨h2, h3⟩ := hq1
  exact wp_some trivial
theorem tc_X5_follow_L53 {P : Nat → Nat → Option Int} {k0 : Nat} {k1 : Nat} {k4 : Int32} {k5 : Int32} {S : cT} (hk_k0 : cK k0 = 4) (hk_k1 : cK k1 = 2) (hI : IC P S) : ∀ (N : Nat) (a3 : Int32) (a6 : Int32), 0 ≤ a6.toInt → a6.toInt ≤ 8 → 8 - a6.toInt < (N : Int) → wp (fc_X5_follow_L53 k0 k1 k4 k5 S N a3 a6) (fun w => (0 ≤ (w.2).toInt) ∧ ((w.2).toInt ≤ 8)) := by
  intro N
  induction N with
  | zero =>
    intro a3 a6 vl_a6 vu_a6 hm
    exfalso; omega
  | succ N ih =>
    intro a3 a6 vl_a6 vu_a6 hm
    rw [fc_X5_follow_L53]
    have l_1 : (1 : Int32).toInt = 1 := by decide
    have c1 := ic_2_9 hI hk_k1
    refine wp_le (fun hc2 => ?_) (fun hc2 => ?_)
    · skip
      exact wp_some ⟨(by first | omega | (dsimp only; omega)), (by first | omega | (dsimp only; omega))⟩
    · skip
      refine wp_bind (tc_X5_canGo hk_k1 hI) (fun q10 hq3 => ?_)
      refine wp_b (fun hb4 => ?_) (fun hb4 => ?_)
      · skip
        have t5 : (a6 + (1 : Int32) : Int32).toInt = (a6).toInt + ((1 : Int32)).toInt := tA (by omega) (by omega)
        exact (ih a3 (a6 + (1 : Int32)) (by omega) (by omega) (by omega))
      · skip
        refine wp_bind (tc_X5_start hI) (fun q12 hq6 => ?_)
        obtain ⟨h7, h8⟩ := hq6
        refine wp_bind (tc_X5_mostWith hk_k0 (by omega) (by omega) hI) (fun q13 hq9 => ?_)
        refine wp_eqn (fun hc10 => ?_) ?_
        · skip
          exact wp_some ⟨(by first | omega | (dsimp only; omega)), (by first | omega | (dsimp only; omega))⟩
        · skip
          have t11 : (a6 + (1 : Int32) : Int32).toInt = (a6).toInt + ((1 : Int32)).toInt := tA (by omega) (by omega)
          exact (ih a3 (a6 + (1 : Int32)) (by omega) (by omega) (by omega))
theorem tc_X5_follow_L37 {P : Nat → Nat → Option Int} {k0 : Nat} {k1 : Nat} {k2 : Int32} (hk_k0 : cK k0 = 4) (hk_k1 : cK k1 = 2)  : ∀ (N : Nat) (a3 : Int32) (a4 : Int32) (a5 : Int32) (S : cT), 0 ≤ a5.toInt → a5.toInt ≤ 16 → IC P S → 16 - a5.toInt < (N : Int) → wp (fc_X5_follow_L37 k0 k1 k2 N a3 a4 a5 S) (fun w => (0 ≤ (w.2.2.1).toInt) ∧ ((w.2.2.1).toInt ≤ 16) ∧ (IC P w.2.2.2) ∧ (w.2.2.2.2.2 = S.2.2)) := by
  intro N
  induction N with
  | zero =>
    intro a3 a4 a5 S vl_a5 vu_a5 hI hm
    exfalso; omega
  | succ N ih =>
    intro a3 a4 a5 S vl_a5 vu_a5 hI hm
    rw [fc_X5_follow_L37]
    have l_0 : (0 : Int32).toInt = 0 := by decide
    have l_1 : (1 : Int32).toInt = 1 := by decide
    have l_16 : (16 : Int32).toInt = 16 := by decide
    have fu : (FU : Int) = 1000000 := rfl
    refine wp_le (fun hc1 => ?_) (fun hc1 => ?_)
    · skip
      exact wp_some ⟨(by first | omega | (dsimp only; omega)), (by first | omega | (dsimp only; omega)), hI, rfl⟩
    · skip
      refine wp_le (fun hc2 => ?_) (fun hc2 => ?_)
      · skip
        exact wp_some ⟨(by first | omega | (dsimp only; omega)), (by first | omega | (dsimp only; omega)), hI, rfl⟩
      · skip
        refine wp_bind (tc_X5_follow_L53 hk_k0 hk_k1 hI FU a3 (0 : Int32) (by omega) (by omega) (by omega)) (fun w15 hq3 => ?_)
        obtain ⟨h4, h5⟩ := hq3
        refine wp_bind (tc_X5_served hk_k1 hI) (fun q16 hq6 => ?_)
        refine wp_bif (inb_of (by omega) (by omega)) ?_
        refine wp_letv (fun S18 eS18 => ?_)
        have hIS18 : IC P S18 := by rw [eS18]; exact (iw_20 hI (kw_4_3 hk_k0))
        have hpS18 : S18.2.2 = S.2.2 := by rw [eS18]; exact rfl
        have t7 : (a5 + (1 : Int32) : Int32).toInt = (a5).toInt + ((1 : Int32)).toInt := tA (by omega) (by omega)
        have zz8 := (ih w15.1 (a4 ||| q16) (a5 + (1 : Int32)) S18 (by omega) (by omega) hIS18 (by omega))
        exact wp_mono zz8 (fun w hw => ⟨hw.1, hw.2.1, hw.2.2.1, hw.2.2.2.trans hpS18⟩)
theorem tc_X5_follow {P : Nat → Nat → Option Int} {b : Nat} {p0 : Nat} {p1 : Int32} {S : cT} (hk_b : cK b = 4) (hk_p0 : cK p0 = 2) (hI : IC P S) : wp (fc_X5_follow b p0 p1 S) (fun w => (IC P w) ∧ (w.2.2 = S.2.2)) := by
  unfold fc_X5_follow
  have l_0 : (0 : Int32).toInt = 0 := by decide
  have l_1 : (1 : Int32).toInt = 1 := by decide
  have fu : (FU : Int) = 1000000 := rfl
  refine wp_bind (tc_X5_served hk_p0 hI) (fun q1 hq1 => ?_)
  refine wp_bind (tc_X5_start hI) (fun q2 hq2 => ?_)
  obtain ⟨h3, h4⟩ := hq2
  refine wp_bind (tc_X5_mostWith hk_b (by omega) (by omega) hI) (fun q3 hq5 => ?_)
  refine wp_letv (fun S4 eS4 => ?_)
  have hIS4 : IC P S4 := by rw [eS4]; exact (iw_4_4 hI hk_b)
  have hpS4 : S4.2.2 = S.2.2 := by rw [eS4]; exact rfl
  refine wp_bif (inb_of (by omega) (by omega)) ?_
  refine wp_letv (fun S6 eS6 => ?_)
  have hIS6 : IC P S6 := by rw [eS6]; exact (iw_20 hIS4 (kw_4_3 hk_b))
  have hpS6 : S6.2.2 = S.2.2 := by rw [eS6]; exact hpS4
  refine wp_bind (tc_X5_follow_L37 hk_b hk_p0 FU (S.1 p0 10) q1 (1 : Int32) S6 (by omega) (by omega) hIS6 (by omega)) (fun w19 hq6 => ?_)
  obtain ⟨h7, h8, h9, h10⟩ := hq6
  exact wp_some ⟨h9, (h10.trans hpS6)⟩
theorem tc_X5_plan_L29 {P : Nat → Nat → Option Int} {k0 : Nat} {k1 : Nat} {k3 : Int32} {k4 : Int32} (hk_k0 : cK k0 = 4) (hk_k1 : cK k1 = 2)  : ∀ (N : Nat) (a5 : Int32) (S : cT), 0 ≤ a5.toInt → a5.toInt ≤ 8 → IC P S → 8 - a5.toInt < (N : Int) → wp (fc_X5_plan_L29 k0 k1 k3 k4 N a5 S) (fun w => (0 ≤ (w.1).toInt) ∧ ((w.1).toInt ≤ 8) ∧ (IC P w.2) ∧ (w.2.2.2 = S.2.2)) := by
  intro N
  induction N with
  | zero =>
    intro a5 S vl_a5 vu_a5 hI hm
    exfalso; omega
  | succ N ih =>
    intro a5 S vl_a5 vu_a5 hI hm
    rw [fc_X5_plan_L29]
    have l_0 : (0 : Int32).toInt = 0 := by decide
    have l_1 : (1 : Int32).toInt = 1 := by decide
    have c1 := ic_2_9 hI hk_k1
    refine wp_le (fun hc2 => ?_) (fun hc2 => ?_)
    · skip
      exact wp_some ⟨(by first | omega | (dsimp only; omega)), (by first | omega | (dsimp only; omega)), hI, rfl⟩
    · skip
      refine wp_bind (Q := fun w => (0 ≤ (w).toInt) ∧ ((w).toInt ≤ 1)) ?_ (fun w4 hq3 => ?_)
      · skip
        refine wp_eqn (fun hc4 => ?_) ?_
        · skip
          exact wp_some ⟨(by first | omega | (dsimp only; omega)), (by first | omega | (dsimp only; omega))⟩
        · skip
          exact wp_some ⟨(by first | omega | (dsimp only; omega)), (by first | omega | (dsimp only; omega))⟩
      · skip
        obtain ⟨h5, h6⟩ := hq3
        refine wp_bind (tc_X5_gather hk_k0 hk_k1 hI) (fun q6 hq7 => ?_)
        obtain ⟨h8, h9⟩ := hq7
        refine wp_bind (tc_X5_start h8) (fun q7 hq10 => ?_)
        obtain ⟨h11, h12⟩ := hq10
        refine wp_bind (tc_X5_served hk_k1 h8) (fun q8 hq13 => ?_)
        refine wp_bind (tc_X5_serve hk_k0 (by omega) (by omega) h8) (fun q9 hq14 => ?_)
        obtain ⟨h15, h16⟩ := hq14
        have t17 : (a5 + (1 : Int32) : Int32).toInt = (a5).toInt + ((1 : Int32)).toInt := tA (by omega) (by omega)
        have zz18 := (ih (a5 + (1 : Int32)) q9 (by omega) (by omega) h15 (by omega))
        exact wp_mono zz18 (fun w hw => ⟨hw.1, hw.2.1, hw.2.2.1, hw.2.2.2.trans (h16.trans h9)⟩)
theorem tc_X5_plan_L21 {P : Nat → Nat → Option Int} {k0 : Nat} {k1 : Nat} {k3 : Int32} (hk_k0 : cK k0 = 4) (hk_k1 : cK k1 = 2)  : ∀ (N : Nat) (a4 : Int32) (S : cT), -1 ≤ a4.toInt → a4.toInt ≤ 15 → IC P S → a4.toInt + 1 < (N : Int) → wp (fc_X5_plan_L21 k0 k1 k3 N a4 S) (fun w => (-1 ≤ (w.1).toInt) ∧ ((w.1).toInt ≤ 15) ∧ (IC P w.2) ∧ (w.2.2.2 = S.2.2)) := by
  intro N
  induction N with
  | zero =>
    intro a4 S vl_a4 vu_a4 hI hm
    exfalso; omega
  | succ N ih =>
    intro a4 S vl_a4 vu_a4 hI hm
    rw [fc_X5_plan_L21]
    obtain ⟨m_1, e_m1⟩ : ∃ x : Int32, x = (-1) := ⟨_, rfl⟩
    try rw [← e_m1]
    have l_m1 : m_1.toInt = -1 := by rw [e_m1]; decide
    have l_0 : (0 : Int32).toInt = 0 := by decide
    have fu : (FU : Int) = 1000000 := rfl
    refine wp_lt (fun hc1 => ?_) (fun hc1 => ?_)
    · skip
      exact wp_some ⟨(by first | omega | (dsimp only; omega)), (by first | omega | (dsimp only; omega)), hI, rfl⟩
    · skip
      refine wp_bind (tc_X5_plan_L29 hk_k0 hk_k1 FU (0 : Int32) S (by omega) (by omega) hI (by omega)) (fun w10 hq2 => ?_)
      obtain ⟨h3, h4, h5, h6⟩ := hq2
      have t7 : (a4 + m_1 : Int32).toInt = (a4).toInt + (m_1).toInt := tA (by omega) (by omega)
      have zz8 := (ih (a4 + m_1) w10.2 (by omega) (by omega) h5 (by omega))
      exact wp_mono zz8 (fun w hw => ⟨hw.1, hw.2.1, hw.2.2.1, hw.2.2.2.trans h6⟩)
theorem tc_X5_plan {P : Nat → Nat → Option Int} {b : Nat} {p0 : Nat} {p1 : Int32} {S : cT} (hk_b : cK b = 4) (hk_p0 : cK p0 = 2) (hI : IC P S) : wp (fc_X5_plan b p0 p1 S) (fun w => (IC P w) ∧ (w.2.2 = S.2.2)) := by
  unfold fc_X5_plan
  have l_1 : (1 : Int32).toInt = 1 := by decide
  have l_16 : (16 : Int32).toInt = 16 := by decide
  have fu : (FU : Int) = 1000000 := rfl
  refine wp_bind (tc_X5_addWorths hk_b hk_p0 hI) (fun q1 hq1 => ?_)
  obtain ⟨h2, h3⟩ := hq1
  have t4 := mn_i p1 16
  have b5 := bnd p1
  have t6 := mx_i 1 (mnI p1 16)
  have b7 := bnd (mnI p1 16)
  have t8 : ((mxI 1 (mnI p1 16)) - (1 : Int32) : Int32).toInt = ((mxI 1 (mnI p1 16))).toInt - ((1 : Int32)).toInt := tS (by omega) (by omega)
  refine wp_bind (tc_X5_plan_L21 hk_b hk_p0 FU ((mxI 1 (mnI p1 16)) - (1 : Int32)) q1 (by omega) (by omega) h2 (by omega)) (fun w11 hq9 => ?_)
  obtain ⟨h10, h11, h12, h13⟩ := hq9
  refine wp_bind (tc_X5_follow hk_b hk_p0 h12) (fun q12 hq14 => ?_)
  obtain ⟨h15, h16⟩ := hq14
  exact wp_some ⟨h15, (h16.trans (h13.trans h3))⟩
theorem tc_X6_isFull {P : Nat → Nat → Option Int} {b : Nat} {S : cT} (hk_b : cK b = 5) (hI : IC P S) : wp (fc_X6_isFull b S) (fun w => True) := by
  unfold fc_X6_isFull
  have c1 := ic_5 hI hk_b
  have c2 := ic_5 hI hk_b
  refine wp_lt (fun hc3 => ?_) (fun hc3 => ?_)
  · skip
    exact wp_some trivial
  · skip
    exact wp_some trivial
theorem tc_X7_clear {P : Nat → Nat → Option Int} {b : Nat} {S : cT} (hk_b : cK b = 6) (hI : IC P S) : wp (fc_X7_clear b S) (fun w => (IC P w) ∧ (w.2.2 = S.2.2)) := by
  unfold fc_X7_clear
  have l_0 : (0 : Int32).toInt = 0 := by decide
  refine wp_letv (fun S1 eS1 => ?_)
  have hIS1 : IC P S1 := by rw [eS1]; exact (iw_6_5 hI hk_b (by omega) (by omega))
  have hpS1 : S1.2.2 = S.2.2 := by rw [eS1]; exact rfl
  refine wp_letv (fun S2 eS2 => ?_)
  have hIS2 : IC P S2 := by rw [eS2]; exact (iw_6_6 hIS1 hk_b (by omega) (by omega))
  have hpS2 : S2.2.2 = S.2.2 := by rw [eS2]; exact hpS1
  refine wp_letv (fun S3 eS3 => ?_)
  have hIS3 : IC P S3 := by rw [eS3]; exact (iw_6_7 hIS2 hk_b)
  have hpS3 : S3.2.2 = S.2.2 := by rw [eS3]; exact hpS2
  exact wp_some ⟨hIS3, hpS3⟩
theorem tc_X7_addCode {P : Nat → Nat → Option Int} {b : Nat} {p0 : Int32} {S : cT} (hk_b : cK b = 6) (hI : IC P S) : wp (fc_X7_addCode b p0 S) (fun w => (IC P w) ∧ (w.2.2 = S.2.2)) := by
  unfold fc_X7_addCode
  have l_0 : (0 : Int32).toInt = 0 := by decide
  have l_1 : (1 : Int32).toInt = 1 := by decide
  have l_400 : (400 : Int32).toInt = 400 := by decide
  have c1 := ic_6_5 hI hk_b
  refine wp_lt (fun hc2 => ?_) (fun hc2 => ?_)
  · skip
    exact wp_some ⟨hI, rfl⟩
  · skip
    refine wp_le (fun hc3 => ?_) (fun hc3 => ?_)
    · skip
      exact wp_some ⟨hI, rfl⟩
    · skip
      refine wp_bif (inb_of (by omega) (by omega)) ?_
      refine wp_letv (fun S4 eS4 => ?_)
      have hIS4 : IC P S4 := by rw [eS4]; exact (iw_20 hI (kw_6_1 hk_b))
      have hpS4 : S4.2.2 = S.2.2 := by rw [eS4]; exact rfl
      have c4 := ic_6_5 hIS4 hk_b
      have f5 : ((S4.1 b 5)).toInt = ((S.1 b 5)).toInt := by rw [eS4]; exact congrArg Int32.toInt (ca_ne (Or.inl (k_ne hk_b (ko_6_1 hk_b) (by decide))))
      have t6 : ((S4.1 b 5) + (1 : Int32) : Int32).toInt = ((S4.1 b 5)).toInt + ((1 : Int32)).toInt := tA (by omega) (by omega)
      refine wp_letv (fun S5 eS5 => ?_)
      have hIS5 : IC P S5 := by rw [eS5]; exact (iw_6_5 hIS4 hk_b (by omega) (by omega))
      have hpS5 : S5.2.2 = S.2.2 := by rw [eS5]; exact hpS4
      exact wp_some ⟨hIS5, hpS5⟩
theorem tc_X7_addClause {P : Nat → Nat → Option Int} {b : Nat} {p0 : Int32} {p1 : Int32} {p2 : Int32} {S : cT} (hk_b : cK b = 6) (hI : IC P S) : wp (fc_X7_addClause b p0 p1 p2 S) (fun w => (IC P w) ∧ (w.2.2 = S.2.2)) := by
  unfold fc_X7_addClause
  have l_0 : (0 : Int32).toInt = 0 := by decide
  have l_1 : (1 : Int32).toInt = 1 := by decide
  have l_12 : (12 : Int32).toInt = 12 := by decide
  have c1 := ic_6_6 hI hk_b
  refine wp_lt (fun hc2 => ?_) (fun hc2 => ?_)
  · skip
    exact wp_some ⟨hI, rfl⟩
  · skip
    refine wp_le (fun hc3 => ?_) (fun hc3 => ?_)
    · skip
      exact wp_some ⟨hI, rfl⟩
    · skip
      refine wp_bif (inb_of (by omega) (by omega)) ?_
      refine wp_letv (fun S4 eS4 => ?_)
      have hIS4 : IC P S4 := by rw [eS4]; exact (iw_20 hI (kw_6_2 hk_b))
      have hpS4 : S4.2.2 = S.2.2 := by rw [eS4]; exact rfl
      have c4 := ic_6_6 hIS4 hk_b
      have f5 : ((S4.1 b 6)).toInt = ((S.1 b 6)).toInt := by rw [eS4]; exact congrArg Int32.toInt (ca_ne (Or.inl (k_ne hk_b (ko_6_2 hk_b) (by decide))))
      refine wp_bif (inb_of (by omega) (by omega)) ?_
      refine wp_letv (fun S6 eS6 => ?_)
      have hIS6 : IC P S6 := by rw [eS6]; exact (iw_20 hIS4 (kw_6_3 hk_b))
      have hpS6 : S6.2.2 = S.2.2 := by rw [eS6]; exact hpS4
      have c6 := ic_6_6 hIS6 hk_b
      have f7 : ((S6.1 b 6)).toInt = ((S4.1 b 6)).toInt := by rw [eS6]; exact congrArg Int32.toInt (ca_ne (Or.inl (k_ne hk_b (ko_6_3 hk_b) (by decide))))
      refine wp_bif (inb_of (by omega) (by omega)) ?_
      refine wp_letv (fun S8 eS8 => ?_)
      have hIS8 : IC P S8 := by rw [eS8]; exact (iw_20 hIS6 (kw_6_4 hk_b))
      have hpS8 : S8.2.2 = S.2.2 := by rw [eS8]; exact hpS6
      have c8 := ic_6_6 hIS8 hk_b
      have f9 : ((S8.1 b 6)).toInt = ((S6.1 b 6)).toInt := by rw [eS8]; exact congrArg Int32.toInt (ca_ne (Or.inl (k_ne hk_b (ko_6_4 hk_b) (by decide))))
      refine wp_bif (inb_of (by omega) (by omega)) ?_
      refine wp_letv (fun S10 eS10 => ?_)
      have hIS10 : IC P S10 := by rw [eS10]; exact (iw_20 hIS8 (kw_6_5 hk_b))
      have hpS10 : S10.2.2 = S.2.2 := by rw [eS10]; exact hpS8
      have c10 := ic_6_6 hIS10 hk_b
      have f11 : ((S10.1 b 6)).toInt = ((S8.1 b 6)).toInt := by rw [eS10]; exact congrArg Int32.toInt (ca_ne (Or.inl (k_ne hk_b (ko_6_5 hk_b) (by decide))))
      have t12 : ((S10.1 b 6) + (1 : Int32) : Int32).toInt = ((S10.1 b 6)).toInt + ((1 : Int32)).toInt := tA (by omega) (by omega)
      refine wp_letv (fun S11 eS11 => ?_)
      have hIS11 : IC P S11 := by rw [eS11]; exact (iw_6_6 hIS10 hk_b (by omega) (by omega))
      have hpS11 : S11.2.2 = S.2.2 := by rw [eS11]; exact hpS10
      exact wp_some ⟨hIS11, hpS11⟩
theorem tc_X8_readValue {P : Nat → Nat → Option Int} {p0 : Nat} {p1 : Nat} {S : cT} (hk_p0 : cK p0 = 8) (hk_p1 : cK p1 = 6) (hI : IC P S) : wp (fc_X8_readValue p0 p1 S) (fun w => (IC P w) ∧ (w.2.2 = S.2.2)) := by
  unfold fc_X8_readValue
  obtain ⟨m_1, e_m1⟩ : ∃ x : Int32, x = (-1) := ⟨_, rfl⟩
  try rw [← e_m1]
  have l_m1 : m_1.toInt = -1 := by rw [e_m1]; decide
  have l_0 : (0 : Int32).toInt = 0 := by decide
  have l_1 : (1 : Int32).toInt = 1 := by decide
  have l_258 : (258 : Int32).toInt = 258 := by decide
  have l_300 : (300 : Int32).toInt = 300 := by decide
  have l_60 : (60 : Int32).toInt = 60 := by decide
  have l_8 : (8 : Int32).toInt = 8 := by decide
  refine wp_bind (Q := fun w => (0 ≤ (w).toInt) ∧ ((w).toInt ≤ 1)) ?_ (fun w1 hq1 => ?_)
  · skip
    refine wp_eqn (fun hc2 => ?_) ?_
    · skip
      exact wp_some ⟨(by first | omega | (dsimp only; omega)), (by first | omega | (dsimp only; omega))⟩
    · skip
      exact wp_some ⟨(by first | omega | (dsimp only; omega)), (by first | omega | (dsimp only; omega))⟩
  · skip
    obtain ⟨h3, h4⟩ := hq1
    refine wp_eq_lo (by omega) (fun hc5 => ?_) (fun hc5 => ?_)
    · skip
      refine wp_lt (fun hc6 => ?_) (fun hc6 => ?_)
      · skip
        refine wp_bind (tc_X10_refuse hk_p0 hI) (fun q24 hq7 => ?_)
        obtain ⟨h8, h9⟩ := hq7
        exact wp_some ⟨h8, h9⟩
      · skip
        refine wp_lt (fun hc10 => ?_) (fun hc10 => ?_)
        · skip
          refine wp_eq_hi (by omega) (fun hc11 => ?_) (fun hc11 => ?_)
          · skip
            refine wp_lt (fun hc12 => ?_) (fun hc12 => ?_)
            · skip
              refine wp_letv (fun S28 eS28 => ?_)
              have hIS28 : IC P S28 := by rw [eS28]; exact (iw_6_7 hI hk_p1)
              have hpS28 : S28.2.2 = S.2.2 := by rw [eS28]; exact rfl
              refine wp_eq_hi (by omega) (fun hc13 => ?_) (fun hc13 => ?_)
              · skip
                refine wp_bind (tc_X7_addCode hk_p1 hIS28) (fun q30 hq14 => ?_)
                obtain ⟨h15, h16⟩ := hq14
                refine wp_bind (tc_X10_step hk_p0 h15) (fun q31 hq17 => ?_)
                obtain ⟨h18, h19⟩ := hq17
                exact wp_some ⟨h18, (h19.trans (h16.trans hpS28))⟩
              · skip
                refine wp_bind (tc_X7_addCode hk_p1 hIS28) (fun q32 hq20 => ?_)
                obtain ⟨h21, h22⟩ := hq20
                refine wp_bind (tc_X10_step hk_p0 h21) (fun q33 hq23 => ?_)
                obtain ⟨h24, h25⟩ := hq23
                exact wp_some ⟨h24, (h25.trans (h22.trans hpS28))⟩
            · skip
              refine wp_bind (tc_X10_refuse hk_p0 hI) (fun q34 hq26 => ?_)
              obtain ⟨h27, h28⟩ := hq26
              exact wp_some ⟨h27, h28⟩
          · skip
            refine wp_eqn (fun hc29 => ?_) ?_
            · skip
              refine wp_bind (tc_X10_refuse hk_p0 hI) (fun q44 hq30 => ?_)
              obtain ⟨h31, h32⟩ := hq30
              exact wp_some ⟨h31, h32⟩
            · skip
              refine wp_lt (fun hc33 => ?_) (fun hc33 => ?_)
              · skip
                refine wp_letv (fun S37 eS37 => ?_)
                have hIS37 : IC P S37 := by rw [eS37]; exact (iw_6_7 hI hk_p1)
                have hpS37 : S37.2.2 = S.2.2 := by rw [eS37]; exact rfl
                refine wp_eq_lo (by omega) (fun hc34 => ?_) (fun hc34 => ?_)
                · skip
                  refine wp_bind (tc_X7_addCode hk_p1 hIS37) (fun q39 hq35 => ?_)
                  obtain ⟨h36, h37⟩ := hq35
                  refine wp_bind (tc_X10_step hk_p0 h36) (fun q40 hq38 => ?_)
                  obtain ⟨h39, h40⟩ := hq38
                  exact wp_some ⟨h39, (h40.trans (h37.trans hpS37))⟩
                · skip
                  refine wp_bind (tc_X7_addCode hk_p1 hIS37) (fun q41 hq41 => ?_)
                  obtain ⟨h42, h43⟩ := hq41
                  refine wp_bind (tc_X10_step hk_p0 h42) (fun q42 hq44 => ?_)
                  obtain ⟨h45, h46⟩ := hq44
                  exact wp_some ⟨h45, (h46.trans (h43.trans hpS37))⟩
              · skip
                refine wp_bind (tc_X10_refuse hk_p0 hI) (fun q43 hq47 => ?_)
                obtain ⟨h48, h49⟩ := hq47
                exact wp_some ⟨h48, h49⟩
        · skip
          refine wp_bind (tc_X10_refuse hk_p0 hI) (fun q45 hq50 => ?_)
          obtain ⟨h51, h52⟩ := hq50
          exact wp_some ⟨h51, h52⟩
    · skip
      refine wp_eqn (fun hc53 => ?_) ?_
      · skip
        refine wp_lt (fun hc54 => ?_) (fun hc54 => ?_)
        · skip
          refine wp_letv (fun S6 eS6 => ?_)
          have hIS6 : IC P S6 := by rw [eS6]; exact (iw_6_7 hI hk_p1)
          have hpS6 : S6.2.2 = S.2.2 := by rw [eS6]; exact rfl
          refine wp_eq_hi (by omega) (fun hc55 => ?_) (fun hc55 => ?_)
          · skip
            refine wp_bind (tc_X7_addCode hk_p1 hIS6) (fun q8 hq56 => ?_)
            obtain ⟨h57, h58⟩ := hq56
            refine wp_bind (tc_X10_step hk_p0 h57) (fun q9 hq59 => ?_)
            obtain ⟨h60, h61⟩ := hq59
            exact wp_some ⟨h60, (h61.trans (h58.trans hpS6))⟩
          · skip
            refine wp_bind (tc_X7_addCode hk_p1 hIS6) (fun q10 hq62 => ?_)
            obtain ⟨h63, h64⟩ := hq62
            refine wp_bind (tc_X10_step hk_p0 h63) (fun q11 hq65 => ?_)
            obtain ⟨h66, h67⟩ := hq65
            exact wp_some ⟨h66, (h67.trans (h64.trans hpS6))⟩
        · skip
          refine wp_bind (tc_X10_refuse hk_p0 hI) (fun q12 hq68 => ?_)
          obtain ⟨h69, h70⟩ := hq68
          exact wp_some ⟨h69, h70⟩
      · skip
        refine wp_eqn (fun hc71 => ?_) ?_
        · skip
          refine wp_bind (tc_X10_refuse hk_p0 hI) (fun q22 hq72 => ?_)
          obtain ⟨h73, h74⟩ := hq72
          exact wp_some ⟨h73, h74⟩
        · skip
          refine wp_lt (fun hc75 => ?_) (fun hc75 => ?_)
          · skip
            refine wp_letv (fun S15 eS15 => ?_)
            have hIS15 : IC P S15 := by rw [eS15]; exact (iw_6_7 hI hk_p1)
            have hpS15 : S15.2.2 = S.2.2 := by rw [eS15]; exact rfl
            refine wp_eqn (fun hc76 => ?_) ?_
            · skip
              refine wp_bind (tc_X7_addCode hk_p1 hIS15) (fun q17 hq77 => ?_)
              obtain ⟨h78, h79⟩ := hq77
              refine wp_bind (tc_X10_step hk_p0 h78) (fun q18 hq80 => ?_)
              obtain ⟨h81, h82⟩ := hq80
              exact wp_some ⟨h81, (h82.trans (h79.trans hpS15))⟩
            · skip
              refine wp_bind (tc_X7_addCode hk_p1 hIS15) (fun q19 hq83 => ?_)
              obtain ⟨h84, h85⟩ := hq83
              refine wp_bind (tc_X10_step hk_p0 h84) (fun q20 hq86 => ?_)
              obtain ⟨h87, h88⟩ := hq86
              exact wp_some ⟨h87, (h88.trans (h85.trans hpS15))⟩
          · skip
            refine wp_bind (tc_X10_refuse hk_p0 hI) (fun q21 hq89 => ?_)
            obtain ⟨h90, h91⟩ := hq89
            exact wp_some ⟨h90, h91⟩
theorem tc_X8_readSum_L9 {P : Nat → Nat → Option Int} {k0 : Nat} {k1 : Nat} (hk_k0 : cK k0 = 8) (hk_k1 : cK k1 = 6)  : ∀ (N : Nat) (a2 : Int32) (a3 : Int32) (S : cT), 0 ≤ a3.toInt → a3.toInt ≤ 400 → IC P S → 400 - a3.toInt < (N : Int) → wp (fc_X8_readSum_L9 k0 k1 N a2 a3 S) (fun w => (0 ≤ (w.2.1).toInt) ∧ ((w.2.1).toInt ≤ 400) ∧ (IC P w.2.2) ∧ (w.2.2.2.2 = S.2.2)) := by
  intro N
  induction N with
  | zero =>
    intro a2 a3 S vl_a3 vu_a3 hI hm
    exfalso; omega
  | succ N ih =>
    intro a2 a3 S vl_a3 vu_a3 hI hm
    rw [fc_X8_readSum_L9]
    have l_0 : (0 : Int32).toInt = 0 := by decide
    have l_1 : (1 : Int32).toInt = 1 := by decide
    have l_37 : (37 : Int32).toInt = 37 := by decide
    have l_400 : (400 : Int32).toInt = 400 := by decide
    have l_42 : (42 : Int32).toInt = 42 := by decide
    have l_43 : (43 : Int32).toInt = 43 := by decide
    have l_45 : (45 : Int32).toInt = 45 := by decide
    have l_47 : (47 : Int32).toInt = 47 := by decide
    refine wp_le (fun hc1 => ?_) (fun hc1 => ?_)
    · skip
      exact wp_some ⟨(by first | omega | (dsimp only; omega)), (by first | omega | (dsimp only; omega)), hI, rfl⟩
    · skip
      refine wp_bind (Q := fun w => (0 ≤ (w).toInt) ∧ ((w).toInt ≤ 1)) ?_ (fun w3 hq2 => ?_)
      · skip
        refine wp_eqn (fun hc3 => ?_) ?_
        · skip
          exact wp_some ⟨(by first | omega | (dsimp only; omega)), (by first | omega | (dsimp only; omega))⟩
        · skip
          refine wp_eqn (fun hc4 => ?_) ?_
          · skip
            exact wp_some ⟨(by first | omega | (dsimp only; omega)), (by first | omega | (dsimp only; omega))⟩
          · skip
            exact wp_some ⟨(by first | omega | (dsimp only; omega)), (by first | omega | (dsimp only; omega))⟩
      · skip
        obtain ⟨h5, h6⟩ := hq2
        refine wp_eq_lo (by omega) (fun hc7 => ?_) (fun hc7 => ?_)
        · skip
          refine wp_eqn (fun hc8 => ?_) ?_
          · skip
            refine wp_bind (tc_X10_step hk_k0 hI) (fun q16 hq9 => ?_)
            obtain ⟨h10, h11⟩ := hq9
            refine wp_bind (Q := fun w => (IC P w) ∧ (w.2.2 = S.2.2)) ?_ (fun w17 hq12 => ?_)
            · skip
              refine wp_eq_hi (by omega) (fun hc13 => ?_) (fun hc13 => ?_)
              · skip
                exact wp_some ⟨h10, h11⟩
              · skip
                refine wp_eqn (fun hc14 => ?_) ?_
                · skip
                  exact wp_some ⟨h10, h11⟩
                · skip
                  refine wp_bind (tc_X7_addCode hk_k1 h10) (fun q20 hq15 => ?_)
                  obtain ⟨h16, h17⟩ := hq15
                  exact wp_some ⟨h16, (h17.trans h11)⟩
            · skip
              obtain ⟨h18, h19⟩ := hq12
              refine wp_bind (tc_X8_readValue hk_k0 hk_k1 h18) (fun q21 hq20 => ?_)
              obtain ⟨h21, h22⟩ := hq20
              refine wp_eq_hi (by omega) (fun hc23 => ?_) (fun hc23 => ?_)
              · skip
                refine wp_bind (tc_X7_addCode hk_k1 h21) (fun q23 hq24 => ?_)
                obtain ⟨h25, h26⟩ := hq24
                have t27 : (a3 + (1 : Int32) : Int32).toInt = (a3).toInt + ((1 : Int32)).toInt := tA (by omega) (by omega)
                have zz28 := (ih a2 (a3 + (1 : Int32)) q23 (by omega) (by omega) h25 (by omega))
                exact wp_mono zz28 (fun w hw => ⟨hw.1, hw.2.1, hw.2.2.1, hw.2.2.2.trans (h26.trans (h22.trans h19))⟩)
              · skip
                have t29 : (a3 + (1 : Int32) : Int32).toInt = (a3).toInt + ((1 : Int32)).toInt := tA (by omega) (by omega)
                have zz30 := (ih (S.1 k0 8) (a3 + (1 : Int32)) q21 (by omega) (by omega) h21 (by omega))
                exact wp_mono zz30 (fun w hw => ⟨hw.1, hw.2.1, hw.2.2.1, hw.2.2.2.trans (h22.trans h19)⟩)
          · skip
            refine wp_eqn (fun hc31 => ?_) ?_
            · skip
              refine wp_bind (tc_X10_step hk_k0 hI) (fun q25 hq32 => ?_)
              obtain ⟨h33, h34⟩ := hq32
              refine wp_bind (Q := fun w => (IC P w) ∧ (w.2.2 = S.2.2)) ?_ (fun w26 hq35 => ?_)
              · skip
                refine wp_eq_hi (by omega) (fun hc36 => ?_) (fun hc36 => ?_)
                · skip
                  exact wp_some ⟨h33, h34⟩
                · skip
                  refine wp_eqn (fun hc37 => ?_) ?_
                  · skip
                    exact wp_some ⟨h33, h34⟩
                  · skip
                    refine wp_bind (tc_X7_addCode hk_k1 h33) (fun q29 hq38 => ?_)
                    obtain ⟨h39, h40⟩ := hq38
                    exact wp_some ⟨h39, (h40.trans h34)⟩
              · skip
                obtain ⟨h41, h42⟩ := hq35
                refine wp_bind (tc_X8_readValue hk_k0 hk_k1 h41) (fun q30 hq43 => ?_)
                obtain ⟨h44, h45⟩ := hq43
                refine wp_eq_hi (by omega) (fun hc46 => ?_) (fun hc46 => ?_)
                · skip
                  refine wp_bind (tc_X7_addCode hk_k1 h44) (fun q32 hq47 => ?_)
                  obtain ⟨h48, h49⟩ := hq47
                  have t50 : (a3 + (1 : Int32) : Int32).toInt = (a3).toInt + ((1 : Int32)).toInt := tA (by omega) (by omega)
                  have zz51 := (ih a2 (a3 + (1 : Int32)) q32 (by omega) (by omega) h48 (by omega))
                  exact wp_mono zz51 (fun w hw => ⟨hw.1, hw.2.1, hw.2.2.1, hw.2.2.2.trans (h49.trans (h45.trans h42))⟩)
                · skip
                  have t52 : (a3 + (1 : Int32) : Int32).toInt = (a3).toInt + ((1 : Int32)).toInt := tA (by omega) (by omega)
                  have zz53 := (ih (S.1 k0 8) (a3 + (1 : Int32)) q30 (by omega) (by omega) h44 (by omega))
                  exact wp_mono zz53 (fun w hw => ⟨hw.1, hw.2.1, hw.2.2.1, hw.2.2.2.trans (h45.trans h42)⟩)
            · skip
              refine wp_eqn (fun hc54 => ?_) ?_
              · skip
                refine wp_bind (tc_X10_step hk_k0 hI) (fun q34 hq55 => ?_)
                obtain ⟨h56, h57⟩ := hq55
                refine wp_bind (Q := fun w => (IC P w) ∧ (w.2.2 = S.2.2)) ?_ (fun w35 hq58 => ?_)
                · skip
                  refine wp_eq_hi (by omega) (fun hc59 => ?_) (fun hc59 => ?_)
                  · skip
                    exact wp_some ⟨h56, h57⟩
                  · skip
                    refine wp_eqn (fun hc60 => ?_) ?_
                    · skip
                      exact wp_some ⟨h56, h57⟩
                    · skip
                      refine wp_bind (tc_X7_addCode hk_k1 h56) (fun q38 hq61 => ?_)
                      obtain ⟨h62, h63⟩ := hq61
                      exact wp_some ⟨h62, (h63.trans h57)⟩
                · skip
                  obtain ⟨h64, h65⟩ := hq58
                  refine wp_bind (tc_X8_readValue hk_k0 hk_k1 h64) (fun q39 hq66 => ?_)
                  obtain ⟨h67, h68⟩ := hq66
                  refine wp_eq_hi (by omega) (fun hc69 => ?_) (fun hc69 => ?_)
                  · skip
                    refine wp_bind (tc_X7_addCode hk_k1 h67) (fun q41 hq70 => ?_)
                    obtain ⟨h71, h72⟩ := hq70
                    have t73 : (a3 + (1 : Int32) : Int32).toInt = (a3).toInt + ((1 : Int32)).toInt := tA (by omega) (by omega)
                    have zz74 := (ih a2 (a3 + (1 : Int32)) q41 (by omega) (by omega) h71 (by omega))
                    exact wp_mono zz74 (fun w hw => ⟨hw.1, hw.2.1, hw.2.2.1, hw.2.2.2.trans (h72.trans (h68.trans h65))⟩)
                  · skip
                    have t75 : (a3 + (1 : Int32) : Int32).toInt = (a3).toInt + ((1 : Int32)).toInt := tA (by omega) (by omega)
                    have zz76 := (ih (S.1 k0 8) (a3 + (1 : Int32)) q39 (by omega) (by omega) h67 (by omega))
                    exact wp_mono zz76 (fun w hw => ⟨hw.1, hw.2.1, hw.2.2.1, hw.2.2.2.trans (h68.trans h65)⟩)
              · skip
                exact wp_some ⟨(by first | omega | (dsimp only; omega)), (by first | omega | (dsimp only; omega)), hI, rfl⟩
        · skip
          refine wp_bind (tc_X10_step hk_k0 hI) (fun q7 hq77 => ?_)
          obtain ⟨h78, h79⟩ := hq77
          refine wp_bind (Q := fun w => (IC P w) ∧ (w.2.2 = S.2.2)) ?_ (fun w8 hq80 => ?_)
          · skip
            refine wp_eqn (fun hc81 => ?_) ?_
            · skip
              exact wp_some ⟨h78, h79⟩
            · skip
              refine wp_eqn (fun hc82 => ?_) ?_
              · skip
                exact wp_some ⟨h78, h79⟩
              · skip
                refine wp_bind (tc_X7_addCode hk_k1 h78) (fun q11 hq83 => ?_)
                obtain ⟨h84, h85⟩ := hq83
                exact wp_some ⟨h84, (h85.trans h79)⟩
          · skip
            obtain ⟨h86, h87⟩ := hq80
            refine wp_bind (tc_X8_readValue hk_k0 hk_k1 h86) (fun q12 hq88 => ?_)
            obtain ⟨h89, h90⟩ := hq88
            refine wp_eqn (fun hc91 => ?_) ?_
            · skip
              refine wp_bind (tc_X7_addCode hk_k1 h89) (fun q14 hq92 => ?_)
              obtain ⟨h93, h94⟩ := hq92
              have t95 : (a3 + (1 : Int32) : Int32).toInt = (a3).toInt + ((1 : Int32)).toInt := tA (by omega) (by omega)
              have zz96 := (ih a2 (a3 + (1 : Int32)) q14 (by omega) (by omega) h93 (by omega))
              exact wp_mono zz96 (fun w hw => ⟨hw.1, hw.2.1, hw.2.2.1, hw.2.2.2.trans (h94.trans (h90.trans h87))⟩)
            · skip
              have t97 : (a3 + (1 : Int32) : Int32).toInt = (a3).toInt + ((1 : Int32)).toInt := tA (by omega) (by omega)
              have zz98 := (ih (S.1 k0 8) (a3 + (1 : Int32)) q12 (by omega) (by omega) h89 (by omega))
              exact wp_mono zz98 (fun w hw => ⟨hw.1, hw.2.1, hw.2.2.1, hw.2.2.2.trans (h90.trans h87)⟩)
theorem tc_X8_readSum {P : Nat → Nat → Option Int} {p0 : Nat} {p1 : Nat} {S : cT} (hk_p0 : cK p0 = 8) (hk_p1 : cK p1 = 6) (hI : IC P S) : wp (fc_X8_readSum p0 p1 S) (fun w => (IC P w) ∧ (w.2.2 = S.2.2)) := by
  unfold fc_X8_readSum
  have l_0 : (0 : Int32).toInt = 0 := by decide
  have fu : (FU : Int) = 1000000 := rfl
  refine wp_bind (tc_X8_readValue hk_p0 hk_p1 hI) (fun q1 hq1 => ?_)
  obtain ⟨h2, h3⟩ := hq1
  refine wp_bind (tc_X8_readSum_L9 hk_p0 hk_p1 FU (0 : Int32) (0 : Int32) q1 (by omega) (by omega) h2 (by omega)) (fun w42 hq4 => ?_)
  obtain ⟨h5, h6, h7, h8⟩ := hq4
  refine wp_eqn (fun hc9 => ?_) ?_
  · skip
    exact wp_some ⟨h7, (h8.trans h3)⟩
  · skip
    refine wp_bind (tc_X7_addCode hk_p1 h7) (fun q44 hq10 => ?_)
    obtain ⟨h11, h12⟩ := hq10
    exact wp_some ⟨h11, (h12.trans (h8.trans h3))⟩
theorem tc_X8_isComparing {p0 : Int32}   : wp (fc_X8_isComparing p0) (fun w => True) := by
  unfold fc_X8_isComparing
  have l_256 : (256 : Int32).toInt = 256 := by decide
  have l_257 : (257 : Int32).toInt = 257 := by decide
  have l_60 : (60 : Int32).toInt = 60 := by decide
  have l_61 : (61 : Int32).toInt = 61 := by decide
  have l_62 : (62 : Int32).toInt = 62 := by decide
  refine wp_eqn (fun hc1 => ?_) ?_
  · skip
    exact wp_some trivial
  · skip
    refine wp_eqn (fun hc2 => ?_) ?_
    · skip
      exact wp_some trivial
    · skip
      refine wp_eqn (fun hc3 => ?_) ?_
      · skip
        exact wp_some trivial
      · skip
        refine wp_eqn (fun hc4 => ?_) ?_
        · skip
          exact wp_some trivial
        · skip
          refine wp_eqn (fun hc5 => ?_) ?_
          · skip
            exact wp_some trivial
          · skip
            exact wp_some trivial
theorem tb_X8_readTest_L11 {P : Nat → Nat → Option Int} {D : Int} {rd : RD} {k0 : Nat} {k1 : Nat} {k2 : Int32} (hk_k0 : cK k0 = 8) (hk_k1 : cK k1 = 6) (hl_k2 : 0 ≤ k2.toInt) (hu_k2 : k2.toInt ≤ 10) (hrd : ∀ (w p0 p1 : Nat) (p2 : Int32) (S : cT), cK p0 = 8 → cK p1 = 6 → IC P S → 0 ≤ p2.toInt → p2.toInt ≤ 10 → w ≤ 2 → 3 * (10 - p2.toInt) + 3 - (w : Int) ≤ D → wp (rd w p0 p1 p2 S) (fun w => (IC P w) ∧ (w.2.2 = S.2.2))) (hD : 3 * (10 - k2.toInt) + 2 ≤ D)  : ∀ (N : Nat) (a3 : Int32) (a4 : Int32) (S : cT), 0 ≤ a4.toInt → a4.toInt ≤ 400 → IC P S → 400 - a4.toInt < (N : Int) → wp (fb_X8_readTest_L11 rd k0 k1 k2 N a3 a4 S) (fun w => (0 ≤ (w.2.1).toInt) ∧ ((w.2.1).toInt ≤ 400) ∧ (IC P w.2.2) ∧ (w.2.2.2.2 = S.2.2)) := by
  intro N
  induction N with
  | zero =>
    intro a3 a4 S vl_a4 vu_a4 hI hm
    exfalso; omega
  | succ N ih =>
    intro a3 a4 S vl_a4 vu_a4 hI hm
    rw [fb_X8_readTest_L11]
    have l_0 : (0 : Int32).toInt = 0 := by decide
    have l_1 : (1 : Int32).toInt = 1 := by decide
    have l_315 : (315 : Int32).toInt = 315 := by decide
    have l_316 : (316 : Int32).toInt = 316 := by decide
    have l_400 : (400 : Int32).toInt = 400 := by decide
    refine wp_le (fun hc1 => ?_) (fun hc1 => ?_)
    · skip
      exact wp_some ⟨(by first | omega | (dsimp only; omega)), (by first | omega | (dsimp only; omega)), hI, rfl⟩
    · skip
      refine wp_eqn (fun hc2 => ?_) ?_
      · skip
        refine wp_bind (tc_X10_step hk_k0 hI) (fun q4 hq3 => ?_)
        obtain ⟨h4, h5⟩ := hq3
        refine wp_bind (Q := fun w => (IC P w) ∧ (w.2.2 = S.2.2)) ?_ (fun w5 hq6 => ?_)
        · skip
          refine wp_eqn (fun hc7 => ?_) ?_
          · skip
            refine wp_eqn (fun hc8 => ?_) ?_
            · skip
              exact wp_some ⟨h4, h5⟩
            · skip
              refine wp_bind (tc_X7_addCode hk_k1 h4) (fun q8 hq9 => ?_)
              obtain ⟨h10, h11⟩ := hq9
              exact wp_some ⟨h10, (h11.trans h5)⟩
          · skip
            exact wp_some ⟨h4, h5⟩
        · skip
          obtain ⟨h12, h13⟩ := hq6
          refine wp_bind (Q := fun w => (0 ≤ (w).toInt) ∧ ((w).toInt ≤ 1)) ?_ (fun w9 hq14 => ?_)
          · skip
            refine wp_eqn (fun hc15 => ?_) ?_
            · skip
              exact wp_some ⟨(by first | omega | (dsimp only; omega)), (by first | omega | (dsimp only; omega))⟩
            · skip
              exact wp_some ⟨(by first | omega | (dsimp only; omega)), (by first | omega | (dsimp only; omega))⟩
          · skip
            obtain ⟨h16, h17⟩ := hq14
            refine wp_bind (hrd _ _ _ _ _ hk_k0 hk_k1 h12 (by omega) (by omega) (by omega) (by omega)) (fun q11 hq18 => ?_)
            obtain ⟨h19, h20⟩ := hq18
            refine wp_eq_hi (by omega) (fun hc21 => ?_) (fun hc21 => ?_)
            · skip
              refine wp_bind (tc_X7_addCode hk_k1 h19) (fun q13 hq22 => ?_)
              obtain ⟨h23, h24⟩ := hq22
              have t25 : (a4 + (1 : Int32) : Int32).toInt = (a4).toInt + ((1 : Int32)).toInt := tA (by omega) (by omega)
              have zz26 := (ih (a3 ||| w9) (a4 + (1 : Int32)) q13 (by omega) (by omega) h23 (by omega))
              exact wp_mono zz26 (fun w hw => ⟨hw.1, hw.2.1, hw.2.2.1, hw.2.2.2.trans (h24.trans (h20.trans h13))⟩)
            · skip
              have t27 : (a4 + (1 : Int32) : Int32).toInt = (a4).toInt + ((1 : Int32)).toInt := tA (by omega) (by omega)
              have zz28 := (ih (a3 ||| w9) (a4 + (1 : Int32)) q11 (by omega) (by omega) h19 (by omega))
              exact wp_mono zz28 (fun w hw => ⟨hw.1, hw.2.1, hw.2.2.1, hw.2.2.2.trans (h20.trans h13)⟩)
      · skip
        refine wp_eqn (fun hc29 => ?_) ?_
        · skip
          refine wp_bind (tc_X10_step hk_k0 hI) (fun q15 hq30 => ?_)
          obtain ⟨h31, h32⟩ := hq30
          refine wp_bind (Q := fun w => (IC P w) ∧ (w.2.2 = S.2.2)) ?_ (fun w16 hq33 => ?_)
          · skip
            refine wp_eq_hi (by omega) (fun hc34 => ?_) (fun hc34 => ?_)
            · skip
              refine wp_eqn (fun hc35 => ?_) ?_
              · skip
                exact wp_some ⟨h31, h32⟩
              · skip
                refine wp_bind (tc_X7_addCode hk_k1 h31) (fun q19 hq36 => ?_)
                obtain ⟨h37, h38⟩ := hq36
                exact wp_some ⟨h37, (h38.trans h32)⟩
            · skip
              exact wp_some ⟨h31, h32⟩
          · skip
            obtain ⟨h39, h40⟩ := hq33
            refine wp_bind (Q := fun w => (0 ≤ (w).toInt) ∧ ((w).toInt ≤ 1)) ?_ (fun w20 hq41 => ?_)
            · skip
              refine wp_eq_hi (by omega) (fun hc42 => ?_) (fun hc42 => ?_)
              · skip
                exact wp_some ⟨(by first | omega | (dsimp only; omega)), (by first | omega | (dsimp only; omega))⟩
              · skip
                exact wp_some ⟨(by first | omega | (dsimp only; omega)), (by first | omega | (dsimp only; omega))⟩
            · skip
              obtain ⟨h43, h44⟩ := hq41
              refine wp_bind (hrd _ _ _ _ _ hk_k0 hk_k1 h39 (by omega) (by omega) (by omega) (by omega)) (fun q22 hq45 => ?_)
              obtain ⟨h46, h47⟩ := hq45
              refine wp_eqn (fun hc48 => ?_) ?_
              · skip
                refine wp_bind (tc_X7_addCode hk_k1 h46) (fun q24 hq49 => ?_)
                obtain ⟨h50, h51⟩ := hq49
                have t52 : (a4 + (1 : Int32) : Int32).toInt = (a4).toInt + ((1 : Int32)).toInt := tA (by omega) (by omega)
                have zz53 := (ih (a3 ||| w20) (a4 + (1 : Int32)) q24 (by omega) (by omega) h50 (by omega))
                exact wp_mono zz53 (fun w hw => ⟨hw.1, hw.2.1, hw.2.2.1, hw.2.2.2.trans (h51.trans (h47.trans h40))⟩)
              · skip
                have t54 : (a4 + (1 : Int32) : Int32).toInt = (a4).toInt + ((1 : Int32)).toInt := tA (by omega) (by omega)
                have zz55 := (ih (a3 ||| w20) (a4 + (1 : Int32)) q22 (by omega) (by omega) h46 (by omega))
                exact wp_mono zz55 (fun w hw => ⟨hw.1, hw.2.1, hw.2.2.1, hw.2.2.2.trans (h47.trans h40)⟩)
        · skip
          exact wp_some ⟨(by first | omega | (dsimp only; omega)), (by first | omega | (dsimp only; omega)), hI, rfl⟩
