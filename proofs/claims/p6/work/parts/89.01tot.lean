/-! ===== every method of the class answers (by program) 1 ===== -/
theorem tc_X2_lastFace {P : Nat → Nat → Option Int} {b : Nat} {S : cT} (hk_b : cK b = 2) (hI : IC P S) : wp (fc_X2_lastFace b S) (fun w => True) := by
  unfold fc_X2_lastFace
  exact wp_some trivial
theorem tc_X6_has {P : Nat → Nat → Option Int} {b : Nat} {p0 : Int32} {S : cT} (hk_b : cK b = 5) (hI : IC P S) : wp (fc_X6_has b p0 S) (fun w => (w = true → 0 ≤ (p0).toInt ∧ (p0).toInt < (S.1 b 3).toInt ∧ (p0).toInt < (S.1 b 2).toInt)) := by
  unfold fc_X6_has
  have l_0 : (0 : Int32).toInt = 0 := by decide
  refine wp_lt (fun hc1 => ?_) (fun hc1 => ?_)
  · skip
    exact wp_some (fun e => by cases e)
  · skip
    have c2 := ic_5 hI hk_b
    refine wp_le (fun hc3 => ?_) (fun hc3 => ?_)
    · skip
      exact wp_some (fun e => by cases e)
    · skip
      have c4 := ic_5 hI hk_b
      refine wp_le (fun hc5 => ?_) (fun hc5 => ?_)
      · skip
        exact wp_some (fun e => by cases e)
      · skip
        exact wp_some (fun _ => ⟨(by first | omega | (dsimp only; omega)), (by first | omega | (dsimp only; omega)), (by first | omega | (dsimp only; omega))⟩)
theorem tc_X6_at {P : Nat → Nat → Option Int} {b : Nat} {p0 p1 : Int32} {S : cT} (hk_b : cK b = 5) (hI : IC P S) : wp (fc_X6_at b p0 p1 S) (fun _ => True) := by
  unfold fc_X6_at
  have l_0 : (0 : Int32).toInt = 0 := by decide
  refine wp_bind (tc_X6_has hk_b hI) (fun q1 h1 => ?_)
  refine wp_b (fun _ => wp_some trivial) (fun hb => ?_)
  obtain ⟨a1, a2, a3⟩ := h1 hb
  have c := ic_5 hI hk_b
  refine wp_lt (fun _ => wp_some trivial) (fun b1 => ?_)
  refine wp_le (fun _ => wp_some trivial) (fun b2 => ?_)
  refine wp_bif ?_ (wp_letv (fun v _ => wp_some trivial))
  rcases rows3 hk_b with ⟨r1, r2, r3⟩ | ⟨r1, r2, r3⟩ | ⟨r1, r2, r3⟩
  · have m := tMR (a := p0) (b := S.1 b 1) (n := 7) (by omega) (by omega) (by omega)
    have t := tA (a := p0 * S.1 b 1) (b := p1) (by omega) (by omega)
    rw [r3]
    exact inb_of (by omega) (by omega)
  · have m := tMR (a := p0) (b := S.1 b 1) (n := 4) (by omega) (by omega) (by omega)
    have t := tA (a := p0 * S.1 b 1) (b := p1) (by omega) (by omega)
    rw [r3]
    exact inb_of (by omega) (by omega)
  · have m := tMR (a := p0) (b := S.1 b 1) (n := 2) (by omega) (by omega) (by omega)
    have t := tA (a := p0 * S.1 b 1) (b := p1) (by omega) (by omega)
    rw [r3]
    exact inb_of (by omega) (by omega)
theorem tc_X2_canBeOf {P : Nat → Nat → Option Int} {b : Nat} {p0 : Int32} {p1 : Int32} {S : cT} (hk_b : cK b = 2) (hI : IC P S) : wp (fc_X2_canBeOf b p0 p1 S) (fun w => True) := by
  unfold fc_X2_canBeOf
  refine wp_bind (tc_X6_at (ko_2_10 hk_b) hI) (fun q1 hq1 => ?_)
  refine wp_bind (tc_X6_at (ko_2_10 hk_b) hI) (fun q2 hq2 => ?_)
  refine wp_eqn (fun hc3 => ?_) ?_
  · skip
    exact wp_some trivial
  · skip
    exact wp_some trivial
theorem tc_X2_viewsOf_L4 {P : Nat → Nat → Option Int} {k0 : Nat} {k1 : Int32} {S : cT} (hk_k0 : cK k0 = 2) (hI : IC P S) : ∀ (N : Nat) (a2 : Int32) (a3 : Int32), 0 ≤ a3.toInt → a3.toInt ≤ 8 → 8 - a3.toInt < (N : Int) → wp (fc_X2_viewsOf_L4 k0 k1 S N a2 a3) (fun w => (0 ≤ (w.2).toInt) ∧ ((w.2).toInt ≤ 8)) := by
  intro N
  induction N with
  | zero =>
    intro a2 a3 vl_a3 vu_a3 hm
    exfalso; omega
  | succ N ih =>
    intro a2 a3 vl_a3 vu_a3 hm
    rw [fc_X2_viewsOf_L4]
    have l_1 : (1 : Int32).toInt = 1 := by decide
    have c1 := ic_2_10_3 hI hk_k0
    refine wp_le (fun hc2 => ?_) (fun hc2 => ?_)
    · skip
      exact wp_some ⟨(by first | omega | (dsimp only; omega)), (by first | omega | (dsimp only; omega))⟩
    · skip
      refine wp_bind (tc_X2_canBeOf hk_k0 hI) (fun q2 hq3 => ?_)
      refine wp_b (fun hb4 => ?_) (fun hb4 => ?_)
      · skip
        have t5 : (a3 + (1 : Int32) : Int32).toInt = (a3).toInt + ((1 : Int32)).toInt := tA (by omega) (by omega)
        exact (ih a2 (a3 + (1 : Int32)) (by omega) (by omega) (by omega))
      · skip
        have t6 : (a3 + (1 : Int32) : Int32).toInt = (a3).toInt + ((1 : Int32)).toInt := tA (by omega) (by omega)
        exact (ih (a2 ||| ((1 : Int32) <<< (a3 &&& (31 : Int32)))) (a3 + (1 : Int32)) (by omega) (by omega) (by omega))
theorem tc_X2_viewsOf {P : Nat → Nat → Option Int} {b : Nat} {p0 : Int32} {S : cT} (hk_b : cK b = 2) (hI : IC P S) : wp (fc_X2_viewsOf b p0 S) (fun w => True) := by
  unfold fc_X2_viewsOf
  have l_0 : (0 : Int32).toInt = 0 := by decide
  have fu : (FU : Int) = 1000000 := rfl
  refine wp_bind (tc_X2_viewsOf_L4 hk_b hI FU (0 : Int32) (0 : Int32) (by omega) (by omega) (by omega)) (fun w4 hq1 => ?_)
  obtain ⟨h2, h3⟩ := hq1
  exact wp_some trivial
theorem tc_X0_fewestOf_L12 {P : Nat → Nat → Option Int} {k0 : Nat} {k1 : Int32} {k2 : Int32} {k3 : Int32} {S : cT} (hk_k0 : cK k0 = 0) (hI : IC P S) : ∀ (N : Nat) (a4 : Int32) (a5 : Int32), 0 ≤ a5.toInt → a5.toInt ≤ 64 → 64 - a5.toInt < (N : Int) → wp (fc_X0_fewestOf_L12 k0 k1 k2 k3 S N a4 a5) (fun w => (0 ≤ (w.2).toInt) ∧ ((w.2).toInt ≤ 64)) := by
  intro N
  induction N with
  | zero =>
    intro a4 a5 vl_a5 vu_a5 hm
    exfalso; omega
  | succ N ih =>
    intro a4 a5 vl_a5 vu_a5 hm
    rw [fc_X0_fewestOf_L12]
    obtain ⟨m_1, e_m1⟩ : ∃ x : Int32, x = (-1) := ⟨_, rfl⟩
    try rw [← e_m1]
    have l_m1 : m_1.toInt = -1 := by rw [e_m1]; decide
    have l_0 : (0 : Int32).toInt = 0 := by decide
    have l_1 : (1 : Int32).toInt = 1 := by decide
    have l_255 : (255 : Int32).toInt = 255 := by decide
    have l_64 : (64 : Int32).toInt = 64 := by decide
    refine wp_le (fun hc1 => ?_) (fun hc1 => ?_)
    · skip
      exact wp_some ⟨(by first | omega | (dsimp only; omega)), (by first | omega | (dsimp only; omega))⟩
    · skip
      refine wp_le (fun hc2 => ?_) (fun hc2 => ?_)
      · skip
        exact wp_some ⟨(by first | omega | (dsimp only; omega)), (by first | omega | (dsimp only; omega))⟩
      · skip
        refine wp_bif (inb_of (by omega) (by omega)) ?_
        refine wp_letv (fun v3 ev3 => ?_)
        refine wp_eqn (fun hc3 => ?_) ?_
        · skip
          have t4 : (a5 + (1 : Int32) : Int32).toInt = (a5).toInt + ((1 : Int32)).toInt := tA (by omega) (by omega)
          exact (ih a4 (a5 + (1 : Int32)) (by omega) (by omega) (by omega))
        · skip
          refine wp_bif (inb_of (by omega) (by omega)) ?_
          refine wp_letv (fun v5 ev5 => ?_)
          have t5 := and_i (k1 &&& (v5 ^^^ m_1)) (c := 255) l_255 (by decide)
          refine wp_bif (inb_of (by omega) (by omega)) ?_
          refine wp_letv (fun v6 ev6 => ?_)
          have t6 : (a5 + (1 : Int32) : Int32).toInt = (a5).toInt + ((1 : Int32)).toInt := tA (by omega) (by omega)
          exact (ih (mnI a4 (v6 + 1)) (a5 + (1 : Int32)) (by omega) (by omega) (by omega))
theorem tc_X0_fewestOf {P : Nat → Nat → Option Int} {b : Nat} {p0 : Int32} {p1 : Int32} {S : cT} (hk_b : cK b = 0) (hI : IC P S) : wp (fc_X0_fewestOf b p0 p1 S) (fun w => True) := by
  unfold fc_X0_fewestOf
  have l_0 : (0 : Int32).toInt = 0 := by decide
  have fu : (FU : Int) = 1000000 := rfl
  refine wp_bind (tc_X0_fewestOf_L12 hk_b hI FU (8 : Int32) (0 : Int32) (by omega) (by omega) (by omega)) (fun w7 hq1 => ?_)
  obtain ⟨h2, h3⟩ := hq1
  exact wp_some trivial
theorem tc_X0_fewestFor_L14 {P : Nat → Nat → Option Int} {k0 : Nat} {k1 : Nat} {k2 : Int32} (hk_k0 : cK k0 = 0) (hk_k1 : cK k1 = 2) (hl_k2 : -2147483648 ≤ k2.toInt) (hu_k2 : k2.toInt ≤ 64)  : ∀ (N : Nat) (a3 : Int32) (S : cT), 0 ≤ a3.toInt → a3.toInt ≤ 64 → IC P S → 64 - a3.toInt < (N : Int) → wp (fc_X0_fewestFor_L14 k0 k1 k2 N a3 S) (fun w => (0 ≤ (w.1).toInt) ∧ ((w.1).toInt ≤ 64) ∧ (IC P w.2) ∧ (w.2.2.2 = S.2.2)) := by
  intro N
  induction N with
  | zero =>
    intro a3 S vl_a3 vu_a3 hI hm
    exfalso; omega
  | succ N ih =>
    intro a3 S vl_a3 vu_a3 hI hm
    rw [fc_X0_fewestFor_L14]
    have l_1 : (1 : Int32).toInt = 1 := by decide
    refine wp_le (fun hc1 => ?_) (fun hc1 => ?_)
    · skip
      exact wp_some ⟨(by first | omega | (dsimp only; omega)), (by first | omega | (dsimp only; omega)), hI, rfl⟩
    · skip
      refine wp_bind (tc_X2_viewsOf hk_k1 hI) (fun q3 hq2 => ?_)
      refine wp_bif (inb_of (by omega) (by omega)) ?_
      refine wp_letv (fun S5 eS5 => ?_)
      have hIS5 : IC P S5 := by rw [eS5]; exact (iw_20 hI (kw_0_1 hk_k0))
      have hpS5 : S5.2.2 = S.2.2 := by rw [eS5]; exact rfl
      have t3 : (a3 + (1 : Int32) : Int32).toInt = (a3).toInt + ((1 : Int32)).toInt := tA (by omega) (by omega)
      have zz4 := (ih (a3 + (1 : Int32)) S5 (by omega) (by omega) hIS5 (by omega))
      exact wp_mono zz4 (fun w hw => ⟨hw.1, hw.2.1, hw.2.2.1, hw.2.2.2.trans hpS5⟩)
theorem tc_X0_fewestFor_L58 {P : Nat → Nat → Option Int} {k0 : Nat} {k2 : Int32} {k3 : Int32} (hk_k0 : cK k0 = 0)  : ∀ (N : Nat) (a4 : Int32) (S : cT), 0 ≤ a4.toInt → a4.toInt ≤ 256 → IC P S → 256 - a4.toInt < (N : Int) → wp (fc_X0_fewestFor_L58 k0 k2 k3 N a4 S) (fun w => (0 ≤ (w.1).toInt) ∧ ((w.1).toInt ≤ 256) ∧ (IC P w.2) ∧ (w.2.2.2 = S.2.2)) := by
  intro N
  induction N with
  | zero =>
    intro a4 S vl_a4 vu_a4 hI hm
    exfalso; omega
  | succ N ih =>
    intro a4 S vl_a4 vu_a4 hI hm
    rw [fc_X0_fewestFor_L58]
    have l_1 : (1 : Int32).toInt = 1 := by decide
    have l_256 : (256 : Int32).toInt = 256 := by decide
    refine wp_lt (fun hc1 => ?_) (fun hc1 => ?_)
    · skip
      exact wp_some ⟨(by first | omega | (dsimp only; omega)), (by first | omega | (dsimp only; omega)), hI, rfl⟩
    · skip
      refine wp_le (fun hc2 => ?_) (fun hc2 => ?_)
      · skip
        exact wp_some ⟨(by first | omega | (dsimp only; omega)), (by first | omega | (dsimp only; omega)), hI, rfl⟩
      · skip
        refine wp_bind (tc_X0_fewestOf hk_k0 hI) (fun q11 hq3 => ?_)
        refine wp_bif (inb_of (by omega) (by omega)) ?_
        refine wp_letv (fun S13 eS13 => ?_)
        have hIS13 : IC P S13 := by rw [eS13]; exact (iw_20 hI (kw_0_2 hk_k0))
        have hpS13 : S13.2.2 = S.2.2 := by rw [eS13]; exact rfl
        have t4 : (a4 + (1 : Int32) : Int32).toInt = (a4).toInt + ((1 : Int32)).toInt := tA (by omega) (by omega)
        have zz5 := (ih (a4 + (1 : Int32)) S13 (by omega) (by omega) hIS13 (by omega))
        exact wp_mono zz5 (fun w hw => ⟨hw.1, hw.2.1, hw.2.2.1, hw.2.2.2.trans hpS13⟩)
theorem tc_X0_fewestFor {P : Nat → Nat → Option Int} {b : Nat} {p0 : Nat} {S : cT} (hk_b : cK b = 0) (hk_p0 : cK p0 = 2) (hI : IC P S) : wp (fc_X0_fewestFor b p0 S) (fun w => (IC P w.2) ∧ (w.2.2.2 = S.2.2)) := by
  unfold fc_X0_fewestFor
  have l_0 : (0 : Int32).toInt = 0 := by decide
  have l_1 : (1 : Int32).toInt = 1 := by decide
  have l_255 : (255 : Int32).toInt = 255 := by decide
  have l_64 : (64 : Int32).toInt = 64 := by decide
  have fu : (FU : Int) = 1000000 := rfl
  refine wp_bind (tc_X2_lastFace hk_p0 hI) (fun q1 hq1 => ?_)
  have t2 := mn_i (q1 + 1) 64
  have b3 := bnd (q1 + 1)
  refine wp_bind (tc_X0_fewestFor_L14 hk_b hk_p0 (by omega) (by omega) FU (0 : Int32) S (by omega) (by omega) hI (by omega)) (fun w6 hq4 => ?_)
  obtain ⟨h5, h6, h7, h8⟩ := hq4
  refine wp_bif (inb_of (by omega) (by omega)) ?_
  refine wp_letv (fun S8 eS8 => ?_)
  have hIS8 : IC P S8 := by rw [eS8]; exact (iw_20 h7 (kw_0_2 hk_b))
  have hpS8 : S8.2.2 = S.2.2 := by rw [eS8]; exact h8
  refine wp_bind (tc_X0_fewestFor_L58 hk_b FU (1 : Int32) S8 (by omega) (by omega) hIS8 (by omega)) (fun w14 hq9 => ?_)
  obtain ⟨h10, h11, h12, h13⟩ := hq9
  have t14 := and_i (((1 : Int32) <<< ((w6.2.1 (p0 + 10) 3) &&& (31 : Int32))) - (1 : Int32)) (c := 255) l_255 (by decide)
  refine wp_bif (inb_of (by omega) (by omega)) ?_
  refine wp_letv (fun v15 ev15 => ?_)
  exact wp_some ⟨h12, (h13.trans hpS8)⟩
theorem tc_X1_forget {P : Nat → Nat → Option Int} {b : Nat} {S : cT} (hk_b : cK b = 1) (hI : IC P S) : wp (fc_X1_forget b S) (fun w => (IC P w) ∧ (w.2.2 = S.2.2)) := by
  unfold fc_X1_forget
  refine wp_letv (fun S1 eS1 => ?_)
  have hIS1 : IC P S1 := by rw [eS1]; exact (iw_1_2 hI hk_b)
  have hpS1 : S1.2.2 = S.2.2 := by rw [eS1]; exact rfl
  exact wp_some ⟨hIS1, hpS1⟩
theorem tc_X1_startOfNewest {P : Nat → Nat → Option Int} {b : Nat} {S : cT} (hk_b : cK b = 1) (hI : IC P S) : wp (fc_X1_startOfNewest b S) (fun w => (0 ≤ (w).toInt) ∧ ((w).toInt ≤ 380)) := by
  unfold fc_X1_startOfNewest
  have l_20 : (20 : Int32).toInt = 20 := by decide
  refine wp_dz (by decide) ?_
  have t1 := fm_i (S.1 b 1) (y := 20) l_20 (by decide)
  have t2 : ((fmI (S.1 b 1) 20) * (20 : Int32) : Int32).toInt = ((fmI (S.1 b 1) 20)).toInt * 20 := tMR l_20 (by omega) (by omega)
  exact wp_some ⟨(by first | omega | (dsimp only; omega)), (by first | omega | (dsimp only; omega))⟩
theorem tc_X1_remember {P : Nat → Nat → Option Int} {b p0 : Nat} {S : cT} (hk_b : cK b = 1) (hk_p0 : cK p0 = 2) (hI : IC P S) : wp (fc_X1_remember b p0 S) (fun w => (IC P w) ∧ (w.2.2 = S.2.2) ∧ (∀ q j, cK q = 2 → w.1 q j = S.1 q j)) := by
  unfold fc_X1_remember
  have l_0 : (0 : Int32).toInt = 0 := by decide
  have l_1 : (1 : Int32).toInt = 1 := by decide
  have l_2 : (2 : Int32).toInt = 2 := by decide
  have l_3 : (3 : Int32).toInt = 3 := by decide
  have l_4 : (4 : Int32).toInt = 4 := by decide
  have l_8 : (8 : Int32).toInt = 8 := by decide
  have l_12 : (12 : Int32).toInt = 12 := by decide
  have ka := kw_1_1 hk_b
  refine wp_dz (by decide) ?_
  refine wp_letv (fun S2 e2 => ?_)
  have h2 : IC P S2 := by rw [e2]; exact iw_1_1 hI hk_b
  refine wp_letv (fun S3 e3 => ?_)
  have h3 : IC P S3 := by rw [e3]; exact iw_1_2 h2 hk_b
  refine wp_bind (tc_X1_startOfNewest hk_b h3) (fun q4 hq => ?_)
  obtain ⟨r1, r2⟩ := hq
  have t0 := tA (a := q4) (b := 0) (by omega) (by omega)
  have t1 := tA (a := q4) (b := 1) (by omega) (by omega)
  have t2 := tA (a := q4) (b := 2) (by omega) (by omega)
  have t3 := tA (a := q4) (b := 3) (by omega) (by omega)
  have t4 := tA (a := q4) (b := 4) (by omega) (by omega)
  have t5 := tA (a := q4) (b := 12) (by omega) (by omega)
  refine wp_bif (inb_of (by omega) (by omega)) ?_
  refine wp_letv (fun S6 e6 => ?_)
  have h6 : IC P S6 := by rw [e6]; exact iw_20 h3 ka
  refine wp_bif (inb_of (by omega) (by omega)) ?_
  refine wp_letv (fun S8 e8 => ?_)
  have h8 : IC P S8 := by rw [e8]; exact iw_20 h6 ka
  refine wp_bind (Q := fun _ => True) (wp_eq (fun _ => wp_some trivial) (fun _ => wp_some trivial)) (fun w9 _ => ?_)
  refine wp_bif (inb_of (by omega) (by omega)) ?_
  refine wp_letv (fun S12 e12 => ?_)
  have h12 : IC P S12 := by rw [e12]; exact iw_20 h8 ka
  refine wp_bif (inb_of (by omega) (by omega)) ?_
  refine wp_letv (fun S14 e14 => ?_)
  have h14 : IC P S14 := by rw [e14]; exact iw_20 h12 ka
  refine wp_bif (cpok_of (by omega) (by omega) (by omega) (by omega) (by omega)) ?_
  refine wp_letv (fun S16 e16 => ?_)
  have h16 : IC P S16 := by rw [e16]; exact iwf_20 h14 ka
  refine wp_bif (cpok_of (by omega) (by omega) (by omega) (by omega) (by omega)) ?_
  refine wp_letv (fun S18 e18 => ?_)
  have h18 : IC P S18 := by rw [e18]; exact iwf_20 h16 ka
  refine wp_some ⟨h18, by rw [e18, e16, e14, e12, e8, e6, e3, e2]; rfl, fun q j hq => ?_⟩
  have n1 : q ≠ b := k_ne hq hk_b (by decide)
  have n2 : q ≠ b + 1 := k_ne hq ka.1 (by decide)
  rw [e18, cf_ne n2, e16, cf_ne n2, e14, ca_ne (Or.inl n2), e12, ca_ne (Or.inl n2), e8, ca_ne (Or.inl n2), e6, ca_ne (Or.inl n2), e3, ca_ne (Or.inl n1), e2, ca_ne (Or.inl n1)]
theorem tc_X6_cutTo {P : Nat → Nat → Option Int} {b : Nat} {p0 : Int32} {S : cT} (hk_b : cK b = 5) (hR : P b 3 = none) (hI : IC P S) : wp (fc_X6_cutTo b p0 S) (fun w => (IC P w) ∧ (w.2.2 = S.2.2)) := by
  unfold fc_X6_cutTo
  have l_0 : (0 : Int32).toInt = 0 := by decide
  refine wp_lt (fun hc1 => ?_) (fun hc1 => ?_)
  · skip
    exact wp_some ⟨hI, rfl⟩
  · skip
    have c2 := ic_5 hI hk_b
    refine wp_le (fun hc3 => ?_) (fun hc3 => ?_)
    · skip
      exact wp_some ⟨hI, rfl⟩
    · skip
      refine wp_letv (fun S3 eS3 => ?_)
      have hIS3 : IC P S3 := by rw [eS3]; exact (iw_5_3 hI hk_b (by omega) (by omega) hR)
      have hpS3 : S3.2.2 = S.2.2 := by rw [eS3]; exact rfl
      exact wp_some ⟨hIS3, hpS3⟩
theorem tc_X1_restore {P : Nat → Nat → Option Int} {b p0 : Nat} {S : cT} (hk_b : cK b = 1) (hk_p0 : cK p0 = 2) (hI : IC P S) : wp (fc_X1_restore b p0 S) (fun w => (IC P w) ∧ (w.2.2 = S.2.2)) := by
  unfold fc_X1_restore
  have l_0 : (0 : Int32).toInt = 0 := by decide
  have l_1 : (1 : Int32).toInt = 1 := by decide
  have l_2 : (2 : Int32).toInt = 2 := by decide
  have l_3 : (3 : Int32).toInt = 3 := by decide
  have l_4 : (4 : Int32).toInt = 4 := by decide
  have l_8 : (8 : Int32).toInt = 8 := by decide
  have l_12 : (12 : Int32).toInt = 12 := by decide
  refine wp_bind (tc_X1_startOfNewest hk_b hI) (fun q1 hq => ?_)
  obtain ⟨r1, r2⟩ := hq
  have t0 := tA (a := q1) (b := 0) (by omega) (by omega)
  have t1 := tA (a := q1) (b := 1) (by omega) (by omega)
  have t2 := tA (a := q1) (b := 2) (by omega) (by omega)
  have t3 := tA (a := q1) (b := 3) (by omega) (by omega)
  have t4 := tA (a := q1) (b := 4) (by omega) (by omega)
  have t5 := tA (a := q1) (b := 12) (by omega) (by omega)
  refine wp_bif (inb_of (by omega) (by omega)) ?_
  refine wp_letv (fun v2 _ => ?_)
  refine wp_letv (fun S3 e3 => ?_)
  have h3 : IC P S3 := by rw [e3]; exact iw_2_12 hI hk_p0
  refine wp_bif (inb_of (by omega) (by omega)) ?_
  refine wp_letv (fun v4 _ => ?_)
  refine wp_letv (fun S5 e5 => ?_)
  have h5 : IC P S5 := by rw [e5]; exact iw_2_10 h3 hk_p0
  refine wp_bif (inb_of (by omega) (by omega)) ?_
  refine wp_letv (fun v6 _ => ?_)
  refine wp_bind (Q := fun w => 0 ≤ w.toInt ∧ w.toInt ≤ 1) (wp_eq (fun _ => wp_some (by omega)) (fun _ => wp_some (by omega))) (fun w7 hw => ?_)
  refine wp_bif (isB_of hw.1 hw.2) ?_
  refine wp_letv (fun S10 e10 => ?_)
  have h10 : IC P S10 := by rw [e10]; exact iw_2_11 h5 hk_p0 hw.1 hw.2
  refine wp_bif (inb_of (by omega) (by omega)) ?_
  refine wp_letv (fun v11 _ => ?_)
  refine wp_bind (tc_X6_cutTo (ko_2_6 hk_p0) (np_26 hI hk_p0) h10) (fun q12 hq => ?_)
  obtain ⟨h12, p12⟩ := hq
  refine wp_bif (cpok_of (by omega) (by omega) (by omega) (by omega) (by omega)) ?_
  refine wp_letv (fun S14 e14 => ?_)
  have h14 : IC P S14 := by rw [e14]; exact iwf_20 h12 (kw_2_2 hk_p0)
  refine wp_bif (cpok_of (by omega) (by omega) (by omega) (by omega) (by omega)) ?_
  refine wp_letv (fun S16 e16 => ?_)
  have h16 : IC P S16 := by rw [e16]; exact iwf_20 h14 (kw_2_3 hk_p0)
  refine wp_dz (by decide) ?_
  refine wp_letv (fun S18 e18 => ?_)
  have h18 : IC P S18 := by rw [e18]; exact iw_1_1 h16 hk_b
  refine wp_letv (fun S19 e19 => ?_)
  have h19 : IC P S19 := by rw [e19]; exact iw_1_2 h18 hk_b
  exact wp_some ⟨h19, by rw [e19, e18, e16, e14]; exact p12.trans (by rw [e10, e5, e3]; rfl)⟩
theorem tc_X2_clear_L2 {P : Nat → Nat → Option Int} {k0 : Nat} (hk_k0 : cK k0 = 2) (hN : NP P k0)  : ∀ (N : Nat) (a1 : Int32) (S : cT), 0 ≤ a1.toInt → a1.toInt ≤ 8 → IC P S → 8 - a1.toInt < (N : Int) → wp (fc_X2_clear_L2 k0 N a1 S) (fun w => (0 ≤ (w.1).toInt) ∧ ((w.1).toInt ≤ 8) ∧ (IC P w.2) ∧ (w.2.2.2 = S.2.2)) := by
  intro N
  induction N with
  | zero =>
    intro a1 S vl_a1 vu_a1 hI hm
    exfalso; omega
  | succ N ih =>
    intro a1 S vl_a1 vu_a1 hI hm
    rw [fc_X2_clear_L2]
    have l_1 : (1 : Int32).toInt = 1 := by decide
    have l_8 : (8 : Int32).toInt = 8 := by decide
    refine wp_le (fun hc1 => ?_) (fun hc1 => ?_)
    · skip
      exact wp_some ⟨(by first | omega | (dsimp only; omega)), (by first | omega | (dsimp only; omega)), hI, rfl⟩
    · skip
      refine wp_bif (inb_of (by omega) (by omega)) ?_
      refine wp_letv (fun S3 eS3 => ?_)
      have hIS3 : IC P S3 := by rw [eS3]; exact (iw_b hI (ko_2_1 hk_k0) (hN 1 _ (by decide)))
      have hpS3 : S3.2.2 = S.2.2 := by rw [eS3]; exact rfl
      refine wp_bif (inb_of (by omega) (by omega)) ?_
      refine wp_letv (fun S5 eS5 => ?_)
      have hIS5 : IC P S5 := by rw [eS5]; exact (iw_20 hIS3 (kw_2_2 hk_k0))
      have hpS5 : S5.2.2 = S.2.2 := by rw [eS5]; exact hpS3
      refine wp_bif (inb_of (by omega) (by omega)) ?_
      refine wp_letv (fun S7 eS7 => ?_)
      have hIS7 : IC P S7 := by rw [eS7]; exact (iw_20 hIS5 (kw_2_3 hk_k0))
      have hpS7 : S7.2.2 = S.2.2 := by rw [eS7]; exact hpS5
      refine wp_bif (inb_of (by omega) (by omega)) ?_
      refine wp_letv (fun S9 eS9 => ?_)
      have hIS9 : IC P S9 := by rw [eS9]; exact (iw_b hIS7 (ko_2_4 hk_k0) (hN 4 _ (by decide)))
      have hpS9 : S9.2.2 = S.2.2 := by rw [eS9]; exact hpS7
      have t2 : (a1 + (1 : Int32) : Int32).toInt = (a1).toInt + ((1 : Int32)).toInt := tA (by omega) (by omega)
      have zz3 := (ih (a1 + (1 : Int32)) S9 (by omega) (by omega) hIS9 (by omega))
      exact wp_mono zz3 (fun w hw => ⟨hw.1, hw.2.1, hw.2.2.1, hw.2.2.2.trans hpS9⟩)
theorem tc_X2_clear_L44 {P : Nat → Nat → Option Int} {k0 : Nat} (hk_k0 : cK k0 = 2) (hN : NP P k0)  : ∀ (N : Nat) (a1 : Int32) (S : cT), 0 ≤ a1.toInt → a1.toInt ≤ 64 → IC P S → 64 - a1.toInt < (N : Int) → wp (fc_X2_clear_L44 k0 N a1 S) (fun w => (0 ≤ (w.1).toInt) ∧ ((w.1).toInt ≤ 64) ∧ (IC P w.2) ∧ (w.2.2.2 = S.2.2)) := by
  intro N
  induction N with
  | zero =>
    intro a1 S vl_a1 vu_a1 hI hm
    exfalso; omega
  | succ N ih =>
    intro a1 S vl_a1 vu_a1 hI hm
    rw [fc_X2_clear_L44]
    have l_1 : (1 : Int32).toInt = 1 := by decide
    have l_64 : (64 : Int32).toInt = 64 := by decide
    refine wp_le (fun hc1 => ?_) (fun hc1 => ?_)
    · skip
      exact wp_some ⟨(by first | omega | (dsimp only; omega)), (by first | omega | (dsimp only; omega)), hI, rfl⟩
    · skip
      refine wp_bif (inb_of (by omega) (by omega)) ?_
      refine wp_letv (fun S13 eS13 => ?_)
      have hIS13 : IC P S13 := by rw [eS13]; exact (iw_b hI (ko_2_5 hk_k0) (hN 5 _ (by decide)))
      have hpS13 : S13.2.2 = S.2.2 := by rw [eS13]; exact rfl
      have t2 : (a1 + (1 : Int32) : Int32).toInt = (a1).toInt + ((1 : Int32)).toInt := tA (by omega) (by omega)
      have zz3 := (ih (a1 + (1 : Int32)) S13 (by omega) (by omega) hIS13 (by omega))
      exact wp_mono zz3 (fun w hw => ⟨hw.1, hw.2.1, hw.2.2.1, hw.2.2.2.trans hpS13⟩)
theorem tc_X2_clear {P : Nat → Nat → Option Int} {b : Nat} {S : cT} (hk_b : cK b = 2) (hN : NP P b) (hI : IC P S) : wp (fc_X2_clear b S) (fun w => (IC P w) ∧ (w.2.2 = S.2.2)) := by
  unfold fc_X2_clear
  have l_0 : (0 : Int32).toInt = 0 := by decide
  have fu : (FU : Int) = 1000000 := rfl
  refine wp_bind (tc_X2_clear_L2 hk_b hN FU (0 : Int32) S (by omega) (by omega) hI (by omega)) (fun w10 hq1 => ?_)
  obtain ⟨h2, h3, h4, h5⟩ := hq1
  refine wp_bind (tc_X2_clear_L44 hk_b hN FU (0 : Int32) w10.2 (by omega) (by omega) h4 (by omega)) (fun w14 hq6 => ?_)
  obtain ⟨h7, h8, h9, h10⟩ := hq6
  refine wp_bind (tc_X6_cutTo (ko_2_6 hk_b) (hN 6 3 (by decide)) h9) (fun q15 hq11 => ?_)
  obtain ⟨h12, h13⟩ := hq11
  refine wp_bind (tc_X6_cutTo (ko_2_8 hk_b) (hN 8 3 (by decide)) h12) (fun q16 hq14 => ?_)
  obtain ⟨h15, h16⟩ := hq14
  refine wp_bind (tc_X6_cutTo (ko_2_10 hk_b) (hN 10 3 (by decide)) h15) (fun q17 hq17 => ?_)
  obtain ⟨h18, h19⟩ := hq17
  refine wp_letv (fun S18 eS18 => ?_)
  have hIS18 : IC P S18 := by rw [eS18]; exact (iw_2_8 h18 hk_b (by omega) (by omega) (hN 0 8 (by decide)))
  have hpS18 : S18.2.2 = S.2.2 := by rw [eS18]; exact (h19.trans (h16.trans (h13.trans (h10.trans h5))))
  refine wp_letv (fun S19 eS19 => ?_)
  have hIS19 : IC P S19 := by rw [eS19]; exact (iw_2_9 hIS18 hk_b (by omega) (by omega) (hN 0 9 (by decide)))
  have hpS19 : S19.2.2 = S.2.2 := by rw [eS19]; exact hpS18
  refine wp_letv (fun S20 eS20 => ?_)
  have hIS20 : IC P S20 := by rw [eS20]; exact (iw_2_10 hIS19 hk_b)
  have hpS20 : S20.2.2 = S.2.2 := by rw [eS20]; exact hpS19
  refine wp_letv (fun S21 eS21 => ?_)
  have hIS21 : IC P S21 := by rw [eS21]; exact (iw_2_11 hIS20 hk_b (by omega) (by omega))
  have hpS21 : S21.2.2 = S.2.2 := by rw [eS21]; exact hpS20
  refine wp_letv (fun S22 eS22 => ?_)
  have hIS22 : IC P S22 := by rw [eS22]; exact (iw_2_12 hIS21 hk_b)
  have hpS22 : S22.2.2 = S.2.2 := by rw [eS22]; exact hpS21
  exact wp_some ⟨hIS22, hpS22⟩
theorem rows_mul {b : Nat} (hb : cK b = 5) {x y : Int32} (hy : y.toInt = rW b) (h0 : 0 ≤ x.toInt) (h1 : x.toInt ≤ rR b) : 0 ≤ (x * y).toInt ∧ (x * y).toInt ≤ cN (b + 1) ∧ (x.toInt = rR b → (x * y).toInt = cN (b + 1)) := by
  rcases rows3 hb with ⟨r1, r2, r3⟩ | ⟨r1, r2, r3⟩ | ⟨r1, r2, r3⟩
  · have m := tMR (a := x) (b := y) (n := 7) (by omega) (by omega) (by omega)
    omega
  · have m := tMR (a := x) (b := y) (n := 4) (by omega) (by omega) (by omega)
    omega
  · have m := tMR (a := x) (b := y) (n := 2) (by omega) (by omega) (by omega)
    omega
theorem tc_X6_copyFrom {P : Nat → Nat → Option Int} {b p0 : Nat} {S : cT} (hk_b : cK b = 5) (hk_p0 : cK p0 = 5) (hR : P b 3 = none) (hR1 : ∀ j, P (b + 1) j = none) (hI : IC P S) : wp (fc_X6_copyFrom b p0 S) (fun w => (IC P w) ∧ (w.2.2 = S.2.2) ∧ (∀ q j, cK q = 2 → w.1 q j = S.1 q j) ∧ (w.1 98 = S.1 98)) := by
  unfold fc_X6_copyFrom
  have l_0 : (0 : Int32).toInt = 0 := by decide
  have c := ic_5 hI hk_b
  have c0 := ic_5 hI hk_p0
  have rr := rows3 hk_b
  have m1 := rows_mul hk_p0 (x := S.1 p0 3) (y := S.1 p0 1) c0.1 c0.2.2.1 c0.2.2.2.1
  have m2 := rows_mul hk_b (x := S.1 b 2) (y := S.1 b 1) c.1 (by omega) (by omega)
  have mn := mn_i (S.1 p0 3 * S.1 p0 1) (S.1 b 2 * S.1 b 1)
  have m3 := m2.2.2 c.2.1
  refine wp_bif (cpok_of (by omega) (by omega) (by omega) (by omega) (by omega)) ?_
  refine wp_letv (fun S2 e2 => ?_)
  have h2 : IC P S2 := by rw [e2]; exact iwf_b hI (ko_5_1 hk_b) hR1
  refine wp_letv (fun S3 e3 => ?_)
  have d := ic_5 h2 hk_b
  have d0 := ic_5 h2 hk_p0
  have mm := mn_i (S2.1 p0 3) (S2.1 b 2)
  refine wp_some ⟨by rw [e3]; exact iw_5_3 h2 hk_b (by omega) (by omega) hR, by rw [e3, e2]; rfl, fun q j hq => ?_, ?_⟩
  · rw [e3, ca_ne (Or.inl (k_ne hq hk_b (by decide))), e2, cf_ne (k_ne hq (ko_5_1 hk_b) (by decide))]
  · rw [e3, ca_no _ _ _ (k_ne (show cK 98 = 23 from rfl) hk_b (by decide)), e2]
    exact funext (fun j => cf_ne (k_ne (show cK 98 = 23 from rfl) (ko_5_1 hk_b) (by decide)))
theorem tc_X2_copyFrom {P : Nat → Nat → Option Int} {b p0 : Nat} {S : cT} (hk_b : cK b = 2) (hk_p0 : cK p0 = 2) (hN : NP P b) (hne : p0 ≠ b) (hI : IC P S) : wp (fc_X2_copyFrom b p0 S) (fun w => (IC P w) ∧ (w.2.2 = S.2.2) ∧ (w.1 b 13 = S.1 p0 13) ∧ (w.1 b 14 = S.1 p0 14) ∧ (w.1 98 = S.1 98)) := by
  unfold fc_X2_copyFrom
  have k98 : cK 98 = 23 := rfl
  refine wp_bif (by decide +kernel) ?_
  refine wp_letv (fun S2 e2 => ?_)
  have h2 : IC P S2 := by rw [e2]; exact iwf_b hI (ko_2_1 hk_b) (fun j => hN 1 j (by decide))
  refine wp_bif (by decide +kernel) ?_
  refine wp_letv (fun S4 e4 => ?_)
  have h4 : IC P S4 := by rw [e4]; exact iwf_20 h2 (kw_2_2 hk_b)
  refine wp_bif (by decide +kernel) ?_
  refine wp_letv (fun S6 e6 => ?_)
  have h6 : IC P S6 := by rw [e6]; exact iwf_20 h4 (kw_2_3 hk_b)
  refine wp_bif (by decide +kernel) ?_
  refine wp_letv (fun S8 e8 => ?_)
  have h8 : IC P S8 := by rw [e8]; exact iwf_b h6 (ko_2_4 hk_b) (fun j => hN 4 j (by decide))
  refine wp_bif (by decide +kernel) ?_
  refine wp_letv (fun S10 e10 => ?_)
  have h10 : IC P S10 := by rw [e10]; exact iwf_b h8 (ko_2_5 hk_b) (fun j => hN 5 j (by decide))
  have f10 : ∀ q j, cK q ≠ 20 → S10.1 q j = S.1 q j := fun q j hq => by
    have ne : ∀ {o : Nat}, cK (b + o) = 20 → q ≠ b + o := fun ho e => hq (by rw [e]; exact ho)
    rw [e10, cf_ne (ne (ko_2_5 hk_b)), e8, cf_ne (ne (ko_2_4 hk_b)), e6, cf_ne (ne (ko_2_3 hk_b)), e4, cf_ne (ne (ko_2_2 hk_b)), e2, cf_ne (ne (ko_2_1 hk_b))]
  refine wp_bind (tc_X6_copyFrom (ko_2_6 hk_b) (ko_2_6 hk_p0) (hN 6 3 (by decide)) (fun j => hN 7 j (by decide)) h10) (fun q11 r => ?_)
  obtain ⟨h11, p11, f11, g11⟩ := r
  refine wp_bind (tc_X6_copyFrom (ko_2_8 hk_b) (ko_2_8 hk_p0) (hN 8 3 (by decide)) (fun j => hN 9 j (by decide)) h11) (fun q12 r => ?_)
  obtain ⟨h12, p12, f12, g12⟩ := r
  refine wp_bind (tc_X6_copyFrom (ko_2_10 hk_b) (ko_2_10 hk_p0) (hN 10 3 (by decide)) (fun j => hN 11 j (by decide)) h12) (fun q13 r => ?_)
  obtain ⟨h13, p13, f13, g13⟩ := r
  have f : ∀ q j, cK q = 2 → q13.1 q j = S.1 q j := fun q j hq => by rw [f13 q j hq, f12 q j hq, f11 q j hq, f10 q j (by rw [hq]; decide)]
  have g : q13.1 98 = S.1 98 := by
    rw [g13, g12, g11]
    exact funext (fun j => f10 98 j (by rw [k98]; decide))
  have nb : (98 : Nat) ≠ b := k_ne k98 hk_b (by decide)
  refine wp_letv (fun S14 e14 => ?_)
  have h14 : IC P S14 := by
    rw [e14]
    have r := ic_2_8 h13 hk_p0
    exact iw_2_8 h13 hk_b r.1 r.2 (hN 0 8 (by decide))
  refine wp_letv (fun S15 e15 => ?_)
  have h15 : IC P S15 := by
    rw [e15]
    have r := ic_2_9 h14 hk_p0
    exact iw_2_9 h14 hk_b r.1 r.2 (hN 0 9 (by decide))
  refine wp_letv (fun S16 e16 => ?_)
  have h16 : IC P S16 := by rw [e16]; exact iw_2_10 h15 hk_b
  have r11 := ic_2_11 h16 hk_p0
  refine wp_bif (isB_of r11.1 r11.2) ?_
  refine wp_letv (fun S18 e18 => ?_)
  have h18 : IC P S18 := by rw [e18]; exact iw_2_11 h16 hk_b r11.1 r11.2
  refine wp_letv (fun S19 e19 => ?_)
  have h19 : IC P S19 := by rw [e19]; exact iw_2_12 h18 hk_b
  refine wp_letv (fun S20 e20 => ?_)
  have h20 : IC P S20 := by rw [e20]; exact iw_2_13 h19 hk_b (hN 0 13 (by decide))
  refine wp_letv (fun S21 e21 => ?_)
  have h21 : IC P S21 := by rw [e21]; exact iw_2_14 h20 hk_b (hN 0 14 (by decide))
  have q19 : ∀ j, S19.1 p0 j = S.1 p0 j := fun j => by
    rw [e19, ca_ne (Or.inl hne), e18, ca_ne (Or.inl hne), e16, ca_ne (Or.inl hne), e15, ca_ne (Or.inl hne), e14, ca_ne (Or.inl hne), f p0 j hk_p0]
  refine wp_some ⟨h21, ?_, ?_, ?_, ?_⟩
  · rw [e21, e20, e19, e18, e16, e15, e14]
    exact p13.trans (p12.trans (p11.trans (by rw [e10, e8, e6, e4, e2]; rfl)))
  · rw [e21, ca_ne (Or.inr (by decide)), e20, ca_at, q19]
  · rw [e21, ca_at, e20, ca_ne (Or.inl hne), q19]
  · rw [e21, ca_no _ _ _ nb, e20, ca_no _ _ _ nb, e19, ca_no _ _ _ nb, e18, ca_no _ _ _ nb, e16, ca_no _ _ _ nb, e15, ca_no _ _ _ nb, e14, ca_no _ _ _ nb, g]
theorem tc_X2_has {P : Nat → Nat → Option Int} {b : Nat} {p0 : Int32} {S : cT} (hk_b : cK b = 2) (hI : IC P S) : wp (fc_X2_has b p0 S) (fun w => (w = true → 0 ≤ (p0).toInt ∧ (p0).toInt ≤ 7 ∧ (p0).toInt < (S.1 b 9).toInt)) := by
  unfold fc_X2_has
  have l_0 : (0 : Int32).toInt = 0 := by decide
  have l_8 : (8 : Int32).toInt = 8 := by decide
  refine wp_lt (fun hc1 => ?_) (fun hc1 => ?_)
  · skip
    exact wp_some (fun e => by cases e)
  · skip
    have c2 := ic_2_9 hI hk_b
    refine wp_le (fun hc3 => ?_) (fun hc3 => ?_)
    · skip
      exact wp_some (fun e => by cases e)
    · skip
      refine wp_le (fun hc4 => ?_) (fun hc4 => ?_)
      · skip
        exact wp_some (fun e => by cases e)
      · skip
        exact wp_some (fun _ => ⟨(by first | omega | (dsimp only; omega)), (by first | omega | (dsimp only; omega)), (by first | omega | (dsimp only; omega))⟩)
theorem tc_X2_hasTwo {P : Nat → Nat → Option Int} {b : Nat} {p0 : Int32} {p1 : Int32} {S : cT} (hk_b : cK b = 2) (hI : IC P S) : wp (fc_X2_hasTwo b p0 p1 S) (fun w => (w = true → 0 ≤ (p0).toInt ∧ (p0).toInt ≤ 7 ∧ 0 ≤ (p1).toInt ∧ (p1).toInt ≤ 7)) := by
  unfold fc_X2_hasTwo
  refine wp_bind (tc_X2_has hk_b hI) (fun q1 hq1 => ?_)
  have h2 := hq1
  refine wp_b (fun hb3 => ?_) (fun hb3 => ?_)
  · skip
    exact wp_some (fun e => by cases e)
  · skip
    obtain ⟨k4, k5, k6⟩ := h2 hb3
    refine wp_bind (tc_X2_has hk_b hI) (fun q3 hq7 => ?_)
    have h8 := hq7
    refine wp_b (fun hb9 => ?_) (fun hb9 => ?_)
    · skip
      exact wp_some (fun e => by cases e)
    · skip
      obtain ⟨k10, k11, k12⟩ := h8 hb9
      refine wp_eqn (fun hc13 => ?_) ?_
      · skip
        exact wp_some (fun e => by cases e)
      · skip
        exact wp_some (fun _ => ⟨(by first | omega | (dsimp only; omega)), (by first | omega | (dsimp only; omega)), (by first | omega | (dsimp only; omega)), (by first | omega | (dsimp only; omega))⟩)
theorem tc_X2_hasMark {P : Nat → Nat → Option Int} {b : Nat} {p0 : Int32} {S : cT} (hk_b : cK b = 2) (hI : IC P S) : wp (fc_X2_hasMark b p0 S) (fun w => (w = true → 0 ≤ (p0).toInt ∧ (p0).toInt ≤ 5)) := by
  unfold fc_X2_hasMark
  have l_0 : (0 : Int32).toInt = 0 := by decide
  have l_6 : (6 : Int32).toInt = 6 := by decide
  refine wp_lt (fun hc1 => ?_) (fun hc1 => ?_)
  · skip
    exact wp_some (fun e => by cases e)
  · skip
    have c2 := ic_2_8 hI hk_b
    refine wp_le (fun hc3 => ?_) (fun hc3 => ?_)
    · skip
      exact wp_some (fun e => by cases e)
    · skip
      refine wp_le (fun hc4 => ?_) (fun hc4 => ?_)
      · skip
        exact wp_some (fun e => by cases e)
      · skip
        exact wp_some (fun _ => ⟨(by first | omega | (dsimp only; omega)), (by first | omega | (dsimp only; omega))⟩)
theorem tc_X2_isFace {P : Nat → Nat → Option Int} {b : Nat} {p0 : Int32} {S : cT} (hk_b : cK b = 2) (hI : IC P S) : wp (fc_X2_isFace b p0 S) (fun w => True) := by
  unfold fc_X2_isFace
  have l_0 : (0 : Int32).toInt = 0 := by decide
  refine wp_lt (fun hc1 => ?_) (fun hc1 => ?_)
  · skip
    exact wp_some trivial
  · skip
    refine wp_bind (tc_X2_lastFace hk_b hI) (fun q2 hq2 => ?_)
    refine wp_lt (fun hc3 => ?_) (fun hc3 => ?_)
    · skip
      exact wp_some trivial
    · skip
      exact wp_some trivial
theorem tc_X2_faceOf {P : Nat → Nat → Option Int} {b : Nat} {p0 : Int32} {S : cT} (hk_b : cK b = 2) (hI : IC P S) : wp (fc_X2_faceOf b p0 S) (fun w => True) := by
  unfold fc_X2_faceOf
  refine wp_bind (tc_X2_has hk_b hI) (fun q1 hq1 => ?_)
  have h2 := hq1
  refine wp_b (fun hb3 => ?_) (fun hb3 => ?_)
  · skip
    exact wp_some trivial
  · skip
    obtain ⟨k4, k5, k6⟩ := h2 hb3
    refine wp_bif (inb_of (by omega) (by omega)) ?_
    refine wp_letv (fun v3 ev3 => ?_)
    exact wp_some trivial
theorem tc_X2_hasBoat {P : Nat → Nat → Option Int} {b : Nat} {p0 : Int32} {p1 : Int32} {S : cT} (hk_b : cK b = 2) (hI : IC P S) : wp (fc_X2_hasBoat b p0 p1 S) (fun w => (w = true → 0 ≤ (p0).toInt ∧ (p0).toInt ≤ 7 ∧ 0 ≤ (p1).toInt ∧ (p1).toInt ≤ 7)) := by
  unfold fc_X2_hasBoat
  have l_0 : (0 : Int32).toInt = 0 := by decide
  have l_1 : (1 : Int32).toInt = 1 := by decide
  refine wp_bind (tc_X2_hasTwo hk_b hI) (fun q1 hq1 => ?_)
  have h2 := hq1
  refine wp_b (fun hb3 => ?_) (fun hb3 => ?_)
  · skip
    exact wp_some (fun e => by cases e)
  · skip
    obtain ⟨k4, k5, k6, k7⟩ := h2 hb3
    refine wp_bif (inb_of (by omega) (by omega)) ?_
    refine wp_letv (fun v3 ev3 => ?_)
    have t8 := and_i (v3 >>> (p1 &&& (31 : Int32))) (c := 1) l_1 (by decide)
    refine wp_eq_lo (by omega) (fun hc9 => ?_) (fun hc9 => ?_)
    · skip
      exact wp_some (fun e => by cases e)
    · skip
      exact wp_some (fun _ => ⟨(by first | omega | (dsimp only; omega)), (by first | omega | (dsimp only; omega)), (by first | omega | (dsimp only; omega)), (by first | omega | (dsimp only; omega))⟩)
theorem tc_X2_heed {P : Nat → Nat → Option Int} {b : Nat} {p0 : Int32} {p1 : Int32} {S : cT} (hk_b : cK b = 2) (hI : IC P S) : wp (fc_X2_heed b p0 p1 S) (fun w => True) := by
  unfold fc_X2_heed
  have l_0 : (0 : Int32).toInt = 0 := by decide
  have l_1 : (1 : Int32).toInt = 1 := by decide
  have l_8 : (8 : Int32).toInt = 8 := by decide
  refine wp_bind (Q := fun w => w.toInt = 0 ∨ (0 ≤ p0.toInt ∧ p0.toInt < 8 ∧ 0 ≤ p1.toInt ∧ p1.toInt < 8)) ?_ (fun w1 q1 => ?_)
  · refine wp_lt (fun _ => wp_some (Or.inl l_0)) (fun h1 => ?_)
    refine wp_le (fun _ => wp_some (Or.inl l_0)) (fun h2 => ?_)
    refine wp_lt (fun _ => wp_some (Or.inl l_0)) (fun h3 => ?_)
    exact wp_le (fun _ => wp_some (Or.inl l_0)) (fun h4 => wp_some (Or.inr (by omega)))
  · refine wp_eq (fun _ => wp_some trivial) (fun hc => ?_)
    have m := tMR (a := p0) (b := 8) l_8 (by omega) (by omega)
    have t := tA (a := p0 * 8) (b := p1) (by omega) (by omega)
    exact wp_bif (inb_of (by omega) (by omega)) (wp_letv (fun v _ => wp_some trivial))
theorem tc_X2_whoHeedsMost_L7 {P : Nat → Nat → Option Int} {k0 : Nat} {k1 : Int32} {S : cT} (hk_k0 : cK k0 = 2) (hI : IC P S) : ∀ (N : Nat) (a2 : Int32) (a3 : Int32) (a4 : Int32), 0 ≤ a4.toInt → a4.toInt ≤ 8 → 8 - a4.toInt < (N : Int) → wp (fc_X2_whoHeedsMost_L7 k0 k1 S N a2 a3 a4) (fun w => (0 ≤ (w.2.2).toInt) ∧ ((w.2.2).toInt ≤ 8)) := by
  intro N
  induction N with
  | zero =>
    intro a2 a3 a4 vl_a4 vu_a4 hm
    exfalso; omega
  | succ N ih =>
    intro a2 a3 a4 vl_a4 vu_a4 hm
    rw [fc_X2_whoHeedsMost_L7]
    have l_1 : (1 : Int32).toInt = 1 := by decide
    have c1 := ic_2_9 hI hk_k0
    refine wp_le (fun hc2 => ?_) (fun hc2 => ?_)
    · skip
      exact wp_some ⟨(by first | omega | (dsimp only; omega)), (by first | omega | (dsimp only; omega))⟩
    · skip
      refine wp_bind (tc_X2_heed hk_k0 hI) (fun q2 hq3 => ?_)
      refine wp_le (fun hc4 => ?_) (fun hc4 => ?_)
      · skip
        have t5 : (a4 + (1 : Int32) : Int32).toInt = (a4).toInt + ((1 : Int32)).toInt := tA (by omega) (by omega)
        exact (ih a2 a3 (a4 + (1 : Int32)) (by omega) (by omega) (by omega))
      · skip
        refine wp_bind (tc_X2_heed hk_k0 hI) (fun q4 hq6 => ?_)
        have t7 : (a4 + (1 : Int32) : Int32).toInt = (a4).toInt + ((1 : Int32)).toInt := tA (by omega) (by omega)
        exact (ih a4 q4 (a4 + (1 : Int32)) (by omega) (by omega) (by omega))
theorem tc_X2_whoHeedsMost {P : Nat → Nat → Option Int} {b : Nat} {p0 : Int32} {S : cT} (hk_b : cK b = 2) (hI : IC P S) : wp (fc_X2_whoHeedsMost b p0 S) (fun w => True) := by
  unfold fc_X2_whoHeedsMost
  obtain ⟨m_1, e_m1⟩ : ∃ x : Int32, x = (-1) := ⟨_, rfl⟩
  try rw [← e_m1]
  have l_m1 : m_1.toInt = -1 := by rw [e_m1]; decide
  have l_0 : (0 : Int32).toInt = 0 := by decide
  have fu : (FU : Int) = 1000000 := rfl
  refine wp_bind (tc_X2_whoHeedsMost_L7 hk_b hI FU m_1 (0 : Int32) (0 : Int32) (by omega) (by omega) (by omega)) (fun w5 hq1 => ?_)
  obtain ⟨h2, h3⟩ := hq1
  exact wp_some trivial
theorem tc_X2_nextDraw {P : Nat → Nat → Option Int} {b : Nat} {S : cT} (hk_b : cK b = 2) (hX : P b 14 = none) (hI : IC P S) : wp (fc_X2_nextDraw b S) (fun w => (IC P w.2) ∧ (w.2.2.2 = S.2.2)) := by
  unfold fc_X2_nextDraw
  have l_65536 : (65536 : Int32).toInt = 65536 := by decide
  refine wp_letv (fun S1 eS1 => ?_)
  have hIS1 : IC P S1 := by rw [eS1]; exact (iw_2_14 hI hk_b hX)
  have hpS1 : S1.2.2 = S.2.2 := by rw [eS1]; exact rfl
  refine wp_dz (by decide) ?_
  exact wp_some ⟨hIS1, hpS1⟩
theorem tc_X6_addRow {P : Nat → Nat → Option Int} {b : Nat} {S : cT} (hk_b : cK b = 5) (hR : P b 3 = none) (hI : IC P S) : wp (fc_X6_addRow b S) (fun w => (IC P w) ∧ (w.2.2 = S.2.2)) := by
  unfold fc_X6_addRow
  have l_1 : (1 : Int32).toInt = 1 := by decide
  have c1 := ic_5 hI hk_b
  have c2 := ic_5 hI hk_b
  refine wp_le (fun hc3 => ?_) (fun hc3 => ?_)
  · skip
    exact wp_some ⟨hI, rfl⟩
  · skip
    have t4 : ((S.1 b 3) + (1 : Int32) : Int32).toInt = ((S.1 b 3)).toInt + ((1 : Int32)).toInt := tA (by omega) (by omega)
    refine wp_letv (fun S2 eS2 => ?_)
    have hIS2 : IC P S2 := by rw [eS2]; exact (iw_5_3 hI hk_b (by omega) (by omega) hR)
    have hpS2 : S2.2.2 = S.2.2 := by rw [eS2]; exact rfl
    exact wp_some ⟨hIS2, hpS2⟩
theorem tc_X6_put {P : Nat → Nat → Option Int} {b : Nat} {p0 p1 : Int32} {S : cT} (hk_b : cK b = 5) (hR1 : ∀ j, P (b + 1) j = none) (hI : IC P S) : wp (fc_X6_put b p0 p1 S) (fun w => (IC P w) ∧ (w.2.2 = S.2.2)) := by
  unfold fc_X6_put
  have l_0 : (0 : Int32).toInt = 0 := by decide
  have l_1 : (1 : Int32).toInt = 1 := by decide
  have c := ic_5 hI hk_b
  refine wp_le (fun _ => wp_some ⟨hI, rfl⟩) (fun b0 => ?_)
  refine wp_lt (fun _ => wp_some ⟨hI, rfl⟩) (fun b1 => ?_)
  refine wp_le (fun _ => wp_some ⟨hI, rfl⟩) (fun b2 => ?_)
  have s := tS (a := S.1 b 3) (b := 1) (by rcases rows3 hk_b with r | r | r <;> omega) (by rcases rows3 hk_b with r | r | r <;> omega)
  refine wp_bif ?_ (wp_letv (fun v e => wp_some ⟨by rw [e]; exact iw_b hI (ko_5_1 hk_b) (hR1 _), by rw [e]; rfl⟩))
  rcases rows3 hk_b with ⟨r1, r2, r3⟩ | ⟨r1, r2, r3⟩ | ⟨r1, r2, r3⟩
  · have m := tMR (a := S.1 b 3 - 1) (b := S.1 b 1) (n := 7) (by omega) (by omega) (by omega)
    have t := tA (a := (S.1 b 3 - 1) * S.1 b 1) (b := p0) (by omega) (by omega)
    rw [r3]
    exact inb_of (by omega) (by omega)
  · have m := tMR (a := S.1 b 3 - 1) (b := S.1 b 1) (n := 4) (by omega) (by omega) (by omega)
    have t := tA (a := (S.1 b 3 - 1) * S.1 b 1) (b := p0) (by omega) (by omega)
    rw [r3]
    exact inb_of (by omega) (by omega)
  · have m := tMR (a := S.1 b 3 - 1) (b := S.1 b 1) (n := 2) (by omega) (by omega) (by omega)
    have t := tA (a := (S.1 b 3 - 1) * S.1 b 1) (b := p0) (by omega) (by omega)
    rw [r3]
    exact inb_of (by omega) (by omega)
theorem tc_X2_addTelling {P : Nat → Nat → Option Int} {b : Nat} {p0 : Int32} {p1 : Int32} {p2 : Int32} {p3 : Int32} {p4 : Int32} {S : cT} (hk_b : cK b = 2) (hI : IC P S) : wp (fc_X2_addTelling b p0 p1 p2 p3 p4 S) (fun w => (IC P w) ∧ (w.2.2 = S.2.2)) := by
  unfold fc_X2_addTelling
  obtain ⟨m_1, e_m1⟩ : ∃ x : Int32, x = (-1) := ⟨_, rfl⟩
  try rw [← e_m1]
  have l_m1 : m_1.toInt = -1 := by rw [e_m1]; decide
  refine wp_bind (Q := fun w => True) ?_ (fun w1 hq1 => ?_)
  · skip
    refine wp_eqn (fun hc2 => ?_) ?_
    · skip
      exact wp_some trivial
    · skip
      refine wp_bind (tc_X6_at (ko_2_6 hk_b) hI) (fun q3 hq3 => ?_)
      exact wp_some trivial
  · skip
    refine wp_bind (tc_X6_addRow (ko_2_6 hk_b) (np_26 hI hk_b) hI) (fun q4 hq4 => ?_)
    obtain ⟨h5, h6⟩ := hq4
    refine wp_bind (tc_X6_put (ko_2_6 hk_b) (np_27 hI hk_b) h5) (fun q5 hq7 => ?_)
    obtain ⟨h8, h9⟩ := hq7
    refine wp_bind (tc_X6_put (ko_2_6 hk_b) (np_27 hI hk_b) h8) (fun q6 hq10 => ?_)
    obtain ⟨h11, h12⟩ := hq10
    refine wp_bind (tc_X6_put (ko_2_6 hk_b) (np_27 hI hk_b) h11) (fun q7 hq13 => ?_)
    obtain ⟨h14, h15⟩ := hq13
    refine wp_bind (tc_X6_put (ko_2_6 hk_b) (np_27 hI hk_b) h14) (fun q8 hq16 => ?_)
    obtain ⟨h17, h18⟩ := hq16
    refine wp_bind (tc_X6_put (ko_2_6 hk_b) (np_27 hI hk_b) h17) (fun q9 hq19 => ?_)
    obtain ⟨h20, h21⟩ := hq19
    refine wp_bind (tc_X6_put (ko_2_6 hk_b) (np_27 hI hk_b) h20) (fun q10 hq22 => ?_)
    obtain ⟨h23, h24⟩ := hq22
    refine wp_bind (tc_X6_put (ko_2_6 hk_b) (np_27 hI hk_b) h23) (fun q11 hq25 => ?_)
    obtain ⟨h26, h27⟩ := hq25
    exact wp_some ⟨h26, (h27.trans (h24.trans (h21.trans (h18.trans (h15.trans (h12.trans (h9.trans h6)))))))⟩
theorem tc_X2_addLook {P : Nat → Nat → Option Int} {b : Nat} {S : cT} (hk_b : cK b = 2) (hI : IC P S) : wp (fc_X2_addLook b S) (fun w => (IC P w) ∧ (w.2.2 = S.2.2)) := by
  unfold fc_X2_addLook
  refine wp_bind (tc_X2_faceOf hk_b hI) (fun q1 hq1 => ?_)
  refine wp_bind (tc_X2_addTelling hk_b hI) (fun q2 hq2 => ?_)
  obtain ⟨h3, h4⟩ := hq2
  exact wp_some ⟨h3, h4⟩
theorem tc_X2_addWish {P : Nat → Nat → Option Int} {b : Nat} {p0 : Int32} {p1 : Int32} {p2 : Int32} {p3 : Int32} {S : cT} (hk_b : cK b = 2) (hR : P (b + 8) 3 = none) (hR1 : ∀ j, P (b + 8 + 1) j = none) (hI : IC P S) : wp (fc_X2_addWish b p0 p1 p2 p3 S) (fun w => (IC P w) ∧ (w.2.2 = S.2.2)) := by
  unfold fc_X2_addWish
  refine wp_bind (tc_X6_addRow (ko_2_8 hk_b) hR hI) (fun q1 hq1 => ?_)
  obtain ⟨h2, h3⟩ := hq1
  refine wp_bind (tc_X6_put (ko_2_8 hk_b) hR1 h2) (fun q2 hq4 => ?_)
  obtain ⟨h5, h6⟩ := hq4
  refine wp_bind (tc_X6_put (ko_2_8 hk_b) hR1 h5) (fun q3 hq7 => ?_)
  obtain ⟨h8, h9⟩ := hq7
  refine wp_bind (tc_X6_put (ko_2_8 hk_b) hR1 h8) (fun q4 hq10 => ?_)
  obtain ⟨h11, h12⟩ := hq10
  refine wp_bind (tc_X6_put (ko_2_8 hk_b) hR1 h11) (fun q5 hq13 => ?_)
  obtain ⟨h14, h15⟩ := hq13
  exact wp_some ⟨h14, (h15.trans (h12.trans (h9.trans (h6.trans h3))))⟩
theorem tc_X2_addView {P : Nat → Nat → Option Int} {b : Nat} {p0 : Int32} {p1 : Int32} {S : cT} (hk_b : cK b = 2) (hR : P (b + 10) 3 = none) (hR1 : ∀ j, P (b + 10 + 1) j = none) (hI : IC P S) : wp (fc_X2_addView b p0 p1 S) (fun w => (IC P w) ∧ (w.2.2 = S.2.2)) := by
  unfold fc_X2_addView
  refine wp_bind (tc_X6_addRow (ko_2_10 hk_b) hR hI) (fun q1 hq1 => ?_)
  obtain ⟨h2, h3⟩ := hq1
  refine wp_bind (tc_X6_put (ko_2_10 hk_b) hR1 h2) (fun q2 hq4 => ?_)
  obtain ⟨h5, h6⟩ := hq4
  refine wp_bind (tc_X6_put (ko_2_10 hk_b) hR1 h5) (fun q3 hq7 => ?_)
  obtain ⟨h8, h9⟩ := hq7
  exact wp_some ⟨h8, (h9.trans (h6.trans h3))⟩
theorem tc_X2_isLook {P : Nat → Nat → Option Int} {b : Nat} {p0 : Int32} {S : cT} (hk_b : cK b = 2) (hI : IC P S) : wp (fc_X2_isLook b p0 S) (fun w => True) := by
  unfold fc_X2_isLook
  refine wp_bind (tc_X6_at (ko_2_6 hk_b) hI) (fun q1 hq1 => ?_)
  refine wp_bind (tc_X6_at (ko_2_6 hk_b) hI) (fun q2 hq2 => ?_)
  refine wp_eqn (fun hc3 => ?_) ?_
  · skip
    exact wp_some trivial
  · skip
    exact wp_some trivial
theorem tc_X2_looksOf_L4 {P : Nat → Nat → Option Int} {k0 : Nat} {k1 : Int32} {S : cT} (hk_k0 : cK k0 = 2) (hI : IC P S) : ∀ (N : Nat) (a2 : Int32) (a3 : Int32), 0 ≤ a3.toInt → a3.toInt ≤ 40 → 40 - a3.toInt < (N : Int) → wp (fc_X2_looksOf_L4 k0 k1 S N a2 a3) (fun w => (0 ≤ (w.2).toInt) ∧ ((w.2).toInt ≤ 40)) := by
  intro N
  induction N with
  | zero =>
    intro a2 a3 vl_a3 vu_a3 hm
    exfalso; omega
  | succ N ih =>
    intro a2 a3 vl_a3 vu_a3 hm
    rw [fc_X2_looksOf_L4]
    have l_1 : (1 : Int32).toInt = 1 := by decide
    have c1 := ic_2_6_3 hI hk_k0
    refine wp_le (fun hc2 => ?_) (fun hc2 => ?_)
    · skip
      exact wp_some ⟨(by first | omega | (dsimp only; omega)), (by first | omega | (dsimp only; omega))⟩
    · skip
      refine wp_bind (tc_X2_isLook hk_k0 hI) (fun q2 hq3 => ?_)
      refine wp_b (fun hb4 => ?_) (fun hb4 => ?_)
      · skip
        have t5 : (a3 + (1 : Int32) : Int32).toInt = (a3).toInt + ((1 : Int32)).toInt := tA (by omega) (by omega)
        exact (ih a2 (a3 + (1 : Int32)) (by omega) (by omega) (by omega))
      · skip
        refine wp_bind (tc_X6_at (ko_2_6 hk_k0) hI) (fun q4 hq6 => ?_)
        refine wp_eqn (fun hc7 => ?_) ?_
        · skip
          have t8 : (a3 + (1 : Int32) : Int32).toInt = (a3).toInt + ((1 : Int32)).toInt := tA (by omega) (by omega)
          exact (ih (a2 + (1 : Int32)) (a3 + (1 : Int32)) (by omega) (by omega) (by omega))
        · skip
          have t9 : (a3 + (1 : Int32) : Int32).toInt = (a3).toInt + ((1 : Int32)).toInt := tA (by omega) (by omega)
          exact (ih a2 (a3 + (1 : Int32)) (by omega) (by omega) (by omega))
theorem tc_X2_looksOf {P : Nat → Nat → Option Int} {b : Nat} {p0 : Int32} {S : cT} (hk_b : cK b = 2) (hI : IC P S) : wp (fc_X2_looksOf b p0 S) (fun w => True) := by
  unfold fc_X2_looksOf
  have l_0 : (0 : Int32).toInt = 0 := by decide
  have fu : (FU : Int) = 1000000 := rfl
  refine wp_bind (tc_X2_looksOf_L4 hk_b hI FU (0 : Int32) (0 : Int32) (by omega) (by omega) (by omega)) (fun w6 hq1 => ?_)
  obtain ⟨h2, h3⟩ := hq1
  exact wp_some trivial
