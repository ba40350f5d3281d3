/-! ===== the reference's reader: an island ===== -/
theorem tm_clauseHere_i {P : Nat → Nat → Option Int} {T : mT} (hn : (T.1 0 8).toInt ≤ (T.1 0 1).toInt) (hI : IQ P T) (h11 : (T.1 0 11).toInt = 6) : wp (fm_clauseHere T) (fun w => Lin P T w) := by
  unfold fm_clauseHere
  have l_0 : (0 : Int32).toInt = 0 := by decide
  have l_1 : (1 : Int32).toInt = 1 := by decide
  have l_6 : (6 : Int32).toInt = 6 := by decide
  refine wp_bind (tm_see hn hI) (fun q1 h1 => ?_)
  have k1 := h1.1
  have c8 := im_0_8 k1.1
  have e11 : (q1.2.1 0 11).toInt = 6 := by rw [k1.2.1.2 0 11 (Or.inr (by decide))]; exact h11
  refine wp_bind (Q := fun w => w = 1) ?_ (fun w2 e2 => ?_)
  · refine wp_eq (fun _ => wp_some rfl) (fun z => ?_)
    exfalso
    omega
  subst e2
  rw [if_neg (by decide : ¬ (1 : Int32) = 0)]
  refine wp_bind (tm_isIslandWord k1.2.2.2 k1.1) (fun q32 h32 => ?_)
  have K : Isl P T q32.2 := Isl.ofT (k1.trans h32)
  refine wp_b (fun _ => Lin.fails K (by decide) (by decide) c8.1 c8.2) (fun _ => ?_)
  rw [if_neg (by decide : ¬ (1 : Int32) = 0)]
  refine wp_bind (wp_some (P := fun c : Int32 => c = 40) rfl) (fun w34 e34 => ?_)
  subst e34
  refine wp_eqn (fun _ => Lin.fails K (by decide) (by decide) c8.1 c8.2) ?_
  refine wp_letv (fun T37 e37 => ?_)
  have K37 : Isl P T T37 := by
    obtain ⟨h1, h2', h3, h4, h5', h6, h7', h8⟩ := K
    rw [e37]
    refine ⟨iz_any 14 h1 rfl rfl (by decide) (by decide), ?_, ?_, ?_, ?_, ?_, ?_, ?_⟩
    · rw [mz_ne (by decide), mz_ne (by decide)]; exact h2'
    · rw [mz_no _ _ _ (by decide)]; exact h3
    · rw [mz_ne (by decide)]; exact h4
    · rw [mz_ne (by decide)]; exact h5'
    · rw [mz_ne (by decide)]; exact h6
    · rw [mz_ne (by decide)]; exact h7'
    · rw [mz_ne (by decide)]; exact h8
  rw [if_neg (by decide : ¬ (1 : Int32) = 0)]
  exact wp_bind (tm_islandLineHere K37.2.1 K37.1 c8.1 c8.2) (fun q43 h43 => wp_some (Lin.pre K37 h43))
theorem b2i_t {b : Bool} (h : b2i b ≠ 0) : b = true := by
  cases b with
  | true => rfl
  | false => exact absurd rfl h
theorem b2i_f {b : Bool} (h : b2i b = 0) : b = false := by
  cases b with
  | true => exact absurd h (by decide)
  | false => rfl
theorem tm_readsAll_L35_i {P : Nat → Nat → Option Int} {T0 : mT} (h11 : (T0.1 0 11).toInt = 6) : ∀ (N : Nat) (a1 : Int32) (T : mT), Isl P T0 T → (a1 = 0 → T.1 0 9 ≠ 0) → (a1 ≠ 0 → (T.1 0 1).toInt - (T.1 0 8).toInt + 2 ≤ (N : Int)) → 1 ≤ N → wp (fm_readsAll_L35 N a1 T) (fun w => Isl P T0 w.2 ∧ (w.1 = 0 → w.2.1 0 9 ≠ 0)) := by
  have l_59 : (59 : Int32).toInt = 59 := by decide
  intro N
  induction N with
  | zero =>
    intro a1 T d h0 h hm
    exfalso; omega
  | succ N ih =>
    intro a1 T d h0 h hm
    rw [fm_readsAll_L35]
    refine wp_if (fun e => wp_some ⟨d, h0⟩) (fun e => ?_)
    have m := h e
    refine wp_bind (tm_see d.2.1 d.1) (fun q8 h8 => ?_)
    have k8 := h8.1
    have kn := k8.2.2.1
    refine wp_eq (fun hc => ?_) (fun _ => wp_some ⟨d.trans (Isl.ofT k8), fun z => absurd z e⟩)
    have lt := h8.2 (by omega)
    have z := tok_on k8.1 lt
    refine wp_letv (fun T10 e10 => ?_)
    rw [← e10] at z
    have D10 := d.trans (Isl.ofT (k8.trans z.1))
    refine wp_bind (tm_clauseHere_i D10.2.1 D10.1 (by rw [D10.2.2.2.2.1]; exact h11)) (fun q11 h11' => ?_)
    have D11 := D10.trans h11'.1
    have p11 : q11.2.1 0 1 = T.1 0 1 := by rw [D11.2.2.2.1, d.2.2.2.1]
    have mn := h11'.1.2.2.2.2.2.2.2
    have hn := d.2.1
    exact ih (b2i q11.1) q11.2 D11 (fun hb => h11'.2 (b2i_f hb)) (fun hb => by rw [p11]; omega) (by omega)
/-- an island's text is read -/
theorem tm_readsAll_i {P : Nat → Nat → Option Int} {T : mT} (hp : P 0 1 = none) (hI : IQ P T) (h11 : (T.1 0 11).toInt = 6) : wp (fm_readsAll T) (fun w => IQ P w.2 ∧ w.2.1 10 = T.1 10 ∧ w.2.1 6 2 = T.1 6 2 ∧ w.2.1 6 5 = T.1 6 5 ∧ (w.1 = true → w.2.1 6 1 ≠ 0)) := by
  unfold fm_readsAll
  have l_0 : (0 : Int32).toInt = 0 := by decide
  have l_6 : (6 : Int32).toInt = 6 := by decide
  have fu : (FU : Int) = 1000000 := rfl
  have c1 := im_0_1 hI
  refine wp_bif (inb_of (by omega) (by omega)) ?_
  refine wp_letv (fun T1 e1 => ?_)
  refine wp_letv (fun T2 e2 => ?_)
  refine wp_letv (fun T3 e3 => ?_)
  refine wp_letv (fun T4 e4 => ?_)
  refine wp_letv (fun T5 e5 => ?_)
  have I1 : IQ P T1 := by
    rw [e1]
    exact IQ_ma hI (show (0 : Int) ≤ (0 : Int32).toInt ∧ (0 : Int32).toInt ≤ 400 from ⟨by omega, by omega⟩) (no_pinM hI.1 rfl) (by decide) (by decide) (by decide) (by decide) (by decide) (by decide) (by decide) (by decide)
  have I2 : IQ P T2 := by rw [e2]; exact iz_any 14 I1 rfl rfl (by decide) (by decide)
  have I3 : IQ P T3 := by rw [e3]; exact iz_8 I2 (by omega) (by omega)
  have I4 : IQ P T4 := by rw [e4]; exact iz_any 9 I3 rfl rfl (by decide) (by decide)
  have I5 : IQ P T5 := by rw [e5]; exact iz_12 I4 (by omega) (by omega)
  have z : ∀ r j, r ≠ 3 → (r ≠ 0 ∨ (j ≠ 14 ∧ j ≠ 8 ∧ j ≠ 9 ∧ j ≠ 12)) → T5.1 r j = T.1 r j := fun r j h3 h0 => by
    rw [e5, mz_ne (by omega), e4, mz_ne (by omega), e3, mz_ne (by omega), e2, mz_ne (by omega), e1, ma_ne (Or.inl h3)]
  have v8 : (T5.1 0 8).toInt = 0 := by rw [e5, mz_ne (by decide), e4, mz_ne (by decide), e3, mz_at]; exact l_0
  have p5 : T5.1 0 1 = T.1 0 1 := z 0 1 (by decide) (Or.inr (by decide))
  have e11 : (T5.1 0 11).toInt = 6 := by rw [z 0 11 (by decide) (Or.inr (by decide))]; exact h11
  refine wp_bind (tm_clauseHere_i (by rw [p5]; omega) I5 e11) (fun q6 h6 => ?_)
  have p6 : q6.2.1 0 1 = T.1 0 1 := h6.1.2.2.2.1.trans p5
  have c68 := im_0_8 h6.1.1
  refine wp_bind (tm_readsAll_L35_i e11 FU (b2i q6.1) q6.2 h6.1 (fun hb => h6.2 (b2i_f hb)) (fun hb => by rw [p6]; omega) (by decide)) (fun w12 h12 => ?_)
  refine wp_bind (Q := fun w => Isl P T5 w.2 ∧ (w.1 = 0 → w.2.1 0 9 ≠ 0)) ?_ (fun w13 h13 => ?_)
  · refine wp_if (fun e => wp_some ⟨h12.1, fun _ => h12.2 e⟩) (fun e => ?_)
    refine wp_bind (tm_see h12.1.2.1 h12.1.1) (fun q15 h15 => ?_)
    have K15 := h12.1.trans (Isl.ofT h15.1)
    have c15 := im_0_8 K15.1
    refine wp_if (fun _ => wp_some ⟨K15, fun y => absurd y e⟩) (fun _ => ?_)
    exact wp_bind (tm_fails9 (by decide) (by decide) c15.1 c15.2 K15.2.1 K15.1) (fun q17 h17 => wp_some ⟨K15.trans (Isl.ofT h17.1.2), fun _ => h17.2⟩)
  refine wp_bind (Q := fun w => Isl P T5 w ∧ (w.1 0 9 = 0 → w.1 6 1 ≠ 0)) ?_ (fun w18 h18 => ?_)
  · refine wp_if (fun e => wp_some ⟨h13.1, fun y => absurd y (h13.2 e)⟩) (fun e => ?_)
    refine wp_eq (fun _ => ?_) (fun y => ?_)
    · refine wp_bif (inb_of (by decide) (by decide)) ?_
      refine wp_letv (fun v21 e21 => ?_)
      have ev : v21 = w13.2.1 6 1 := e21
      have c13 := im_0_8 h13.1.1
      refine wp_if (fun _ => ?_) (fun y => wp_some ⟨h13.1, fun _ => by rw [← ev]; exact y⟩)
      exact wp_bind (tm_fails9 (by decide) (by decide) c13.1 c13.2 h13.1.2.1 h13.1.1) (fun q23 h23 => wp_some ⟨h13.1.trans (Isl.ofT h23.1.2), fun y => absurd y h23.2⟩)
    · exfalso
      rw [h13.1.2.2.2.2.1] at y
      omega
  refine wp_letv (fun T24 e24 => ?_)
  have K := h18.1
  have I24 : IQ P T24 := by
    rw [e24]
    exact IQ_mz K.1 (show (0 : Int) ≤ (0 : Int32).toInt ∧ (0 : Int32).toInt ≤ 400 from ⟨by omega, by omega⟩) hp (by decide) (by decide)
  have zr : ∀ r, r ≠ 0 → T24.1 r = w18.1 r := fun r hr => by rw [e24]; exact mz_no _ _ _ hr
  have f10 : T24.1 10 = T.1 10 := by
    rw [zr 10 (by decide), K.2.2.1]
    exact funext (fun j => z 10 j (by decide) (Or.inl (by decide)))
  have f62 : T24.1 6 2 = T.1 6 2 := by rw [zr 6 (by decide), K.2.2.2.2.2.1]; exact z 6 2 (by decide) (Or.inl (by decide))
  have f65 : T24.1 6 5 = T.1 6 5 := by rw [zr 6 (by decide), K.2.2.2.2.2.2.1]; exact z 6 5 (by decide) (Or.inl (by decide))
  have v9 : T24.1 0 9 = w18.1 0 9 := by rw [e24]; exact mz_ne (by decide)
  exact wp_if (fun e => wp_some ⟨I24, f10, f62, f65, fun _ => by dsimp only; rw [zr 6 (by decide)]; exact h18.2 (by rw [← v9]; exact e)⟩) (fun _ => wp_some ⟨I24, f10, f62, f65, fun y => by cases y⟩)
theorem tm_island_L8 {P : Nat → Nat → Option Int} : ∀ (N : Nat) (a1 : Int32) (i : Nat) (T : mT), a1.toInt = (i : Int) → i ≤ 8 → 8 - (i : Int) < (N : Int) → IQ P T → (∀ j, j < i → T.1 6 j = 0) → wp (fm_island_L8 N a1 T) (fun w => IQ P w.2 ∧ (∀ j, j < 8 → w.2.1 6 j = 0) ∧ ∀ r, r ≠ 6 → w.2.1 r = T.1 r) := by
  have l_0 : (0 : Int32).toInt = 0 := by decide
  have l_1 : (1 : Int32).toInt = 1 := by decide
  have l_8 : (8 : Int32).toInt = 8 := by decide
  intro N
  induction N with
  | zero =>
    intro a1 i T e hi hm hI h0
    exfalso; omega
  | succ N ih =>
    intro a1 i T e hi hm hI h0
    rw [fm_island_L8]
    refine wp_le (fun _ => wp_some ⟨hI, fun j hj => h0 j (by omega), fun _ _ => rfl⟩) (fun hc => ?_)
    refine wp_bif (inb_of (by omega) (by omega)) ?_
    refine wp_letv (fun T3 e3 => ?_)
    rw [cl_idx e] at e3
    have u := tA (a := a1) (b := 1) (by omega) (by omega)
    have i8 : i < 8 := by omega
    have I3 : IQ P T3 := by
      rw [e3]
      refine IQ_6 hI (by omega) ?_
      have : i = 0 ∨ i = 1 ∨ i = 2 ∨ i = 3 ∨ i = 4 ∨ i = 5 ∨ i = 6 ∨ i = 7 := by omega
      rcases this with rfl | rfl | rfl | rfl | rfl | rfl | rfl | rfl <;> decide
    refine wp_mono (ih (a1 + 1) (i + 1) T3 (by omega) (by omega) (by omega) I3 (fun j hj => ?_)) (fun w hw => ⟨hw.1, hw.2.1, fun r hr => by rw [hw.2.2 r hr, e3]; exact ma_no _ _ _ hr⟩)
    rw [e3]
    by_cases y : j = i
    · rw [y, ma_at]
    · rw [ma_ne (Or.inr y)]
      exact h0 j (by omega)
/-- row 10 takes what row 6 holds, below i -/
theorem tm_island_L44 {P : Nat → Nat → Option Int} {T0 : mT} (hA : IQ P T0) (h5 : T0.1 6 5 = 0) (h1 : T0.1 6 1 ≠ 0) : ∀ (N : Nat) (a1 : Int32) (i : Nat) (T : mT), a1.toInt = (i : Int) → i ≤ 410 → 410 - (i : Int) < (N : Int) → (∀ r, r ≠ 10 → T.1 r = T0.1 r) → T.2 = T0.2 → (∀ j, j < i → T.1 10 j = if j < 112 then T0.1 6 j else 0) → (∀ j, i ≤ j → T.1 10 j = T0.1 10 j) → wp (fm_island_L44 N a1 T) (fun w => (∀ r, r ≠ 10 → w.2.1 r = T0.1 r) ∧ w.2.2 = T0.2 ∧ (∀ j, j < 410 → w.2.1 10 j = if j < 112 then T0.1 6 j else 0) ∧ (∀ j, 410 ≤ j → w.2.1 10 j = T0.1 10 j)) := by
  have l_0 : (0 : Int32).toInt = 0 := by decide
  have l_1 : (1 : Int32).toInt = 1 := by decide
  have l_112 : (112 : Int32).toInt = 112 := by decide
  have l_410 : (410 : Int32).toInt = 410 := by decide
  intro N
  induction N with
  | zero =>
    intro a1 i T e hi hm hr h2 hlo hhi
    exfalso; omega
  | succ N ih =>
    intro a1 i T e hi hm hr h2 hlo hhi
    rw [fm_island_L44]
    refine wp_le (fun _ => wp_some ⟨hr, h2, fun j hj => hlo j (by omega), fun j hj => hhi j (by omega)⟩) (fun hc => ?_)
    have u := tA (a := a1) (b := 1) (by omega) (by omega)
    have go : ∀ v : Int32, v = (if i < 112 then T0.1 6 i else 0) → wp (fm_island_L44 N (a1 + 1) (ma T 10 i v)) (fun w => (∀ r, r ≠ 10 → w.2.1 r = T0.1 r) ∧ w.2.2 = T0.2 ∧ (∀ j, j < 410 → w.2.1 10 j = if j < 112 then T0.1 6 j else 0) ∧ (∀ j, 410 ≤ j → w.2.1 10 j = T0.1 10 j)) := by
      intro v hv
      refine ih (a1 + 1) (i + 1) _ (by omega) (by omega) (by omega) (fun r hr' => by rw [ma_no _ _ _ hr']; exact hr r hr') h2 (fun j hj => ?_) (fun j hj => by rw [ma_ne (Or.inr (by omega))]; exact hhi j (by omega))
      by_cases y : j = i
      · rw [y, ma_at]
        exact hv
      · rw [ma_ne (Or.inr y)]
        exact hlo j (by omega)
    refine wp_le (fun hd => ?_) (fun hd => ?_)
    · refine wp_bif (inb_of (by omega) (by omega)) ?_
      refine wp_letv (fun T9 e9 => ?_)
      rw [e9, cl_idx e]
      exact go 0 (by rw [if_neg (by omega)])
    · refine wp_bif (inb_of (by omega) (by omega)) ?_
      refine wp_letv (fun v10 e10 => ?_)
      rw [cl_idx e, hr 6 (by decide)] at e10
      refine wp_bif (inb_of (by omega) (by omega)) ?_
      refine wp_letv (fun T11 e11 => ?_)
      rw [e11, cl_idx e]
      exact go v10 (by rw [if_pos (by omega)]; exact e10)
theorem rgS_0 {j : Nat} (h : 112 ≤ j) : (rgS j).1 ≤ 0 ∧ 0 ≤ (rgS j).2 := by
  unfold rgS fullI
  rw [if_neg (by omega), if_neg (by omega), if_neg (by omega), if_neg (by omega), if_neg (by omega), if_neg (by omega), if_neg (by omega)]
  by_cases a : 112 ≤ j ∧ j < 352
  · rw [if_pos a]
    by_cases b : (j - 112) % 6 ≤ 2
    · rw [if_pos b]; decide
    · rw [if_neg b]
      by_cases c : (j - 112) % 6 = 3
      · rw [if_pos c]; decide
      · rw [if_neg c]
        by_cases d : (j - 112) % 6 = 5
        · rw [if_pos d]; decide
        · rw [if_neg d]; decide
  · rw [if_neg a]
    by_cases b : j = 408
    · rw [if_pos b]; decide
    · rw [if_neg b]
      by_cases c : j = 409
      · rw [if_pos c]; decide
      · rw [if_neg c]; decide
theorem tm_island {P : Nat → Nat → Option Int} {T : mT} (hp : P 0 1 = none) (hp10 : ∀ j, P 10 j = none) (hA : Aft P T) : wp (fm_island T) (fun w => Aft P w.2) := by
  unfold fm_island
  have l_0 : (0 : Int32).toInt = 0 := by decide
  have fu : (FU : Int) = 1000000 := rfl
  obtain ⟨hI, hh⟩ := hA
  refine wp_letv (fun T1 e1 => ?_)
  have I1 : IQ P T1 := by
    rw [e1]
    exact IQ_mz hI (show (0 : Int) ≤ (6 : Int32).toInt ∧ (6 : Int32).toInt ≤ 6 from by decide) (no_pinM hI.1 rfl) (by decide) (by decide)
  refine wp_bind (tm_island_L8 FU 0 0 T1 (by decide) (by omega) (by omega) I1 (fun j hj => absurd hj (Nat.not_lt_zero _))) (fun w4 h4 => ?_)
  obtain ⟨I4, z4, f4⟩ := h4
  have e11 : (w4.2.1 0 11).toInt = 6 := by rw [f4 0 (by decide), e1, mz_at]; decide
  refine wp_bind (tm_readsAll_i hp I4 e11) (fun q5 h5 => ?_)
  obtain ⟨I5, r10, r62, r65, r61⟩ := h5
  have t10 : q5.2.1 10 = T.1 10 := by rw [r10, f4 10 (by decide), e1]; exact mz_no _ _ _ (by decide)
  have hh5 : HrOk q5.2 := by
    unfold HrOk
    rw [t10]
    exact hh
  refine wp_b (fun _ => wp_some ⟨I5, hh5⟩) (fun b => ?_)
  have n1 := r61 b
  have n5 : q5.2.1 6 5 = 0 := by rw [r65]; exact z4 5 (by decide)
  have n2 : q5.2.1 6 2 = 0 := by rw [r62]; exact z4 2 (by decide)
  refine wp_bind (tm_island_L44 I5 n5 n1 FU 0 0 q5.2 (by decide) (by omega) (by omega) (fun _ _ => rfl) rfl (fun j hj => absurd hj (Nat.not_lt_zero _)) (fun _ _ => rfl)) (fun w12 h12 => ?_)
  obtain ⟨f12, g12, lo, hi⟩ := h12
  have c61 := im_6_1 I5
  refine wp_letv (fun T13 e13 => ?_)
  have g13 : ∀ r, r ≠ 0 → T13.1 r = w12.2.1 r := fun r hr => by rw [e13]; exact mz_no _ _ _ hr
  have z13 : ∀ j, j ≠ 25 → T13.1 0 j = q5.2.1 0 j := fun j hj => by rw [e13, mz_ne (Or.inr hj), f12 0 (by decide)]
  have u13 : (T13.1 0 25).toInt = 0 := by rw [e13, mz_at]; exact l_0
  have l13 : T13.2 = q5.2.2 := by rw [← g12, e13]; rfl
  have r13 : ∀ r, r ≠ 0 → r ≠ 10 → T13.1 r = q5.2.1 r := fun r h0 h1 => by rw [g13 r h0, f12 r h1]
  have I13 : IQ P T13 := by
    refine ⟨⟨fun r j => ?_, fun r j v hv => ?_⟩, ⟨⟨fun _ => ?_, fun t ht => ?_⟩, ?_, ?_⟩, RulesOk_eq (r13 2 (by decide) (by decide)) (r13 4 (by decide) (by decide)) (r13 5 (by decide) (by decide)) (z13 2 (by decide)) I5.2.2.1, ?_⟩
    · by_cases e : r = 10
      · subst e
        rw [g13 10 (by decide)]
        by_cases a : j < 410
        · rw [lo j a]
          by_cases c : j < 112
          · rw [if_pos c]
            have y := I5.1.1 6 j
            have ey : rgM 6 j = rgS j := by show (if j < 112 then rgS j else fullI) = rgS j; rw [if_pos c]
            rw [ey] at y
            exact y
          · rw [if_neg c, l_0]
            exact rgS_0 (by omega)
        · rw [hi j (by omega)]
          exact I5.1.1 10 j
      · by_cases e0 : r = 0
        · subst e0
          by_cases e25 : j = 25
          · subst e25
            rw [u13]
            decide
          · rw [z13 j e25]
            exact I5.1.1 0 j
        · rw [r13 r e0 e]
          exact I5.1.1 r j
    · have y := I5.1.2 r j v hv
      refine ⟨y.1, ?_⟩
      by_cases e : r = 10
      · subst e
        rw [hp10 j] at hv
        cases hv
      · by_cases e0 : r = 0
        · subst e0
          have e25 : j ≠ 25 := by
            intro z
            subst z
            exact absurd y.1 (by decide)
          rw [z13 j e25]
          exact y.2
        · rw [r13 r e0 e]
          exact y.2
    · rw [g13 10 (by decide), lo (0 + 1) (by decide), if_pos (by decide)]
      have : (q5.2.1 6 1).toInt ≠ 0 := fun y => n1 (Int32.toInt_inj.mp (by rw [y]; rfl))
      show 0 < (q5.2.1 6 1).toInt
      omega
    · rw [g13 10 (by decide), lo (0 + 5) (by decide), if_pos (by decide)] at ht
      have y : (t : Int) < (q5.2.1 6 5).toInt := ht
      rw [n5, l_0] at y
      omega
    · rw [r13 11 (by decide) (by decide)]
      exact I5.2.1.2.1
    · rw [r13 15 (by decide) (by decide)]
      exact I5.2.1.2.2
    · unfold ForceOk
      rw [z13 22 (by decide), z13 2 (by decide), r13 16 (by decide) (by decide), r13 18 (by decide) (by decide), l13, u13]
      exact ⟨I5.2.2.2.1, I5.2.2.2.2.1, I5.2.2.2.2.2.1, I5.2.2.2.2.2.2.1, fun k j hk _ _ => by exfalso; omega⟩
  refine wp_bif (inb_of (by decide) (by decide)) ?_
  refine wp_letv (fun v14 _ => wp_some ⟨I13, ?_⟩)
  unfold HrOk
  dsimp only
  rw [e13, mz_no _ _ _ (by decide), lo 2 (by decide), if_pos (by decide), n2]
  decide
theorem tm_four_L3 {P : Nat → Nat → Option Int} {k1 : Int32} (hp : P 0 1 = none) (hp1 : ∀ j, P 1 j = none) : ∀ (N : Nat) (a2 : Int32) (m : Nat) (T : mT), a2.toInt = 8 * (m : Int) - 8 → m < N → IQ P T → (T.1 0 1).toInt + m ≤ 400 → wp (fm_four_L3 k1 N a2 T) (fun w => IQ P w.2 ∧ w.2.1 10 = T.1 10 ∧ (w.2.1 0 1).toInt = (T.1 0 1).toInt + m) := by
  have l_0 : (0 : Int32).toInt = 0 := by decide
  have l_1 : (1 : Int32).toInt = 1 := by decide
  have l_m8 : ((-8) : Int32).toInt = -8 := by decide
  intro N
  induction N with
  | zero =>
    intro a2 m T e hm hI hb
    exfalso; omega
  | succ N ih =>
    intro a2 m T e hm hI hb
    rw [fm_four_L3]
    have c1 := im_0_1 hI
    refine wp_lt (fun hc => wp_some ⟨hI, rfl, by dsimp only; omega⟩) (fun hc => ?_)
    obtain ⟨p, rfl⟩ : ∃ p, m = p + 1 := ⟨m - 1, by omega⟩
    refine wp_bif (inb_of (by omega) (by omega)) ?_
    refine wp_letv (fun T2 e2 => ?_)
    refine wp_letv (fun T3 e3 => ?_)
    have I2 : IQ P T2 := by
      rw [e2]
      exact IQ_ma hI (bnd _) (hp1 _) (by decide) (by decide) (by decide) (by decide) (by decide) (by decide) (by decide) (by decide)
    have v1 : T2.1 0 1 = T.1 0 1 := by rw [e2]; exact ma_ne (Or.inl (by decide))
    have u := tA (a := T2.1 0 1) (b := 1) (by rw [v1]; omega) (by rw [v1]; omega)
    rw [v1] at u
    have I3 : IQ P T3 := by
      rw [e3, v1]
      exact IQ_mz I2 (show (0 : Int) ≤ (T.1 0 1 + 1).toInt ∧ (T.1 0 1 + 1).toInt ≤ 400 from ⟨by omega, by omega⟩) hp (by decide) (by decide)
    have v3 : (T3.1 0 1).toInt = (T.1 0 1).toInt + 1 := by rw [e3, mz_at, v1]; omega
    have u2 := tA (a := a2) (b := -8) (by omega) (by omega)
    refine wp_mono (ih (a2 + (-8)) p T3 (by omega) (by omega) I3 (by omega)) (fun w hw => ⟨hw.1, ?_, by have := hw.2.2; omega⟩)
    rw [hw.2.1, e3, mz_no _ _ _ (by decide), e2, ma_no _ _ _ (by decide)]
theorem tm_four {P : Nat → Nat → Option Int} {p0 : Int32} {T : mT} (hp : P 0 1 = none) (hp1 : ∀ j, P 1 j = none) (hI : IQ P T) (hb : (T.1 0 1).toInt + 4 ≤ 400) : wp (fm_four p0 T) (fun w => IQ P w ∧ w.1 10 = T.1 10 ∧ (w.1 0 1).toInt = (T.1 0 1).toInt + 4) := by
  unfold fm_four
  exact wp_bind (tm_four_L3 hp hp1 FU 24 4 T (by decide) (by decide) hI (by omega)) (fun w hw => wp_some ⟨hw.1, hw.2.1, by have := hw.2.2; omega⟩)
theorem tm_feed {P : Nat → Nat → Option Int} {p0 p1 p2 p3 p4 : Int32} {T : mT} (hp : P 0 1 = none) (hp1 : ∀ j, P 1 j = none) (hA : Aft P T) : wp (fm_feed p0 p1 p2 p3 p4 T) (fun w => Aft P w.2) := by
  unfold fm_feed
  obtain ⟨hI, hh⟩ := hA
  have l_20 : (20 : Int32).toInt = 20 := by decide
  have l_400 : (400 : Int32).toInt = 400 := by decide
  have c1 := im_0_1 hI
  have u := tA (a := T.1 0 1) (b := 20) (by omega) (by omega)
  refine wp_le (fun hc => ?_) (fun _ => wp_some ⟨hI, hh⟩)
  refine wp_bind (tm_four hp hp1 hI (by omega)) (fun q2 h2 => ?_)
  refine wp_bind (tm_four hp hp1 h2.1 (by have := h2.2.2; omega)) (fun q3 h3 => ?_)
  refine wp_bind (tm_four hp hp1 h3.1 (by have := h2.2.2; have := h3.2.2; omega)) (fun q4 h4 => ?_)
  refine wp_bind (tm_four hp hp1 h4.1 (by have := h2.2.2; have := h3.2.2; have := h4.2.2; omega)) (fun q5 h5 => ?_)
  refine wp_bind (tm_four hp hp1 h5.1 (by have := h2.2.2; have := h3.2.2; have := h4.2.2; have := h5.2.2; omega)) (fun q6 h6 => wp_some ⟨h6.1, ?_⟩)
  unfold HrOk
  dsimp only
  rw [h6.2.1, h5.2.1, h4.2.1, h3.2.1, h2.2.1]
  exact hh
theorem tm_end {P : Nat → Nat → Option Int} {p0 : Int32} {T : mT} (hp : P 0 1 = none) (hA : Aft P T) : wp (fm_end p0 T) (fun w => Aft P w.2) := by
  unfold fm_end
  obtain ⟨hI, hh⟩ := hA
  have l_0 : (0 : Int32).toInt = 0 := by decide
  have c1 := im_0_1 hI
  refine wp_lt (fun _ => wp_some ⟨hI, hh⟩) (fun h0 => ?_)
  refine wp_le (fun h1 => ?_) (fun _ => wp_some ⟨hI, hh⟩)
  refine wp_letv (fun T3 e3 => wp_some ⟨?_, ?_⟩)
  · rw [e3]
    exact IQ_mz hI (show (0 : Int) ≤ p0.toInt ∧ p0.toInt ≤ 400 from ⟨by omega, by omega⟩) hp (by decide) (by decide)
  · unfold HrOk
    dsimp only
    rw [e3, mz_no _ _ _ (by decide)]
    exact hh
