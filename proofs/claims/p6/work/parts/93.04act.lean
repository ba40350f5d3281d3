/-! ===== the reference's acts 2 ===== -/
theorem tm_retell {P : Nat → Nat → Option Int} {p0 p1 p2 : Int32} {T : mT} (hA : Aft P T) : wp (fm_retell p0 p1 p2 T) (fun w => Aft P w.2) := by
  obtain ⟨hI, hh⟩ := hA
  unfold fm_retell
  have l_2 : (2 : Int32).toInt = 2 := by decide
  have l_5 : (5 : Int32).toInt = 5 := by decide
  have l_40 : (40 : Int32).toInt = 40 := by decide
  have k0 : (0 : Int64).toInt = 0 := by decide
  have kp := Int32.toInt_toInt64 p2
  have c5 := im_10_5 hI
  refine wp_bind (tm_isTelling hI) (fun q1 h1 => ?_)
  refine wp_b (fun _ => wp_some ⟨hI, hh⟩) (fun b1 => ?_)
  obtain ⟨g1, g2, g3⟩ := h1 b1
  refine wp_bind (tm_isPerson hI) (fun q3 h3 => ?_)
  refine wp_b (fun _ => wp_some ⟨hI, hh⟩) (fun b3 => ?_)
  have g4 := h3 b3
  refine wp_bind (tm_tellingOf_1 g1 g2 hI) (fun q5 h5 => ?_)
  refine wp_eqn (fun _ => wp_some ⟨hI, hh⟩) ?_
  refine wp_bind (tm_allMarks hI) (fun q7 h7 => ?_)
  have kq := Int32.toInt_toInt64 q7
  refine wp_bind tm_in (fun q8 h8 => ?_)
  refine wp_b (fun _ => wp_some ⟨hI, hh⟩) (fun b8 => ?_)
  have g8 := h8 b8
  refine wp_bif (inb_of (by omega) (by omega)) ?_
  refine wp_letv (fun v10 e10 => ?_)
  rw [← e10] at c5 g3
  refine wp_eq (fun _ => wp_some ⟨hI, hh⟩) (fun hc => ?_)
  refine wp_bind (tm_isHourLeft hI) (fun q12 h12 => ?_)
  refine wp_b (fun _ => wp_some ⟨hI, hh⟩) (fun b12 => ?_)
  have g12 : (T.1 10 2).toInt < 9999 := h12 b12
  refine wp_bind (tm_keepsAct hh hI) (fun q14 h14 => ?_)
  obtain ⟨i14, r14, _⟩ := h14
  refine wp_bind (tm_tellingOf_1 g1 g2 i14) (fun q15 h15 => ?_)
  refine wp_bind (tm_tellingOf_2 g1 g2 i14) (fun q16 h16 => ?_)
  refine wp_bind (tm_tellingOf_3 g1 g2 i14) (fun q17 h17 => ?_)
  have x := xor_i (a := q17) (b := p2) (n := 6) (m := 63) (by decide) (by decide) (by omega) (by omega) (by omega) (by omega)
  have s5 : (q14.1 10 (5 : Int32).toNatClampNeg).toInt = v10.toInt := by rw [r14, ← e10]
  refine wp_bind (tm_comes h15.1 h15.2 g4.1 g4.2 h16.1 h16.2 (by omega) (by omega) (by omega) (by rw [s5]; omega) (by rw [s5]; omega) i14) (fun q18 h18 => ?_)
  have hr : (q18.1 10 2) = T.1 10 2 := by rw [h18.2.1.2 2 (by decide) (by decide), r14]
  refine wp_bif (inb_of (by omega) (by omega)) ?_
  refine wp_letv (fun v19 e19 => ?_)
  refine wp_bif (inb_of (by omega) (by omega)) ?_
  refine wp_letv (fun T20 e20 => ?_)
  have a20 := af_hour e19 (by rw [hr]; exact g12) h18.1 e20
  refine wp_bif (inb_of (by omega) (by omega)) ?_
  exact wp_letv (fun v21 _ => wp_some a20)
/-- a cell of a person's: not his face -/
theorem pers_w {P : Nat → Nat → Option Int} {T : mT} {p k v : Int32} (hI : IQ P T) (a0 : 0 ≤ p.toInt) (a1 : p.toInt ≤ 7) (b0 : 1 ≤ k.toInt) (b1 : k.toInt ≤ 3) : IQ P (ma T 10 (((8 : Int32) + ((4 : Int32) * p)) + k).toNatClampNeg v) ∧ (ma T 10 (((8 : Int32) + ((4 : Int32) * p)) + k).toNatClampNeg v).1 10 2 = T.1 10 2 ∧ inb (((8 : Int32) + ((4 : Int32) * p)) + k) 410 = true := by
  have t := t_pers (p0 := p) (p1 := k) a0 a1 (by omega) b1
  have ix : (((8 : Int32) + ((4 : Int32) * p)) + k).toNatClampNeg = 8 + 4 * p.toInt.toNat + k.toInt.toNat := cl_idx (by omega)
  rw [ix]
  exact ⟨iq_10f hI (by unfold freeI; omega), ma_ne (Or.inr (by omega)), inb_of (by omega) (by omega)⟩
theorem tm_save {P : Nat → Nat → Option Int} {T : mT} (hA : Aft P T) : wp (fm_save T) (fun w => Aft P w.2) := by
  obtain ⟨hI, hh⟩ := hA
  unfold fm_save
  have l_2 : (2 : Int32).toInt = 2 := by decide
  have l_3 : (3 : Int32).toInt = 3 := by decide
  refine wp_bind (tm_isHourLeft hI) (fun q1 h1 => ?_)
  refine wp_b (fun _ => wp_some ⟨hI, hh⟩) (fun b1 => ?_)
  have g1 : (T.1 10 2).toInt < 9999 := h1 b1
  refine wp_bind (tm_keepsAct hh hI) (fun q3 h3 => ?_)
  obtain ⟨i3, r3, _⟩ := h3
  have c3 := im_10_3 i3
  refine wp_bif (inb_of (by omega) (by omega)) ?_
  refine wp_letv (fun v4 e4 => ?_)
  rw [← e4] at c3
  have w0 := pers_w (v := 0) i3 c3.1 c3.2 (k := 2) (by omega) (by omega)
  refine wp_bif w0.2.2 ?_
  refine wp_letv (fun v5 _ => ?_)
  refine wp_bif w0.2.2 ?_
  refine wp_letv (fun T6 e6 => ?_)
  have w6 := pers_w (v := v5 + 1) i3 c3.1 c3.2 (k := 2) (by omega) (by omega)
  rw [← e6] at w6
  refine wp_bif (inb_of (by omega) (by omega)) ?_
  refine wp_letv (fun v7 e7 => ?_)
  refine wp_bif (inb_of (by omega) (by omega)) ?_
  refine wp_letv (fun T8 e8 => ?_)
  have a8 := af_hour e7 (by rw [w6.2.1, r3]; exact g1) w6.1 e8
  have c8 := im_10_3 a8.1
  refine wp_bif (inb_of (by omega) (by omega)) ?_
  refine wp_letv (fun v9 e9 => ?_)
  rw [← e9] at c8
  exact wp_bind (Q := fun _ => True) (tm_personOf c8.1 c8.2 (by omega) (by omega) a8.1) (fun q10 _ => wp_some a8)
theorem tm_sell {P : Nat → Nat → Option Int} {p0 p1 p2 : Int32} {T : mT} (hA : Aft P T) : wp (fm_sell p0 p1 p2 T) (fun w => Aft P w.2) := by
  obtain ⟨hI, hh⟩ := hA
  unfold fm_sell
  have l_1 : (1 : Int32).toInt = 1 := by decide
  have l_2 : (2 : Int32).toInt = 2 := by decide
  refine wp_bind (tm_isPerson hI) (fun q1 h1 => ?_)
  refine wp_b (fun _ => wp_some ⟨hI, hh⟩) (fun b1 => ?_)
  have g1 := h1 b1
  refine wp_bind (tm_isPerson hI) (fun q3 h3 => ?_)
  refine wp_b (fun _ => wp_some ⟨hI, hh⟩) (fun b3 => ?_)
  have g3 := h3 b3
  refine wp_eqn (fun _ => wp_some ⟨hI, hh⟩) ?_
  refine wp_bind (Q := fun _ => True) (tm_personOf g1.1 g1.2 (by omega) (by omega) hI) (fun q6 _ => ?_)
  refine wp_eqn (fun _ => wp_some ⟨hI, hh⟩) ?_
  refine wp_lt (fun _ => wp_some ⟨hI, hh⟩) (fun _ => ?_)
  refine wp_bind (Q := fun _ => True) (tm_personOf g3.1 g3.2 (by omega) (by omega) hI) (fun q9 _ => ?_)
  refine wp_le (fun _ => ?_) (fun _ => wp_some ⟨hI, hh⟩)
  refine wp_bind (tm_keepsAct hh hI) (fun q11 h11 => ?_)
  obtain ⟨i11, r11, _⟩ := h11
  have n02 := (pers_w (v := 0) i11 g1.1 g1.2 (k := 2) (by omega) (by omega)).2.2
  have n12 := (pers_w (v := 0) i11 g3.1 g3.2 (k := 2) (by omega) (by omega)).2.2
  have n01 := (pers_w (v := 0) i11 g1.1 g1.2 (k := 1) (by omega) (by omega)).2.2
  have n11 := (pers_w (v := 0) i11 g3.1 g3.2 (k := 1) (by omega) (by omega)).2.2
  refine wp_bif n02 ?_
  refine wp_letv (fun v12 _ => ?_)
  refine wp_bif n02 ?_
  refine wp_letv (fun T13 e13 => ?_)
  have w13 := pers_w (v := v12 - 1) i11 g1.1 g1.2 (k := 2) (by omega) (by omega)
  rw [← e13] at w13
  refine wp_bif n12 ?_
  refine wp_letv (fun v14 _ => ?_)
  refine wp_bif n12 ?_
  refine wp_letv (fun T15 e15 => ?_)
  have w15 := pers_w (v := v14 + 1) w13.1 g3.1 g3.2 (k := 2) (by omega) (by omega)
  rw [← e15] at w15
  refine wp_bif n01 ?_
  refine wp_letv (fun v16 _ => ?_)
  refine wp_bif n01 ?_
  refine wp_letv (fun T17 e17 => ?_)
  have w17 := pers_w (v := v16 + p2) w15.1 g1.1 g1.2 (k := 1) (by omega) (by omega)
  rw [← e17] at w17
  refine wp_bif n11 ?_
  refine wp_letv (fun v18 _ => ?_)
  refine wp_bif n11 ?_
  refine wp_letv (fun T19 e19 => ?_)
  have w19 := pers_w (v := v18 - p2) w17.1 g3.1 g3.2 (k := 1) (by omega) (by omega)
  rw [← e19] at w19
  refine wp_bind (Q := fun _ => True) (tm_personOf g3.1 g3.2 (by omega) (by omega) w19.1) (fun q20 _ => wp_some ⟨w19.1, ?_⟩)
  show (T19.1 10 2).toInt ≤ 9999
  rw [w19.2.1, w17.2.1, w15.2.1, w13.2.1, r11]
  exact hh
theorem tm_spend {P : Nat → Nat → Option Int} {p0 : Int32} {T : mT} (hA : Aft P T) : wp (fm_spend p0 T) (fun w => Aft P w.2) := by
  obtain ⟨hI, hh⟩ := hA
  unfold fm_spend
  have l_2 : (2 : Int32).toInt = 2 := by decide
  have l_3 : (3 : Int32).toInt = 3 := by decide
  refine wp_bind (tm_isPerson hI) (fun q1 h1 => ?_)
  refine wp_b (fun _ => wp_some ⟨hI, hh⟩) (fun b1 => ?_)
  have g1 := h1 b1
  refine wp_bif (inb_of (by omega) (by omega)) ?_
  refine wp_letv (fun v3 _ => ?_)
  refine wp_eqn (fun _ => wp_some ⟨hI, hh⟩) ?_
  refine wp_bind (Q := fun _ => True) (tm_personOf g1.1 g1.2 (by omega) (by omega) hI) (fun q5 _ => ?_)
  refine wp_eqn (fun _ => wp_some ⟨hI, hh⟩) ?_
  refine wp_bind (tm_isHourLeft hI) (fun q7 h7 => ?_)
  refine wp_b (fun _ => wp_some ⟨hI, hh⟩) (fun b7 => ?_)
  have g7 : (T.1 10 2).toInt < 9999 := h7 b7
  refine wp_bind (tm_keepsAct hh hI) (fun q9 h9 => ?_)
  obtain ⟨i9, r9, _⟩ := h9
  have n02 := (pers_w (v := 0) i9 g1.1 g1.2 (k := 2) (by omega) (by omega)).2.2
  refine wp_bif n02 ?_
  refine wp_letv (fun v10 _ => ?_)
  refine wp_bif n02 ?_
  refine wp_letv (fun T11 e11 => ?_)
  have w11 := pers_w (v := v10 - 1) i9 g1.1 g1.2 (k := 2) (by omega) (by omega)
  rw [← e11] at w11
  refine wp_bind (tm_goes g1.1 g1.2 w11.1) (fun q12 h12 => ?_)
  refine wp_bif (inb_of (by omega) (by omega)) ?_
  refine wp_letv (fun v13 e13 => ?_)
  refine wp_bif (inb_of (by omega) (by omega)) ?_
  refine wp_letv (fun T14 e14 => ?_)
  have a14 := af_hour e13 (by rw [h12.2.2.2.2, w11.2.1, r9]; exact g7) h12.1 e14
  refine wp_bif (inb_of (by omega) (by omega)) ?_
  exact wp_letv (fun v15 _ => wp_some a14)
theorem tm_keep {P : Nat → Nat → Option Int} {p0 : Int32} {T : mT} (hA : Aft P T) : wp (fm_keep p0 T) (fun w => Aft P w.2) := by
  obtain ⟨hI, hh⟩ := hA
  unfold fm_keep
  have l_0 : (0 : Int32).toInt = 0 := by decide
  have l_1 : (1 : Int32).toInt = 1 := by decide
  have l_4 : (4 : Int32).toInt = 4 := by decide
  refine wp_bind (Q := fun _ => True) (wp_mono (tm_isIsland hI) (fun _ _ => trivial)) (fun q1 _ => ?_)
  refine wp_b (fun _ => wp_some ⟨hI, hh⟩) (fun _ => ?_)
  refine wp_bif (inb_of (by omega) (by omega)) ?_
  refine wp_letv (fun v3 _ => ?_)
  refine wp_bind (Q := fun _ => True) (wp_eqn (fun _ => wp_some trivial) (wp_some trivial)) (fun w4 _ => ?_)
  refine wp_eqn (fun _ => wp_some ⟨hI, hh⟩) ?_
  refine wp_bind (tm_keepsAct hh hI) (fun q7 h7 => ?_)
  obtain ⟨i7, r7, _⟩ := h7
  have hr : ∀ v : Int32, ((ma q7 10 (4 : Int32).toNatClampNeg v).1 10 2).toInt ≤ 9999 := by
    intro v
    rw [ma_ne (Or.inr (by decide)), r7]
    exact hh
  refine wp_eqn (fun _ => ?_) ?_
  · refine wp_bif (inb_of (by omega) (by omega)) ?_
    refine wp_letv (fun T9 e9 => wp_some ?_)
    rw [e9]
    exact ⟨iq_10_4 i7 (by omega) (by omega), hr 0⟩
  · refine wp_bif (inb_of (by omega) (by omega)) ?_
    refine wp_letv (fun T10 e10 => wp_some ?_)
    rw [e10]
    exact ⟨iq_10_4 i7 (by omega) (by omega), hr 1⟩
