/-! ===== the reference keeps what an act changes, and undoes it ===== -/
theorem rg_11 {i k : Nat} (hi : i < 352) : rgM 11 (352 * k + i) = rgS i := by
  show rgS ((352 * k + i) % 352) = rgS i
  rw [show (352 * k + i) % 352 = i by omega]
theorem le40_11 {P : Nat → Nat → Option Int} {T : mT} (hI : IQ P T) (k : Nat) : (T.1 11 (352 * k + 5)).toInt ≤ 40 := by
  have h := (hI.1.1 11 (352 * k + 5)).2
  rw [rg_11 (by decide)] at h
  exact h
theorem IQ_r11 {P : Nat → Nat → Option Int} {T T' : mT} (hI : IQ P T) (h : ∀ r, r ≠ 11 → T'.1 r = T.1 r) (hl : T'.2 = T.2) (hm : IM P T') (hb : ∀ k, k < 20 → bkh (T'.1 11) (352 * k)) : IQ P T' := by
  refine ⟨hm, ?_, RulesOk_eq (h 2 (by decide)) (h 4 (by decide)) (h 5 (by decide)) (by rw [h 0 (by decide)]) hI.2.2.1, ?_⟩
  · unfold Blks
    rw [h 10 (by decide), h 15 (by decide)]
    exact ⟨hI.2.1.1, hb, hI.2.1.2.2⟩
  · unfold ForceOk
    rw [h 0 (by decide), h 16 (by decide), hl]
    exact hI.2.2.2
theorem IQ_r10 {P : Nat → Nat → Option Int} {T T' : mT} (hI : IQ P T) (h : ∀ r, r ≠ 10 → T'.1 r = T.1 r) (hl : T'.2 = T.2) (hm : IM P T') (hb : bk (T'.1 10) 0) : IQ P T' := by
  refine ⟨hm, ?_, RulesOk_eq (h 2 (by decide)) (h 4 (by decide)) (h 5 (by decide)) (by rw [h 0 (by decide)]) hI.2.2.1, ?_⟩
  · unfold Blks
    rw [h 11 (by decide), h 15 (by decide)]
    exact ⟨hb, hI.2.1.2⟩
  · unfold ForceOk
    rw [h 0 (by decide), h 16 (by decide), hl]
    exact hI.2.2.2
theorem iq_shift {P : Nat → Nat → Option Int} {T T' : mT} (hI : IQ P T) (h : CPY 11 11 0 352 0 6688 T T') : IQ P T' := by
  refine IQ_r11 hI h.ot h.lg (IM_cpy hI.1 h (fun _ => rfl) (fun i _ _ => ?_)) (fun k hk => ?_)
  · show rgS ((0 + i) % 352) = rgS ((352 + i) % 352)
    rw [show (352 + i) % 352 = (0 + i) % 352 by omega]
  · by_cases e : k = 19
    · subst e
      exact bkh_cpy (f := T.1 11) (a := 352 * 19) (fun i hi => h.out _ (Or.inr (by omega))) (le40_11 hI 19) (hI.2.1.2.1 19 (by decide))
    · refine bkh_cpy (f := T.1 11) (a := 352 * (k + 1)) (fun i hi => ?_) (le40_11 hI (k + 1)) (hI.2.1.2.1 (k + 1) (by omega))
      have z := h.inn (352 * k + i) (by omega) (by omega)
      rw [show 0 + (352 * k + i) = 352 * k + i by omega, show 352 + (352 * k + i) = 352 * (k + 1) + i by omega] at z
      exact z
theorem iq_put {P : Nat → Nat → Option Int} {T T' : mT} {k : Nat} (hk : k ≤ 19) (hI : IQ P T) (hh : HrOk T) (h : CPY 11 10 (352 * k) 0 0 352 T T') : IQ P T' := by
  refine IQ_r11 hI h.ot h.lg (IM_cpy hI.1 h (fun _ => rfl) (fun i _ hi => ?_)) (fun k' hk' => ?_)
  · rw [rg_11 hi, Nat.zero_add]
    rfl
  · by_cases e : k' = k
    · subst e
      exact bkh_cpy (f := T.1 10) (a := 0) (fun i hi => h.inn i (by omega) hi) hI.le40 ⟨hI.2.1.1, hh⟩
    · exact bkh_cpy (f := T.1 11) (a := 352 * k') (fun i hi => h.out _ (by omega)) (le40_11 hI k') (hI.2.1.2.1 k' hk')
theorem iq_take {P : Nat → Nat → Option Int} {T T' : mT} {k : Nat} (hk : k ≤ 19) (hI : IQ P T) (h : CPY 10 11 0 (352 * k) 0 352 T T') : IQ P T' ∧ HrOk T' := by
  have z := bkh_cpy (f := T.1 11) (g := T'.1 10) (a := 352 * k) (b := 0) (fun i hi => h.inn i (by omega) hi) (le40_11 hI k) (hI.2.1.2.1 k (by omega))
  refine ⟨IQ_r10 hI h.ot h.lg (IM_cpy hI.1 h (fun _ => rfl) (fun i _ hi => ?_)) z.1, z.2⟩
  rw [rg_11 hi, Nat.zero_add]
  rfl
theorem tm_keepsAct {P : Nat → Nat → Option Int} {T : mT} (hh : HrOk T) (hI : IQ P T) : wp (fm_keepsAct T) (fun w => IQ P w ∧ w.1 10 = T.1 10) := by
  unfold fm_keepsAct
  have l_0 : (0 : Int32).toInt = 0 := by decide
  have l_1 : (1 : Int32).toInt = 1 := by decide
  have l_20 : (20 : Int32).toInt = 20 := by decide
  have l_352 : (352 : Int32).toInt = 352 := by decide
  have fu : (FU : Int) = 1000000 := rfl
  have c := im_0_25 hI
  refine wp_bind (Q := fun w => IQ P w ∧ w.1 10 = T.1 10 ∧ (w.1 0 25).toInt ≤ 19) ?_ (fun w1 h1 => ?_)
  · refine wp_eq (fun hc => ?_) (fun hc => wp_some ⟨hI, rfl, by omega⟩)
    refine wp_bind (tm_keepsAct_L13 FU 352 T (by omega) (by omega) (by omega)) (fun w6 h6 => ?_)
    rw [l_352] at h6
    have i6 := iq_shift hI h6
    have e6 : w6.2.1 0 25 = T.1 0 25 := by rw [h6.ot 0 (by decide)]
    have t := tS (a := w6.2.1 0 25) (b := 1) (by rw [e6]; omega) (by rw [e6]; omega)
    rw [e6] at t
    refine wp_letv (fun T7 e7 => wp_some ?_)
    rw [e7]
    rw [e6]
    refine ⟨iz_25 i6 (by omega) (by omega), (mz_no _ _ _ (by decide)).trans (h6.ot 10 (by decide)), ?_⟩
    rw [mz_at]
    omega
  · obtain ⟨x1, x2, x3⟩ := h1
    have c1 := im_0_25 x1
    obtain ⟨k, hk⟩ : ∃ k : Nat, (w1.1 0 25).toInt = (k : Int) := ⟨(w1.1 0 25).toInt.toNat, by omega⟩
    refine wp_bind (tm_keepsAct_L54 (k := k) (by omega) FU 0 w1 hk (by omega) (by omega) (by omega)) (fun w11 h11 => ?_)
    rw [l_0] at h11
    have i11 := iq_put (by omega) x1 (by show (w1.1 10 2).toInt ≤ 9999; rw [x2]; exact hh) h11
    have e11 : w11.2.1 0 25 = w1.1 0 25 := by rw [h11.ot 0 (by decide)]
    have t := tA (a := w11.2.1 0 25) (b := 1) (by rw [e11]; omega) (by rw [e11]; omega)
    rw [e11] at t
    refine wp_letv (fun T12 e12 => wp_some ?_)
    rw [e12, e11]
    exact ⟨iz_25 i11 (by omega) (by omega), (mz_no _ _ _ (by decide)).trans ((h11.ot 10 (by decide)).trans x2)⟩
theorem tm_undo {P : Nat → Nat → Option Int} {T : mT} (hh : HrOk T) (hI : IQ P T) : wp (fm_undo T) (fun w => IQ P w.2 ∧ HrOk w.2) := by
  unfold fm_undo
  have l_0 : (0 : Int32).toInt = 0 := by decide
  have l_1 : (1 : Int32).toInt = 1 := by decide
  have fu : (FU : Int) = 1000000 := rfl
  have c := im_0_25 hI
  refine wp_eq (fun hc => wp_some ⟨hI, hh⟩) (fun hc => ?_)
  have t := tS (a := T.1 0 25) (b := 1) (by omega) (by omega)
  refine wp_letv (fun T2 e2 => ?_)
  have i2 : IQ P T2 := by rw [e2]; exact iz_25 hI (by omega) (by omega)
  have v2 : (T2.1 0 25).toInt = (((T.1 0 25).toInt - 1).toNat : Int) := by rw [e2, mz_at]; omega
  refine wp_bind (tm_undo_L21 (by omega) FU 0 T2 v2 (by omega) (by omega) (by omega)) (fun w6 h6 => ?_)
  rw [l_0] at h6
  exact wp_some (iq_take (by omega) i2 h6)
theorem tm_looks {P : Nat → Nat → Option Int} {T : mT} (hs : (T.1 10 5).toInt < 40) (hI : IQ P T) : wp (fm_looks T) (fun w => IQ P w ∧ w.1 10 2 = T.1 10 2 ∧ w.1 10 0 = T.1 10 0 ∧ w.1 10 1 = T.1 10 1 ∧ w.1 14 = T.1 14) := by
  unfold fm_looks
  obtain ⟨m_1, e_m1⟩ : ∃ x : Int32, x = (-1) := ⟨_, rfl⟩
  rw [← e_m1]
  have l_m1 : m_1.toInt = -1 := by rw [e_m1]; decide
  have l_1 : (1 : Int32).toInt = 1 := by decide
  have l_3 : (3 : Int32).toInt = 3 := by decide
  have c3 := im_10_3 hI
  have c5 := im_10_5 hI
  have hs' : (T.1 10 (5 : Int32).toNatClampNeg).toInt < 40 := hs
  refine wp_bif (inb_of (by omega) (by omega)) ?_
  refine wp_letv (fun v1 e1 => ?_)
  rw [← e1] at c3
  refine wp_bind (tm_personOf_0 (by omega) (by omega) hI) (fun q2 h2 => ?_)
  refine wp_bind (tm_comes (by omega) (by omega) (by omega) (by omega) (by omega) (by omega) h2.1 h2.2 (by omega) (by omega) hs' hI) (fun q3 h3 => ?_)
  obtain ⟨x1, x2, x3⟩ := h3
  have t := t_pers (p0 := v1) (p1 := 3) (by omega) (by omega) (by omega) (by omega)
  refine wp_bif (inb_of (by omega) (by omega)) ?_
  refine wp_letv (fun v4 _ => ?_)
  refine wp_bif (inb_of (by omega) (by omega)) ?_
  refine wp_letv (fun T5 e5 => wp_some ?_)
  have ix : (((8 : Int32) + (4 * v1)) + 3).toNatClampNeg = 8 + 4 * v1.toInt.toNat + 3 := cl_idx (by omega)
  rw [ix] at e5
  rw [e5]
  refine ⟨iq_10f x1 (by unfold freeI; omega), ?_, ?_, ?_, ?_⟩
  · rw [ma_ne (Or.inr (by omega))]
    exact x2.2 2 (by decide) (by decide)
  · rw [ma_ne (Or.inr (by omega))]
    exact x2.2 0 (by decide) (by decide)
  · rw [ma_ne (Or.inr (by omega))]
    exact x2.2 1 (by decide) (by decide)
  · rw [ma_no _ _ _ (by decide)]
    exact x2.1 14 (by decide)
