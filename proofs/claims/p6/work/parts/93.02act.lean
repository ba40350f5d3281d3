/-! ===== the reference keeps what an act changes, and undoes it ===== -/
theorem rg_11 {i k : Nat} (hi : i < 352) : rgM 11 (352 * k + i) = rgS i := by
  show rgS ((352 * k + i) % 352) = rgS i
  rw [show (352 * k + i) % 352 = i by omega]
theorem le40_11 {P : Nat → Nat → Option Int} {T : mT} (hI : IQ P T) (k : Nat) : (T.1 11 (352 * k + 5)).toInt ≤ 40 := by
  have h := (hI.1.1 11 (352 * k + 5)).2
  rw [rg_11 (by decide)] at h
  exact h
theorem IQ_r11 {P : Nat → Nat → Option Int} {T T' : mT} (hI : IQ P T) (h : ∀ r, r ≠ 11 → T'.1 r = T.1 r) (hl : T'.2 = T.2) (hm : IM P T') (hb : ∀ k, k < 20 → bkh (T'.1 11) (352 * k)) (hH : HB (T.1 10) (T'.1 11) (T.1 0 25).toInt) : IQ P T' := by
  refine ⟨hm, ?_, RulesOk_eq (h 2 (by decide)) (h 4 (by decide)) (h 5 (by decide)) (by rw [h 0 (by decide)]) hI.2.2.1, ?_⟩
  · unfold Blks
    rw [h 10 (by decide), h 15 (by decide)]
    exact ⟨hI.2.1.1, hb, hI.2.1.2.2⟩
  · unfold ForceOk
    rw [h 0 (by decide), h 16 (by decide), h 18 (by decide), h 10 (by decide), hl]
    exact ⟨hI.2.2.2.1, hI.2.2.2.2.1, hI.2.2.2.2.2.1, hI.2.2.2.2.2.2.1, hH⟩
theorem IQ_r10 {P : Nat → Nat → Option Int} {T T' : mT} (hI : IQ P T) (h : ∀ r, r ≠ 10 → T'.1 r = T.1 r) (hl : T'.2 = T.2) (hm : IM P T') (hb : bk (T'.1 10) 0) (hH : HB (T'.1 10) (T.1 11) (T.1 0 25).toInt) : IQ P T' := by
  refine ⟨hm, ?_, RulesOk_eq (h 2 (by decide)) (h 4 (by decide)) (h 5 (by decide)) (by rw [h 0 (by decide)]) hI.2.2.1, ?_⟩
  · unfold Blks
    rw [h 11 (by decide), h 15 (by decide)]
    exact ⟨hb, hI.2.1.2⟩
  · unfold ForceOk
    rw [h 0 (by decide), h 16 (by decide), h 18 (by decide), h 11 (by decide), hl]
    exact ⟨hI.2.2.2.1, hI.2.2.2.2.1, hI.2.2.2.2.2.1, hI.2.2.2.2.2.2.1, hH⟩
theorem iq_shift {P : Nat → Nat → Option Int} {T T' : mT} (hu : (T.1 0 25).toInt = 20) (hI : IQ P T) (h : CPY 11 11 0 352 0 6688 T T') : IQ P T' := by
  refine IQ_r11 hI h.ot h.lg (IM_cpy hI.1 h (fun _ => rfl) (fun i _ _ => ?_)) (fun k hk => ?_) (fun k j hk hj hs => ?_)
  · show rgS ((0 + i) % 352) = rgS ((352 + i) % 352)
    rw [show (352 + i) % 352 = (0 + i) % 352 by omega]
  · by_cases e : k = 19
    · subst e
      exact bkh_cpy (f := T.1 11) (a := 352 * 19) (fun i hi => h.out _ (Or.inr (by omega))) (le40_11 hI 19) (hI.2.1.2.1 19 (by decide))
    · refine bkh_cpy (f := T.1 11) (a := 352 * (k + 1)) (fun i hi => ?_) (le40_11 hI (k + 1)) (hI.2.1.2.1 (k + 1) (by omega))
      have z := h.inn (352 * k + i) (by omega) (by omega)
      rw [show 0 + (352 * k + i) = 352 * k + i by omega, show 352 + (352 * k + i) = 352 * (k + 1) + i by omega] at z
      exact z
  · by_cases e : k = 19
    · subst e
      rw [h.out _ (Or.inr (by omega))]
      exact im_hb hI 19 j hk hj hs
    · have z := h.inn (352 * k + j) (by omega) (by omega)
      rw [show 0 + (352 * k + j) = 352 * k + j by omega, show 352 + (352 * k + j) = 352 * (k + 1) + j by omega] at z
      rw [z]
      exact im_hb hI (k + 1) j (by omega) hj hs
theorem iq_put {P : Nat → Nat → Option Int} {T T' : mT} {k : Nat} (hk : k ≤ 19) (hu : (T.1 0 25).toInt = (k : Int)) (hI : IQ P T) (hh : HrOk T) (h : CPY 11 10 (352 * k) 0 0 352 T T') : IQ P T' := by
  refine IQ_r11 hI h.ot h.lg (IM_cpy hI.1 h (fun _ => rfl) (fun i _ hi => ?_)) (fun k' hk' => ?_) (fun k' j hk' hj hs => by rw [h.out _ (Or.inl (by omega))]; exact im_hb hI k' j hk' hj hs)
  · rw [rg_11 hi, Nat.zero_add]
    rfl
  · by_cases e : k' = k
    · subst e
      exact bkh_cpy (f := T.1 10) (a := 0) (fun i hi => h.inn i (by omega) hi) hI.le40 ⟨hI.2.1.1, hh⟩
    · exact bkh_cpy (f := T.1 11) (a := 352 * k') (fun i hi => h.out _ (by omega)) (le40_11 hI k') (hI.2.1.2.1 k' hk')
theorem iq_take {P : Nat → Nat → Option Int} {T T' : mT} {k : Nat} (hk : k ≤ 19) (hst : ∀ j, j < 352 → stJ j = true → T.1 11 (352 * k + j) = T.1 10 j) (hI : IQ P T) (h : CPY 10 11 0 (352 * k) 0 352 T T') : IQ P T' ∧ HrOk T' := by
  have z := bkh_cpy (f := T.1 11) (g := T'.1 10) (a := 352 * k) (b := 0) (fun i hi => h.inn i (by omega) hi) (le40_11 hI k) (hI.2.1.2.1 k (by omega))
  have same : ∀ j, stJ j = true → T'.1 10 j = T.1 10 j := fun j hs => by
    by_cases y : j < 352
    · have q := h.inn j (by omega) y
      rw [Nat.zero_add] at q
      rw [q]
      exact hst j y hs
    · exact h.out j (Or.inr (by omega))
  refine ⟨IQ_r10 hI h.ot h.lg (IM_cpyP hI.1 h (fun j v hv => ?_) (fun i _ hi => ?_)) z.1 (fun k' j hk' hj hs => ?_), z.2⟩
  · have q := hI.1.2 10 j v hv
    rw [same j q.1]
    exact q.2
  · rw [rg_11 hi, Nat.zero_add]
    rfl
  · rw [same j hs]
    exact im_hb hI k' j hk' hj hs
theorem tm_keepsAct {P : Nat → Nat → Option Int} {T : mT} (hh : HrOk T) (hI : IQ P T) : wp (fm_keepsAct T) (fun w => IQ P w ∧ w.1 10 = T.1 10 ∧ w.1 0 2 = T.1 0 2) := by
  unfold fm_keepsAct
  have l_0 : (0 : Int32).toInt = 0 := by decide
  have l_1 : (1 : Int32).toInt = 1 := by decide
  have l_20 : (20 : Int32).toInt = 20 := by decide
  have l_352 : (352 : Int32).toInt = 352 := by decide
  have fu : (FU : Int) = 1000000 := rfl
  have c := im_0_25 hI
  refine wp_bind (Q := fun w => IQ P w ∧ w.1 10 = T.1 10 ∧ (w.1 0 25).toInt ≤ 19 ∧ w.1 0 2 = T.1 0 2) ?_ (fun w1 h1 => ?_)
  · refine wp_eq (fun hc => ?_) (fun hc => wp_some ⟨hI, rfl, by omega, rfl⟩)
    refine wp_bind (tm_keepsAct_L13 FU 352 T (by omega) (by omega) (by omega)) (fun w6 h6 => ?_)
    rw [l_352] at h6
    have i6 := iq_shift (by omega) hI h6
    have e6 : w6.2.1 0 25 = T.1 0 25 := by rw [h6.ot 0 (by decide)]
    have t := tS (a := w6.2.1 0 25) (b := 1) (by rw [e6]; omega) (by rw [e6]; omega)
    rw [e6] at t
    refine wp_letv (fun T7 e7 => wp_some ?_)
    rw [e7]
    rw [e6]
    refine ⟨iz_25 i6 (by omega) (by omega) (by rw [e6]; omega), (mz_no _ _ _ (by decide)).trans (h6.ot 10 (by decide)), ?_, ?_⟩
    · rw [mz_at]
      omega
    · rw [mz_ne (Or.inr (by decide)), h6.ot 0 (by decide)]
  · obtain ⟨x1, x2, x3, x4⟩ := h1
    have c1 := im_0_25 x1
    obtain ⟨k, hk⟩ : ∃ k : Nat, (w1.1 0 25).toInt = (k : Int) := ⟨(w1.1 0 25).toInt.toNat, by omega⟩
    refine wp_bind (tm_keepsAct_L54 (k := k) (by omega) FU 0 w1 hk (by omega) (by omega) (by omega)) (fun w11 h11 => ?_)
    rw [l_0] at h11
    have i11 := iq_put (by omega) hk x1 (by show (w1.1 10 2).toInt ≤ 9999; rw [x2]; exact hh) h11
    have e11 : w11.2.1 0 25 = w1.1 0 25 := by rw [h11.ot 0 (by decide)]
    have t := tA (a := w11.2.1 0 25) (b := 1) (by rw [e11]; omega) (by rw [e11]; omega)
    rw [e11] at t
    refine wp_letv (fun T12 e12 => wp_some ?_)
    rw [e12, e11]
    have hb11 : HB (w11.2.1 10) (w11.2.1 11) (w1.1 0 25 + 1).toInt := by
      intro k' j hk' hj hs
      by_cases y : k' = k
      · subst y
        have q := h11.inn j (by omega) hj
        rw [Nat.zero_add] at q
        rw [q, h11.ot 10 (by decide)]
      · have q := im_hb i11 k' j (by rw [e11]; omega) hj hs
        exact q
    exact ⟨iz_25h i11 (by omega) (by omega) hb11, (mz_no _ _ _ (by decide)).trans ((h11.ot 10 (by decide)).trans x2), by rw [mz_ne (Or.inr (by decide)), h11.ot 0 (by decide)]; exact x4⟩
theorem tm_undo {P : Nat → Nat → Option Int} {T : mT} (hh : HrOk T) (hI : IQ P T) : wp (fm_undo T) (fun w => IQ P w.2 ∧ HrOk w.2) := by
  unfold fm_undo
  have l_0 : (0 : Int32).toInt = 0 := by decide
  have l_1 : (1 : Int32).toInt = 1 := by decide
  have fu : (FU : Int) = 1000000 := rfl
  have c := im_0_25 hI
  refine wp_eq (fun hc => wp_some ⟨hI, hh⟩) (fun hc => ?_)
  have t := tS (a := T.1 0 25) (b := 1) (by omega) (by omega)
  refine wp_letv (fun T2 e2 => ?_)
  have i2 : IQ P T2 := by rw [e2]; exact iz_25 hI (by omega) (by omega) (by omega)
  have v2 : (T2.1 0 25).toInt = (((T.1 0 25).toInt - 1).toNat : Int) := by rw [e2, mz_at]; omega
  refine wp_bind (tm_undo_L21 (by omega) FU 0 T2 v2 (by omega) (by omega) (by omega)) (fun w6 h6 => ?_)
  rw [l_0] at h6
  refine wp_some (iq_take (by omega) (fun j hj hs => ?_) i2 h6)
  rw [e2, mz_no _ _ _ (by decide), mz_no _ _ _ (by decide)]
  exact im_hb hI _ j (by omega) hj hs
/-- what stands behind a turn: all but what is said and the stack's top; of what is said the island, its people, the hour -/
def Pk (T w : mT) : Prop := (∀ r j, r ≠ 10 → (r ≠ 0 ∨ j ≠ 19) → w.1 r j = T.1 r j) ∧ w.1 10 0 = T.1 10 0 ∧ w.1 10 1 = T.1 10 1 ∧ w.1 10 2 = T.1 10 2
theorem Pk.rfl' {T : mT} : Pk T T := ⟨fun _ _ _ _ => rfl, rfl, rfl, rfl⟩
theorem Pk.trans {A B C : mT} (h : Pk A B) (g : Pk B C) : Pk A C := ⟨fun r j h1 h2 => (g.1 r j h1 h2).trans (h.1 r j h1 h2), g.2.1.trans h.2.1, g.2.2.1.trans h.2.2.1, g.2.2.2.trans h.2.2.2⟩
theorem Pk.ofS {A B : mT} (h : Sm A B) : Pk A B := ⟨fun r j _ h2 => h r j h2, h 10 0 (Or.inl (by decide)), h 10 1 (Or.inl (by decide)), h 10 2 (Or.inl (by decide))⟩
theorem Pk.ofF {A B : mT} (h : Fr A B) : Pk A B := ⟨fun r j h1 _ => congrFun (h.1 r h1) j, h.2 0 (by decide) (by decide), h.2 1 (by decide) (by decide), h.2 2 (by decide) (by decide)⟩
theorem Pk.w {A B : mT} {i : Nat} {v : Int32} (h : Pk A B) (hi : 3 ≤ i) : Pk A (ma B 10 i v) := ⟨fun r j h1 h2 => (ma_ne (Or.inl h1)).trans (h.1 r j h1 h2), (ma_ne (Or.inr (by omega))).trans h.2.1, (ma_ne (Or.inr (by omega))).trans h.2.2.1, (ma_ne (Or.inr (by omega))).trans h.2.2.2⟩
theorem tm_looks {P : Nat → Nat → Option Int} {T : mT} (hs : (T.1 10 5).toInt < 40) (hI : IQ P T) : wp (fm_looks T) (fun w => IQ P w ∧ Pk T w) := by
  unfold fm_looks
  obtain ⟨m_1, e_m1⟩ : ∃ x : Int32, x = (-1) := ⟨_, rfl⟩
  rw [← e_m1]
  have l_m1 : m_1.toInt = -1 := by rw [e_m1]; decide
  have l_1 : (1 : Int32).toInt = 1 := by decide
  have l_3 : (3 : Int32).toInt = 3 := by decide
  have c3 := im_10_3 hI
  have c5 := im_10_5 hI
  have hs' : (T.1 10 (5 : Int32).toNatClampNeg).toInt < 40 := hs
  refine wp_bif (inb_of (by omega) (by omega)) ?_
  refine wp_letv (fun v1 e1 => ?_)
  rw [← e1] at c3
  refine wp_bind (tm_personOf_0 (by omega) (by omega) hI) (fun q2 h2 => ?_)
  refine wp_bind (tm_comes (by omega) (by omega) (by omega) (by omega) (by omega) (by omega) h2.1 h2.2 (by omega) (by omega) hs' hI) (fun q3 h3 => ?_)
  obtain ⟨x1, x2, x3⟩ := h3
  have t := t_pers (p0 := v1) (p1 := 3) (by omega) (by omega) (by omega) (by omega)
  refine wp_bif (inb_of (by omega) (by omega)) ?_
  refine wp_letv (fun v4 _ => ?_)
  refine wp_bif (inb_of (by omega) (by omega)) ?_
  refine wp_letv (fun T5 e5 => wp_some ?_)
  have ix : (((8 : Int32) + (4 * v1)) + 3).toNatClampNeg = 8 + 4 * v1.toInt.toNat + 3 := cl_idx (by omega)
  rw [ix] at e5
  rw [e5]
  exact ⟨iq_10f x1 (by unfold freeI; omega), (Pk.ofF x2).w (by omega)⟩
theorem tm_goes {P : Nat → Nat → Option Int} {p0 : Int32} {T : mT} (hl_p0 : 0 ≤ p0.toInt) (hu_p0 : p0.toInt ≤ 7) (hI : IQ P T) : wp (fm_glassGoes p0 T) (fun w => IQ P w ∧ Pk T w) := by
  unfold fm_glassGoes
  have l_0 : (0 : Int32).toInt = 0 := by decide
  have l_3 : (3 : Int32).toInt = 3 := by decide
  have l_4 : (4 : Int32).toInt = 4 := by decide
  refine wp_bif (inb_of (by omega) (by omega)) ?_
  refine wp_letv (fun T1 eT1 => ?_)
  have h1 : IQ P T1 := by rw [eT1]; exact (iq_10_3 hI (by omega) (by omega))
  have k1 : Pk T T1 := by rw [eT1]; exact Pk.rfl'.w (by decide)
  refine wp_bif (inb_of (by omega) (by omega)) ?_
  refine wp_letv (fun T2 eT2 => ?_)
  have h2 : IQ P T2 := by rw [eT2]; exact (iq_10_4 h1 (by omega) (by omega))
  have k2 : Pk T T2 := by rw [eT2]; exact k1.w (by decide)
  exact wp_some ⟨h2, k2⟩
theorem i_div {a c : Int32} (ha : 0 ≤ a.toInt) (hc : 0 < c.toInt) : (a / c).toInt = a.toInt / c.toInt := by
  have h1 : 0 ≤ a.toInt / c.toInt := Int.ediv_nonneg ha (by omega)
  have h2 : a.toInt / c.toInt ≤ a.toInt := Int.ediv_le_self _ ha
  have h3 := bnd a
  rw [Int32.toInt_div, Int.tdiv_eq_ediv_of_nonneg ha]
  generalize a.toInt / c.toInt = z at *
  exact Int.bmod_eq_of_le (by omega) (by omega)
theorem i_mod {a c : Int32} (ha : 0 ≤ a.toInt) (hc : 0 < c.toInt) : 0 ≤ (a - a / c * c).toInt ∧ (a - a / c * c).toInt < c.toInt := by
  have h1 := i_div ha hc
  have h3 := bnd a
  have q1 : 0 ≤ a.toInt / c.toInt * c.toInt := Int.mul_nonneg (Int.ediv_nonneg ha (by omega)) (by omega)
  have q2 : a.toInt / c.toInt * c.toInt ≤ a.toInt := Int.ediv_mul_le _ (by omega)
  have q3 := Int.lt_ediv_add_one_mul_self a.toInt hc
  rw [Int.add_mul, Int.one_mul] at q3
  have m : (a / c * c).toInt = a.toInt / c.toInt * c.toInt := by
    rw [Int32.toInt_mul, h1]
    generalize a.toInt / c.toInt * c.toInt = z at *
    exact Int.bmod_eq_of_le (by omega) (by omega)
  rw [Int32.toInt_sub, m]
  generalize a.toInt / c.toInt * c.toInt = z at *
  rw [Int.bmod_eq_of_le (by omega) (by omega)]
  omega
theorem tm_hour {P : Nat → Nat → Option Int} {T : mT} {v : Int32} (hv : v = T.1 10 (2 : Int32).toNatClampNeg) (hh : (T.1 10 2).toInt ≤ 10058) (hI : IQ P T) : IQ P (ma T 10 (2 : Int32).toNatClampNeg (v + 1)) ∧ ((ma T 10 (2 : Int32).toNatClampNeg (v + 1)).1 10 2).toInt = (T.1 10 2).toInt + 1 := by
  have l_1 : (1 : Int32).toInt = 1 := by decide
  have c := im_10_2 hI
  rw [← hv] at c
  have e : v.toInt = (T.1 10 2).toInt := by rw [hv]; rfl
  have t := tA (a := v) (b := 1) (by omega) (by omega)
  refine ⟨iq_10_2 hI (by omega) (by omega), ?_⟩
  rw [show (ma T 10 (2 : Int32).toNatClampNeg (v + 1)).1 10 2 = v + 1 from ma_at _ _ _ _]
  omega
theorem tm_passes {P : Nat → Nat → Option Int} {p0 : Int32} {T : mT} (hr : p0.toInt < (T.1 0 2).toInt) (h0 : 0 < (T.1 10 0).toInt) (hh : (T.1 10 2).toInt ≤ 10058) (hI : IQ P T) : wp (fm_passes p0 T) (fun w => IQ P w ∧ (w.1 10 2).toInt = (T.1 10 2).toInt + 1 ∧ w.1 10 0 = T.1 10 0 ∧ w.1 0 2 = T.1 0 2) := by
  unfold fm_passes
  obtain ⟨m_1, e_m1⟩ : ∃ x : Int32, x = (-1) := ⟨_, rfl⟩
  rw [← e_m1]
  have l_m1 : m_1.toInt = -1 := by rw [e_m1]; decide
  have l_0 : (0 : Int32).toInt = 0 := by decide
  have l_1 : (1 : Int32).toInt = 1 := by decide
  have l_2 : (2 : Int32).toInt = 2 := by decide
  have l_3 : (3 : Int32).toInt = 3 := by decide
  have l_5 : (5 : Int32).toInt = 5 := by decide
  have l_40 : (40 : Int32).toInt = 40 := by decide
  have fu : (FU : Int) = 1000000 := rfl
  have c1 := im_10_1 hI
  have c2 := im_10_2 hI
  have c3 := im_10_3 hI
  have p1 : 0 < (T.1 10 (1 : Int32).toNatClampNeg).toInt := hI.2.1.1.1 h0
  refine wp_bif (inb_of (by omega) (by omega)) ?_
  refine wp_letv (fun v1 e1 => ?_)
  refine wp_bind (Q := fun w => IQ P w ∧ Pk T w) ?_ (fun w2 h2 => ?_)
  · refine wp_le (fun hc => wp_some ⟨hI, Pk.rfl'⟩) (fun hc => ?_)
    have hs : (T.1 10 (5 : Int32).toNatClampNeg).toInt < 40 := by rw [← e1]; omega
    have c5 := im_10_5 hI
    refine wp_bif (inb_of (by omega) (by omega)) ?_
    refine wp_letv (fun v4 e4 => ?_)
    rw [← e4] at c2
    refine wp_bif (inb_of (by omega) (by omega)) ?_
    refine wp_letv (fun v5 e5 => ?_)
    rw [← e5] at c1 p1
    have m := i_mod (a := v4) (c := v5) c2.1 p1
    refine wp_dz (fun e => ?_) ?_
    · rw [e] at p1; omega
    refine wp_bind (tm_heeding m.1 (by omega) hI) (fun q7 h7 => ?_)
    refine wp_bif (inb_of (by omega) (by omega)) ?_
    refine wp_letv (fun v8 e8 => ?_)
    rw [← e8] at c3
    refine wp_bind (Q := fun _ => True) (tm_personOf c3.1 c3.2 (by omega) (by omega) hI) (fun q9 _ => ?_)
    refine wp_eqn (fun _ => ?_) ?_
    · exact wp_bind (tm_looks hs hI) (fun q14 h14 => wp_some h14)
    · refine wp_lt (fun _ => wp_some ⟨hI, Pk.rfl'⟩) (fun hc7 => ?_)
      refine wp_bind (tm_faceBy m.1 (by omega) (by omega) (by omega) (by omega) (by omega) hr hI) (fun q12 h12 => ?_)
      obtain ⟨y1, y2, y3, y4⟩ := h12
      have s5 : (q12.2.1 10 (5 : Int32).toNatClampNeg) = (T.1 10 (5 : Int32).toNatClampNeg) := y4 10 _ (Or.inl (by decide))
      refine wp_bind (tm_comes m.1 (by omega) (by omega) (by omega) (by omega) (by omega) y1 y2 (by omega) (by rw [s5]; omega) (by rw [s5]; omega) y3) (fun q13 h13 => ?_)
      exact wp_some ⟨h13.1, (Pk.ofS y4).trans (Pk.ofF h13.2.1)⟩
  · obtain ⟨x1, x2⟩ := h2
    have d1 := im_10_1 x1
    refine wp_bif (inb_of (by omega) (by omega)) ?_
    refine wp_letv (fun v15 e15 => ?_)
    rw [← e15] at d1
    have t := tS (a := v15) (b := 1) (by omega) (by omega)
    refine wp_bind (tm_passes_L83 x1 FU m_1 (v15 - 1) (by omega) (by omega) (by omega) (by omega) (by omega)) (fun w25 h25 => ?_)
    refine wp_bind (Q := fun w => IQ P w ∧ Pk T w) ?_ (fun w26 h26 => ?_)
    · refine wp_lt (fun _ => wp_some ⟨x1, x2⟩) (fun hc => ?_)
      exact wp_bind (tm_goes (by omega) (by omega) x1) (fun q28 h28 => wp_some ⟨h28.1, x2.trans h28.2⟩)
    · obtain ⟨y1, y2⟩ := h26
      refine wp_bif (inb_of (by omega) (by omega)) ?_
      refine wp_letv (fun v29 e29 => ?_)
      have z := tm_hour e29 (by rw [y2.2.2.2]; exact hh) y1
      refine wp_bif (inb_of (by omega) (by omega)) ?_
      refine wp_letv (fun T30 e30 => wp_some ?_)
      rw [← e30] at z
      refine ⟨z.1, by rw [z.2, y2.2.2.2], ?_, ?_⟩
      · rw [e30, ma_ne (Or.inr (by decide))]
        exact y2.2.1
      · rw [e30, ma_ne (Or.inl (by decide))]
        exact y2.1 0 2 (by decide) (Or.inr (by decide))
