/-! ===== the reference: images, what is drawn, wished, seen 2 ===== -/
theorem tm_inq {p0 p1 p2 : Int64} : wp (fm_in p0 p1 p2) (fun w => (w = true → p1.toInt ≤ p0.toInt ∧ p0.toInt ≤ p2.toInt) ∧ (w = false → ¬ (p1.toInt ≤ p0.toInt ∧ p0.toInt ≤ p2.toInt))) := by
  rw [fm_in_eq]
  refine wp_some ⟨fun h => ?_, fun h => ?_⟩
  · have h := of_decide_eq_true h
    exact ⟨Int64.le_iff_toInt_le.mp h.1, Int64.le_iff_toInt_le.mp h.2⟩
  · have h := of_decide_eq_false h
    exact fun z => h ⟨Int64.le_iff_toInt_le.mpr z.1, Int64.le_iff_toInt_le.mpr z.2⟩
theorem tm_image {x : Int} {X M : Nat → Int} {p0 : Int32} {T : mT} (h : RM x X M T) : wp (fm_image p0 T) (fun w => (¬ (0 ≤ p0.toInt ∧ p0.toInt ≤ 3) → RM x X M w.2) ∧ (0 ≤ p0.toInt ∧ p0.toInt ≤ 3 → RM x (upX X p0.toInt.toNat x) (upX M p0.toInt.toNat 1) w.2)) := by
  unfold fm_image
  have l_0 : (0 : Int32).toInt = 0 := by decide
  have l_2 : (2 : Int32).toInt = 2 := by decide
  have k0 : (0 : Int64).toInt = 0 := by decide
  have k3 : (3 : Int64).toInt = 3 := by decide
  have kp := Int32.toInt_toInt64 p0
  have fu : (FU : Int) = 1000000 := rfl
  refine wp_bind tm_inq (fun q1 h1 => ?_)
  refine wp_b (fun b1 => wp_some ⟨fun _ => h, fun z => ?_⟩) (fun b1 => ?_)
  · exfalso
    have := h1.2 b1
    omega
  have g1 := h1.1 b1
  obtain ⟨k, hk⟩ : ∃ k : Nat, p0.toInt = (k : Int) := ⟨p0.toInt.toNat, by omega⟩
  have ix : p0.toNatClampNeg = k := cl_idx hk
  have hkk : p0.toInt.toNat = k := by omega
  have nI := IQ_noP 17 k (IQ_noP 18 k h.1)
  have n18 : noP (noP (PM x X M) 18 k) 17 k 18 k = none := by
    unfold noP
    rw [if_neg (by omega), if_pos ⟨rfl, rfl⟩]
  have n16 : noP (noP (PM x X M) 18 k) 17 k 16 k = none := by
    unfold noP
    rw [if_neg (by omega), if_neg (by omega)]
    exact pm_none (by omega) (by decide) (by decide)
  have v1 : (vp_nar .boolean 1 : Int32).toInt = 1 := by decide +kernel
  refine wp_bif (inb_of (by omega) (by omega)) ?_
  refine wp_letv (fun T3 e3 => ?_)
  rw [ix] at e3
  have r22 : T3.1 0 22 = T.1 0 22 := by rw [e3]; exact ma_ne (Or.inl (by decide))
  have h3 : HrOk T3 := by
    show (T3.1 10 2).toInt ≤ 9999
    rw [e3, ma_no _ _ _ (by decide)]
    exact h.2
  have x3 : (T3.1 0 23).toInt = x := by rw [e3, ma_no _ _ _ (by decide)]; exact pm_x h.1
  have m3 : (T3.1 18 k).toInt = 1 := by rw [e3, ma_at]; exact v1
  refine wp_bif (inb_of (by omega) (by omega)) ?_
  refine wp_letv (fun T4 e4 => ?_)
  rw [ix, r22] at e4
  have c22 := im_0_22 nI
  have i4 : IQ (noP (noP (PM x X M) 18 k) 17 k) T4 := by
    rw [e4, e3]
    exact IQ_18 nI n18 n16 (by omega) (by omega) c22.1 nI.2.2.2.1
  have h4 : HrOk T4 := by
    show (T4.1 10 2).toInt ≤ 9999
    rw [e4, ma_no _ _ _ (by decide)]
    exact h3
  have x4 : (T4.1 0 23).toInt = x := by rw [e4, ma_no _ _ _ (by decide)]; exact x3
  have m4 : (T4.1 18 k).toInt = 1 := by rw [e4, ma_no _ _ _ (by decide)]; exact m3
  refine wp_bif (inb_of (by omega) (by omega)) ?_
  refine wp_letv (fun T5 e5 => ?_)
  rw [ix] at e5
  have i5 : IQ (noP (noP (PM x X M) 18 k) 17 k) T5 := by
    rw [e5]
    exact IQ_ma i4 (im_0_23 i4) (noP_at _ _ _) (by decide) (by decide) (by decide) (by decide) (by decide) (by decide) (by decide) (by decide)
  have h5 : HrOk T5 := by
    show (T5.1 10 2).toInt ≤ 9999
    rw [e5, ma_no _ _ _ (by decide)]
    exact h4
  have x5 : (T5.1 17 k).toInt = x := by rw [e5, ma_at]; exact x4
  have m5 : (T5.1 18 k).toInt = 1 := by rw [e5, ma_no _ _ _ (by decide)]; exact m4
  have j5 : IQ (PM x (upX X k x) (upX M k 1)) T5 := by
    refine IQ_free (IQ_pin (q := 18) (j := k) (v := 1) (IQ_pin (q := 17) (j := k) (v := x) i5 rfl x5) rfl m5) (fun q j u hu => ?_)
    unfold pnA noP
    unfold PM upX at hu
    unfold PM
    by_cases a1 : q = 0 ∧ j = 23
    · rw [if_pos a1] at hu
      rw [if_neg (by omega), if_neg (by omega), if_neg (by omega), if_neg (by omega), if_pos a1]
      exact hu
    · rw [if_neg a1] at hu
      by_cases a2 : q = 17 ∧ j < 4
      · rw [if_pos a2] at hu
        rw [if_neg (by omega)]
        by_cases a3 : j = k
        · rw [if_pos a3] at hu
          rw [if_pos ⟨a2.1, a3⟩]
          exact hu
        · rw [if_neg a3] at hu
          rw [if_neg (by omega), if_neg (by omega), if_neg (by omega), if_neg a1, if_pos a2]
          exact hu
      · rw [if_neg a2] at hu
        by_cases a4 : q = 18 ∧ j < 4
        · rw [if_pos a4] at hu
          by_cases a3 : j = k
          · rw [if_pos a3] at hu
            rw [if_pos ⟨a4.1, a3⟩]
            exact hu
          · rw [if_neg a3] at hu
            rw [if_neg (by omega), if_neg (by omega), if_neg (by omega), if_neg (by omega), if_neg a1, if_neg a2, if_pos a4]
            exact hu
        · rw [if_neg a4] at hu
          cases hu
  refine wp_bind (tm_image_L43 (k1 := p0) (by omega) (by omega) FU 0 T5 (by omega) (by omega) (by omega)) (fun w9 h9 => ?_)
  rw [l_0, hkk] at h9
  have a9 := iq_img (by omega) (fun j _ _ => pm_none (by omega) (by decide) (by decide)) ⟨j5, h5⟩ h9
  refine wp_bif (inb_of (by omega) (by omega)) ?_
  refine wp_letv (fun v10 _ => wp_some ⟨fun z => absurd ⟨by omega, by omega⟩ z, fun _ => ?_⟩)
  rw [hkk]
  exact a9
theorem tm_back {x : Int} {X M : Nat → Int} {p0 : Int32} {T : mT} (h : RM x X M T) : wp (fm_back p0 T) (fun w => (¬ (0 ≤ p0.toInt ∧ p0.toInt ≤ 3 ∧ M p0.toInt.toNat ≠ 0) → RM x X M w.2) ∧ (0 ≤ p0.toInt ∧ p0.toInt ≤ 3 ∧ M p0.toInt.toNat ≠ 0 → RM (X p0.toInt.toNat) X M w.2)) := by
  unfold fm_back
  have l_0 : (0 : Int32).toInt = 0 := by decide
  have l_2 : (2 : Int32).toInt = 2 := by decide
  have k0 : (0 : Int64).toInt = 0 := by decide
  have k3 : (3 : Int64).toInt = 3 := by decide
  have kp := Int32.toInt_toInt64 p0
  have fu : (FU : Int) = 1000000 := rfl
  refine wp_bind tm_inq (fun q1 h1 => ?_)
  refine wp_b (fun b1 => wp_some ⟨fun _ => h, fun z => ?_⟩) (fun b1 => ?_)
  · exfalso
    have := h1.2 b1
    omega
  have g1 := h1.1 b1
  obtain ⟨k, hk⟩ : ∃ k : Nat, p0.toInt = (k : Int) := ⟨p0.toInt.toNat, by omega⟩
  have ix : p0.toNatClampNeg = k := cl_idx hk
  have hkk : p0.toInt.toNat = k := by omega
  rw [hkk]
  have hM := pm_M (k := k) (by omega) h.1
  refine wp_bif (inb_of (by omega) (by omega)) ?_
  refine wp_letv (fun v3 e3 => ?_)
  rw [ix] at e3
  rw [← e3] at hM
  refine wp_eq (fun hc => wp_some ⟨fun _ => h, fun z => absurd hM.symm (by omega)⟩) (fun hc => ?_)
  refine wp_bif (inb_of (by omega) (by omega)) ?_
  refine wp_letv (fun v5 e5 => ?_)
  rw [ix] at e5
  have c5 := im_r16 h.1 k
  have f5 := h.1.2.2.2.2.1 k (by omega) (by rw [← e3]; omega)
  rw [← e5] at c5 f5
  refine wp_letv (fun T6 e6 => ?_)
  have i6 : IQ (PM x X M) T6 := by rw [e6]; exact IQ_22 h.1 (pm_none (by omega) (by decide) (by decide)) c5.1 f5
  have hX := pm_X (k := k) (by omega) i6
  have cX := im_r17 i6 k
  refine wp_bif (inb_of (by omega) (by omega)) ?_
  refine wp_letv (fun v7 e7 => ?_)
  rw [ix] at e7
  rw [← e7] at hX cX
  refine wp_letv (fun T8 e8 => ?_)
  have i8 : IQ (PM (X k) X M) T8 := by rw [e8, ← hX]; exact IQ_x i6 cX.1
  refine wp_letv (fun T9 e9 => ?_)
  have i9 : IQ (PM (X k) X M) T9 := by rw [e9]; exact iz_25 i8 (by omega) (by omega) (by have := (im_0_25 i8).1; omega)
  refine wp_bind (tm_back_L50 (k1 := p0) (by omega) (by omega) FU 0 T9 (by omega) (by omega) (by omega)) (fun w13 h13 => ?_)
  rw [l_0, hkk] at h13
  have a13 := iq_gone (by omega) (fun j => pm_none (by omega) (by decide) (by decide)) (by rw [e9, mz_at]; decide) i9 h13
  refine wp_bif (inb_of (by omega) (by omega)) ?_
  refine wp_letv (fun v14 _ => wp_some ⟨fun z => absurd ⟨by omega, by omega, by omega⟩ z, fun _ => ?_⟩)
  exact a13
