/-! ===== an isle copied; image, back ===== -/
theorem cpy_in {f g : Nat → Int32} {n j : Nat} (h : j < n) : va_cpy f g 0 0 n j = f j := by
  unfold va_cpy
  rw [if_pos ⟨Nat.zero_le _, by omega⟩, Nat.zero_add, Nat.sub_zero]
theorem uc_rows {b p0 : Nat} {S : cT} (hne : p0 + 1 < b ∨ b + 1 < p0) : wl (fc_X6_copyFrom b p0 S) (fun w => (∀ q j, q ≠ b + 1 → (q ≠ b ∨ j ≠ 3) → w.1 q j = S.1 q j) ∧ w.1 b 3 = mnI (S.1 p0 3) (S.1 b 2) ∧ ∀ j, j < (mnI (S.1 p0 3 * S.1 p0 1) (S.1 b 2 * S.1 b 1)).toNatClampNeg → w.1 (b + 1) j = S.1 (p0 + 1) j) := by
  unfold fc_X6_copyFrom
  refine wl_bif (wl_letv (fun S2 e2 => wl_letv (fun S3 e3 => wl_some ⟨fun q j h1 h2 => ?_, ?_, fun j hj => ?_⟩)))
  · rw [e3, ca_ne h2, e2, cf_ne h1]
  · rw [e3, ca_at, e2, cf_ne (by omega), cf_ne (by omega)]
  · rw [e3, ca_ne (Or.inl (by omega)), e2]
    show va_up S.1 (b + 1) _ (b + 1) j = _
    rw [va_up_self]
    exact cpy_in hj
theorem cf_cp {S : cT} {q n : Nat} {f g : Nat → Int32} {j : Nat} (h : j < n) : (cf S q (va_cpy f g 0 0 n)).1 q j = f j := by
  show va_up S.1 q _ q j = _
  rw [va_up_self]
  exact cpy_in h
theorem uc_copy {b p0 : Nat} {S : cT} (hne : p0 + 12 ≤ b ∨ b + 12 ≤ p0) (hI : IC nonP S) (kb : cK b = 2) (kp : cK p0 = 2) : wl (fc_X2_copyFrom b p0 S) (fun w => ∀ o j c, Mp o j c → (o = 11 → (j : Int) < 2 * (S.1 (p0 + 10) 3).toInt) → w.1 (b + o) j = S.1 (p0 + o) j) := by
  unfold fc_X2_copyFrom
  refine wl_bif (wl_letv (fun S2 e2 => ?_))
  refine wl_bif (wl_letv (fun S4 e4 => ?_))
  refine wl_bif (wl_letv (fun S6 e6 => ?_))
  refine wl_bif (wl_letv (fun S8 e8 => ?_))
  refine wl_bif (wl_letv (fun S10 e10 => ?_))
  have f10 : ∀ q j, (q < b + 1 ∨ b + 5 < q) → S10.1 q j = S.1 q j := fun q j hq => by rw [e10, cf_ne (by omega), e8, cf_ne (by omega), e6, cf_ne (by omega), e4, cf_ne (by omega), e2, cf_ne (by omega)]
  have g1 : ∀ j, j < 8 → S10.1 (b + 1) j = S.1 (p0 + 1) j := fun j hj => by
    rw [e10, cf_ne (by omega), e8, cf_ne (by omega), e6, cf_ne (by omega), e4, cf_ne (by omega), e2]
    exact cf_cp hj
  have g5 : ∀ j, j < 64 → S10.1 (b + 5) j = S.1 (p0 + 5) j := fun j hj => by
    rw [e10]
    refine (cf_cp hj).trans ?_
    rw [e8, cf_ne (by omega), e6, cf_ne (by omega), e4, cf_ne (by omega), e2, cf_ne (by omega)]
  refine wl_bind (uc_rows (by omega)) (fun q11 h11 => ?_)
  refine wl_bind (uc_rows (by omega)) (fun q12 h12 => ?_)
  refine wl_bind (uc_rows (by omega)) (fun q13 h13 => ?_)
  have f11 : ∀ q j, q ≠ b + 7 → q ≠ b + 6 → q11.1 q j = S10.1 q j := fun q j a1 a2 => h11.1 q j (by omega) (Or.inl (by omega))
  have f12 : ∀ q j, q ≠ b + 9 → (q ≠ b + 8 ∨ j ≠ 3) → q12.1 q j = q11.1 q j := fun q j a1 a2 => h12.1 q j (by omega) (by omega)
  have f13 : ∀ q j, q ≠ b + 11 → (q ≠ b + 10 ∨ j ≠ 3) → q13.1 q j = q12.1 q j := fun q j a1 a2 => h13.1 q j (by omega) (by omega)
  have k8 := ic_5 hI (ko_2_8 kb)
  have k8p := ic_5 hI (ko_2_8 kp)
  have ka := ic_5 hI (ko_2_10 kb)
  have kap := ic_5 hI (ko_2_10 kp)
  have r8 := rr_2_8 kb
  have r8p := rr_2_8 kp
  have ra := rr_2_10 kb
  have rap := rr_2_10 kp
  have n8 : q12.1 (b + 8) 3 = S.1 (p0 + 8) 3 := by
    rw [h12.2.1, f11 (p0 + 8) 3 (by omega) (by omega), f10 _ _ (by omega), f11 (b + 8) 2 (by omega) (by omega), f10 _ _ (by omega)]
    have := mn_i (S.1 (p0 + 8) 3) (S.1 (b + 8) 2)
    exact Int32.toInt_inj.mp (by omega)
  have y3 : ∀ j, q12.1 (p0 + 10) j = S.1 (p0 + 10) j := fun j => by rw [f12 _ _ (by omega) (by omega), f11 _ _ (by omega) (by omega), f10 _ _ (by omega)]
  have z3 : ∀ j, q12.1 (b + 10) j = S.1 (b + 10) j := fun j => by rw [f12 _ _ (by omega) (by omega), f11 _ _ (by omega) (by omega), f10 _ _ (by omega)]
  have n10 : q13.1 (b + 10) 3 = S.1 (p0 + 10) 3 := by
    rw [h13.2.1, y3, z3]
    have := mn_i (S.1 (p0 + 10) 3) (S.1 (b + 10) 2)
    exact Int32.toInt_inj.mp (by omega)
  have m1 := tMR (a := S.1 (p0 + 10) 3) (b := S.1 (p0 + 10) 1) (n := 2) (by omega) (by omega) (by omega)
  have m2 := tMR (a := S.1 (b + 10) 2) (b := S.1 (b + 10) 1) (n := 2) (by omega) (by omega) (by omega)
  have mm := mn_i (S.1 (p0 + 10) 3 * S.1 (p0 + 10) 1) (S.1 (b + 10) 2 * S.1 (b + 10) 1)
  have n11 : ∀ j : Nat, (j : Int) < 2 * (S.1 (p0 + 10) 3).toInt → q13.1 (b + 11) j = S.1 (p0 + 11) j := fun j hj => by
    have := h13.2.2 j (by
      rw [y3, y3, z3, z3]
      show j < (mnI _ _).toInt.toNat
      omega)
    refine (show q13.1 (b + 11) j = q12.1 (p0 + 11) j from this).trans ?_
    rw [f12 _ _ (by omega) (by omega), f11 _ _ (by omega) (by omega), f10 _ _ (by omega)]
  have fp : ∀ j, q13.1 p0 j = S.1 p0 j := fun j => by rw [f13 _ _ (by omega) (by omega), f12 _ _ (by omega) (by omega), f11 _ _ (by omega) (by omega), f10 _ _ (by omega)]
  refine wl_letv (fun S14 e14 => ?_)
  refine wl_letv (fun S15 e15 => ?_)
  refine wl_letv (fun S16 e16 => ?_)
  refine wl_bif (wl_letv (fun S18 e18 => ?_))
  refine wl_letv (fun S19 e19 => ?_)
  refine wl_letv (fun S20 e20 => ?_)
  refine wl_letv (fun S21 e21 => wl_some ?_)
  have f21 : ∀ q j, (q ≠ b ∨ j < 10) → S21.1 q j = S15.1 q j := fun q j hq => by rw [e21, ca_ne (by omega), e20, ca_ne (by omega), e19, ca_ne (by omega), e18, ca_ne (by omega), e16, ca_ne (by omega)]
  have fo : ∀ q j, q ≠ b → S21.1 q j = q13.1 q j := fun q j hq => by rw [f21 q j (Or.inl hq), e15, ca_ne (Or.inl hq), e14, ca_ne (Or.inl hq)]
  intro o j c mp g
  rcases mp with ⟨rfl, rfl, rfl⟩ | ⟨rfl, rfl, rfl⟩ | ⟨rfl, rfl, rfl⟩ | ⟨rfl, rfl, rfl⟩ | ⟨rfl, hj, rfl⟩ | ⟨rfl, hj, rfl⟩ | ⟨rfl, hj, rfl⟩
  · show S21.1 b 8 = S.1 p0 8
    rw [f21 b 8 (Or.inr (by decide)), e15, ca_ne (Or.inr (by decide)), e14, ca_at, fp]
  · show S21.1 b 9 = S.1 p0 9
    rw [f21 b 9 (Or.inr (by decide)), e15, ca_at, e14, ca_ne (Or.inr (by decide)), fp]
  · rw [fo _ _ (by omega), f13 _ _ (by omega) (by omega), n8]
  · rw [fo _ _ (by omega), n10]
  · rw [fo _ _ (by omega), f13 _ _ (by omega) (by omega), f12 _ _ (by omega) (by omega), f11 _ _ (by omega) (by omega), g1 j hj]
  · rw [fo _ _ (by omega), f13 _ _ (by omega) (by omega), f12 _ _ (by omega) (by omega), f11 _ _ (by omega) (by omega), g5 j hj]
  · rw [fo _ _ (by omega), n11 j (g rfl)]
theorem EQI.vi {S : cT} {b : Nat} {T : mT} {r a : Nat} (h : EQI S b T r a) : (S.1 (b + 10) 3).toInt = (T.1 r (a + 409)).toInt := h.1 10 3 409 (by omega) ⟨fun z => by omega, fun z => by omega, fun z => by omega⟩
theorem EQI.pe {S : cT} {b : Nat} {T : mT} {r a : Nat} (h : EQI S b T r a) : (S.1 b 9).toInt = (T.1 r (a + 1)).toInt := h.1 0 9 1 (by omega) ⟨fun z => by omega, fun z => by omega, fun z => by omega⟩
theorem EQI.mk' {S : cT} {b : Nat} {T : mT} {r a : Nat} (h : EQI S b T r a) : (S.1 b 8).toInt = (T.1 r (a + 0)).toInt := h.1 0 8 0 (by omega) ⟨fun z => by omega, fun z => by omega, fun z => by omega⟩
theorem EQI.wi {S : cT} {b : Nat} {T : mT} {r a : Nat} (h : EQI S b T r a) : (S.1 (b + 8) 3).toInt = (T.1 r (a + 408)).toInt := h.1 8 3 408 (by omega) ⟨fun z => by omega, fun z => by omega, fun z => by omega⟩
theorem s_image {S : cT} {T : mT} {a1 : Int32} (h : J5 S T) : St false J5 (fc_X11_image 0 a1 S) (fm_image a1 T) := by
  obtain ⟨hI, hA, R⟩ := h
  have R' := R
  obtain ⟨h1, h2, h3, h4, h5, h6, h7⟩ := R'
  have l_0 : (0 : Int32).toInt = 0 := by decide
  have l_4 : (4 : Int32).toInt = 4 := by decide
  have k0 : (0 : Int64).toInt = 0 := by decide
  have k3 : (3 : Int64).toInt = 3 := by decide
  have kp := Int32.toInt_toInt64 a1
  have fu : (FU : Int) = 1000000 := rfl
  have ne2 : S.2.2.1 = 113 ∨ S.2.2.1 = 125 := by rcases hI.2.2 with ⟨a, -⟩ | ⟨a, -⟩; exact Or.inl a; exact Or.inr a
  by_cases g : 0 ≤ a1.toInt ∧ a1.toInt ≤ 3
  · obtain ⟨k, hk⟩ : ∃ k : Nat, a1.toInt = (k : Int) := ⟨a1.toInt.toNat, by omega⟩
    have k4 : k < 4 := by omega
    have ix : a1.toNatClampNeg = k := cl_idx hk
    have hC : wp (fc_X11_image 0 a1 S) (fun w => IC nonP w.2 ∧ KpC (fun q j => (50 + 12 * k ≤ q ∧ q < 62 + 12 * k) ∨ (q = 98 ∧ j = k)) S w.2 ∧ (w.2.1 (50 + 12 * k) 13).toInt = (S.1 S.2.2.1 13).toInt ∧ (w.2.1 98 k).toInt = 1) := by
      unfold fc_X11_image
      refine wp_lt (fun h0 => by exfalso; omega) (fun h0 => ?_)
      refine wp_lt (fun h1' => ?_) (fun h1' => by exfalso; omega)
      have hq : cK (50 + 12 * a1.toNatClampNeg) = 2 := k_img (by omega) (by omega)
      rw [ix] at hq ⊢
      have hi := IC_isle hI
      refine wp_bif (inb_of (by omega) (by omega)) ?_
      refine wp_bif (beq_k hi) ?_
      have hJ : IC (PV (fun q j => (50 + 12 * k ≤ q ∧ q < 62 + 12 * k) ∨ (q = 98 ∧ j = k)) S) S := IC_pv hI
      refine wp_bind (tc_X2_copyFrom hq hi (fun o j ho => pv_no (Or.inr (Or.inl ⟨by omega, by omega⟩))) (by omega) hJ) (fun q5 r => ?_)
      obtain ⟨i5, p5, e13, -, -⟩ := r
      have i6 := IC_pinv (q := 50 + 12 * k) (j := 13) (v := (S.1 S.2.2.1 13).toInt) i5 (pin13 hq) (by rw [e13])
      refine wp_bif (inb_of (by omega) (by omega)) ?_
      refine wp_letv (fun S7 e7 => ?_)
      have hv : (vp_nar .boolean 1 : Int32).toInt = 1 := by decide +kernel
      have i7 := IC_put (q := 98) (j := k) (v := vp_nar .boolean 1) i6 rfl rfl
      rw [hv, ← e7] at i7
      have p7 : S7.2.2 = S.2.2 := by rw [e7]; exact p5
      refine wp_bind (tc_X1_forget (b := 0 + 99) rfl i7) (fun q8 r => ?_)
      obtain ⟨i8, p8⟩ := r
      refine wp_bif (beq_k (IC_isle i8)) ?_
      refine wp_some ⟨IC_non i8, ⟨p8.trans p7, fun q j t d => ?_⟩, ?_, ?_⟩
      · refine (i8.2.1 q j _ ?_).2
        unfold pnA PV
        rw [if_neg (fun z => d (Or.inr z)), if_neg (fun z => d (Or.inl (by omega))), if_pos ⟨t, d⟩]
      · refine (i8.2.1 (50 + 12 * k) 13 _ ?_).2
        unfold pnA
        rw [if_neg (by omega), if_pos ⟨rfl, rfl⟩]
      · refine (i8.2.1 98 k _ ?_).2
        unfold pnA
        rw [if_pos ⟨rfl, rfl⟩]
    have hM : wp (fm_image a1 T) (fun w => Aft nonP w.2 ∧ KpM (fun r j => (r = 16 ∧ j = k) ∨ (r = 18 ∧ j = k) ∨ (r = 15 ∧ 410 * k ≤ j ∧ j < 410 * k + 410)) T w.2 ∧ (w.2.1 16 k).toInt = (T.1 0 22).toInt ∧ (w.2.1 18 k).toInt = 1 ∧ ∀ c, c < 410 → w.2.1 15 (410 * k + c) = T.1 10 c) := by
      unfold fm_image
      refine wp_bind tm_inq (fun q1 hq1 => ?_)
      refine wp_b (fun b1 => ?_) (fun b1 => ?_)
      · exfalso
        have := hq1.2 b1
        omega
      have v1 : (vp_nar .boolean 1 : Int32).toInt = 1 := by decide +kernel
      have nI : IQ (QV (fun r j => (r = 16 ∧ j = k) ∨ (r = 18 ∧ j = k) ∨ (r = 15 ∧ 410 * k ≤ j ∧ j < 410 * k + 410)) T) T := (IQ_qv hA).1
      have n18 : QV (fun r j => (r = 16 ∧ j = k) ∨ (r = 18 ∧ j = k) ∨ (r = 15 ∧ 410 * k ≤ j ∧ j < 410 * k + 410)) T 18 k = none := qv_no (Or.inr (Or.inr (Or.inl ⟨rfl, rfl⟩)))
      have n16 : QV (fun r j => (r = 16 ∧ j = k) ∨ (r = 18 ∧ j = k) ∨ (r = 15 ∧ 410 * k ≤ j ∧ j < 410 * k + 410)) T 16 k = none := qv_no (Or.inr (Or.inl ⟨rfl, rfl⟩))
      refine wp_bif (inb_of (by omega) (by omega)) ?_
      refine wp_letv (fun T3 e3 => ?_)
      rw [ix] at e3
      have r22 : T3.1 0 22 = T.1 0 22 := by rw [e3]; exact ma_ne (Or.inl (by decide))
      refine wp_bif (inb_of (by omega) (by omega)) ?_
      refine wp_letv (fun T4 e4 => ?_)
      rw [ix, r22] at e4
      have c22 := im_0_22 nI
      have i4 : IQ (QV (fun r j => (r = 16 ∧ j = k) ∨ (r = 18 ∧ j = k) ∨ (r = 15 ∧ 410 * k ≤ j ∧ j < 410 * k + 410)) T) T4 := by
        rw [e4, e3]
        exact IQ_18 nI n18 n16 (by omega) (by omega) c22.1 nI.2.2.2.1
      have x4 : (T4.1 16 k).toInt = (T.1 0 22).toInt := by rw [e4, ma_at]
      have m4 : (T4.1 18 k).toInt = 1 := by rw [e4, ma_no _ _ _ (by decide), e3, ma_at]; exact v1
      have h4' : HrOk T4 := by
        show (T4.1 10 2).toInt ≤ 9999
        rw [e4, ma_no _ _ _ (by decide), e3, ma_no _ _ _ (by decide)]
        exact hA.2
      refine wp_bif (inb_of (by omega) (by omega)) ?_
      refine wp_letv (fun T5 e5 => ?_)
      rw [ix] at e5
      have j4 : IQ (pnA (pnA (QV (fun r j => (r = 16 ∧ j = k) ∨ (r = 18 ∧ j = k) ∨ (r = 15 ∧ 410 * k ≤ j ∧ j < 410 * k + 410)) T) 16 k (T.1 0 22).toInt) 18 k 1) T4 := IQ_pin (IQ_pin i4 rfl x4) rfl m4
      have i5 : IQ (pnA (pnA (QV (fun r j => (r = 16 ∧ j = k) ∨ (r = 18 ∧ j = k) ∨ (r = 15 ∧ 410 * k ≤ j ∧ j < 410 * k + 410)) T) 16 k (T.1 0 22).toInt) 18 k 1) T5 := by
        rw [e5]
        refine IQ_ma j4 (im_0_23 i4) ?_ (by decide) (by decide) (by decide) (by decide) (by decide) (by decide) (by decide) (by decide)
        unfold pnA
        rw [if_neg (by omega), if_neg (by omega)]
        exact qv_no (Or.inl (by omega))
      have h5' : HrOk T5 := by
        show (T5.1 10 2).toInt ≤ 9999
        rw [e5, ma_no _ _ _ (by decide)]
        exact h4'
      have hkk : a1.toInt.toNat = k := by omega
      refine wp_bind (tm_image_L43 (k1 := a1) (by omega) (by omega) FU 0 T5 (by omega) (by omega) (by omega)) (fun w9 h9 => ?_)
      rw [l_0, hkk] at h9
      have a9 := iq_img (by omega) (fun j c1 c2 => (by
        unfold pnA
        rw [if_neg (by omega), if_neg (by omega)]
        exact qv_no (Or.inr (by omega)))) ⟨i5, h5'⟩ h9
      refine wp_bif (inb_of (by decide) (by decide)) ?_
      refine wp_letv (fun v10 _ => wp_some ⟨IQ_non a9, fun r j t d => ?_, ?_, ?_, fun c hc => ?_⟩)
      · refine (a9.1.1.2 r j _ ?_).2
        unfold pnA QV
        rw [if_neg (fun z => d (Or.inr (Or.inl z))), if_neg (fun z => d (Or.inl z)), if_pos ⟨t, d⟩]
      · refine (a9.1.1.2 16 k _ ?_).2
        unfold pnA
        rw [if_neg (by omega), if_pos ⟨rfl, rfl⟩]
      · refine (a9.1.1.2 18 k _ ?_).2
        unfold pnA
        rw [if_pos ⟨rfl, rfl⟩]
      · dsimp only
        rw [h9.inn c (Nat.zero_le _) hc, Nat.zero_add, e5, ma_no _ _ _ (by decide), e4, ma_no _ _ _ (by decide), e3, ma_no _ _ _ (by decide)]
    have hU : wl (fc_X11_image 0 a1 S) (fun w => ∀ o j c, Mp o j c → (o = 11 → (j : Int) < 2 * (S.1 (S.2.2.1 + 10) 3).toInt) → w.2.1 (50 + 12 * k + o) j = S.1 (S.2.2.1 + o) j) := by
      unfold fc_X11_image
      refine wl_lt (fun h0 => by exfalso; omega) (fun h0 => ?_)
      refine wl_lt (fun h1' => ?_) (fun h1' => by exfalso; omega)
      have hq : cK (50 + 12 * a1.toNatClampNeg) = 2 := k_img (by omega) (by omega)
      rw [ix] at hq ⊢
      refine wl_bif (wl_bif ?_)
      refine wl_bind (uc_copy (by omega) hI hq (IC_isle hI)) (fun q5 g5 => ?_)
      refine wl_bif (wl_letv (fun S7 e7 => ?_))
      unfold fc_X1_forget
      refine wl_bind (R := fun q : cT => ∀ i j, (i ≠ 0 + 99 ∨ j ≠ 2) → q.1 i j = S7.1 i j) (wl_letv (fun S8 e8 => wl_some (fun i j hj => by rw [e8]; exact ca_ne hj))) (fun q8 h8 => ?_)
      refine wl_bif (wl_some (fun o j c mp g => ?_))
      dsimp only
      rw [h8 _ _ (Or.inl (by omega)), e7, ca_ne (Or.inl (by omega))]
      exact g5 o j c mp g
    have vi := h6.vi
    refine st_of (wp_wl hC hU) hM (fun q w a b => ?_)
    obtain ⟨⟨a1', a2, a3, a4⟩, a5⟩ := a
    obtain ⟨b1, b2, b3, b4, b5⟩ := b
    refine ⟨a1', b1, ?_, fun j hj => ?_, ?_, ?_, fun j hj => ?_, ei_k hA R a2 b2 (fun q j t z => by omega) (fun j z => by omega), fun j hj z => ?_⟩
    · rw [a2.2 1 4 tr_14 (by omega), b2 0 1 (by omega) (by omega)]; exact h1
    · rw [b2 0 1 (by omega) (by omega)] at hj
      rw [a2.2 2 j tr_2 (by omega), b2 1 j (by omega) (by omega)]
      exact h2 j hj
    · rw [a2.2 0 11 tr_011 (by omega), b2 0 2 (by omega) (by omega)]; exact h3
    · rw [a2.1, a2.2 S.2.2.1 13 tr_isle (by omega), b2 0 22 (by omega) (by omega)]; exact h4
    · by_cases e : j = k
      · subst e
        rw [a4, b4, a3, b3]
        exact ⟨rfl, fun _ => h4⟩
      · rw [a2.2 98 j (tr_98 hj) (by omega), b2 18 j (by omega) (by omega), b2 16 j (by omega) (by omega), a2.2 (50 + 12 * j) 13 (tr_img hj) (by omega)]
        exact h5 j hj
    · by_cases e : j = k
      · subst e
        refine EQI_tr h6 (i_409 hA.1) (fun o j c mp g => ?_) (fun c hc _ => ?_)
        · rw [a5 o j c mp (fun z => by have := g.2.2 z; omega)]
        · rw [b5 c hc, Nat.zero_add]
      · exact em_k hA R a2 b2 hj (fun q i t z => by omega) (fun i _ _ z => by omega) (fun z => by omega) z
  · refine ⟨(-1, S), (-1, T), ?_, ?_, fun z => (by cases z), hI, hA, R⟩
    · obtain ⟨q, e, hh⟩ : wp (fc_X11_image 0 a1 S) (fun w => w = (-1, S)) := by
        unfold fc_X11_image
        refine wp_lt (fun h0 => wp_some rfl) (fun h0 => ?_)
        exact wp_lt (fun h1' => by exfalso; omega) (fun h1' => wp_some rfl)
      rw [e, hh]
    · obtain ⟨q, e, hh⟩ : wp (fm_image a1 T) (fun w => w = (-1, T)) := by
        unfold fm_image
        refine wp_bind tm_inq (fun q1 hq1 => ?_)
        refine wp_b (fun b1 => wp_some rfl) (fun b1 => ?_)
        have := hq1.1 b1
        exfalso; omega
      rw [e, hh]
theorem s_back {S : cT} {T : mT} {a1 : Int32} (h : J5 S T) : St false J5 (fc_X11_back 0 a1 S) (fm_back a1 T) := by
  obtain ⟨hI, hA, R⟩ := h
  have R' := R
  obtain ⟨h1, h2, h3, h4, h5, h6, h7⟩ := R'
  have l_0 : (0 : Int32).toInt = 0 := by decide
  have l_4 : (4 : Int32).toInt = 4 := by decide
  have k0 : (0 : Int64).toInt = 0 := by decide
  have k3 : (3 : Int64).toInt = 3 := by decide
  have kp := Int32.toInt_toInt64 a1
  have fu : (FU : Int) = 1000000 := rfl
  have ne2 : S.2.2.1 = 113 ∨ S.2.2.1 = 125 := by rcases hI.2.2 with ⟨a, -⟩ | ⟨a, -⟩; exact Or.inl a; exact Or.inr a
  by_cases g : 0 ≤ a1.toInt ∧ a1.toInt ≤ 3
  · obtain ⟨k, hk⟩ : ∃ k : Nat, a1.toInt = (k : Int) := ⟨a1.toInt.toNat, by omega⟩
    have k4 : k < 4 := by omega
    have ix : a1.toNatClampNeg = k := cl_idx hk
    have hkk : a1.toInt.toNat = k := by omega
    by_cases md : (T.1 18 k).toInt = 0
    · have ms : (S.1 98 k).toInt = 0 := by rw [(h5 k k4).1]; exact md
      refine ⟨(-1, S), (-1, T), ?_, ?_, fun z => (by cases z), hI, hA, R⟩
      · obtain ⟨q, e, hh⟩ : wp (fc_X11_back 0 a1 S) (fun w => w = (-1, S)) := by
          unfold fc_X11_back
          refine wp_lt (fun h0 => wp_some rfl) (fun h0 => ?_)
          refine wp_le (fun h1' => wp_some rfl) (fun h1' => ?_)
          refine wp_bif (inb_of (by omega) (by omega)) ?_
          refine wp_letv (fun v3 e3 => ?_)
          rw [ix] at e3
          refine wp_eq (fun _ => wp_some rfl) (fun z => ?_)
          rw [e3] at z
          have z' : (S.1 98 k).toInt ≠ (0 : Int32).toInt := z
          exfalso; omega
        rw [e, hh]
      · obtain ⟨q, e, hh⟩ : wp (fm_back a1 T) (fun w => w = (-1, T)) := by
          unfold fm_back
          refine wp_bind tm_inq (fun q1 hq1 => ?_)
          refine wp_b (fun b1 => wp_some rfl) (fun b1 => ?_)
          refine wp_bif (inb_of (by omega) (by omega)) ?_
          refine wp_letv (fun v3 e3 => ?_)
          rw [ix] at e3
          refine wp_eq (fun _ => wp_some rfl) (fun z => ?_)
          rw [e3] at z
          exfalso; omega
        rw [e, hh]
    · have ms : (S.1 98 k).toInt ≠ 0 := by rw [(h5 k k4).1]; exact md
      have hC : wp (fc_X11_back 0 a1 S) (fun w => IC nonP w.2 ∧ KpC (fun q _ => S.2.2.1 ≤ q ∧ q < S.2.2.1 + 12) S w.2 ∧ (w.2.1 S.2.2.1 13).toInt = (S.1 (50 + 12 * k) 13).toInt) := by
        unfold fc_X11_back
        refine wp_lt (fun h0 => by exfalso; omega) (fun h0 => ?_)
        refine wp_le (fun h1' => by exfalso; omega) (fun h1' => ?_)
        have hq : cK (50 + 12 * a1.toNatClampNeg) = 2 := k_img (by omega) (by omega)
        rw [ix] at hq ⊢
        have hi := IC_isle hI
        refine wp_bif (inb_of (by omega) (by omega)) ?_
        refine wp_letv (fun v3 e3 => ?_)
        have e3' : v3 = S.1 98 k := e3
        refine wp_eq (fun z => by rw [e3'] at z; exfalso; omega) (fun _ => ?_)
        refine wp_bif (beq_k hi) ?_
        refine wp_bif (inb_of (by omega) (by omega)) ?_
        have hJ : IC (PV (fun q _ => S.2.2.1 ≤ q ∧ q < S.2.2.1 + 12) S) S := IC_pv hI
        refine wp_bind (tc_X2_copyFrom hi hq (fun o j ho => pv_no (Or.inr ⟨by omega, by omega⟩)) (by omega) hJ) (fun q7 r => ?_)
        obtain ⟨i7, p7, e13, -, -⟩ := r
        have i8 := IC_pinv (q := S.2.2.1) (j := 13) (v := (S.1 (50 + 12 * k) 13).toInt) i7 (pin13 hi) (by rw [e13])
        refine wp_bind (tc_X1_forget (b := 0 + 99) rfl i8) (fun q8 r => ?_)
        obtain ⟨i9, p9⟩ := r
        refine wp_bif (beq_k (IC_isle i9)) ?_
        refine wp_some ⟨IC_non i9, ⟨p9.trans p7, fun q j t d => ?_⟩, ?_⟩
        · refine (i9.2.1 q j _ ?_).2
          unfold pnA PV
          rw [if_neg (fun z => d (by omega)), if_pos ⟨t, d⟩]
        · refine (i9.2.1 S.2.2.1 13 _ ?_).2
          unfold pnA
          rw [if_pos ⟨rfl, rfl⟩]
      have hM : wp (fm_back a1 T) (fun w => Aft nonP w.2 ∧ KpM (fun r j => (r = 0 ∧ j = 22) ∨ r = 10) T w.2 ∧ (w.2.1 0 22).toInt = (T.1 16 k).toInt ∧ ∀ c, c < 410 → w.2.1 10 c = T.1 15 (410 * k + c)) := by
        unfold fm_back
        refine wp_bind tm_inq (fun q1 hq1 => ?_)
        refine wp_b (fun b1 => ?_) (fun b1 => ?_)
        · exfalso
          have := hq1.2 b1
          omega
        refine wp_bif (inb_of (by omega) (by omega)) ?_
        refine wp_letv (fun v3 e3 => ?_)
        rw [ix] at e3
        refine wp_eq (fun z => by rw [e3] at z; exfalso; omega) (fun _ => ?_)
        refine wp_bif (inb_of (by omega) (by omega)) ?_
        refine wp_letv (fun v5 e5 => ?_)
        rw [ix] at e5
        have nI : IQ (QV (fun r j => (r = 0 ∧ j = 22) ∨ r = 10) T) T := (IQ_qv hA).1
        have c5 := im_r16 nI k
        have f5 := nI.2.2.2.2.1 k k4 md
        rw [← e5] at c5 f5
        refine wp_letv (fun T6 e6 => ?_)
        have i6 : IQ (QV (fun r j => (r = 0 ∧ j = 22) ∨ r = 10) T) T6 := by rw [e6]; exact IQ_22 nI (qv_no (Or.inr (Or.inl ⟨rfl, rfl⟩))) c5.1 f5
        have x6 : (T6.1 0 22).toInt = (T.1 16 k).toInt := by rw [e6, mz_at, e5]
        have j6 := IQ_pin (q := 0) (j := 22) i6 rfl x6
        have cX := im_r17 i6 k
        refine wp_bif (inb_of (by omega) (by omega)) ?_
        refine wp_letv (fun v7 e7 => ?_)
        rw [ix] at e7
        rw [← e7] at cX
        refine wp_letv (fun T8 e8 => ?_)
        have i8 : IQ (pnA (QV (fun r j => (r = 0 ∧ j = 22) ∨ r = 10) T) 0 22 (T.1 16 k).toInt) T8 := by
          rw [e8]
          refine IQ_mz j6 (show (0 : Int) ≤ v7.toInt ∧ v7.toInt ≤ 2147483647 from cX) ?_ (by decide) (by decide)
          unfold pnA
          rw [if_neg (by omega)]
          exact qv_no (Or.inl (by omega))
        refine wp_letv (fun T9 e9 => ?_)
        have i9 : IQ (pnA (QV (fun r j => (r = 0 ∧ j = 22) ∨ r = 10) T) 0 22 (T.1 16 k).toInt) T9 := by rw [e9]; exact iz_25 i8 (by omega) (by omega) (i8.1.1 0 25).1
        refine wp_bind (tm_back_L50 (k1 := a1) (by omega) (by omega) FU 0 T9 (by omega) (by omega) (by omega)) (fun w13 h13 => ?_)
        rw [l_0, hkk] at h13
        have a13 := iq_gone (by omega) (fun j => (by
          unfold pnA
          rw [if_neg (by omega)]
          exact qv_no (Or.inr (Or.inr rfl)))) (by rw [e9, mz_at, l_0]; exact Int.le_refl 0) i9 h13
        refine wp_bif (inb_of (by decide) (by decide)) ?_
        refine wp_letv (fun v14 _ => wp_some ⟨IQ_non a13, fun r j t d => ?_, ?_, fun c hc => ?_⟩)
        · refine (a13.1.1.2 r j _ ?_).2
          unfold pnA QV
          rw [if_neg (fun z => d (Or.inl z)), if_pos ⟨t, d⟩]
        · refine (a13.1.1.2 0 22 _ ?_).2
          unfold pnA
          rw [if_pos ⟨rfl, rfl⟩]
        · dsimp only
          have y := h13.inn c (Nat.zero_le _) hc
          rw [Nat.zero_add] at y
          rw [y, e9, mz_no _ _ _ (by decide), e8, mz_no _ _ _ (by decide), e6, mz_no _ _ _ (by decide)]
      have hU : wl (fc_X11_back 0 a1 S) (fun w => w.1 = w.1 ∧ ∀ o j c, Mp o j c → (o = 11 → (j : Int) < 2 * (S.1 (50 + 12 * k + 10) 3).toInt) → w.2.1 (S.2.2.1 + o) j = S.1 (50 + 12 * k + o) j) := by
        unfold fc_X11_back
        refine wl_lt (fun h0 => by exfalso; omega) (fun h0 => ?_)
        refine wl_le (fun h1' => by exfalso; omega) (fun h1' => ?_)
        have hq : cK (50 + 12 * a1.toNatClampNeg) = 2 := k_img (by omega) (by omega)
        rw [ix] at hq ⊢
        refine wl_bif (wl_letv (fun v3 e3 => ?_))
        have e3' : v3 = S.1 98 k := e3
        refine wl_eq (fun z => by rw [e3'] at z; exfalso; omega) (fun _ => ?_)
        refine wl_bif (wl_bif ?_)
        refine wl_bind (uc_copy (by omega) hI (IC_isle hI) hq) (fun q7 g7 => ?_)
        unfold fc_X1_forget
        refine wl_bind (R := fun q : cT => ∀ i j, (i ≠ 0 + 99 ∨ j ≠ 2) → q.1 i j = q7.1 i j) (wl_letv (fun S8 e8 => wl_some (fun i j hj => by rw [e8]; exact ca_ne hj))) (fun q8 h8 => ?_)
        refine wl_bif (wl_some ⟨rfl, fun o j c mp g => ?_⟩)
        dsimp only
        rw [h8 _ _ (Or.inl (by omega))]
        exact g7 o j c mp g
      have hm := h7 k k4 md
      have vi := hm.vi
      refine st_of (wp_wl hC hU) hM (fun q w a b => ?_)
      obtain ⟨⟨a1', a2, a3⟩, -, a5⟩ := a
      obtain ⟨b1, b2, b3, b5⟩ := b
      refine ⟨a1', b1, ?_, fun j hj => ?_, ?_, ?_, fun j hj => ?_, ?_, fun j hj z => em_k hA R a2 b2 hj (fun q i t z => by omega) (fun i _ _ z => by omega) (fun z => by omega) z⟩
      · rw [a2.2 1 4 tr_14 (by omega), b2 0 1 (by omega) (by omega)]; exact h1
      · rw [b2 0 1 (by omega) (by omega)] at hj
        rw [a2.2 2 j tr_2 (by omega), b2 1 j (by omega) (by omega)]
        exact h2 j hj
      · rw [a2.2 0 11 tr_011 (by omega), b2 0 2 (by omega) (by omega)]; exact h3
      · rw [a2.1, a3, b3]; exact (h5 k k4).2 md
      · rw [a2.2 98 j (tr_98 hj) (by omega), b2 18 j (by omega) (by omega), b2 16 j (by omega) (by omega), a2.2 (50 + 12 * j) 13 (tr_img hj) (by omega)]
        exact h5 j hj
      · rw [a2.1]
        refine EQI_tr hm (i_409m hA.1 k4) (fun o j c mp g => ?_) (fun c hc _ => ?_)
        · rw [a5 o j c mp (fun z => by have := g.2.2 z; omega)]
        · rw [Nat.zero_add, b5 c hc]
  · refine ⟨(-1, S), (-1, T), ?_, ?_, fun z => (by cases z), hI, hA, R⟩
    · obtain ⟨q, e, hh⟩ : wp (fc_X11_back 0 a1 S) (fun w => w = (-1, S)) := by
        unfold fc_X11_back
        refine wp_lt (fun h0 => wp_some rfl) (fun h0 => ?_)
        exact wp_le (fun h1' => wp_some rfl) (fun h1' => by exfalso; omega)
      rw [e, hh]
    · obtain ⟨q, e, hh⟩ : wp (fm_back a1 T) (fun w => w = (-1, T)) := by
        unfold fm_back
        refine wp_bind tm_inq (fun q1 hq1 => ?_)
        refine wp_b (fun b1 => wp_some rfl) (fun b1 => ?_)
        have := hq1.1 b1
        exfalso; omega
      rw [e, hh]
