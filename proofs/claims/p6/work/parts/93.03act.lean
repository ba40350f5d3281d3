/-! ===== the reference's acts ===== -/
/-- behind an act -/
def Aft (P : Nat → Nat → Option Int) (w : mT) : Prop := IQ P w ∧ HrOk w
theorem tm_run_L50 {P : Nat → Nat → Option Int} {k1 k2 : Int32} (hk : k2.toInt ≤ 60) : ∀ (N : Nat) (a3 : Int32) (T : mT), 0 ≤ a3.toInt → a3.toInt ≤ k2.toInt → (T.1 10 2).toInt + (k2.toInt - a3.toInt) ≤ 9999 → k1.toInt < (T.1 0 2).toInt → 0 < (T.1 10 0).toInt → IQ P T → k2.toInt - a3.toInt < (N : Int) → wp (fm_run_L50 k1 k2 N a3 T) (fun w => Aft P w.2) := by
  intro N
  induction N with
  | zero =>
    intro a3 T h0 h1 hh hr hi hI hm
    exfalso; omega
  | succ N ih =>
    intro a3 T h0 h1 hh hr hi hI hm
    rw [fm_run_L50]
    have l_1 : (1 : Int32).toInt = 1 := by decide
    refine wp_le (fun hc => wp_some ⟨hI, by show (T.1 10 2).toInt ≤ 9999; omega⟩) (fun hc => ?_)
    have t := tA (a := a3) (b := 1) (by omega) (by omega)
    refine wp_bind (tm_passes hr hi (by omega) hI) (fun q11 h11 => ?_)
    obtain ⟨x1, x2, x3, x4⟩ := h11
    exact ih (a3 + 1) q11 (by omega) (by omega) (by omega) (by rw [x4]; exact hr) (by rw [x3]; exact hi) x1 (by omega)
theorem tm_run {P : Nat → Nat → Option Int} {p0 p1 : Int32} {T : mT} (hA : Aft P T) : wp (fm_run p0 p1 T) (fun w => Aft P w.2) := by
  obtain ⟨hI, hh⟩ := hA
  unfold fm_run
  have l_0 : (0 : Int32).toInt = 0 := by decide
  have l_2 : (2 : Int32).toInt = 2 := by decide
  have l_5 : (5 : Int32).toInt = 5 := by decide
  have l_9999 : (9999 : Int32).toInt = 9999 := by decide
  have fu : (FU : Int) = 1000000 := rfl
  have k1 : (1 : Int64).toInt = 1 := by decide
  have k60 : (60 : Int64).toInt = 60 := by decide
  have kp := Int32.toInt_toInt64 p1
  have c2 := im_10_2 hI
  refine wp_bind (tm_isIsland hI) (fun q1 h1 => ?_)
  refine wp_b (fun _ => wp_some ⟨hI, hh⟩) (fun b1 => ?_)
  refine wp_bind (tm_isRule hI) (fun q3 h3 => ?_)
  refine wp_b (fun _ => wp_some ⟨hI, hh⟩) (fun b3 => ?_)
  refine wp_bind tm_in (fun q5 h5 => ?_)
  refine wp_b (fun _ => wp_some ⟨hI, hh⟩) (fun b5 => ?_)
  have g1 := h1 b1
  have g3 := h3 b3
  have g5 := h5 b5
  refine wp_bif (inb_of (by omega) (by omega)) ?_
  refine wp_letv (fun v7 e7 => ?_)
  rw [← e7] at c2
  have t := tA (a := v7) (b := p1) (by omega) (by omega)
  have e7' : v7.toInt = (T.1 10 2).toInt := by rw [e7]; rfl
  refine wp_le (fun hc => ?_) (fun _ => wp_some ⟨hI, hh⟩)
  refine wp_letv (fun T9 e9 => ?_)
  have i9 : IQ P T9 := by rw [e9]; exact iz_25 hI (by omega) (by omega) (by have := (im_0_25 hI).1; omega)
  have r9 : T9.1 10 = T.1 10 := by rw [e9]; exact mz_no _ _ _ (by decide)
  have z9 : T9.1 0 2 = T.1 0 2 := by rw [e9]; exact mz_ne (Or.inr (by decide))
  refine wp_bind (tm_run_L50 (by omega) FU 0 T9 (by omega) (by omega) (by rw [r9]; omega) (by rw [z9]; exact g3.2) (by rw [r9]; exact g1) i9 (by omega)) (fun w12 h12 => ?_)
  refine wp_bif (inb_of (by omega) (by omega)) ?_
  exact wp_letv (fun v13 _ => wp_some h12)
/-- the hour goes on behind an act -/
theorem af_hour {P : Nat → Nat → Option Int} {T T' : mT} {v : Int32} (hv : v = T.1 10 (2 : Int32).toNatClampNeg) (hh : (T.1 10 2).toInt < 9999) (hI : IQ P T) (e : T' = ma T 10 (2 : Int32).toNatClampNeg (v + 1)) : Aft P T' := by
  have z := tm_hour hv (by omega) hI
  rw [← e] at z
  exact ⟨z.1, by show (T'.1 10 2).toInt ≤ 9999; omega⟩
theorem tm_rest {P : Nat → Nat → Option Int} {T : mT} (hA : Aft P T) : wp (fm_rest T) (fun w => Aft P w.2) := by
  obtain ⟨hI, hh⟩ := hA
  unfold fm_rest
  have l_2 : (2 : Int32).toInt = 2 := by decide
  refine wp_bind (tm_isHourLeft hI) (fun q1 h1 => ?_)
  refine wp_b (fun _ => wp_some ⟨hI, hh⟩) (fun b1 => ?_)
  have g1 : (T.1 10 2).toInt < 9999 := h1 b1
  refine wp_bind (tm_keepsAct hh hI) (fun q3 h3 => ?_)
  refine wp_bif (inb_of (by omega) (by omega)) ?_
  refine wp_letv (fun v4 e4 => ?_)
  refine wp_bif (inb_of (by omega) (by omega)) ?_
  refine wp_letv (fun T5 e5 => ?_)
  have a5 := af_hour e4 (by rw [h3.2.1]; exact g1) h3.1 e5
  refine wp_bif (inb_of (by omega) (by omega)) ?_
  exact wp_letv (fun v6 _ => wp_some a5)
theorem tm_look {P : Nat → Nat → Option Int} {T : mT} (hA : Aft P T) : wp (fm_look T) (fun w => Aft P w.2) := by
  obtain ⟨hI, hh⟩ := hA
  unfold fm_look
  have l_2 : (2 : Int32).toInt = 2 := by decide
  have l_5 : (5 : Int32).toInt = 5 := by decide
  have l_40 : (40 : Int32).toInt = 40 := by decide
  have c5 := im_10_5 hI
  refine wp_bif (inb_of (by omega) (by omega)) ?_
  refine wp_letv (fun v1 e1 => ?_)
  rw [← e1] at c5
  refine wp_eq (fun _ => wp_some ⟨hI, hh⟩) (fun hc => ?_)
  refine wp_bind (tm_isHourLeft hI) (fun q3 h3 => ?_)
  refine wp_b (fun _ => wp_some ⟨hI, hh⟩) (fun b3 => ?_)
  have g3 : (T.1 10 2).toInt < 9999 := h3 b3
  refine wp_bind (tm_keepsAct hh hI) (fun q5 h5 => ?_)
  have s5 : (q5.1 10 5).toInt < 40 := by
    rw [h5.2.1, show T.1 10 5 = v1 from e1.symm]
    omega
  refine wp_bind (tm_looks s5 h5.1) (fun q6 h6 => ?_)
  refine wp_bif (inb_of (by omega) (by omega)) ?_
  refine wp_letv (fun v7 e7 => ?_)
  refine wp_bif (inb_of (by omega) (by omega)) ?_
  refine wp_letv (fun T8 e8 => ?_)
  have a8 := af_hour e7 (by rw [h6.2.2.2.2, h5.2.1]; exact g3) h6.1 e8
  refine wp_bif (inb_of (by omega) (by omega)) ?_
  exact wp_letv (fun v9 _ => wp_some a8)
theorem tm_give {P : Nat → Nat → Option Int} {p0 : Int32} {T : mT} (hA : Aft P T) : wp (fm_give p0 T) (fun w => Aft P w.2) := by
  obtain ⟨hI, hh⟩ := hA
  unfold fm_give
  have l_2 : (2 : Int32).toInt = 2 := by decide
  have l_3 : (3 : Int32).toInt = 3 := by decide
  have l_4 : (4 : Int32).toInt = 4 := by decide
  have l_104 : (104 : Int32).toInt = 104 := by decide
  have c3 := im_10_3 hI
  refine wp_bind (tm_isPerson hI) (fun q1 h1 => ?_)
  refine wp_b (fun _ => wp_some ⟨hI, hh⟩) (fun b1 => ?_)
  have g1 := h1 b1
  refine wp_bif (inb_of (by omega) (by omega)) ?_
  refine wp_letv (fun v3 e3 => ?_)
  rw [← e3] at c3
  have t := tA (a := 104) (b := v3) (by omega) (by omega)
  refine wp_bif (inb_of (by omega) (by omega)) ?_
  refine wp_letv (fun v4 _ => ?_)
  refine wp_bind (Q := fun _ => True) tm_isOf (fun q5 _ => ?_)
  refine wp_b (fun _ => wp_some ⟨hI, hh⟩) (fun _ => ?_)
  refine wp_bif (inb_of (by omega) (by omega)) ?_
  refine wp_letv (fun v7 _ => ?_)
  refine wp_eqn (fun _ => wp_some ⟨hI, hh⟩) ?_
  refine wp_bind (tm_isHourLeft hI) (fun q9 h9 => ?_)
  refine wp_b (fun _ => wp_some ⟨hI, hh⟩) (fun b9 => ?_)
  have g9 : (T.1 10 2).toInt < 9999 := h9 b9
  refine wp_bind (tm_keepsAct hh hI) (fun q11 h11 => ?_)
  refine wp_bind (tm_goes g1.1 g1.2 h11.1) (fun q12 h12 => ?_)
  refine wp_bif (inb_of (by omega) (by omega)) ?_
  refine wp_letv (fun v13 e13 => ?_)
  refine wp_bif (inb_of (by omega) (by omega)) ?_
  refine wp_letv (fun T14 e14 => ?_)
  have a14 := af_hour e13 (by rw [h12.2.2.2.2, h11.2.1]; exact g9) h12.1 e14
  refine wp_bif (inb_of (by omega) (by omega)) ?_
  exact wp_letv (fun v15 _ => wp_some a14)
theorem tm_tell {P : Nat → Nat → Option Int} {p0 p1 p2 p3 : Int32} {T : mT} (hA : Aft P T) : wp (fm_tell p0 p1 p2 p3 T) (fun w => Aft P w.2) := by
  obtain ⟨hI, hh⟩ := hA
  unfold fm_tell
  have l_m1 : ((-1) : Int32).toInt = -1 := by decide
  have l_2 : (2 : Int32).toInt = 2 := by decide
  have l_5 : (5 : Int32).toInt = 5 := by decide
  have l_40 : (40 : Int32).toInt = 40 := by decide
  have c5 := im_10_5 hI
  refine wp_bind (tm_mayBe hI) (fun q1 h1 => ?_)
  refine wp_b (fun _ => wp_some ⟨hI, hh⟩) (fun b1 => ?_)
  have g1 := h1 b1
  refine wp_bind (tm_isPerson hI) (fun q3 h3 => ?_)
  refine wp_b (fun _ => wp_some ⟨hI, hh⟩) (fun b3 => ?_)
  have g3 := h3 b3
  refine wp_bind (tm_isPerson hI) (fun q5 h5 => ?_)
  refine wp_b (fun _ => wp_some ⟨hI, hh⟩) (fun b5 => ?_)
  have g5 := h5 b5
  refine wp_eqn (fun _ => wp_some ⟨hI, hh⟩) ?_
  refine wp_bind (tm_isPerson hI) (fun q8 h8 => ?_)
  refine wp_b (fun _ => wp_some ⟨hI, hh⟩) (fun b8 => ?_)
  have g8 := h8 b8
  refine wp_bif (inb_of (by omega) (by omega)) ?_
  refine wp_letv (fun v10 e10 => ?_)
  rw [← e10] at c5
  refine wp_eq (fun _ => wp_some ⟨hI, hh⟩) (fun hc => ?_)
  refine wp_bind (tm_isHourLeft hI) (fun q12 h12 => ?_)
  refine wp_b (fun _ => wp_some ⟨hI, hh⟩) (fun b12 => ?_)
  have g12 : (T.1 10 2).toInt < 9999 := h12 b12
  refine wp_bind (tm_keepsAct hh hI) (fun q14 h14 => ?_)
  refine wp_bind (tm_faceBy g3.1 g3.2 g5.1 g5.2 g8.1 g8.2 (by rw [h14.2.2]; exact g1) h14.1) (fun q15 h15 => ?_)
  obtain ⟨y1, y2, y3, y4⟩ := h15
  have s5 : (q15.2.1 10 (5 : Int32).toNatClampNeg).toInt = v10.toInt := by rw [y4 10 _ (Or.inl (by decide)), h14.2.1, ← e10]
  refine wp_bind (tm_comes g3.1 g3.2 g5.1 g5.2 g8.1 g8.2 y1 y2 (by omega) (by rw [s5]; omega) (by rw [s5]; omega) y3) (fun q16 h16 => ?_)
  have hr : (q16.1 10 2) = T.1 10 2 := by rw [h16.2.1.2 2 (by decide) (by decide), y4 10 2 (Or.inl (by decide)), h14.2.1]
  refine wp_bif (inb_of (by omega) (by omega)) ?_
  refine wp_letv (fun v17 e17 => ?_)
  refine wp_bif (inb_of (by omega) (by omega)) ?_
  refine wp_letv (fun T18 e18 => ?_)
  have a18 := af_hour e17 (by rw [hr]; exact g12) h16.1 e18
  refine wp_bif (inb_of (by omega) (by omega)) ?_
  exact wp_letv (fun v19 _ => wp_some a18)
