/-! ===== the reference draws ===== -/
theorem tm_drawsHour {P : Nat → Nat → Option Int} {p0 p1 : Int32} {T : mT} (hr : p0.toInt < (T.1 0 2).toInt) (h0 : 0 < (T.1 10 0).toInt) (hh : (T.1 10 2).toInt ≤ 10058) (hI : IQ P T) : wp (fm_drawsHour p0 p1 T) (fun w => IQ P w ∧ (w.1 10 2).toInt = (T.1 10 2).toInt + 1 ∧ w.1 10 0 = T.1 10 0 ∧ w.1 0 2 = T.1 0 2 ∧ w.1 14 = T.1 14) := by
  unfold fm_drawsHour
  obtain ⟨m_1, e_m1⟩ : ∃ x : Int32, x = (-1) := ⟨_, rfl⟩
  rw [← e_m1]
  have l_m1 : m_1.toInt = -1 := by rw [e_m1]; decide
  have l_0 : (0 : Int32).toInt = 0 := by decide
  have l_1 : (1 : Int32).toInt = 1 := by decide
  have l_2 : (2 : Int32).toInt = 2 := by decide
  have l_3 : (3 : Int32).toInt = 3 := by decide
  have l_5 : (5 : Int32).toInt = 5 := by decide
  have l_40 : (40 : Int32).toInt = 40 := by decide
  have fu : (FU : Int) = 1000000 := rfl
  have c1 := im_10_1 hI
  have p1' : 0 < (T.1 10 (1 : Int32).toNatClampNeg).toInt := hI.2.1.1.1 h0
  refine wp_bif (inb_of (by omega) (by omega)) ?_
  refine wp_letv (fun v1 e1 => ?_)
  rw [← e1] at c1 p1'
  refine wp_bind (tm_draw p1' hI) (fun q2 h2 => ?_)
  obtain ⟨i2, s2, a2, b2⟩ := h2
  refine wp_bif (inb_of (by omega) (by omega)) ?_
  refine wp_letv (fun v3 e3 => ?_)
  have e31 : v3 = v1 := by rw [e3, s2 10 _ (Or.inl (by decide)), ← e1]
  subst e31
  refine wp_bind (tm_draw p1' i2) (fun q4 h4 => ?_)
  obtain ⟨i4, s4, a4, b4⟩ := h4
  have k4 : Pk T q4.2 := Pk.ofS (s2.trans s4)
  refine wp_bif (inb_of (by omega) (by omega)) ?_
  refine wp_letv (fun v5 e5 => ?_)
  have lk : ∀ {R : mT → Prop}, (∀ w, IQ P w ∧ Pk T w → R w) → (q4.2.1 10 5).toInt < 40 → wp ((fm_looks q4.2).bind fun q12 => some (q12)) R := by
    intro R hR hs
    exact wp_bind (tm_looks hs i4) (fun q h => wp_some (hR q ⟨h.1, k4.trans h.2⟩))
  refine wp_bind (Q := fun w => IQ P w ∧ Pk T w) ?_ (fun w6 h6 => ?_)
  · have cm : ∀ v : Int32, v = q4.2.1 10 (5 : Int32).toNatClampNeg → wp (if 40 ≤ v then (some (q4.2)) else (bif inb 3 410 then (letv (q4.2.1 10 (3 : Int32).toNatClampNeg) fun v10 => if q2.1 = v10 then ((fm_looks q4.2).bind fun q12 => some (q12)) else (some (q4.2))) else none)) (fun w => IQ P w ∧ Pk T w) := by
      intro v ev
      refine wp_le (fun _ => wp_some ⟨i4, k4⟩) (fun hc => ?_)
      refine wp_bif (inb_of (by omega) (by omega)) ?_
      refine wp_letv (fun v10 _ => ?_)
      refine wp_eqn (fun _ => ?_) (wp_some ⟨i4, k4⟩)
      exact lk (fun w h => h) (by rw [show q4.2.1 10 5 = v from ev.symm]; omega)
    refine wp_le (fun _ => ?_) (fun hc => ?_)
    · refine wp_bif (inb_of (by omega) (by omega)) ?_
      exact wp_letv (fun v8 e8 => cm v8 e8)
    · refine wp_eqn (fun _ => ?_) ?_
      · refine wp_bif (inb_of (by omega) (by omega)) ?_
        exact wp_letv (fun v14 e14 => cm v14 e14)
      · refine wp_bind (tm_faceBy a2 (by omega) a4 (by omega) a4 (by omega) (by rw [k4.1 0 2 (by decide) (Or.inr (by decide))]; exact hr) i4) (fun q19 h19 => ?_)
        obtain ⟨y1, y2, y3, y4⟩ := h19
        refine wp_bind (tm_drawsHour_L55 FU q19.1 0 q19.2 y1 y2 (by omega) (by omega) y3 (by omega)) (fun w24 h24 => ?_)
        obtain ⟨z1, z2, _, _, z5, z6⟩ := h24
        have s5 : (w24.2.2.1 10 (5 : Int32).toNatClampNeg).toInt = v5.toInt := by rw [z6 10 _ (Or.inl (by decide)), y4 10 _ (Or.inl (by decide)), ← e5]
        have c5 := im_10_5 i4
        rw [← e5] at c5
        refine wp_bind (tm_comes a2 (by omega) a4 (by omega) a4 (by omega) z1 z2 (by omega) (by rw [s5]; omega) (by rw [s5]; omega) z5) (fun q25 h25 => ?_)
        exact wp_some ⟨h25.1, k4.trans ((Pk.ofS (y4.trans z6)).trans (Pk.ofF h25.2.1))⟩
  · obtain ⟨y1, y2⟩ := h6
    refine wp_bif (inb_of (by omega) (by omega)) ?_
    refine wp_letv (fun v26 e26 => ?_)
    have z := tm_hour e26 (by rw [y2.2.2.2]; exact hh) y1
    refine wp_bif (inb_of (by omega) (by omega)) ?_
    refine wp_letv (fun T27 e27 => wp_some ?_)
    rw [← e27] at z
    refine ⟨z.1, by rw [z.2, y2.2.2.2], ?_, ?_, ?_⟩
    · rw [e27, ma_ne (Or.inr (by decide))]
      exact y2.2.1
    · rw [e27, ma_ne (Or.inl (by decide))]
      exact y2.1 0 2 (by decide) (Or.inr (by decide))
    · rw [e27, ma_no _ _ _ (by decide)]
      exact funext (fun j => y2.1 14 j (by decide) (Or.inl (by decide)))
theorem tm_drawn_L83 {k1 k2 k3 k4 k5 k6 k7 : Int32} : ∀ (N : Nat) (a8 : Int32) (T : mT), 0 ≤ a8.toInt → a8.toInt ≤ 352 → 352 - a8.toInt < (N : Int) → wp (fm_drawn_L83 k1 k2 k3 k4 k5 k6 k7 N a8 T) (fun w => CPY 14 10 0 0 a8.toInt.toNat 352 T w.2) := by
  intro N
  induction N with
  | zero =>
    intro a1 T h0 h1 hm
    exfalso; omega
  | succ N ih =>
    intro a1 T h0 h1 hm
    rw [fm_drawn_L83]
    have l_1 : (1 : Int32).toInt = 1 := by decide
    have l_352 : (352 : Int32).toInt = 352 := by decide
    refine wp_le (fun hc => wp_some (CPY.nil (by omega))) (fun hc => ?_)
    have t1 := tA (a := a1) (b := 1) (by omega) (by omega)
    refine wp_bif (inb_of (by omega) (by omega)) ?_
    refine wp_letv (fun v9 e9 => ?_)
    refine wp_bif (inb_of (by omega) (by omega)) ?_
    refine wp_letv (fun T10 e10 => ?_)
    have i1 : a1.toNatClampNeg = 0 + a1.toInt.toNat := cl_idx (by omega)
    rw [i1] at e9
    rw [i1, e9] at e10
    refine wp_mono (ih (a1 + 1) T10 (by omega) (by omega) (by omega)) (fun w hw => ?_)
    rw [show (a1 + 1).toInt.toNat = a1.toInt.toNat + 1 by omega, e10] at hw
    exact hw.step (by omega) (Or.inl (by decide))
theorem tm_drawn_L205 {k1 k2 k3 k4 k5 k6 k7 k8 : Int32} : ∀ (N : Nat) (a8 : Int32) (T : mT), 0 ≤ a8.toInt → a8.toInt ≤ 352 → 352 - a8.toInt < (N : Int) → wp (fm_drawn_L205 k1 k2 k3 k4 k5 k6 k7 k8 N a8 T) (fun w => CPY 10 14 0 0 a8.toInt.toNat 352 T w.2) := by
  intro N
  induction N with
  | zero =>
    intro a1 T h0 h1 hm
    exfalso; omega
  | succ N ih =>
    intro a1 T h0 h1 hm
    rw [fm_drawn_L205]
    have l_1 : (1 : Int32).toInt = 1 := by decide
    have l_352 : (352 : Int32).toInt = 352 := by decide
    refine wp_le (fun hc => wp_some (CPY.nil (by omega))) (fun hc => ?_)
    have t1 := tA (a := a1) (b := 1) (by omega) (by omega)
    refine wp_bif (inb_of (by omega) (by omega)) ?_
    refine wp_letv (fun v9 e9 => ?_)
    refine wp_bif (inb_of (by omega) (by omega)) ?_
    refine wp_letv (fun T10 e10 => ?_)
    have i1 : a1.toNatClampNeg = 0 + a1.toInt.toNat := cl_idx (by omega)
    rw [i1] at e9
    rw [i1, e9] at e10
    refine wp_mono (ih (a1 + 1) T10 (by omega) (by omega) (by omega)) (fun w hw => ?_)
    rw [show (a1 + 1).toInt.toNat = a1.toInt.toNat + 1 by omega, e10] at hw
    exact hw.step (by omega) (Or.inl (by decide))
theorem tm_drawn_L123 {P : Nat → Nat → Option Int} {k1 k2 k3 k4 k5 k6 k7 k8 : Int32} (hk : k3.toInt ≤ 60) : ∀ (N : Nat) (a9 : Int32) (T : mT), 0 ≤ a9.toInt → a9.toInt ≤ k3.toInt → (T.1 10 2).toInt + (k3.toInt - a9.toInt) ≤ 10059 → k1.toInt < (T.1 0 2).toInt → 0 < (T.1 10 0).toInt → IQ P T → k3.toInt - a9.toInt < (N : Int) → wp (fm_drawn_L123 k1 k2 k3 k4 k5 k6 k7 k8 N a9 T) (fun w => IQ P w.2 ∧ w.2.1 0 2 = T.1 0 2 ∧ w.2.1 14 = T.1 14) := by
  intro N
  induction N with
  | zero =>
    intro a3 T h0 h1 hh hr hi hI hm
    exfalso; omega
  | succ N ih =>
    intro a3 T h0 h1 hh hr hi hI hm
    rw [fm_drawn_L123]
    have l_1 : (1 : Int32).toInt = 1 := by decide
    refine wp_le (fun hc => wp_some ⟨hI, rfl, rfl⟩) (fun hc => ?_)
    have t := tA (a := a3) (b := 1) (by omega) (by omega)
    refine wp_bind (tm_drawsHour hr hi (by omega) hI) (fun q11 h11 => ?_)
    obtain ⟨x1, x2, x3, x4, x5⟩ := h11
    exact wp_mono (ih (a3 + 1) q11 (by omega) (by omega) (by omega) (by rw [x4]; exact hr) (by rw [x3]; exact hi) x1 (by omega)) (fun w hw => ⟨hw.1, hw.2.1.trans x4, hw.2.2.trans x5⟩)
/-- what is kept to be gone back to while it is drawn -/
def Kp (T : mT) : Prop := bk (T.1 14) 0 ∧ (T.1 14 2).toInt ≤ 9999 ∧ 0 < (T.1 14 0).toInt
theorem iq_kept {P : Nat → Nat → Option Int} {T T' : mT} (hP : ∀ j, j < 352 → stJ j = true → P 10 j = some (T.1 14 j).toInt) (hI : IQ P T) (hk : Kp T) (h : CPY 10 14 0 0 0 352 T T') : IQ P T' ∧ (T'.1 10 2).toInt ≤ 9999 ∧ 0 < (T'.1 10 0).toInt := by
  have e := fun i hi => h.inn i (Nat.zero_le _) hi
  have c : (T.1 14 (0 + 5)).toInt ≤ 40 := (hI.1.1 14 5).2
  have same : ∀ j, stJ j = true → T'.1 10 j = T.1 10 j := fun j hs => by
    by_cases y : j < 352
    · have q := h.inn j (by omega) y
      rw [Nat.zero_add] at q
      rw [q]
      exact Int32.toInt_inj.mp (hI.1.2 10 j _ (hP j y hs)).2.symm
    · exact h.out j (Or.inr (by omega))
  refine ⟨IQ_r10 hI h.ot h.lg (IM_cpyP hI.1 h (fun j v hv => ?_) (fun i _ _ => rfl)) (bk_cpy (f := T.1 14) (a := 0) e c hk.1) (fun k' j hk' hj hs => by rw [same j hs]; exact im_hb hI k' j hk' hj hs), ?_, ?_⟩
  · have q := hI.1.2 10 j v hv
    rw [same j q.1]
    exact q.2
  · have z := e 2 (by decide)
    rw [Nat.zero_add] at z
    rw [z]
    exact hk.2.1
  · have z := e 0 (by decide)
    rw [Nat.zero_add] at z
    rw [z]
    exact hk.2.2
