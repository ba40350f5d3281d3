/-! ===== the reference: what is drawn, wished, seen 3 ===== -/
theorem tm_drawn_L114 {P : Nat → Nat → Option Int} {k1 k2 k3 k4 k5 : Int32} (h20 : k2.toInt ≤ 20) (h0' : 0 ≤ k3.toInt) (hk : k3.toInt ≤ 60) : ∀ (N : Nat) (a6 a7 a8 : Int32) (T : mT), 0 ≤ a8.toInt → a8.toInt ≤ k2.toInt → Kp T → (T.1 10 2).toInt ≤ 9999 → k1.toInt < (T.1 0 2).toInt → 0 < (T.1 10 0).toInt → (∀ j, j < 352 → stJ j = true → P 10 j = some (T.1 14 j).toInt) → IQ P T → k2.toInt - a8.toInt < (N : Int) → wp (fm_drawn_L114 k1 k2 k3 k4 k5 N a6 a7 a8 T) (fun w => Aft P w.2.2.2) := by
  intro N
  induction N with
  | zero =>
    intro a6 a7 a8 T h0 h1 hK hh hr hi hP hI hm
    exfalso; omega
  | succ N ih =>
    intro a6 a7 a8 T h0 h1 hK hh hr hi hP hI hm
    rw [fm_drawn_L114]
    have l_0 : (0 : Int32).toInt = 0 := by decide
    have l_1 : (1 : Int32).toInt = 1 := by decide
    have fu : (FU : Int) = 1000000 := rfl
    refine wp_le (fun hc => wp_some ⟨hI, hh⟩) (fun hc => ?_)
    have t := tA (a := a8) (b := 1) (by omega) (by omega)
    refine wp_bind (tm_drawn_L123 hk FU 0 T (by omega) (by omega) (by omega) hr hi hI (by omega)) (fun w21 h21 => ?_)
    obtain ⟨x1, x2, x3⟩ := h21
    refine wp_bind (tm_drawn_L145 FU a6 a7 0 w21.2 (by omega) (by omega) x1 (by omega)) (fun w30 h30 => ?_)
    obtain ⟨_, _, y1, y2⟩ := h30
    have r14 : w30.2.2.2.1 14 = T.1 14 := (y2.row (by decide)).trans x3
    have r02 : w30.2.2.2.1 0 2 = T.1 0 2 := (y2 0 2 (Or.inr (by decide))).trans x2
    refine wp_bind (tm_drawn_L205 FU 0 w30.2.2.2 (by omega) (by omega) (by omega)) (fun w34 h34 => ?_)
    rw [l_0] at h34
    have z := iq_kept (fun j hj hs => by rw [r14]; exact hP j hj hs) y1 (by unfold Kp; rw [r14]; exact hK) h34
    have q14 : w34.2.1 14 = T.1 14 := (h34.ot 14 (by decide)).trans r14
    exact ih _ _ (a8 + 1) w34.2 (by omega) (by omega) (by unfold Kp; rw [q14]; exact hK) z.2.1 (by rw [h34.ot 0 (by decide), r02]; exact hr) z.2.2 (fun j hj hs => by rw [q14]; exact hP j hj hs) z.1 (by omega)
/-- pins at all of what is said that no act writes -/
def stP (P : Nat → Nat → Option Int) (T : mT) : Nat → Nat → Option Int := fun q j => if q = 10 ∧ j < 352 ∧ stJ j = true then some (T.1 10 j).toInt else P q j
theorem IQ_st {P : Nat → Nat → Option Int} {T : mT} (hI : IQ P T) : IQ (stP P T) T := by
  refine ⟨⟨hI.1.1, fun q j v hv => ?_⟩, hI.2⟩
  unfold stP at hv
  by_cases e : q = 10 ∧ j < 352 ∧ stJ j = true
  · rw [if_pos e] at hv
    obtain ⟨rfl, _, hs⟩ := e
    exact ⟨hs, Option.some.inj hv⟩
  · rw [if_neg e] at hv
    exact hI.1.2 q j v hv
theorem tm_drawn0 {P : Nat → Nat → Option Int} {p0 p1 p2 p3 p4 : Int32} {T : mT} (hP : ∀ j, j < 352 → stJ j = true → P 10 j = some (T.1 10 j).toInt) (hA : Aft P T) : wp (fm_drawn p0 p1 p2 p3 p4 T) (fun w => Aft P w.2) := by
  unfold fm_drawn
  obtain ⟨hI, hh⟩ := hA
  have l_0 : (0 : Int32).toInt = 0 := by decide
  have fu : (FU : Int) = 1000000 := rfl
  have k1 : (1 : Int64).toInt = 1 := by decide
  have k20 : (20 : Int64).toInt = 20 := by decide
  have k60 : (60 : Int64).toInt = 60 := by decide
  have kp1 := Int32.toInt_toInt64 p1
  have kp2 := Int32.toInt_toInt64 p2
  refine wp_bind (tm_isIsland hI) (fun q1 h1 => ?_)
  refine wp_b (fun _ => wp_some ⟨hI, hh⟩) (fun b1 => ?_)
  have g1 : 0 < (T.1 10 0).toInt := h1 b1
  refine wp_bind (tm_mayBe hI) (fun q3 h3 => ?_)
  refine wp_b (fun _ => wp_some ⟨hI, hh⟩) (fun b3 => ?_)
  have g3 := h3 b3
  refine wp_bind tm_in (fun q5 h5 => ?_)
  refine wp_b (fun _ => wp_some ⟨hI, hh⟩) (fun b5 => ?_)
  have g5 := h5 b5
  refine wp_bind tm_in (fun q7 h7 => ?_)
  refine wp_b (fun _ => wp_some ⟨hI, hh⟩) (fun b7 => ?_)
  have g7 := h7 b7
  refine wp_bind tm_in (fun q9 h9 => ?_)
  refine wp_b (fun _ => wp_some ⟨hI, hh⟩) (fun b9 => ?_)
  refine wp_bind tm_in (fun q11 h11 => ?_)
  refine wp_b (fun _ => wp_some ⟨hI, hh⟩) (fun b11 => ?_)
  refine wp_letv (fun T13 e13 => ?_)
  have c23 := im_0_23 hI
  have kx := Int32.toInt_toInt64 (T.1 0 23)
  have i13 : IQ P T13 := by rw [e13]; exact iq_lw hI (by omega) (by omega)
  have r13 : T13.1 = T.1 := by rw [e13]; rfl
  refine wp_bind (tm_drawn_L83 FU 0 T13 (by omega) (by omega) (by omega)) (fun w17 h17 => ?_)
  rw [l_0] at h17
  have i17 : IQ P w17.2 := by
    refine ⟨IM_cpy i13.1 h17 (fun _ => rfl) (fun i _ _ => rfl), ?_, RulesOk_eq (h17.ot 2 (by decide)) (h17.ot 4 (by decide)) (h17.ot 5 (by decide)) (by rw [h17.ot 0 (by decide)]) i13.2.2.1, ?_⟩
    · unfold Blks
      rw [h17.ot 10 (by decide), h17.ot 11 (by decide), h17.ot 15 (by decide)]
      exact i13.2.1
    · unfold ForceOk
      rw [h17.ot 0 (by decide), h17.ot 16 (by decide), h17.ot 18 (by decide), h17.ot 10 (by decide), h17.ot 11 (by decide), h17.lg]
      exact i13.2.2.2
  have e17 := fun i hi => h17.inn i (Nat.zero_le _) hi
  have s0 := e17 0 (by decide)
  have s2 := e17 2 (by decide)
  rw [Nat.zero_add] at s0 s2
  have K : Kp w17.2 := by
    refine ⟨bk_cpy (f := T13.1 10) (a := 0) e17 i13.le40 i13.2.1.1, ?_, ?_⟩
    · rw [s2, r13]
      exact hh
    · rw [s0, r13]
      exact g1
  refine wp_bind (tm_drawn_L114 (by omega) (by omega) (by omega) FU 0 0 0 w17.2 (by omega) (by omega) K (by rw [h17.ot 10 (by decide), r13]; exact hh) (by rw [h17.ot 0 (by decide), r13]; exact g3) (by rw [h17.ot 10 (by decide), r13]; exact g1) (fun j hj hs => by have q := e17 j hj; rw [Nat.zero_add] at q; rw [q, r13]; exact hP j hj hs) i17 (by omega)) (fun w35 h35 => ?_)
  exact wp_eqn (fun _ => wp_some h35) (wp_some h35)
theorem tm_drawn {P : Nat → Nat → Option Int} {p0 p1 p2 p3 p4 : Int32} {T : mT} (hA : Aft P T) : wp (fm_drawn p0 p1 p2 p3 p4 T) (fun w => Aft P w.2) := by
  refine wp_mono (tm_drawn0 (P := stP P T) (fun j hj hs => by unfold stP; rw [if_pos ⟨rfl, hj, hs⟩]) ⟨IQ_st hA.1, hA.2⟩) (fun w hw => ⟨IQ_free hw.1 (fun q j v hv => ?_), hw.2⟩)
  unfold stP
  by_cases e : q = 10 ∧ j < 352 ∧ stJ j = true
  · rw [if_pos e]
    obtain ⟨rfl, _, _⟩ := e
    rw [(hA.1.1.2 10 j v hv).2]
  · rw [if_neg e]
    exact hv
/-- a cell behind the tellings is written: the hour stands -/
theorem af_w {P : Nat → Nat → Option Int} {T T' : mT} {e v : Int32} {n : Nat} (hw : ∀ j, 352 ≤ j → P 10 j = none) (hA : Aft P T) (he : e.toInt = (n : Int)) (h1 : 352 ≤ n) (h2 : n < 408) (hT : T' = ma T 10 e.toNatClampNeg v) : Aft P T' ∧ T'.1 10 408 = T.1 10 408 ∧ T'.1 10 409 = T.1 10 409 := by
  rw [hT, cl_idx he]
  refine ⟨⟨IQ_10w hA.1 (hw n h1) (Or.inr h1) (by rw [rgS_free (by unfold wideI; omega)]; exact bnd v) (bk_w hA.1.2.1.1 hA.1.le40 (by omega) (by omega) (by omega) (by omega)), ?_⟩, ma_ne (Or.inr (by omega)), ma_ne (Or.inr (by omega))⟩
  show ((ma T 10 n v).1 10 2).toInt ≤ 9999
  rw [ma_ne (Or.inr (by omega))]
  exact hA.2
theorem af_408 {P : Nat → Nat → Option Int} {T T' : mT} {v : Int32} (hw : ∀ j, 352 ≤ j → P 10 j = none) (hA : Aft P T) (h1 : 0 ≤ v.toInt) (h2 : v.toInt ≤ 10) (hT : T' = ma T 10 (408 : Int32).toNatClampNeg v) : Aft P T' := by
  rw [hT]
  refine ⟨iq_10_408 hA.1 (hw 408 (by decide)) h1 h2, ?_⟩
  show ((ma T 10 (408 : Int32).toNatClampNeg v).1 10 2).toInt ≤ 9999
  rw [ma_ne (Or.inr (by decide))]
  exact hA.2
theorem af_409 {P : Nat → Nat → Option Int} {T T' : mT} {v : Int32} (hw : ∀ j, 352 ≤ j → P 10 j = none) (hA : Aft P T) (h1 : 0 ≤ v.toInt) (h2 : v.toInt ≤ 8) (hT : T' = ma T 10 (409 : Int32).toNatClampNeg v) : Aft P T' := by
  rw [hT]
  refine ⟨iq_10_409 hA.1 (hw 409 (by decide)) h1 h2, ?_⟩
  show ((ma T 10 (409 : Int32).toNatClampNeg v).1 10 2).toInt ≤ 9999
  rw [ma_ne (Or.inr (by decide))]
  exact hA.2
theorem tm_wish {P : Nat → Nat → Option Int} {p0 p1 p2 p3 : Int32} {T : mT} (hw : ∀ j, 352 ≤ j → P 10 j = none) (hA : Aft P T) : wp (fm_wish p0 p1 p2 p3 T) (fun w => Aft P w.2) := by
  unfold fm_wish
  have l_0 : (0 : Int32).toInt = 0 := by decide
  have l_1 : (1 : Int32).toInt = 1 := by decide
  have l_2 : (2 : Int32).toInt = 2 := by decide
  have l_3 : (3 : Int32).toInt = 3 := by decide
  have l_4 : (4 : Int32).toInt = 4 := by decide
  have l_10 : (10 : Int32).toInt = 10 := by decide
  have l_352 : (352 : Int32).toInt = 352 := by decide
  have l_408 : (408 : Int32).toInt = 408 := by decide
  refine wp_eqn (fun _ => ?_) ?_
  · refine wp_bif (inb_of (by omega) (by omega)) ?_
    exact wp_letv (fun T20 e20 => wp_some (af_408 hw hA (by omega) (by omega) e20))
  refine wp_bind (Q := fun _ => True) (wp_mono (tm_isPerson hA.1) (fun _ _ => trivial)) (fun q2 _ => ?_)
  refine wp_b (fun _ => wp_some hA) (fun _ => ?_)
  refine wp_bind (Q := fun _ => True) (wp_mono tm_in (fun _ _ => trivial)) (fun q4 _ => ?_)
  refine wp_b (fun _ => wp_some hA) (fun _ => ?_)
  refine wp_bind (Q := fun _ => True) (wp_mono tm_in (fun _ _ => trivial)) (fun q6 _ => ?_)
  refine wp_b (fun _ => wp_some hA) (fun _ => ?_)
  refine wp_bind (Q := fun _ => True) (wp_mono tm_in (fun _ _ => trivial)) (fun q8 _ => ?_)
  refine wp_b (fun _ => wp_some hA) (fun _ => ?_)
  have c := im_10_408 hA.1
  refine wp_bif (inb_of (by omega) (by omega)) ?_
  refine wp_letv (fun v10 e10 => ?_)
  rw [← e10] at c
  refine wp_eq (fun _ => wp_some hA) (fun hc => ?_)
  refine wp_bif (inb_of (by omega) (by omega)) ?_
  refine wp_letv (fun v12 e12 => ?_)
  have e : v12 = v10 := e12.trans e10.symm
  subst e
  have m := tML (a := 4) (b := v12) l_4 (by omega) (by omega)
  have t0 := tA (a := 352) (b := 4 * v12) (by omega) (by omega)
  have t1 := tA (a := 352 + 4 * v12) (b := 1) (by omega) (by omega)
  have t2 := tA (a := 352 + 4 * v12) (b := 2) (by omega) (by omega)
  have t3 := tA (a := 352 + 4 * v12) (b := 3) (by omega) (by omega)
  refine wp_bif (inb_of (by omega) (by omega)) ?_
  refine wp_letv (fun T13 e13 => ?_)
  have a13 := af_w (n := 352 + 4 * v12.toInt.toNat) hw hA (by omega) (by omega) (by omega) e13
  refine wp_bif (inb_of (by omega) (by omega)) ?_
  refine wp_letv (fun T14 e14 => ?_)
  have a14 := af_w (n := 353 + 4 * v12.toInt.toNat) hw a13.1 (by omega) (by omega) (by omega) e14
  refine wp_bif (inb_of (by omega) (by omega)) ?_
  refine wp_letv (fun T15 e15 => ?_)
  have a15 := af_w (n := 354 + 4 * v12.toInt.toNat) hw a14.1 (by omega) (by omega) (by omega) e15
  refine wp_bif (inb_of (by omega) (by omega)) ?_
  refine wp_letv (fun T16 e16 => ?_)
  have a16 := af_w (n := 355 + 4 * v12.toInt.toNat) hw a15.1 (by omega) (by omega) (by omega) e16
  refine wp_bif (inb_of (by omega) (by omega)) ?_
  refine wp_letv (fun v17 e17 => ?_)
  have e : v17 = v12 := by
    rw [e17, show T16.1 10 (408 : Int32).toNatClampNeg = T16.1 10 408 from rfl, a16.2.1, a15.2.1, a14.2.1, a13.2.1]
    exact e10.symm
  have u := tA (a := v17) (b := 1) (by rw [e]; omega) (by rw [e]; omega)
  rw [e] at u
  refine wp_bif (inb_of (by omega) (by omega)) ?_
  refine wp_letv (fun T18 e18 => ?_)
  have a18 := af_408 hw a16.1 (by rw [e]; omega) (by rw [e]; omega) e18
  refine wp_bif (inb_of (by omega) (by omega)) ?_
  exact wp_letv (fun v19 _ => wp_some a18)
theorem tm_view {P : Nat → Nat → Option Int} {p0 p1 : Int32} {T : mT} (hw : ∀ j, 352 ≤ j → P 10 j = none) (hA : Aft P T) : wp (fm_view p0 p1 T) (fun w => Aft P w.2) := by
  unfold fm_view
  have l_0 : (0 : Int32).toInt = 0 := by decide
  have l_1 : (1 : Int32).toInt = 1 := by decide
  have l_2 : (2 : Int32).toInt = 2 := by decide
  have l_8 : (8 : Int32).toInt = 8 := by decide
  have l_392 : (392 : Int32).toInt = 392 := by decide
  have l_409 : (409 : Int32).toInt = 409 := by decide
  refine wp_eqn (fun _ => ?_) ?_
  · refine wp_bif (inb_of (by omega) (by omega)) ?_
    exact wp_letv (fun T18 e18 => wp_some (af_409 hw hA (by omega) (by omega) e18))
  refine wp_bind (Q := fun _ => True) (wp_mono (tm_isIsland hA.1) (fun _ _ => trivial)) (fun q2 _ => ?_)
  refine wp_b (fun _ => wp_some hA) (fun _ => ?_)
  refine wp_bind (Q := fun _ => True) (wp_mono (tm_allMarks hA.1) (fun _ _ => trivial)) (fun q4 _ => ?_)
  refine wp_bind (Q := fun _ => True) (wp_mono tm_in (fun _ _ => trivial)) (fun q5 _ => ?_)
  refine wp_b (fun _ => wp_some hA) (fun _ => ?_)
  refine wp_lt (fun _ => wp_some hA) (fun _ => ?_)
  refine wp_if (fun _ => ?_) (fun _ => wp_some hA)
  have c := im_10_409 hA.1
  refine wp_bif (inb_of (by omega) (by omega)) ?_
  refine wp_letv (fun v9 e9 => ?_)
  rw [← e9] at c
  refine wp_eq (fun _ => wp_some hA) (fun hc => ?_)
  refine wp_bif (inb_of (by omega) (by omega)) ?_
  refine wp_letv (fun v11 e11 => ?_)
  have e : v11 = v9 := e11.trans e9.symm
  subst e
  have m := tML (a := 2) (b := v11) l_2 (by omega) (by omega)
  have t0 := tA (a := 392) (b := 2 * v11) (by omega) (by omega)
  have t1 := tA (a := 392 + 2 * v11) (b := 1) (by omega) (by omega)
  refine wp_bif (inb_of (by omega) (by omega)) ?_
  refine wp_letv (fun T12 e12 => ?_)
  have a12 := af_w (n := 392 + 2 * v11.toInt.toNat) hw hA (by omega) (by omega) (by omega) e12
  refine wp_bif (inb_of (by omega) (by omega)) ?_
  refine wp_letv (fun v13 e13 => ?_)
  have e : v13 = v11 := by
    rw [e13, show T12.1 10 (409 : Int32).toNatClampNeg = T12.1 10 409 from rfl, a12.2.2]
    exact e9.symm
  subst e
  refine wp_bif (inb_of (by omega) (by omega)) ?_
  refine wp_letv (fun T14 e14 => ?_)
  have a14 := af_w (n := 393 + 2 * v13.toInt.toNat) hw a12.1 (by omega) (by omega) (by omega) e14
  refine wp_bif (inb_of (by omega) (by omega)) ?_
  refine wp_letv (fun v15 e15 => ?_)
  have e : v15 = v13 := by
    rw [e15, show T14.1 10 (409 : Int32).toNatClampNeg = T14.1 10 409 from rfl, a14.2.2, a12.2.2]
    exact e9.symm
  have u := tA (a := v15) (b := 1) (by rw [e]; omega) (by rw [e]; omega)
  rw [e] at u
  refine wp_bif (inb_of (by omega) (by omega)) ?_
  refine wp_letv (fun T16 e16 => ?_)
  have a16 := af_409 hw a14.1 (by rw [e]; omega) (by rw [e]; omega) e16
  refine wp_bif (inb_of (by omega) (by omega)) ?_
  exact wp_letv (fun v17 _ => wp_some a16)
