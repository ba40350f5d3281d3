/-! ===== the reference: x, images; what is drawn, wished, seen ===== -/
def PM (x : Int) (X M : Nat → Int) : Nat → Nat → Option Int := fun r j =>
  if r = 0 ∧ j = 23 then some x else if r = 17 ∧ j < 4 then some (X j) else if r = 18 ∧ j < 4 then some (M j) else none
def RM (x : Int) (X M : Nat → Int) (T : mT) : Prop := Aft (PM x X M) T
theorem IQ_free {P P' : Nat → Nat → Option Int} {T : mT} (hI : IQ P T) (h : ∀ q j v, P' q j = some v → P q j = some v) : IQ P' T := ⟨⟨hI.1.1, fun q j v hv => hI.1.2 q j v (h q j v hv)⟩, hI.2⟩
theorem IQ_noP {P : Nat → Nat → Option Int} {T : mT} (q j : Nat) (hI : IQ P T) : IQ (noP P q j) T := IQ_free hI (fun q' j' v hv => by
  unfold noP at hv
  by_cases e : q' = q ∧ j' = j
  · rw [if_pos e] at hv; cases hv
  · rw [if_neg e] at hv; exact hv)
theorem IQ_pin {P : Nat → Nat → Option Int} {T : mT} {q j : Nat} {v : Int} (hI : IQ P T) (hp : pinM q j = true) (hv : (T.1 q j).toInt = v) : IQ (pnA P q j v) T := by
  refine ⟨⟨hI.1.1, fun q' j' u hu => ?_⟩, hI.2⟩
  unfold pnA at hu
  by_cases e : q' = q ∧ j' = j
  · rw [if_pos e] at hu
    obtain ⟨rfl, rfl⟩ := e
    exact ⟨hp, hv.trans (Option.some.inj hu)⟩
  · rw [if_neg e] at hu
    exact hI.1.2 q' j' u hu
theorem noP_at (P : Nat → Nat → Option Int) (q j : Nat) : noP P q j q j = none := if_pos ⟨rfl, rfl⟩
theorem IQ_22 {P : Nat → Nat → Option Int} {T : mT} {v : Int32} (hI : IQ P T) (hp : P 0 22 = none) (h1 : -1 ≤ v.toInt) (h2 : v.toInt < (T.1 0 2).toInt) : IQ P (mz T 22 v) := by
  have c := im_0_2 hI
  have e : ∀ {r : Nat}, r ≠ 0 → (mz T 22 v).1 r = T.1 r := fun hr => mz_no T 22 v hr
  have e2 : (mz T 22 v).1 0 2 = T.1 0 2 := mz_ne (Or.inr (by decide))
  refine ⟨IM_ma (q := 0) hI.1 (show (-1 : Int) ≤ v.toInt ∧ v.toInt ≤ 5 from ⟨h1, by omega⟩) hp, ?_, RulesOk_eq (e (by decide)) (e (by decide)) (e (by decide)) e2 hI.2.2.1, ?_⟩
  · unfold Blks
    rw [e (r := 10) (by decide), e (r := 11) (by decide), e (r := 15) (by decide)]
    exact hI.2.1
  · unfold ForceOk
    rw [e2, mz_at, mz_ne (Or.inr (by decide)), e (r := 16) (by decide), e (r := 18) (by decide), e (r := 10) (by decide), e (r := 11) (by decide)]
    exact ⟨h2, hI.2.2.2.2⟩
theorem IQ_18 {P : Nat → Nat → Option Int} {T : mT} {i : Nat} {u v : Int32} (hI : IQ P T) (hp8 : P 18 i = none) (hp : P 16 i = none) (u0 : 0 ≤ u.toInt) (u1 : u.toInt ≤ 1) (h1 : -1 ≤ v.toInt) (h2 : v.toInt < (T.1 0 2).toInt) : IQ P (ma (ma T 18 i u) 16 i v) := by
  have c := im_0_2 hI
  have e : ∀ {r : Nat}, r ≠ 16 → r ≠ 18 → (ma (ma T 18 i u) 16 i v).1 r = T.1 r := fun h6 h8 => by rw [ma_no _ _ _ h6, ma_no _ _ _ h8]
  refine ⟨IM_ma (q := 16) (i := i) (v := v) (IM_ma (q := 18) (i := i) (v := u) hI.1 (show (0 : Int) ≤ u.toInt ∧ u.toInt ≤ 1 from ⟨u0, u1⟩) hp8) (show (-1 : Int) ≤ v.toInt ∧ v.toInt ≤ 5 from ⟨h1, by omega⟩) hp, ?_, RulesOk_eq (e (by decide) (by decide)) (e (by decide) (by decide)) (e (by decide) (by decide)) (by rw [e (by decide) (by decide)]) hI.2.2.1, ?_⟩
  · unfold Blks
    rw [e (r := 10) (by decide) (by decide), e (r := 11) (by decide) (by decide), e (r := 15) (by decide) (by decide)]
    exact hI.2.1
  · unfold ForceOk
    rw [e (r := 0) (by decide) (by decide), e (r := 10) (by decide) (by decide), e (r := 11) (by decide) (by decide)]
    refine ⟨hI.2.2.2.1, fun k hk h8 => ?_, hI.2.2.2.2.2⟩
    by_cases z : k = i
    · subst z
      rw [ma_at]
      exact h2
    · rw [ma_ne (Or.inr z), ma_ne (Or.inr z)]
      rw [ma_ne (Or.inl (by decide)), ma_ne (Or.inr z)] at h8
      exact hI.2.2.2.2.1 k hk h8
theorem pm_x {x : Int} {X M : Nat → Int} {T : mT} (h : IQ (PM x X M) T) : (T.1 0 23).toInt = x := (h.1.2 0 23 x (if_pos ⟨rfl, rfl⟩)).2
theorem pm_X {x : Int} {X M : Nat → Int} {T : mT} {k : Nat} (hk : k < 4) (h : IQ (PM x X M) T) : (T.1 17 k).toInt = X k := (h.1.2 17 k (X k) (by unfold PM; rw [if_neg (by omega), if_pos ⟨rfl, hk⟩])).2
theorem pm_M {x : Int} {X M : Nat → Int} {T : mT} {k : Nat} (hk : k < 4) (h : IQ (PM x X M) T) : (T.1 18 k).toInt = M k := (h.1.2 18 k (M k) (by unfold PM; rw [if_neg (by omega), if_neg (by omega), if_pos ⟨rfl, hk⟩])).2
theorem pm_none {x : Int} {X M : Nat → Int} {q j : Nat} (h0 : ¬ (q = 0 ∧ j = 23)) (h1 : q ≠ 17) (h2 : q ≠ 18) : PM x X M q j = none := by
  unfold PM
  rw [if_neg h0, if_neg (fun z => h1 z.1), if_neg (fun z => h2 z.1)]
/-- x is put -/
theorem IQ_x {x : Int} {X M : Nat → Int} {T : mT} {v : Int32} (hI : IQ (PM x X M) T) (hv : 0 ≤ v.toInt) : IQ (PM v.toInt X M) (mz T 23 v) := by
  have c := bnd v
  have z := IQ_mz (i := 23) (v := v) (IQ_noP 0 23 hI) (show (0 : Int) ≤ v.toInt ∧ v.toInt ≤ 2147483647 from ⟨hv, by omega⟩) (noP_at _ _ _) (by decide) (by decide)
  refine IQ_free (IQ_pin (q := 0) (j := 23) (v := v.toInt) z rfl (by rw [mz_at])) (fun q j u hu => ?_)
  unfold pnA noP
  unfold PM at hu ⊢
  by_cases e : q = 0 ∧ j = 23
  · rw [if_pos e] at hu ⊢
    exact hu
  · rw [if_neg e] at hu
    rw [if_neg e, if_neg e, if_neg e]
    exact hu
theorem tm_seed {x : Int} {X M : Nat → Int} {p0 : Int32} {T : mT} (h : RM x X M T) : wp (fm_seed p0 T) (fun w => (0 ≤ p0.toInt → w.1.toInt = x ∧ RM p0.toInt X M w.2) ∧ (p0.toInt < 0 → w.1 = -1 ∧ RM x X M w.2)) := by
  unfold fm_seed
  have l_0 : (0 : Int32).toInt = 0 := by decide
  refine wp_le (fun h0 => ?_) (fun h0 => wp_some ⟨fun z => by omega, fun _ => ⟨rfl, h⟩⟩)
  refine wp_letv (fun T2 e2 => wp_some ⟨fun _ => ⟨pm_x h.1, ?_⟩, fun z => by omega⟩)
  show Aft _ T2
  rw [e2]
  exact ⟨IQ_x h.1 (by omega), h.2⟩
theorem tm_force {x : Int} {X M : Nat → Int} {p0 : Int32} {T : mT} (h : RM x X M T) : wp (fm_force p0 T) (fun w => RM x X M w.2) := by
  unfold fm_force
  obtain ⟨m_1, e_m1⟩ : ∃ y : Int32, y = (-1) := ⟨_, rfl⟩
  rw [← e_m1]
  have l_m1 : m_1.toInt = -1 := by rw [e_m1]; decide
  have c := im_0_2 h.1
  refine wp_eqn (fun hc => ?_) ?_
  · refine wp_letv (fun T2 e2 => wp_some ?_)
    show Aft _ T2
    rw [e2]
    exact ⟨IQ_22 h.1 (pm_none (by omega) (by decide) (by decide)) (by omega) (by omega), h.2⟩
  · refine wp_bind (tm_isRule h.1) (fun q3 h3 => ?_)
    refine wp_b (fun _ => wp_some h) (fun b3 => ?_)
    have g3 := h3 b3
    refine wp_letv (fun T5 e5 => wp_some ?_)
    show Aft _ T5
    rw [e5]
    exact ⟨IQ_22 h.1 (pm_none (by omega) (by decide) (by decide)) (by omega) g3.2, h.2⟩
theorem t_410 {k a : Int32} (h0 : 0 ≤ k.toInt) (h1 : k.toInt ≤ 3) (h2 : 0 ≤ a.toInt) (h3 : a.toInt < 410) : (((410 : Int32) * k) + a).toInt = 410 * k.toInt + a.toInt := by
  have l : (410 : Int32).toInt = 410 := by decide
  have m := tML (a := 410) (b := k) l (by omega) (by omega)
  have t := tA (a := 410 * k) (b := a) (by omega) (by omega)
  omega
theorem tm_image_L43 {k1 : Int32} (h0 : 0 ≤ k1.toInt) (h3 : k1.toInt ≤ 3) : ∀ (N : Nat) (a1 : Int32) (T : mT), 0 ≤ a1.toInt → a1.toInt ≤ 410 → 410 - a1.toInt < (N : Int) → wp (fm_image_L43 k1 N a1 T) (fun w => CPY 15 10 (410 * k1.toInt.toNat) 0 a1.toInt.toNat 410 T w.2) := by
  intro N
  induction N with
  | zero =>
    intro a1 T g0 g1 hm
    exfalso; omega
  | succ N ih =>
    intro a1 T g0 g1 hm
    rw [fm_image_L43]
    have l_1 : (1 : Int32).toInt = 1 := by decide
    have l_410 : (410 : Int32).toInt = 410 := by decide
    refine wp_le (fun hc => wp_some (CPY.nil (by omega))) (fun hc => ?_)
    have t1 := tA (a := a1) (b := 1) (by omega) (by omega)
    have t2 := t_410 (k := k1) (a := a1) h0 h3 (by omega) (by omega)
    refine wp_bif (inb_of (by omega) (by omega)) ?_
    refine wp_letv (fun v9 e9 => ?_)
    refine wp_bif (inb_of (by omega) (by omega)) ?_
    refine wp_letv (fun T10 e10 => ?_)
    have i1 : a1.toNatClampNeg = 0 + a1.toInt.toNat := cl_idx (by omega)
    have i2 : (410 * k1 + a1).toNatClampNeg = 410 * k1.toInt.toNat + a1.toInt.toNat := cl_idx (by omega)
    rw [i1] at e9
    rw [i2, e9] at e10
    refine wp_mono (ih (a1 + 1) T10 (by omega) (by omega) (by omega)) (fun w hw => ?_)
    rw [show (a1 + 1).toInt.toNat = a1.toInt.toNat + 1 by omega, e10] at hw
    exact hw.step (by omega) (Or.inl (by decide))
theorem tm_back_L50 {k1 : Int32} (h0 : 0 ≤ k1.toInt) (h3 : k1.toInt ≤ 3) : ∀ (N : Nat) (a1 : Int32) (T : mT), 0 ≤ a1.toInt → a1.toInt ≤ 410 → 410 - a1.toInt < (N : Int) → wp (fm_back_L50 k1 N a1 T) (fun w => CPY 10 15 0 (410 * k1.toInt.toNat) a1.toInt.toNat 410 T w.2) := by
  intro N
  induction N with
  | zero =>
    intro a1 T g0 g1 hm
    exfalso; omega
  | succ N ih =>
    intro a1 T g0 g1 hm
    rw [fm_back_L50]
    have l_1 : (1 : Int32).toInt = 1 := by decide
    have l_410 : (410 : Int32).toInt = 410 := by decide
    refine wp_le (fun hc => wp_some (CPY.nil (by omega))) (fun hc => ?_)
    have t1 := tA (a := a1) (b := 1) (by omega) (by omega)
    have t2 := t_410 (k := k1) (a := a1) h0 h3 (by omega) (by omega)
    refine wp_bif (inb_of (by omega) (by omega)) ?_
    refine wp_letv (fun v9 e9 => ?_)
    refine wp_bif (inb_of (by omega) (by omega)) ?_
    refine wp_letv (fun T10 e10 => ?_)
    have i1 : a1.toNatClampNeg = 0 + a1.toInt.toNat := cl_idx (by omega)
    have i2 : (410 * k1 + a1).toNatClampNeg = 410 * k1.toInt.toNat + a1.toInt.toNat := cl_idx (by omega)
    rw [i2] at e9
    rw [i1, e9] at e10
    refine wp_mono (ih (a1 + 1) T10 (by omega) (by omega) (by omega)) (fun w hw => ?_)
    rw [show (a1 + 1).toInt.toNat = a1.toInt.toNat + 1 by omega, e10] at hw
    exact hw.step (by omega) (Or.inl (by decide))
theorem rg_15 {i k : Nat} (hi : i < 410) : rgM 15 (410 * k + i) = rgS i := by
  show rgS ((410 * k + i) % 410) = rgS i
  rw [show (410 * k + i) % 410 = i by omega]
theorem le40_15 {P : Nat → Nat → Option Int} {T : mT} (hI : IQ P T) (k : Nat) : (T.1 15 (410 * k + 5)).toInt ≤ 40 := by
  have h := (hI.1.1 15 (410 * k + 5)).2
  rw [rg_15 (by decide)] at h
  exact h
theorem iq_img {P : Nat → Nat → Option Int} {T T' : mT} {k : Nat} (hk : k < 4) (hp15 : ∀ j, 410 * k ≤ j → j < 410 * k + 410 → P 15 j = none) (hA : Aft P T) (h : CPY 15 10 (410 * k) 0 0 410 T T') : Aft P T' := by
  obtain ⟨hI, hh⟩ := hA
  have p15 : ∀ j v, P 15 j = some v → (T'.1 15 j).toInt = v := fun j v hv => by
    by_cases z : 410 * k ≤ j ∧ j < 410 * k + 410
    · rw [hp15 j z.1 z.2] at hv
      cases hv
    · rw [h.out j (by omega)]
      exact (hI.1.2 15 j v hv).2
  refine ⟨⟨IM_cpyP hI.1 h p15 (fun i _ hi => ?_), ?_, RulesOk_eq (h.ot 2 (by decide)) (h.ot 4 (by decide)) (h.ot 5 (by decide)) (by rw [h.ot 0 (by decide)]) hI.2.2.1, ?_⟩, ?_⟩
  · rw [rg_15 hi, Nat.zero_add]
    rfl
  · unfold Blks
    rw [h.ot 10 (by decide), h.ot 11 (by decide)]
    refine ⟨hI.2.1.1, hI.2.1.2.1, fun k' hk' => ?_⟩
    by_cases e : k' = k
    · subst e
      exact bkh_cpy (f := T.1 10) (a := 0) (fun i hi => h.inn i (by omega) (by omega)) hI.le40 ⟨hI.2.1.1, hh⟩
    · exact bkh_cpy (f := T.1 15) (a := 410 * k') (fun i hi => h.out _ (by omega)) (le40_15 hI k') (hI.2.1.2.2 k' hk')
  · unfold ForceOk
    rw [h.ot 0 (by decide), h.ot 16 (by decide), h.ot 18 (by decide), h.ot 10 (by decide), h.ot 11 (by decide), h.lg]
    exact hI.2.2.2
  · show (T'.1 10 2).toInt ≤ 9999
    rw [h.ot 10 (by decide)]
    exact hh
theorem iq_gone {P : Nat → Nat → Option Int} {T T' : mT} {k : Nat} (hk : k < 4) (hp10 : ∀ j, P 10 j = none) (hu : (T.1 0 25).toInt ≤ 0) (hI : IQ P T) (h : CPY 10 15 0 (410 * k) 0 410 T T') : Aft P T' := by
  have z := bkh_cpy (f := T.1 15) (g := T'.1 10) (a := 410 * k) (b := 0) (fun i hi => h.inn i (by omega) (by omega)) (le40_15 hI k) (hI.2.1.2.2 k hk)
  refine ⟨IQ_r10 hI h.ot h.lg (IM_cpyP hI.1 h (fun j v hv => by rw [hp10 j] at hv; cases hv) (fun i _ hi => ?_)) z.1 (fun k' j hk' _ _ => by exfalso; omega), z.2⟩
  rw [rg_15 hi, Nat.zero_add]
  rfl
