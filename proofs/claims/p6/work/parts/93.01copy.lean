/-! ===== the reference copies blocks ===== -/
/-- T' is T with the cells (to + i) of row rd, lo ≤ i < n, as the cells (fr + i) of row rs were -/
def CPY (rd rs to fr lo n : Nat) (T T' : mT) : Prop := T'.2 = T.2 ∧ (∀ r, r ≠ rd → T'.1 r = T.1 r) ∧ (∀ i, lo ≤ i → i < n → T'.1 rd (to + i) = T.1 rs (fr + i)) ∧ ∀ j, j < to + lo ∨ to + n ≤ j → T'.1 rd j = T.1 rd j
theorem CPY.lg {rd rs to fr lo n : Nat} {T T' : mT} (h : CPY rd rs to fr lo n T T') : T'.2 = T.2 := h.1
theorem CPY.ot {rd rs to fr lo n : Nat} {T T' : mT} (h : CPY rd rs to fr lo n T T') : ∀ r, r ≠ rd → T'.1 r = T.1 r := h.2.1
theorem CPY.inn {rd rs to fr lo n : Nat} {T T' : mT} (h : CPY rd rs to fr lo n T T') : ∀ i, lo ≤ i → i < n → T'.1 rd (to + i) = T.1 rs (fr + i) := h.2.2.1
theorem CPY.out {rd rs to fr lo n : Nat} {T T' : mT} (h : CPY rd rs to fr lo n T T') : ∀ j, j < to + lo ∨ to + n ≤ j → T'.1 rd j = T.1 rd j := h.2.2.2
theorem CPY.nil {rd rs to fr lo n : Nat} {T : mT} (h : n ≤ lo) : CPY rd rs to fr lo n T T := ⟨rfl, fun _ _ => rfl, fun _ h1 h2 => absurd h2 (by omega), fun _ _ => rfl⟩
theorem CPY.step {rd rs to fr lo n : Nat} {T T' : mT} (h : CPY rd rs to fr (lo + 1) n (ma T rd (to + lo) (T.1 rs (fr + lo))) T') (hlo : lo < n) (hne : rs ≠ rd ∨ to < fr) : CPY rd rs to fr lo n T T' := by
  refine ⟨h.lg, fun r hr => (h.ot r hr).trans (ma_no _ _ _ hr), fun i h1 h2 => ?_, fun j hj => ?_⟩
  · by_cases e : i = lo
    · subst e
      rw [h.out (to + i) (Or.inl (by omega))]
      exact ma_at _ _ _ _
    · rw [h.inn i (by omega) h2]
      refine ma_ne ?_
      rcases hne with z | z
      · exact Or.inl z
      · exact Or.inr (by omega)
  · rw [h.out j (by omega)]
    exact ma_ne (Or.inr (by omega))
theorem tm_keepsAct_L13 : ∀ (N : Nat) (a1 : Int32) (T : mT), 352 ≤ a1.toInt → a1.toInt ≤ 7040 → 7040 - a1.toInt < (N : Int) → wp (fm_keepsAct_L13 N a1 T) (fun w => CPY 11 11 0 352 (a1.toInt.toNat - 352) 6688 T w.2) := by
  intro N
  induction N with
  | zero =>
    intro a1 T h0 h1 hm
    exfalso; omega
  | succ N ih =>
    intro a1 T h0 h1 hm
    rw [fm_keepsAct_L13]
    have l_1 : (1 : Int32).toInt = 1 := by decide
    have l_352 : (352 : Int32).toInt = 352 := by decide
    have l_7040 : (7040 : Int32).toInt = 7040 := by decide
    refine wp_le (fun hc => wp_some (CPY.nil (by omega))) (fun hc => ?_)
    have t1 := tA (a := a1) (b := 1) (by omega) (by omega)
    have t2 := tS (a := a1) (b := 352) (by omega) (by omega)
    refine wp_bif (inb_of (by omega) (by omega)) ?_
    refine wp_letv (fun v4 e4 => ?_)
    refine wp_bif (inb_of (by omega) (by omega)) ?_
    refine wp_letv (fun T5 e5 => ?_)
    have i1 : a1.toNatClampNeg = 352 + (a1.toInt.toNat - 352) := cl_idx (by omega)
    have i2 : (a1 - 352).toNatClampNeg = 0 + (a1.toInt.toNat - 352) := cl_idx (by omega)
    rw [i1] at e4
    rw [i2, e4] at e5
    refine wp_mono (ih (a1 + 1) T5 (by omega) (by omega) (by omega)) (fun w hw => ?_)
    rw [show (a1 + 1).toInt.toNat - 352 = a1.toInt.toNat - 352 + 1 by omega, e5] at hw
    exact hw.step (by omega) (Or.inr (by omega))
theorem t_352 {k a : Int32} (h0 : 0 ≤ k.toInt) (h1 : k.toInt ≤ 19) (h2 : 0 ≤ a.toInt) (h3 : a.toInt < 352) : (((352 : Int32) * k) + a).toInt = 352 * k.toInt + a.toInt := by
  have l : (352 : Int32).toInt = 352 := by decide
  have m := tML (a := 352) (b := k) l (by omega) (by omega)
  have t := tA (a := 352 * k) (b := a) (by omega) (by omega)
  omega
theorem tm_keepsAct_L54 {k : Nat} (hk : k ≤ 19) : ∀ (N : Nat) (a1 : Int32) (T : mT), (T.1 0 25).toInt = (k : Int) → 0 ≤ a1.toInt → a1.toInt ≤ 352 → 352 - a1.toInt < (N : Int) → wp (fm_keepsAct_L54 N a1 T) (fun w => CPY 11 10 (352 * k) 0 a1.toInt.toNat 352 T w.2) := by
  intro N
  induction N with
  | zero =>
    intro a1 T hd h0 h1 hm
    exfalso; omega
  | succ N ih =>
    intro a1 T hd h0 h1 hm
    rw [fm_keepsAct_L54]
    have l_1 : (1 : Int32).toInt = 1 := by decide
    have l_352 : (352 : Int32).toInt = 352 := by decide
    refine wp_le (fun hc => wp_some (CPY.nil (by omega))) (fun hc => ?_)
    have t1 := tA (a := a1) (b := 1) (by omega) (by omega)
    have t2 := t_352 (k := T.1 0 25) (a := a1) (by omega) (by omega) (by omega) (by omega)
    refine wp_bif (inb_of (by omega) (by omega)) ?_
    refine wp_letv (fun v9 e9 => ?_)
    refine wp_bif (inb_of (by omega) (by omega)) ?_
    refine wp_letv (fun T10 e10 => ?_)
    have i1 : a1.toNatClampNeg = 0 + a1.toInt.toNat := cl_idx (by omega)
    have i2 : (352 * (T.1 0 25) + a1).toNatClampNeg = 352 * k + a1.toInt.toNat := cl_idx (by omega)
    rw [i1] at e9
    rw [i2, e9] at e10
    refine wp_mono (ih (a1 + 1) T10 (by rw [e10, ma_ne (Or.inl (by decide))]; exact hd) (by omega) (by omega) (by omega)) (fun w hw => ?_)
    rw [show (a1 + 1).toInt.toNat = a1.toInt.toNat + 1 by omega, e10] at hw
    exact hw.step (by omega) (Or.inl (by decide))
theorem tm_undo_L21 {k : Nat} (hk : k ≤ 19) : ∀ (N : Nat) (a1 : Int32) (T : mT), (T.1 0 25).toInt = (k : Int) → 0 ≤ a1.toInt → a1.toInt ≤ 352 → 352 - a1.toInt < (N : Int) → wp (fm_undo_L21 N a1 T) (fun w => CPY 10 11 0 (352 * k) a1.toInt.toNat 352 T w.2) := by
  intro N
  induction N with
  | zero =>
    intro a1 T hd h0 h1 hm
    exfalso; omega
  | succ N ih =>
    intro a1 T hd h0 h1 hm
    rw [fm_undo_L21]
    have l_1 : (1 : Int32).toInt = 1 := by decide
    have l_352 : (352 : Int32).toInt = 352 := by decide
    refine wp_le (fun hc => wp_some (CPY.nil (by omega))) (fun hc => ?_)
    have t1 := tA (a := a1) (b := 1) (by omega) (by omega)
    have t2 := t_352 (k := T.1 0 25) (a := a1) (by omega) (by omega) (by omega) (by omega)
    refine wp_bif (inb_of (by omega) (by omega)) ?_
    refine wp_letv (fun v4 e4 => ?_)
    refine wp_bif (inb_of (by omega) (by omega)) ?_
    refine wp_letv (fun T5 e5 => ?_)
    have i1 : a1.toNatClampNeg = 0 + a1.toInt.toNat := cl_idx (by omega)
    have i2 : (352 * (T.1 0 25) + a1).toNatClampNeg = 352 * k + a1.toInt.toNat := cl_idx (by omega)
    rw [i2] at e4
    rw [i1, e4] at e5
    refine wp_mono (ih (a1 + 1) T5 (by rw [e5, ma_ne (Or.inl (by decide))]; exact hd) (by omega) (by omega) (by omega)) (fun w hw => ?_)
    rw [show (a1 + 1).toInt.toNat = a1.toInt.toNat + 1 by omega, e5] at hw
    exact hw.step (by omega) (Or.inl (by decide))
/-- ranges are kept by a copy between rows of the same kind -/
theorem IM_cpyP {P : Nat → Nat → Option Int} {rd rs to fr lo n : Nat} {T T' : mT} (hI : IM P T) (h : CPY rd rs to fr lo n T T') (hp : ∀ j v, P rd j = some v → (T'.1 rd j).toInt = v) (hr : ∀ i, lo ≤ i → i < n → rgM rd (to + i) = rgM rs (fr + i)) : IM P T' := by
  refine ⟨fun r j => ?_, fun r j v hv => ?_⟩
  · by_cases e : r = rd
    · subst e
      by_cases z : j < to + lo ∨ to + n ≤ j
      · rw [h.out j z]
        exact hI.1 r j
      · have ej : j = to + (j - to) := by omega
        rw [ej, h.inn (j - to) (by omega) (by omega), hr (j - to) (by omega) (by omega)]
        exact hI.1 rs _
    · rw [h.ot r e]
      exact hI.1 r j
  · obtain ⟨h1, h2⟩ := hI.2 r j v hv
    refine ⟨h1, ?_⟩
    by_cases e : r = rd
    · subst e
      exact hp j v hv
    · rw [h.ot r e]
      exact h2
theorem IM_cpy {P : Nat → Nat → Option Int} {rd rs to fr lo n : Nat} {T T' : mT} (hI : IM P T) (h : CPY rd rs to fr lo n T T') (hp : ∀ j, pinM rd j = false) (hr : ∀ i, lo ≤ i → i < n → rgM rd (to + i) = rgM rs (fr + i)) : IM P T' := IM_cpyP hI h (fun j v hv => by
  have z := (hI.2 rd j v hv).1
  rw [hp j] at z
  cases z) hr
theorem bk_cpy {f g : Nat → Int32} {a b : Nat} (h : ∀ i, i < 352 → g (b + i) = f (a + i)) (h40 : (f (a + 5)).toInt ≤ 40) (hb : bk f a) : bk g b := by
  refine ⟨?_, fun t ht => ?_⟩
  · have e0 := h 0 (by decide)
    rw [Nat.add_zero, Nat.add_zero] at e0
    rw [e0, h 1 (by decide)]
    exact hb.1
  · rw [h 5 (by decide)] at ht
    rw [h (112 + 6 * t + 5) (by omega)]
    exact hb.2 t ht
theorem bkh_cpy {f g : Nat → Int32} {a b : Nat} (h : ∀ i, i < 352 → g (b + i) = f (a + i)) (h40 : (f (a + 5)).toInt ≤ 40) (hb : bkh f a) : bkh g b := ⟨bk_cpy h h40 hb.1, by rw [h 2 (by decide)]; exact hb.2⟩
def HrOk (T : mT) : Prop := (T.1 10 2).toInt ≤ 9999
