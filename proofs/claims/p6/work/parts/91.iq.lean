/-! ===== what is told of the reference's cells: ranges, cells held to a number, blocks, rules ===== -/
def rgS (j : Nat) : Int × Int :=
  if j = 0 then (0, 6) else if j = 1 then (0, 8) else if j = 2 then (0, 10059) else if j = 3 then (0, 7) else if j = 4 then (0, 1) else if j = 5 then (0, 40)
  else if 8 ≤ j ∧ j < 40 ∧ j % 4 = 0 then (0, 63)
  else if 112 ≤ j ∧ j < 352 then (if (j - 112) % 6 ≤ 2 then (0, 7) else if (j - 112) % 6 = 3 then (0, 63) else if (j - 112) % 6 = 5 then (-1, 39) else fullI)
  else if j = 408 then (0, 10) else if j = 409 then (0, 8) else fullI
def rg0 (j : Nat) : Int × Int := match j with
  | 1 => (0, 400)
  | 2 => (0, 6)
  | 8 => (0, 400)
  | 11 => (0, 6)
  | 12 => (0, 60)
  | 16 => (0, 400)
  | 17 => (0, 7)
  | 19 => (0, 64)
  | 22 => (-1, 5)
  | 23 => (0, 2147483647)
  | 25 => (0, 20)
  | _ => fullI
def rgM (r j : Nat) : Int × Int := match r with
  | 0 => rg0 j
  | 3 => (0, 400)
  | 5 => (0, 12)
  | 6 => if j < 112 then rgS j else fullI
  | 10 => rgS j
  | 11 => rgS (j % 352)
  | 14 => rgS j
  | 15 => rgS (j % 410)
  | 16 => (-1, 5)
  | 17 => (0, 2147483647)
  | 18 => (0, 1)
  | _ => fullI
/-- cells of what is said that no act writes -/
def stJ (j : Nat) : Bool := decide (j < 2 ∨ (8 ≤ j ∧ j < 40 ∧ j % 4 = 0) ∨ (40 ≤ j ∧ j < 112) ∨ (352 ≤ j ∧ j < 410))
theorem stJ_no {j : Nat} (h : ¬ (j < 2 ∨ (8 ≤ j ∧ j < 40 ∧ j % 4 = 0) ∨ (40 ≤ j ∧ j < 112) ∨ (352 ≤ j ∧ j < 410))) : stJ j = false := decide_eq_false h
theorem stJ_yes {j : Nat} (h : stJ j = true) : j < 2 ∨ (8 ≤ j ∧ j < 40 ∧ j % 4 = 0) ∨ (40 ≤ j ∧ j < 112) ∨ (352 ≤ j ∧ j < 410) := of_decide_eq_true h
/-- the blocks that are kept have the island of row 10 -/
def HB (f g : Nat → Int32) (u : Int) : Prop := ∀ k j : Nat, (k : Int) < u → j < 352 → stJ j = true → g (352 * k + j) = f j
def pinM (r j : Nat) : Bool := match r with
  | 0 => Nat.beq j 1 || Nat.beq j 2 || Nat.beq j 22 || Nat.beq j 23
  | 1 => true
  | 10 => stJ j
  | 15 => true
  | 16 => true
  | 17 => true
  | 18 => true
  | _ => false
def IM (P : Nat → Nat → Option Int) (T : mT) : Prop := (∀ r j, (rgM r j).1 ≤ (T.1 r j).toInt ∧ (T.1 r j).toInt ≤ (rgM r j).2) ∧ ∀ r j v, P r j = some v → pinM r j = true ∧ (T.1 r j).toInt = v
/-- a block of what is said: an island has people; a telling comes from an earlier one -/
def bk (f : Nat → Int32) (a : Nat) : Prop := (0 < (f a).toInt → 0 < (f (a + 1)).toInt) ∧ ∀ t : Nat, (t : Int) < (f (a + 5)).toInt → (f (a + (112 + 6 * t + 5))).toInt < t
def bkh (f : Nat → Int32) (a : Nat) : Prop := bk f a ∧ (f (a + 2)).toInt ≤ 9999
def Blks (T : mT) : Prop := bk (T.1 10) 0 ∧ (∀ k, k < 20 → bkh (T.1 11) (352 * k)) ∧ ∀ k, k < 4 → bkh (T.1 15) (410 * k)
/-- the height of the stack behind a sign of a rule's text -/
def stepH (c : Int32) (h : Nat) : Option Nat := if (c &&& 15) = 0 then (if h < 64 then some (h + 1) else none) else if (c &&& 15) = 1 then (if 0 ≤ (c >>> (4 &&& 31)).toInt ∧ (c >>> (4 &&& 31)).toInt < 8 ∧ h < 64 then some (h + 1) else none) else if (c &&& 15) = 11 then (if 1 ≤ h then some h else none) else (if 2 ≤ h then some (h - 1) else none)
def hg (f : Nat → Int32) (a : Nat) : Nat → Option Nat
  | 0 => some 0
  | n + 1 => (hg f a n).bind (stepH (f (a + n)))
def sg (f : Nat → Int32) (a : Nat) (i j : Int) : Prop := 0 ≤ i ∧ i ≤ j ∧ j ≤ 400 ∧ hg f (a + i.toNat) (j.toNat - i.toNat) = some 1
def ClOk (T : mT) (t c : Nat) : Prop := sg (T.1 2) (400 * t) (T.1 4 (60 * t + 5 * c + 1)).toInt (T.1 4 (60 * t + 5 * c + 2)).toInt ∧ (0 ≤ (T.1 4 (60 * t + 5 * c + 3)).toInt → sg (T.1 2) (400 * t) (T.1 4 (60 * t + 5 * c + 3)).toInt (T.1 4 (60 * t + 5 * c + 4)).toInt)
def RulesOk (T : mT) : Prop := ∀ t c : Nat, (t : Int) < (T.1 0 2).toInt → (c : Int) < (T.1 5 t).toInt → ClOk T t c
/-- the rules that are in force are there; and the number that is drawn from -/
def ForceOk (T : mT) : Prop := (T.1 0 22).toInt < (T.1 0 2).toInt ∧ (∀ k, k < 4 → (T.1 18 k).toInt ≠ 0 → (T.1 16 k).toInt < (T.1 0 2).toInt) ∧ 0 ≤ (T.2 0 29).toInt ∧ (T.2 0 29).toInt ≤ 2147483647 ∧ HB (T.1 10) (T.1 11) (T.1 0 25).toInt
def IQ (P : Nat → Nat → Option Int) (T : mT) : Prop := IM P T ∧ Blks T ∧ RulesOk T ∧ ForceOk T
section IQS
variable {P : Nat → Nat → Option Int} {T : mT}
theorem ma_ne {T : mT} {q i q' i' : Nat} {v : Int32} (h : q' ≠ q ∨ i' ≠ i) : (ma T q i v).1 q' i' = T.1 q' i' := by
  show va_up T.1 q (upd (T.1 q) i v) q' i' = _
  by_cases e : q' = q
  · subst e
    rw [va_up_self]
    exact if_neg (h.elim (fun z => absurd rfl z) id)
  · rw [va_up_ne _ _ e]
theorem mz_ne {T : mT} {i q' i' : Nat} {v : Int32} (h : q' ≠ 0 ∨ i' ≠ i) : (mz T i v).1 q' i' = T.1 q' i' := ma_ne (T := T) (q := 0) (v := v) h
theorem mz_no (T : mT) {q' : Nat} (i : Nat) (v : Int32) (h : q' ≠ 0) : (mz T i v).1 q' = T.1 q' := va_up_ne _ _ h
theorem IM_ma (hI : IM P T) {q i : Nat} {v : Int32} (h : (rgM q i).1 ≤ v.toInt ∧ v.toInt ≤ (rgM q i).2) (hp : P q i = none) : IM P (ma T q i v) := by
  refine ⟨fun q' j => ?_, fun q' j u hu => ?_⟩
  · by_cases e : q' = q ∧ j = i
    · obtain ⟨rfl, rfl⟩ := e
      rw [ma_at]
      exact h
    · rw [ma_ne (by by_cases z : q' = q; exact Or.inr (fun w => e ⟨z, w⟩); exact Or.inl z)]
      exact hI.1 q' j
  · have e : ¬ (q' = q ∧ j = i) := by
      rintro ⟨rfl, rfl⟩
      rw [hp] at hu
      cases hu
    obtain ⟨h1, h2⟩ := hI.2 q' j u hu
    refine ⟨h1, ?_⟩
    rw [ma_ne (by by_cases z : q' = q; exact Or.inr (fun w => e ⟨z, w⟩); exact Or.inl z)]
    exact h2
theorem no_pinM (hI : IM P T) {q i : Nat} (h : pinM q i = false) : P q i = none := by
  cases e : P q i with
  | none => rfl
  | some v => exact absurd (hI.2 q i v e).1 (by rw [h]; decide)
theorem RulesOk_eq {T T' : mT} (h2 : T'.1 2 = T.1 2) (h4 : T'.1 4 = T.1 4) (h5 : T'.1 5 = T.1 5) (h0 : T'.1 0 2 = T.1 0 2) (h : RulesOk T) : RulesOk T' := by
  intro t c ht hc
  rw [h0] at ht
  rw [h5] at hc
  have := h t c ht hc
  unfold ClOk at this ⊢
  rw [h2, h4]
  exact this
theorem IQ_ma (hI : IQ P T) {q i : Nat} {v : Int32} (h : (rgM q i).1 ≤ v.toInt ∧ v.toInt ≤ (rgM q i).2) (hp : P q i = none) (h0 : q ≠ 0) (h2 : q ≠ 2) (h4 : q ≠ 4) (h5 : q ≠ 5) (h10 : q ≠ 10) (h11 : q ≠ 11) (h15 : q ≠ 15) (h16 : q ≠ 16 ∧ q ≠ 18) : IQ P (ma T q i v) := by
  have e : ∀ {r : Nat}, q ≠ r → (ma T q i v).1 r = T.1 r := fun hr => ma_no T i v (Ne.symm hr)
  refine ⟨IM_ma hI.1 h hp, ?_, RulesOk_eq (e h2) (e h4) (e h5) (by rw [e h0]) hI.2.2.1, ?_⟩
  · unfold Blks
    rw [e h10, e h11, e h15]
    exact hI.2.1
  · unfold ForceOk
    rw [e h0, e h16.1, e h16.2, e h10, e h11]
    exact hI.2.2.2
theorem IQ_mz (hI : IQ P T) {i : Nat} {v : Int32} (h : (rg0 i).1 ≤ v.toInt ∧ v.toInt ≤ (rg0 i).2) (hp : P 0 i = none) (h2 : i ≠ 2) (h22 : i ≠ 22 ∧ i ≠ 25) : IQ P (mz T i v) := by
  have e : ∀ {r : Nat}, r ≠ 0 → (mz T i v).1 r = T.1 r := fun hr => mz_no T i v hr
  have e2 : (mz T i v).1 0 2 = T.1 0 2 := mz_ne (Or.inr (Ne.symm h2))
  refine ⟨IM_ma (q := 0) hI.1 h hp, ?_, RulesOk_eq (e (by decide)) (e (by decide)) (e (by decide)) e2 hI.2.2.1, ?_⟩
  · unfold Blks
    rw [e (r := 10) (by decide), e (r := 11) (by decide), e (r := 15) (by decide)]
    exact hI.2.1
  · unfold ForceOk
    rw [e2, mz_ne (Or.inr (Ne.symm h22.1)), mz_ne (Or.inr (Ne.symm h22.2)), e (r := 16) (by decide), e (r := 18) (by decide), e (r := 10) (by decide), e (r := 11) (by decide)]
    exact hI.2.2.2
theorem iq_l (hI : IQ P T) {q i : Nat} {v : Int64} (hq : 0 ≠ q) : IQ P (mb T q i v) := by
  refine ⟨hI.1, hI.2.1, hI.2.2.1, hI.2.2.2.1, hI.2.2.2.2.1, ?_⟩
  show 0 ≤ (va_up T.2 q (vp_updL (T.2 q) i v) 0 29).toInt ∧ (va_up T.2 q (vp_updL (T.2 q) i v) 0 29).toInt ≤ 2147483647 ∧ HB (T.1 10) (T.1 11) (T.1 0 25).toInt
  rw [va_up_ne _ _ hq]
  exact hI.2.2.2.2.2
theorem mw_at (T : mT) (i : Nat) (v : Int64) : (mw T i v).2 0 i = v := by
  show va_up T.2 0 (vp_updL (T.2 0) i v) 0 i = v
  rw [va_up_self]
  exact if_pos rfl
theorem iq_lw (hI : IQ P T) {v : Int64} (h1 : 0 ≤ v.toInt) (h2 : v.toInt ≤ 2147483647) : IQ P (mw T 29 v) := by
  refine ⟨hI.1, hI.2.1, hI.2.2.1, hI.2.2.2.1, hI.2.2.2.2.1, ?_⟩
  rw [mw_at]
  exact ⟨h1, h2, hI.2.2.2.2.2.2.2⟩
theorem im_29 (hI : IQ P T) : 0 ≤ (T.2 0 29).toInt ∧ (T.2 0 29).toInt ≤ 2147483647 := ⟨hI.2.2.2.2.2.1, hI.2.2.2.2.2.2.1⟩
theorem im_hb (hI : IQ P T) : HB (T.1 10) (T.1 11) (T.1 0 25).toInt := hI.2.2.2.2.2.2.2
theorem iq_f (hI : IQ P T) {q i : Nat} {v : Int32} (h : q = 12 ∨ q = 13) : IQ P (ma T q i v) := by
  rcases h with rfl | rfl
  · exact IQ_ma hI (bnd v) (no_pinM hI.1 rfl) (by decide) (by decide) (by decide) (by decide) (by decide) (by decide) (by decide) (by decide)
  · exact IQ_ma hI (bnd v) (no_pinM hI.1 rfl) (by decide) (by decide) (by decide) (by decide) (by decide) (by decide) (by decide) (by decide)
/-- what is said is written at a place that no block's word speaks of -/
theorem IQ_10w (hI : IQ P T) {i : Nat} {v : Int32} (hp : P 10 i = none) (hs : stJ i = false ∨ 352 ≤ i) (h : (rgS i).1 ≤ v.toInt ∧ v.toInt ≤ (rgS i).2) (hb : bk (upd (T.1 10) i v) 0) : IQ P (ma T 10 i v) := by
  have e : ∀ {r : Nat}, r ≠ 10 → (ma T 10 i v).1 r = T.1 r := fun hr => ma_no T i v hr
  refine ⟨IM_ma hI.1 h hp, ?_, RulesOk_eq (e (by decide)) (e (by decide)) (e (by decide)) (by rw [e (by decide)]) hI.2.2.1, ?_⟩
  · unfold Blks
    rw [e (r := 11) (by decide), e (r := 15) (by decide)]
    refine ⟨?_, hI.2.1.2⟩
    show bk (va_up T.1 10 (upd (T.1 10) i v) 10) 0
    rw [va_up_self]
    exact hb
  · unfold ForceOk
    rw [e (r := 0) (by decide), e (r := 16) (by decide), e (r := 18) (by decide), e (r := 11) (by decide)]
    refine ⟨hI.2.2.2.1, hI.2.2.2.2.1, hI.2.2.2.2.2.1, hI.2.2.2.2.2.2.1, fun k j hk hj hst => ?_⟩
    have ne : j ≠ i := by
      intro z
      subst z
      rcases hs with y | y
      · rw [y] at hst; cases hst
      · omega
    rw [ma_ne (Or.inr ne)]
    exact im_hb hI k j hk hj hst
theorem IQ_10 (hI : IQ P T) {i : Nat} {v : Int32} (hs : stJ i = false) (h : (rgS i).1 ≤ v.toInt ∧ v.toInt ≤ (rgS i).2) (hb : bk (upd (T.1 10) i v) 0) : IQ P (ma T 10 i v) := IQ_10w hI (no_pinM hI.1 hs) (Or.inl hs) h hb
theorem bk_w {f : Nat → Int32} {i : Nat} {v : Int32} (h : bk f 0) (h40 : (f 5).toInt ≤ 40) (h0 : i ≠ 0) (h1 : i ≠ 1) (h5 : i ≠ 5) (ht : i < 112 ∨ 352 ≤ i ∨ (i - 112) % 6 ≠ 5) : bk (upd f i v) 0 := by
  have e : ∀ j, j ≠ i → upd f i v j = f j := fun j hj => if_neg hj
  refine ⟨?_, fun t hlt => ?_⟩
  · rw [e 0 (Ne.symm h0), e (0 + 1) (Ne.symm h1)]
    exact h.1
  · rw [e (0 + 5) (Ne.symm h5)] at hlt
    have h40' : (f (0 + 5)).toInt ≤ 40 := h40
    by_cases hj : 0 + (112 + 6 * t + 5) = i
    · exfalso
      omega
    · rw [e _ hj]
      exact h.2 t hlt
def freeI (i : Nat) : Prop := 8 ≤ i ∧ i < 40 ∧ i % 4 ≠ 0
def wideI (i : Nat) : Prop := (8 ≤ i ∧ i < 112 ∧ (i % 4 ≠ 0 ∨ 40 ≤ i)) ∨ (352 ≤ i ∧ i < 408)
theorem rgS_free {i : Nat} (h : wideI i) : rgS i = fullI := by
  unfold wideI at h
  unfold rgS
  rw [if_neg (by omega), if_neg (by omega), if_neg (by omega), if_neg (by omega), if_neg (by omega), if_neg (by omega), if_neg (by omega), if_neg (by omega), if_neg (by omega), if_neg (by omega)]
theorem IQ.le40 (hI : IQ P T) : (T.1 10 5).toInt ≤ 40 := (hI.1.1 10 5).2
theorem iq_10f (hI : IQ P T) {i : Nat} {v : Int32} (h : freeI i) : IQ P (ma T 10 i v) := by
  have h2 := h
  unfold freeI at h2
  exact IQ_10 hI (stJ_no (by omega)) (by rw [rgS_free (by unfold wideI; omega)]; exact bnd v) (bk_w hI.2.1.1 hI.le40 (by omega) (by omega) (by omega) (by omega))
theorem iq_10_2 (hI : IQ P T) {v : Int32} (h1 : 0 ≤ v.toInt) (h2 : v.toInt ≤ 10059) : IQ P (ma T 10 (2 : Int32).toNatClampNeg v) := IQ_10 (i := 2) hI rfl (show (0 : Int) ≤ v.toInt ∧ v.toInt ≤ 10059 from ⟨h1, h2⟩) (bk_w hI.2.1.1 hI.le40 (by decide) (by decide) (by decide) (by decide))
theorem iq_10_3 (hI : IQ P T) {v : Int32} (h1 : 0 ≤ v.toInt) (h2 : v.toInt ≤ 7) : IQ P (ma T 10 (3 : Int32).toNatClampNeg v) := IQ_10 (i := 3) hI rfl (show (0 : Int) ≤ v.toInt ∧ v.toInt ≤ 7 from ⟨h1, h2⟩) (bk_w hI.2.1.1 hI.le40 (by decide) (by decide) (by decide) (by decide))
theorem iq_10_4 (hI : IQ P T) {v : Int32} (h1 : 0 ≤ v.toInt) (h2 : v.toInt ≤ 1) : IQ P (ma T 10 (4 : Int32).toNatClampNeg v) := IQ_10 (i := 4) hI rfl (show (0 : Int) ≤ v.toInt ∧ v.toInt ≤ 1 from ⟨h1, h2⟩) (bk_w hI.2.1.1 hI.le40 (by decide) (by decide) (by decide) (by decide))
theorem iq_10_408 (hI : IQ P T) {v : Int32} (hp : P 10 408 = none) (h1 : 0 ≤ v.toInt) (h2 : v.toInt ≤ 10) : IQ P (ma T 10 (408 : Int32).toNatClampNeg v) := IQ_10w (i := 408) hI hp (Or.inr (by decide)) (show (0 : Int) ≤ v.toInt ∧ v.toInt ≤ 10 from ⟨h1, h2⟩) (bk_w hI.2.1.1 hI.le40 (by decide) (by decide) (by decide) (by decide))
theorem iq_10_409 (hI : IQ P T) {v : Int32} (hp : P 10 409 = none) (h1 : 0 ≤ v.toInt) (h2 : v.toInt ≤ 8) : IQ P (ma T 10 (409 : Int32).toNatClampNeg v) := IQ_10w (i := 409) hI hp (Or.inr (by decide)) (show (0 : Int) ≤ v.toInt ∧ v.toInt ≤ 8 from ⟨h1, h2⟩) (bk_w hI.2.1.1 hI.le40 (by decide) (by decide) (by decide) (by decide))
theorem im_0_1 (hI : IQ P T) : 0 ≤ (T.1 0 1).toInt ∧ (T.1 0 1).toInt ≤ 400 := hI.1.1 0 1
theorem im_0_2 (hI : IQ P T) : 0 ≤ (T.1 0 2).toInt ∧ (T.1 0 2).toInt ≤ 6 := hI.1.1 0 2
theorem im_0_8 (hI : IQ P T) : 0 ≤ (T.1 0 8).toInt ∧ (T.1 0 8).toInt ≤ 400 := hI.1.1 0 8
theorem im_0_11 (hI : IQ P T) : 0 ≤ (T.1 0 11).toInt ∧ (T.1 0 11).toInt ≤ 6 := hI.1.1 0 11
theorem im_0_12 (hI : IQ P T) : 0 ≤ (T.1 0 12).toInt ∧ (T.1 0 12).toInt ≤ 60 := hI.1.1 0 12
theorem im_0_16 (hI : IQ P T) : 0 ≤ (T.1 0 16).toInt ∧ (T.1 0 16).toInt ≤ 400 := hI.1.1 0 16
theorem im_0_17 (hI : IQ P T) : 0 ≤ (T.1 0 17).toInt ∧ (T.1 0 17).toInt ≤ 7 := hI.1.1 0 17
theorem im_0_19 (hI : IQ P T) : 0 ≤ (T.1 0 19).toInt ∧ (T.1 0 19).toInt ≤ 64 := hI.1.1 0 19
theorem im_0_22 (hI : IQ P T) : -1 ≤ (T.1 0 22).toInt ∧ (T.1 0 22).toInt ≤ 5 := hI.1.1 0 22
theorem im_0_23 (hI : IQ P T) : 0 ≤ (T.1 0 23).toInt ∧ (T.1 0 23).toInt ≤ 2147483647 := hI.1.1 0 23
theorem im_0_25 (hI : IQ P T) : 0 ≤ (T.1 0 25).toInt ∧ (T.1 0 25).toInt ≤ 20 := hI.1.1 0 25
theorem im_10_0 (hI : IQ P T) : 0 ≤ (T.1 10 (0 : Int32).toNatClampNeg).toInt ∧ (T.1 10 (0 : Int32).toNatClampNeg).toInt ≤ 6 := hI.1.1 10 0
theorem im_10_1 (hI : IQ P T) : 0 ≤ (T.1 10 (1 : Int32).toNatClampNeg).toInt ∧ (T.1 10 (1 : Int32).toNatClampNeg).toInt ≤ 8 := hI.1.1 10 1
theorem im_10_2 (hI : IQ P T) : 0 ≤ (T.1 10 (2 : Int32).toNatClampNeg).toInt ∧ (T.1 10 (2 : Int32).toNatClampNeg).toInt ≤ 10059 := hI.1.1 10 2
theorem im_10_3 (hI : IQ P T) : 0 ≤ (T.1 10 (3 : Int32).toNatClampNeg).toInt ∧ (T.1 10 (3 : Int32).toNatClampNeg).toInt ≤ 7 := hI.1.1 10 3
theorem im_10_4 (hI : IQ P T) : 0 ≤ (T.1 10 (4 : Int32).toNatClampNeg).toInt ∧ (T.1 10 (4 : Int32).toNatClampNeg).toInt ≤ 1 := hI.1.1 10 4
theorem im_10_5 (hI : IQ P T) : 0 ≤ (T.1 10 (5 : Int32).toNatClampNeg).toInt ∧ (T.1 10 (5 : Int32).toNatClampNeg).toInt ≤ 40 := hI.1.1 10 5
theorem im_10_408 (hI : IQ P T) : 0 ≤ (T.1 10 (408 : Int32).toNatClampNeg).toInt ∧ (T.1 10 (408 : Int32).toNatClampNeg).toInt ≤ 10 := hI.1.1 10 408
theorem im_10_409 (hI : IQ P T) : 0 ≤ (T.1 10 (409 : Int32).toNatClampNeg).toInt ∧ (T.1 10 (409 : Int32).toNatClampNeg).toInt ≤ 8 := hI.1.1 10 409
theorem im_r3 (hI : IQ P T) (j : Nat) : 0 ≤ (T.1 3 j).toInt ∧ (T.1 3 j).toInt ≤ 400 := hI.1.1 3 j
theorem im_r5 (hI : IQ P T) (j : Nat) : 0 ≤ (T.1 5 j).toInt ∧ (T.1 5 j).toInt ≤ 12 := hI.1.1 5 j
theorem im_r16 (hI : IQ P T) (j : Nat) : -1 ≤ (T.1 16 j).toInt ∧ (T.1 16 j).toInt ≤ 5 := hI.1.1 16 j
theorem im_r17 (hI : IQ P T) (j : Nat) : 0 ≤ (T.1 17 j).toInt ∧ (T.1 17 j).toInt ≤ 2147483647 := hI.1.1 17 j
theorem im_r18 (hI : IQ P T) (j : Nat) : 0 ≤ (T.1 18 j).toInt ∧ (T.1 18 j).toInt ≤ 1 := hI.1.1 18 j
theorem iz_25h (hI : IQ P T) {v : Int32} (h1 : 0 ≤ v.toInt) (h2 : v.toInt ≤ 20) (hh : HB (T.1 10) (T.1 11) v.toInt) : IQ P (mz T 25 v) := by
  have e : ∀ {r : Nat}, r ≠ 0 → (mz T 25 v).1 r = T.1 r := fun hr => mz_no T 25 v hr
  have e2 : (mz T 25 v).1 0 2 = T.1 0 2 := mz_ne (Or.inr (by decide))
  refine ⟨IM_ma (q := 0) hI.1 (show (0 : Int) ≤ v.toInt ∧ v.toInt ≤ 20 from ⟨h1, h2⟩) (no_pinM hI.1 rfl), ?_, RulesOk_eq (e (by decide)) (e (by decide)) (e (by decide)) e2 hI.2.2.1, ?_⟩
  · unfold Blks
    rw [e (r := 10) (by decide), e (r := 11) (by decide), e (r := 15) (by decide)]
    exact hI.2.1
  · unfold ForceOk
    rw [e2, mz_ne (Or.inr (by decide)), mz_at, e (r := 16) (by decide), e (r := 18) (by decide), e (r := 10) (by decide), e (r := 11) (by decide)]
    exact ⟨hI.2.2.2.1, hI.2.2.2.2.1, hI.2.2.2.2.2.1, hI.2.2.2.2.2.2.1, hh⟩
theorem iz_25 (hI : IQ P T) {v : Int32} (h1 : 0 ≤ v.toInt) (h2 : v.toInt ≤ 20) (h3 : v.toInt ≤ (T.1 0 25).toInt) : IQ P (mz T 25 v) := iz_25h hI h1 h2 (fun k j hk hj hs => im_hb hI k j (by omega) hj hs)
theorem iz_19 (hI : IQ P T) {v : Int32} (h1 : 0 ≤ v.toInt) (h2 : v.toInt ≤ 64) : IQ P (mz T 19 v) := IQ_mz hI ⟨h1, h2⟩ (no_pinM hI.1 rfl) (by decide) (by decide)
theorem cl_idx {e : Int32} {n : Nat} (h : e.toInt = (n : Int)) : e.toNatClampNeg = n := by
  have e1 : e.toNatClampNeg = e.toInt.toNat := rfl
  omega
end IQS
