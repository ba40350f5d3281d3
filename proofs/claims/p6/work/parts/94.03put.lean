/-! ===== the reference's reader: a sign of a rule's text is put ===== -/
theorem hg_congr {f g : Nat → Int32} {a : Nat} : ∀ (m : Nat), (∀ n, n < m → g (a + n) = f (a + n)) → hg g a m = hg f a m := by
  intro m
  induction m with
  | zero => intro _; rfl
  | succ m ih =>
    intro h
    show (hg g a m).bind (stepH (g (a + m))) = (hg f a m).bind (stepH (f (a + m)))
    rw [ih (fun n hn => h n (by omega)), h m (by omega)]
/-- what reading a rule's text leaves: row 2 below its length, row 3 but its own, all but rows 0, 2, 3, 7 -/
def Ex (t : Nat) (T w : mT) : Prop := w.2 = T.2 ∧ (∀ r j, r ≠ 2 → r ≠ 7 → (r ≠ 3 ∨ j ≠ t) → (r ≠ 0 ∨ (j ≠ 8 ∧ j ≠ 9 ∧ j ≠ 10 ∧ j ≠ 12 ∧ j ≠ 13 ∧ j ≠ 16)) → w.1 r j = T.1 r j) ∧ (∀ j : Nat, (j : Int) < 400 * (t : Int) + (T.1 3 t).toInt → w.1 2 j = T.1 2 j) ∧ (T.1 3 t).toInt ≤ (w.1 3 t).toInt
theorem Ex.rfl' {t : Nat} {T : mT} : Ex t T T := ⟨rfl, fun _ _ _ _ _ _ => rfl, fun _ _ => rfl, Int.le_refl _⟩
theorem Ex.trans {t : Nat} {A B C : mT} (h : Ex t A B) (g : Ex t B C) : Ex t A C := ⟨g.1.trans h.1, fun r j a b c d => (g.2.1 r j a b c d).trans (h.2.1 r j a b c d), fun j hj => (g.2.2.1 j (by have := h.2.2.2; omega)).trans (h.2.2.1 j hj), Int.le_trans h.2.2.2 g.2.2.2⟩
theorem Ex.ofT {t : Nat} {A B : mT} (h : Tk A B) : Ex t A B := ⟨h.1, fun r j _ _ _ d => h.2 r j (by omega), fun j _ => h.2 2 j (Or.inl (by decide)), by rw [h.2 3 t (Or.inl (by decide))]; exact Int.le_refl _⟩
theorem Ex.z {t : Nat} {A : mT} {i : Nat} {v : Int32} (hi : i = 8 ∨ i = 9 ∨ i = 10 ∨ i = 12 ∨ i = 13 ∨ i = 16) : Ex t A (mz A i v) := ⟨rfl, fun r j _ _ _ d => mz_ne (by omega), fun j _ => mz_ne (Or.inl (by decide)), by rw [mz_ne (Or.inl (by decide))]; exact Int.le_refl _⟩
theorem Ex.r7 {t : Nat} {A : mT} {i : Nat} {v : Int32} : Ex t A (ma A 7 i v) := ⟨rfl, fun r j _ b _ _ => ma_ne (Or.inl b), fun j _ => ma_ne (Or.inl (by decide)), by rw [ma_ne (Or.inl (by decide))]; exact Int.le_refl _⟩
theorem IQ_2 {P : Nat → Nat → Option Int} {T : mT} {i : Nat} {v : Int32} (hI : IQ P T) (hi : 400 * (T.1 0 2).toInt ≤ (i : Int)) : IQ P (ma T 2 i v) := by
  have e : ∀ {r : Nat}, r ≠ 2 → (ma T 2 i v).1 r = T.1 r := fun hr => ma_no T i v hr
  have sgk : ∀ {t' : Nat} {a c : Int}, (t' : Int) < (T.1 0 2).toInt → sg (T.1 2) (400 * t') a c → sg ((ma T 2 i v).1 2) (400 * t') a c := by
    intro t' a c ht h
    obtain ⟨h1, h2, h3, h4⟩ := h
    refine ⟨h1, h2, h3, ?_⟩
    rw [hg_congr (f := T.1 2) _ (fun n hn => ma_ne (Or.inr (by omega)))]
    exact h4
  refine ⟨IM_ma hI.1 (bnd v) (no_pinM hI.1 rfl), ?_, ?_, ?_⟩
  · unfold Blks
    rw [e (r := 10) (by decide), e (r := 11) (by decide), e (r := 15) (by decide)]
    exact hI.2.1
  · intro t' c ht hc
    rw [e (r := 0) (by decide)] at ht
    rw [e (r := 5) (by decide)] at hc
    have h := hI.2.2.1 t' c ht hc
    unfold ClOk at h ⊢
    rw [e (r := 4) (by decide)]
    exact ⟨sgk ht h.1, fun z => sgk ht (h.2 z)⟩
  · unfold ForceOk
    rw [e (r := 0) (by decide), e (r := 16) (by decide), e (r := 18) (by decide), e (r := 10) (by decide), e (r := 11) (by decide)]
    exact hI.2.2.2
def Rd (P : Nat → Nat → Option Int) (t st h : Nat) (sl : Int) (T : mT) : Prop := IQ P T ∧ (T.1 0 8).toInt ≤ (T.1 0 1).toInt ∧ (T.1 0 11).toInt = (t : Int) ∧ t < 6 ∧ (T.1 0 2).toInt ≤ (t : Int) ∧ (T.1 3 t).toInt + sl ≤ (T.1 0 8).toInt ∧ (st : Int) ≤ (T.1 3 t).toInt ∧ hg (T.1 2) (400 * t + st) ((T.1 3 t).toInt.toNat - st) = some h ∧ (h : Int) ≤ (T.1 0 12).toInt
def Bad (P : Nat → Nat → Option Int) (t : Nat) (T w : mT) : Prop := IQ P w ∧ (w.1 0 8).toInt ≤ (w.1 0 1).toInt ∧ Ex t T w
theorem Rd.bad {P : Nat → Nat → Option Int} {t st h : Nat} {sl : Int} {T w : mT} (hr : Rd P t st h sl w) (he : Ex t T w) : Bad P t T w := ⟨hr.1, hr.2.1, he⟩
theorem Bad.pre {P : Nat → Nat → Option Int} {t : Nat} {A B C : mT} (h : Ex t A B) (g : Bad P t B C) : Bad P t A C := ⟨g.1, g.2.1, h.trans g.2.2⟩
theorem Rd.tok {P : Nat → Nat → Option Int} {t st h : Nat} {sl sl' : Int} {T w : mT} (hr : Rd P t st h sl T) (k : Tok P T w) (hs : sl' ≤ sl + ((w.1 0 8).toInt - (T.1 0 8).toInt)) : Rd P t st h sl' w := by
  obtain ⟨r1, r2, r3, r4, r5, r6, r7, r8, r9⟩ := hr
  have e3 : w.1 3 t = T.1 3 t := k.2.1.2 3 t (Or.inl (by decide))
  have e2 : w.1 2 = T.1 2 := funext (fun j => k.2.1.2 2 j (Or.inl (by decide)))
  have z : ∀ j, j ≠ 8 ∧ j ≠ 9 ∧ j ≠ 10 → w.1 0 j = T.1 0 j := fun j hj => k.2.1.2 0 j (Or.inr hj)
  unfold Rd
  rw [e3, e2, z 11 (by decide), z 2 (by decide), z 12 (by decide)]
  exact ⟨k.1, k.2.2.2, r3, r4, r5, by omega, r7, r8, r9⟩
/-- row 7 and all of row 0 stand -/
def Z7 (T w : mT) : Prop := w.1 0 = T.1 0 ∧ w.1 7 = T.1 7
theorem tm_puts {P : Nat → Nat → Option Int} {t st h h' : Nat} {sl : Int} {p0 p1 : Int32} {T : mT} (hr : Rd P t st h sl T) (hsl : 1 ≤ sl) (hs : stepH (p0 + 16 * p1) h = some h') (hm : (h' : Int) ≤ (T.1 0 12).toInt) : wp (fm_puts p0 p1 T) (fun w => Rd P t st h' (sl - 1) w ∧ Ex t T w ∧ Z7 T w) := by
  obtain ⟨r1, r2, r3, r4, r5, r6, r7, r8, r9⟩ := hr
  unfold fm_puts
  have l_1 : (1 : Int32).toInt = 1 := by decide
  have c1 := im_0_1 r1
  have c16 := im_0_16 r1
  have c3 := im_r3 r1 t
  have i11 : (T.1 0 11).toNatClampNeg = t := cl_idx r3
  obtain ⟨n, hn⟩ : ∃ n : Nat, (T.1 3 t).toInt = (n : Int) := ⟨(T.1 3 t).toInt.toNat, by omega⟩
  refine wp_bif (inb_of (by omega) (by omega)) ?_
  refine wp_letv (fun v1 e1 => ?_)
  rw [i11] at e1
  have t1 := t_400 (k1 := T.1 0 11) (a4 := v1) (by omega) (by omega) (by rw [e1]; omega) (by rw [e1]; omega)
  have ev1 : v1.toInt = (n : Int) := by rw [e1]; exact hn
  have i2 : (400 * (T.1 0 11) + v1).toNatClampNeg = 400 * t + n := cl_idx (by omega)
  refine wp_bif (inb_of (by omega) (by omega)) ?_
  refine wp_letv (fun T2 e2 => ?_)
  rw [i2] at e2
  have j2 : IQ P T2 := by rw [e2]; exact IQ_2 r1 (by omega)
  have z2 : ∀ r, r ≠ 2 → T2.1 r = T.1 r := fun r hr => by rw [e2]; exact ma_no _ _ _ hr
  refine wp_bif (inb_of (by rw [z2 0 (by decide)]; omega) (by rw [z2 0 (by decide)]; omega)) ?_
  refine wp_letv (fun v3 e3 => ?_)
  rw [z2 0 (by decide), i11, z2 3 (by decide), ← e1] at e3
  refine wp_bif (inb_of (by rw [z2 0 (by decide)]; omega) (by rw [z2 0 (by decide)]; omega)) ?_
  refine wp_letv (fun T4 e4 => wp_some ?_)
  rw [z2 0 (by decide), i11, e3] at e4
  have t4 := tA (a := v1) (b := 1) (by omega) (by omega)
  have j4 : IQ P T4 := by
    rw [e4]
    exact IQ_ma j2 (show (0 : Int) ≤ (v1 + 1).toInt ∧ (v1 + 1).toInt ≤ 400 from ⟨by omega, by omega⟩) (no_pinM j2.1 rfl) (by decide) (by decide) (by decide) (by decide) (by decide) (by decide) (by decide) (by decide)
  have z4 : ∀ r, r ≠ 2 → r ≠ 3 → T4.1 r = T.1 r := fun r h2 h3 => by rw [e4, ma_no _ _ _ h3]; exact z2 r h2
  have f2 : T4.1 2 = T2.1 2 := by rw [e4]; exact ma_no _ _ _ (by decide)
  have f3 : (T4.1 3 t).toInt = (n : Int) + 1 := by rw [e4, ma_at]; omega
  have low : ∀ j : Nat, j ≠ 400 * t + n → T4.1 2 j = T.1 2 j := fun j hj => by rw [f2, e2]; exact ma_ne (Or.inr hj)
  have top : T4.1 2 (400 * t + n) = p0 + 16 * p1 := by rw [f2, e2]; exact ma_at _ _ _ _
  refine ⟨?_, ⟨?_, ?_, ?_, ?_⟩, z4 0 (by decide) (by decide), z4 7 (by decide) (by decide)⟩
  · unfold Rd
    rw [z4 0 (by decide) (by decide), f3]
    refine ⟨j4, r2, r3, r4, r5, by omega, by omega, ?_, hm⟩
    rw [show ((n : Int) + 1).toNat - st = (n - st) + 1 by omega]
    show (hg (T4.1 2) (400 * t + st) (n - st)).bind (stepH (T4.1 2 (400 * t + st + (n - st)))) = some h'
    rw [hg_congr (f := T.1 2) _ (fun m hm => low _ (by omega)), show 400 * t + st + (n - st) = 400 * t + n by omega, top]
    rw [hn, show ((n : Int)).toNat = n by omega] at r8
    rw [r8]
    exact hs
  · rw [e4, e2]
    rfl
  · intro r j a b c d
    by_cases e : r = 3
    · subst e
      rw [e4, ma_ne (Or.inr (by omega)), z2 3 (by decide)]
    · rw [z4 r a e]
  · intro j hj
    exact low j (by omega)
  · rw [f3]
    omega
