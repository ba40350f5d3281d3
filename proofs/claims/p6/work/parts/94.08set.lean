/-! ===== the reference's reader: what is open, settled, closed ===== -/
theorem wp_and {α : Type} {x : Option α} {A B : α → Prop} (h : wp x A) (g : wp x B) : wp x (fun a => A a ∧ B a) := by
  obtain ⟨a, e, ha⟩ := h
  obtain ⟨b, f, hb⟩ := g
  rw [e] at f
  have z := Option.some.inj f
  subst z
  exact ⟨a, e, ha, hb⟩
/-- a sign that is no blank stands at the place -/
def NSP (T : mT) : Prop := (T.1 0 8).toInt < (T.1 0 1).toInt ∧ ¬ T.1 1 (T.1 0 8).toNatClampNeg = 32
theorem see_L0_nsp {P : Nat → Nat → Option Int} {T : mT} {N : Nat} (hI : IQ P T) (h : NSP T) : fm_see_L0 (N + 1) T = some T := by
  have c1 := im_0_1 hI
  have c8 := im_0_8 hI
  rw [fm_see_L0, if_neg (fun z => absurd (Int32.le_iff_toInt_le.mp z) (by have := h.1; omega)), inb_of (by omega) (by have := h.1; omega)]
  show (if T.1 1 (T.1 0 8).toNatClampNeg = 32 then _ else some T) = some T
  rw [if_neg h.2]
theorem see_nsp {P : Nat → Nat → Option Int} {T : mT} (hI : IQ P T) (h : NSP T) : wp (fm_see T) (fun w => w.2 = T) := by
  have c1 := im_0_1 hI
  have c8 := im_0_8 hI
  unfold fm_see
  rw [show FU = 999999 + 1 from rfl, see_L0_nsp hI h]
  show wp (if (T.1 0 1) ≤ (T.1 0 8) then (some ((-1), T)) else (bif inb (T.1 0 8) 400 then (letv (T.1 1 ((T.1 0 8) : Int32).toNatClampNeg) fun v7 => some (v7 &&& 255, T)) else none)) (fun w => w.2 = T)
  refine wp_le (fun _ => wp_some rfl) (fun hc => ?_)
  refine wp_bif (inb_of (by omega) (by omega)) ?_
  exact wp_letv (fun v7 _ => wp_some rfl)
theorem see_L0_to {P : Nat → Nat → Option Int} : ∀ (N : Nat) (T : mT), IQ P T → (T.1 0 8).toInt ≤ (T.1 0 1).toInt → (T.1 0 1).toInt - (T.1 0 8).toInt < (N : Int) → wp (fm_see_L0 N T) (fun w => (w.1 0 8).toInt < (w.1 0 1).toInt → NSP w) := by
  intro N
  induction N with
  | zero =>
    intro T hI hn hm
    exfalso; omega
  | succ N ih =>
    intro T hI hn hm
    rw [fm_see_L0]
    have c1 := im_0_1 hI
    have c8 := im_0_8 hI
    refine wp_le (fun hc => wp_some (fun z => by omega)) (fun hc => ?_)
    refine wp_bif (inb_of (by omega) (by omega)) ?_
    refine wp_letv (fun v2 e2 => ?_)
    refine wp_if (fun _ => ?_) (fun hn2 => wp_some (fun _ => ⟨hc, by rw [← e2]; exact hn2⟩))
    refine wp_letv (fun T4 e4 => ?_)
    have z := tok_on hI hc
    rw [← e4] at z
    have e1 := z.1.tp
    exact ih T4 z.1.1 z.1.2.2.2 (by rw [e1]; omega)
theorem see_to {P : Nat → Nat → Option Int} {T : mT} (hn : (T.1 0 8).toInt ≤ (T.1 0 1).toInt) (hI : IQ P T) : wp (fm_see T) (fun w => w.1.toInt ≠ -1 → NSP w.2) := by
  unfold fm_see
  have l_m1 : ((-1) : Int32).toInt = -1 := by decide
  have fu : (FU : Int) = 1000000 := rfl
  have c1 := im_0_1 hI
  have c8 := im_0_8 hI
  refine wp_bind (wp_and (tm_see_L0 FU T hI hn (by omega)) (see_L0_to FU T hI hn (by omega))) (fun w5 h5 => ?_)
  have d1 := im_0_1 h5.1.1
  have d8 := im_0_8 h5.1.1
  refine wp_le (fun _ => wp_some (fun z => absurd l_m1 z)) (fun hc => ?_)
  refine wp_bif (inb_of (by omega) (by omega)) ?_
  exact wp_letv (fun v7 _ => wp_some (fun _ => h5.2 hc))
theorem tm_see2 {P : Nat → Nat → Option Int} {T : mT} (hn : (T.1 0 8).toInt ≤ (T.1 0 1).toInt) (hI : IQ P T) : wp (fm_see T) (fun w => (Tok P T w.2 ∧ (w.1.toInt ≠ -1 → (w.2.1 0 8).toInt < (w.2.1 0 1).toInt)) ∧ (w.1.toInt ≠ -1 → NSP w.2)) := wp_and (tm_see hn hI) (see_to hn hI)
theorem LET.nsp {P : Nat → Nat → Option Int} {T : mT} (hI : IQ P T) (h : LET T (T.1 0 8).toInt) : NSP T := by
  refine ⟨h.1, fun z => ?_⟩
  have l_32 : (32 : Int32).toInt = 32 := by decide
  have e : T.1 1 (T.1 0 8).toInt.toNat = 32 := z
  have := h.2.1
  rw [e] at this
  omega
theorem isWord_nsp {P : Nat → Nat → Option Int} {p0 : Int64} {T : mT} (hI : IQ P T) (h : NSP T) : wp (fm_isWord p0 T) (fun w => w.2 = T) := by
  unfold fm_isWord
  have l_0 : (0 : Int32).toInt = 0 := by decide
  have fu : (FU : Int) = 1000000 := rfl
  have d1 := im_0_1 hI
  have d8 := im_0_8 hI
  have d := h.1
  refine wp_bind (see_nsp hI h) (fun q1 e1 => ?_)
  rw [e1]
  refine wp_bind (tm_isWord_L10 hI FU 0 0 (by omega) (by omega) (by omega)) (fun w6 h6 => ?_)
  refine wp_le (fun _ => wp_some rfl) (fun hc => ?_)
  refine wp_le (fun _ => wp_some rfl) (fun _ => ?_)
  exact wp_if (fun _ => wp_some rfl) (fun _ => wp_some rfl)
theorem tm_isWord2 {P : Nat → Nat → Option Int} {p0 : Int64} {T : mT} (hn : (T.1 0 8).toInt ≤ (T.1 0 1).toInt) (hI : IQ P T) : wp (fm_isWord p0 T) (fun w => (Tok P T w.2 ∧ (w.1 = true → LET w.2 (w.2.1 0 8).toInt)) ∧ (NSP T → w.2 = T)) := by
  obtain ⟨a, e, ha⟩ := tm_isWord (p0 := p0) hn hI
  refine ⟨a, e, ha, fun z => ?_⟩
  obtain ⟨b, f, hb⟩ := isWord_nsp (p0 := p0) hI z
  rw [e] at f
  have y := Option.some.inj f
  subst y
  exact hb
/-- how many of 'and' and 'or' are open -/
def AC (f : Nat → Int32) : Nat → Nat
  | 0 => 0
  | n + 1 => AC f n + (if f n = 12 ∨ f n = 13 then 1 else 0)
theorem AC_congr {f g : Nat → Int32} : ∀ n : Nat, (∀ i, i < n → g i = f i) → AC g n = AC f n := by
  intro n
  induction n with
  | zero => intro _; rfl
  | succ n ih =>
    intro h
    show AC g n + _ = AC f n + _
    rw [ih (fun i hi => h i (by omega)), h n (by omega)]
def OPN (v : Int32) : Prop := v = 11 ∨ v = 12 ∨ v = 13 ∨ v = 91
/-- a test that is read: e operands stand ahead of what is open -/
def Te (P : Nat → Nat → Option Int) (t st e n : Nat) (sl : Int) (T : mT) : Prop := (T.1 0 16).toInt = (n : Int) ∧ Rd P t st (e + AC (T.1 7) n) (sl + n) T ∧ ∀ i, i < n → OPN (T.1 7 i)
theorem Te.op {P : Nat → Nat → Option Int} {t st e n h' : Nat} {sl sl' : Int} {T w : mT} (h : Te P t st e n sl T) (o : Op T w) (r : Rd P t st h' (sl' + n) w) (he : h' = 1 + (e + AC (T.1 7) n)) : Te P t st (1 + e) n sl' w := by
  obtain ⟨a, b, c⟩ := h
  refine ⟨by rw [o.2]; exact a, ?_, fun i hi => by rw [o.1]; exact c i hi⟩
  rw [o.1]
  rw [show 1 + e + AC (T.1 7) n = h' by omega]
  exact r
theorem Te.tok {P : Nat → Nat → Option Int} {t st e n : Nat} {sl sl' : Int} {T w : mT} (h : Te P t st e n sl T) (k : Tok P T w) (hs : sl' ≤ sl + ((w.1 0 8).toInt - (T.1 0 8).toInt)) : Te P t st e n sl' w := by
  obtain ⟨a, b, c⟩ := h
  have o : Op T w := Op.ofT k.2.1
  refine ⟨by rw [o.2]; exact a, ?_, fun i hi => by rw [o.1]; exact c i hi⟩
  rw [o.1]
  exact b.tok k (by omega)
theorem Rd.z13 {P : Nat → Nat → Option Int} {t st h : Nat} {sl : Int} {T : mT} {v : Int32} (hr : Rd P t st h sl T) : Rd P t st h sl (mz T 13 v) := by
  obtain ⟨r1, r2, r3, r4, r5, r6, r7, r8, r9⟩ := hr
  have z : ∀ r j, (r ≠ 0 ∨ j ≠ 13) → (mz T 13 v).1 r j = T.1 r j := fun r j hj => mz_ne hj
  unfold Rd
  rw [z 0 8 (by decide), z 0 1 (by decide), z 0 11 (by decide), z 0 2 (by decide), z 3 t (Or.inl (by decide)), z 0 12 (by decide), show (mz T 13 v).1 2 = T.1 2 from funext (fun j => z 2 j (Or.inl (by decide)))]
  exact ⟨iz_any 13 r1 rfl rfl (by decide) (by decide), r2, r3, r4, r5, r6, r7, r8, r9⟩
theorem Rd.z16 {P : Nat → Nat → Option Int} {t st h : Nat} {sl : Int} {T : mT} {v : Int32} (hr : Rd P t st h sl T) (h0 : 0 ≤ v.toInt) (h4 : v.toInt ≤ 400) : Rd P t st h sl (mz T 16 v) := by
  obtain ⟨r1, r2, r3, r4, r5, r6, r7, r8, r9⟩ := hr
  have z : ∀ r j, (r ≠ 0 ∨ j ≠ 16) → (mz T 16 v).1 r j = T.1 r j := fun r j hj => mz_ne hj
  unfold Rd
  rw [z 0 8 (by decide), z 0 1 (by decide), z 0 11 (by decide), z 0 2 (by decide), z 3 t (Or.inl (by decide)), z 0 12 (by decide), show (mz T 16 v).1 2 = T.1 2 from funext (fun j => z 2 j (Or.inl (by decide)))]
  exact ⟨iz_16 r1 h0 h4, r2, r3, r4, r5, r6, r7, r8, r9⟩
theorem Rd.r7 {P : Nat → Nat → Option Int} {t st h : Nat} {sl : Int} {T : mT} {i : Nat} {v : Int32} (hr : Rd P t st h sl T) : Rd P t st h sl (ma T 7 i v) := by
  obtain ⟨r1, r2, r3, r4, r5, r6, r7, r8, r9⟩ := hr
  have z : ∀ r, r ≠ 7 → (ma T 7 i v).1 r = T.1 r := fun r hj => ma_no T i v hj
  unfold Rd
  rw [z 0 (by decide), z 2 (by decide), z 3 (by decide)]
  exact ⟨IQ_ma r1 (bnd v) (no_pinM r1.1 rfl) (by decide) (by decide) (by decide) (by decide) (by decide) (by decide) (by decide) (by decide), r2, r3, r4, r5, r6, r7, r8, r9⟩
theorem tm_strength {v : Int32} : wp (fm_strength v) (fun w => 0 ≤ w.toInt ∧ w.toInt ≤ 3 ∧ (1 ≤ w.toInt → v = 11 ∨ v = 12 ∨ v = 13) ∧ ((v = 11 ∨ v = 12 ∨ v = 13) → 1 ≤ w.toInt)) := by
  unfold fm_strength
  refine wp_if (fun h => wp_some ⟨by decide, by decide, fun _ => Or.inr (Or.inr h), fun _ => by decide⟩) (fun h => ?_)
  refine wp_if (fun h => wp_some ⟨by decide, by decide, fun _ => Or.inr (Or.inl h), fun _ => by decide⟩) (fun h2 => ?_)
  refine wp_if (fun h => wp_some ⟨by decide, by decide, fun _ => Or.inl h, fun _ => by decide⟩) (fun h3 => ?_)
  exact wp_some ⟨by decide, by decide, fun z => absurd z (by decide), fun z => by rcases z with z | z | z <;> contradiction⟩
