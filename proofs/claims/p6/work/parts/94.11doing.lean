/-! ===== the reference's reader: a clause of a rule ===== -/
theorem IQ_4 {P : Nat → Nat → Option Int} {T : mT} {i : Nat} {v : Int32} (hI : IQ P T) (hi : 60 * (T.1 0 2).toInt ≤ (i : Int)) : IQ P (ma T 4 i v) := by
  have e : ∀ {r : Nat}, r ≠ 4 → (ma T 4 i v).1 r = T.1 r := fun hr => ma_no T i v hr
  refine ⟨IM_ma hI.1 (bnd v) (no_pinM hI.1 rfl), ?_, ?_, ?_⟩
  · unfold Blks
    rw [e (r := 10) (by decide), e (r := 11) (by decide), e (r := 15) (by decide)]
    exact hI.2.1
  · intro t' c ht hc
    rw [e (r := 0) (by decide)] at ht
    rw [e (r := 5) (by decide)] at hc
    have h := hI.2.2.1 t' c ht hc
    have c5 := im_r5 hI t'
    unfold ClOk at h ⊢
    rw [e (r := 2) (by decide), ma_ne (Or.inr (by omega)), ma_ne (Or.inr (by omega)), ma_ne (Or.inr (by omega)), ma_ne (Or.inr (by omega))]
    exact h
  · unfold ForceOk
    rw [e (r := 0) (by decide), e (r := 16) (by decide), e (r := 18) (by decide), e (r := 10) (by decide), e (r := 11) (by decide)]
    exact hI.2.2.2
theorem IQ_5 {P : Nat → Nat → Option Int} {T : mT} {i : Nat} {v : Int32} (hI : IQ P T) (hi : (T.1 0 2).toInt ≤ (i : Int)) (h0 : 0 ≤ v.toInt) (h12 : v.toInt ≤ 12) : IQ P (ma T 5 i v) := by
  have e : ∀ {r : Nat}, r ≠ 5 → (ma T 5 i v).1 r = T.1 r := fun hr => ma_no T i v hr
  refine ⟨IM_ma hI.1 ⟨h0, h12⟩ (no_pinM hI.1 rfl), ?_, ?_, ?_⟩
  · unfold Blks
    rw [e (r := 10) (by decide), e (r := 11) (by decide), e (r := 15) (by decide)]
    exact hI.2.1
  · intro t' c ht hc
    rw [e (r := 0) (by decide)] at ht
    rw [ma_ne (Or.inr (by omega))] at hc
    have h := hI.2.2.1 t' c ht hc
    unfold ClOk at h ⊢
    rw [e (r := 2) (by decide), e (r := 4) (by decide)]
    exact h
  · unfold ForceOk
    rw [e (r := 0) (by decide), e (r := 16) (by decide), e (r := 18) (by decide), e (r := 10) (by decide), e (r := 11) (by decide)]
    exact hI.2.2.2
/-- the clauses of text t that are read stand -/
def CL (t : Nat) (T : mT) : Prop := ∀ c : Nat, (c : Int) < (T.1 5 t).toInt → ClOk T t c ∧ (T.1 4 (60 * t + 5 * c + 2)).toInt ≤ (T.1 3 t).toInt ∧ (0 ≤ (T.1 4 (60 * t + 5 * c + 3)).toInt → (T.1 4 (60 * t + 5 * c + 4)).toInt ≤ (T.1 3 t).toInt)
def Xf (t c : Nat) (T w : mT) : Prop := w.1 10 = T.1 10 ∧ w.1 0 1 = T.1 0 1 ∧ w.1 0 2 = T.1 0 2 ∧ w.1 0 11 = T.1 0 11 ∧ w.1 0 14 = T.1 0 14 ∧ w.1 5 t = T.1 5 t ∧ (∀ j, j < 60 * t + 5 * c → w.1 4 j = T.1 4 j) ∧ (∀ j : Nat, (j : Int) < 400 * (t : Int) + (T.1 3 t).toInt → w.1 2 j = T.1 2 j) ∧ (T.1 3 t).toInt ≤ (w.1 3 t).toInt
theorem Xf.trans {t c : Nat} {A B C : mT} (h : Xf t c A B) (g : Xf t c B C) : Xf t c A C := by
  obtain ⟨a1, a2, a3, a4, a5, a6, a7, a8, a9⟩ := h
  obtain ⟨b1, b2, b3, b4, b5, b6, b7, b8, b9⟩ := g
  exact ⟨b1.trans a1, b2.trans a2, b3.trans a3, b4.trans a4, b5.trans a5, b6.trans a6, fun j hj => (b7 j hj).trans (a7 j hj), fun j hj => (b8 j (by omega)).trans (a8 j hj), by omega⟩
theorem Ex.row {t : Nat} {A B : mT} (h : Ex t A B) {r : Nat} (h0 : r ≠ 0) (h2 : r ≠ 2) (h3 : r ≠ 3) (h7 : r ≠ 7) : B.1 r = A.1 r := funext (fun j => h.2.1 r j h2 h7 (Or.inl h3) (Or.inl h0))
theorem Ex.c0 {t : Nat} {A B : mT} (h : Ex t A B) {j : Nat} (hj : j ≠ 8 ∧ j ≠ 9 ∧ j ≠ 10 ∧ j ≠ 12 ∧ j ≠ 13 ∧ j ≠ 16) : B.1 0 j = A.1 0 j := h.2.1 0 j (by decide) (by decide) (Or.inl (by decide)) (Or.inr hj)
theorem Xf.ofE {t c : Nat} {A B : mT} (h : Ex t A B) : Xf t c A B := ⟨h.row (by decide) (by decide) (by decide) (by decide), h.c0 (by decide), h.c0 (by decide), h.c0 (by decide), h.c0 (by decide), congrFun (h.row (by decide) (by decide) (by decide) (by decide)) t, fun j _ => congrFun (h.row (by decide) (by decide) (by decide) (by decide)) j, h.2.2.1, h.2.2.2⟩
theorem Xf.ofT {t c : Nat} {A B : mT} (h : Tk A B) : Xf t c A B := Xf.ofE (Ex.ofT h)
theorem Xf.w4 {t c i : Nat} {A : mT} {v : Int32} (hi : 60 * t + 5 * c ≤ i) : Xf t c A (ma A 4 i v) := ⟨ma_no _ _ _ (by decide), ma_ne (Or.inl (by decide)), ma_ne (Or.inl (by decide)), ma_ne (Or.inl (by decide)), ma_ne (Or.inl (by decide)), ma_ne (Or.inl (by decide)), fun j hj => ma_ne (Or.inr (by omega)), fun j _ => ma_ne (Or.inl (by decide)), by rw [ma_ne (Or.inl (by decide))]; exact Int.le_refl _⟩
theorem CL.xf {t c : Nat} {A B : mT} (h : CL t A) (x : Xf t c A B) (hc : (A.1 5 t).toInt ≤ (c : Int)) : CL t B := by
  obtain ⟨a1, a2, a3, a4, a5, a6, a7, a8, a9⟩ := x
  intro c' hc'
  rw [a6] at hc'
  obtain ⟨k1, k2, k3⟩ := h c' hc'
  unfold ClOk at k1 ⊢
  rw [a7 _ (by omega), a7 _ (by omega), a7 _ (by omega), a7 _ (by omega)]
  have sgk : ∀ {a b : Int}, b ≤ (A.1 3 t).toInt → sg (A.1 2) (400 * t) a b → sg (B.1 2) (400 * t) a b := by
    intro a b hb h
    obtain ⟨h1, h2, h3, h4⟩ := h
    refine ⟨h1, h2, h3, ?_⟩
    rw [hg_congr (f := A.1 2) _ (fun n hn => a8 _ (by omega))]
    exact h4
  exact ⟨⟨sgk k2 k1.1, fun z => sgk (k3 z) (k1.2 z)⟩, by omega, fun z => by have := k3 z; omega⟩
theorem Rd.w4 {P : Nat → Nat → Option Int} {t st h : Nat} {sl : Int} {T : mT} {i : Nat} {v : Int32} (hr : Rd P t st h sl T) (hi : 60 * t ≤ i) : Rd P t st h sl (ma T 4 i v) := by
  obtain ⟨r1, r2, r3, r4, r5, r6, r7, r8, r9⟩ := hr
  have z : ∀ r, r ≠ 4 → (ma T 4 i v).1 r = T.1 r := fun r hj => ma_no T i v hj
  unfold Rd
  rw [z 0 (by decide), z 2 (by decide), z 3 (by decide)]
  exact ⟨IQ_4 r1 (by omega), r2, r3, r4, r5, r6, r7, r8, r9⟩
theorem Rd.seg {P : Nat → Nat → Option Int} {t st h n : Nat} {sl : Int} {T : mT} (hr : Rd P t st h sl T) (hn : (T.1 3 t).toInt = (n : Int)) : Rd P t n 0 sl T := by
  obtain ⟨r1, r2, r3, r4, r5, r6, r7, r8, r9⟩ := hr
  have c := im_0_12 r1
  refine ⟨r1, r2, r3, r4, r5, r6, by omega, ?_, by omega⟩
  rw [show (T.1 3 t).toInt.toNat - n = 0 by omega]
  rfl
/-- what stands behind a clause that is read, or is not -/
def Dn (P : Nat → Nat → Option Int) (t : Nat) (T w : mT) : Prop := IQ P w ∧ (w.1 0 8).toInt ≤ (w.1 0 1).toInt ∧ CL t w ∧ w.1 10 = T.1 10 ∧ w.1 0 1 = T.1 0 1 ∧ w.1 0 2 = T.1 0 2 ∧ w.1 0 11 = T.1 0 11
theorem Dn.of {P : Nat → Nat → Option Int} {t c : Nat} {T w : mT} (hI : IQ P w) (hn : (w.1 0 8).toInt ≤ (w.1 0 1).toInt) (x : Xf t c T w) (h : CL t T) (hc : (T.1 5 t).toInt ≤ (c : Int)) : Dn P t T w := ⟨hI, hn, h.xf x hc, x.1, x.2.1, x.2.2.1, x.2.2.2.1⟩
theorem tm_isDoingHere {P : Nat → Nat → Option Int} {t c : Nat} {p0 : Int32} {T : mT} (hI : IQ P T) (hn : (T.1 0 8).toInt ≤ (T.1 0 1).toInt) (h11 : (T.1 0 11).toInt = (t : Int)) (ht : t < 6) (h2 : (T.1 0 2).toInt = (t : Int)) (hb : (T.1 3 t).toInt ≤ (T.1 0 8).toInt) (h5 : (T.1 5 t).toInt = (c : Int)) (hc : c < 12) (hcl : CL t T) : wp (fm_isDoingHere p0 T) (fun w => Dn P t T w.2 ∧ (w.1 = true → (w.2.1 3 t).toInt ≤ (w.2.1 0 8).toInt ∧ (w.2.1 5 t).toInt = (c : Int) + 1 ∧ (T.1 0 8).toInt ≤ (w.2.1 0 8).toInt ∧ w.2.1 0 14 = T.1 0 14)) := by
  unfold fm_isDoingHere
  have l_1 : (1 : Int32).toInt = 1 := by decide
  have l_2 : (2 : Int32).toInt = 2 := by decide
  have l_3 : (3 : Int32).toInt = 3 := by decide
  have l_4 : (4 : Int32).toInt = 4 := by decide
  have l_m1 : ((-1) : Int32).toInt = -1 := by decide
  refine wp_bind (tm_passWord hn hI) (fun q1 h1 => ?_)
  have k1 := h1.1
  have kn1 := k1.2.2.1
  have x1 : Xf t c T q1 := Xf.ofT k1.2.1
  have e11 : (q1.1 0 11).toInt = (t : Int) := by rw [x1.2.2.2.1]; exact h11
  have i11 : (q1.1 0 11).toNatClampNeg = t := cl_idx e11
  have c3 := im_r3 k1.1 t
  obtain ⟨n1, hn1⟩ : ∃ n1 : Nat, (q1.1 3 t).toInt = (n1 : Int) := ⟨(q1.1 3 t).toInt.toNat, by omega⟩
  have s1 : q1.1 3 t = T.1 3 t := k1.2.1.2 3 t (Or.inl (by decide))
  have R1 : Rd P t n1 0 0 q1 := by
    refine ⟨k1.1, k1.2.2.2, e11, ht, by rw [x1.2.2.1]; omega, by rw [s1]; omega, by omega, ?_, by have := im_0_12 k1.1; omega⟩
    rw [show (q1.1 3 t).toInt.toNat - n1 = 0 by omega]
    rfl
  refine wp_bif (inb_of (by omega) (by omega)) ?_
  refine wp_letv (fun v2 e2 => ?_)
  rw [i11] at e2
  have ev2 : v2.toInt = (c : Int) := by rw [e2, x1.2.2.2.2.2.1]; exact h5
  have tb := t_60 (k1 := q1.1 0 11) (a3 := v2) (by omega) (by omega) (by omega) (by omega)
  have bs : ((60 * (q1.1 0 11)) + (5 * v2)).toInt = ((60 * t + 5 * c : Nat) : Int) := by omega
  have b1 := tA (a := (60 * (q1.1 0 11)) + (5 * v2)) (b := 1) (by omega) (by omega)
  have b2 := tA (a := (60 * (q1.1 0 11)) + (5 * v2)) (b := 2) (by omega) (by omega)
  have b3 := tA (a := (60 * (q1.1 0 11)) + (5 * v2)) (b := 3) (by omega) (by omega)
  have b4 := tA (a := (60 * (q1.1 0 11)) + (5 * v2)) (b := 4) (by omega) (by omega)
  generalize ((60 * (q1.1 0 11)) + (5 * v2)) = bq at *
  have j0 : bq.toNatClampNeg = 60 * t + 5 * c := cl_idx bs
  have j1 : (bq + 1).toNatClampNeg = 60 * t + 5 * c + 1 := cl_idx (by omega)
  have j2 : (bq + 2).toNatClampNeg = 60 * t + 5 * c + 2 := cl_idx (by omega)
  have j3 : (bq + 3).toNatClampNeg = 60 * t + 5 * c + 3 := cl_idx (by omega)
  have j4 : (bq + 4).toNatClampNeg = 60 * t + 5 * c + 4 := cl_idx (by omega)
  refine wp_bif (inb_of (by omega) (by omega)) ?_
  refine wp_letv (fun T3 e3 => ?_)
  rw [j0] at e3
  have R3 : Rd P t n1 0 0 T3 := by rw [e3]; exact R1.w4 (by omega)
  have x3 : Xf t c T T3 := x1.trans (by rw [e3]; exact Xf.w4 (by omega))
  have f3 : T3.1 0 11 = q1.1 0 11 := by rw [e3]; exact ma_ne (Or.inl (by decide))
  have g3 : T3.1 3 t = q1.1 3 t := by rw [e3]; exact ma_ne (Or.inl (by decide))
  refine wp_bif (inb_of (by rw [f3]; omega) (by rw [f3]; omega)) ?_
  refine wp_letv (fun v4 e4 => ?_)
  rw [f3, i11, g3] at e4
  refine wp_bif (inb_of (by omega) (by omega)) ?_
  refine wp_letv (fun T5 e5 => ?_)
  rw [j1] at e5
  have R5 : Rd P t n1 0 0 T5 := by rw [e5]; exact R3.w4 (by omega)
  have x5 : Xf t c T T5 := x3.trans (by rw [e5]; exact Xf.w4 (by omega))
  have cell1 : (T5.1 4 (60 * t + 5 * c + 1)).toInt = (n1 : Int) := by rw [e5, ma_at, e4]; exact hn1
  have n5 : T5.1 0 8 = q1.1 0 8 := by rw [e5, ma_ne (Or.inl (by decide)), e3, ma_ne (Or.inl (by decide))]
  refine wp_bind (tm_summed R5 (by omega)) (fun q6 h6 => ?_)
  refine wp_b (fun b => wp_some ⟨Dn.of (h6.1 b).1 (h6.1 b).2.1 (x5.trans (Xf.ofE (h6.1 b).2.2)) hcl (by omega), fun z => by cases z⟩) (fun b => ?_)
  obtain ⟨R6, o6, y6, m6⟩ := h6.2 b
  have x6 : Xf t c T q6.2 := x5.trans (Xf.ofE y6)
  have c36 := im_r3 R6.1 t
  obtain ⟨n2, hn2⟩ : ∃ n2 : Nat, (q6.2.1 3 t).toInt = (n2 : Int) := ⟨(q6.2.1 3 t).toInt.toNat, by omega⟩
  have n12 : n1 ≤ n2 := by have := R6.2.2.2.2.2.2.1; omega
  have hg1 : hg (q6.2.1 2) (400 * t + n1) (n2 - n1) = some 1 := by
    have z := R6.2.2.2.2.2.2.2.1
    rw [hn2, show ((n2 : Int)).toNat = n2 by omega] at z
    exact z
  have f6 : q6.2.1 0 11 = q1.1 0 11 := by rw [x6.2.2.2.1, x1.2.2.2.1]
  refine wp_bif (inb_of (by rw [f6]; omega) (by rw [f6]; omega)) ?_
  refine wp_letv (fun v8 e8 => ?_)
  rw [f6, i11] at e8
  refine wp_bif (inb_of (by omega) (by omega)) ?_
  refine wp_letv (fun T9 e9 => ?_)
  rw [j2] at e9
  refine wp_bif (inb_of (by omega) (by omega)) ?_
  refine wp_letv (fun T10 e10 => ?_)
  rw [j3] at e10
  have R10 : Rd P t n1 1 0 T10 := by rw [e10, e9]; exact (R6.w4 (by omega)).w4 (by omega)
  have x10 : Xf t c T T10 := x6.trans (by rw [e10, e9]; exact (Xf.w4 (by omega)).trans (Xf.w4 (by omega)))
  have r4 : q6.2.1 4 = T5.1 4 := y6.row (by decide) (by decide) (by decide) (by decide)
  have c10_1 : (T10.1 4 (60 * t + 5 * c + 1)).toInt = (n1 : Int) := by rw [e10, ma_ne (Or.inr (by omega)), e9, ma_ne (Or.inr (by omega)), r4]; exact cell1
  have c10_2 : (T10.1 4 (60 * t + 5 * c + 2)).toInt = (n2 : Int) := by rw [e10, ma_ne (Or.inr (by omega)), e9, ma_at, e8]; exact hn2
  have c10_3 : (T10.1 4 (60 * t + 5 * c + 3)).toInt = -1 := by rw [e10, ma_at]; exact l_m1
  have k10 : ∀ r, r ≠ 4 → T10.1 r = q6.2.1 r := fun r hr => by rw [e10, ma_no _ _ _ hr, e9, ma_no _ _ _ hr]
  refine wp_bind (tm_takesWord R10.2.1 R10.1) (fun q11 h11' => ?_)
  have x11 : Xf t c T q11.2 := x10.trans (Xf.ofT h11'.2.1)
  have kn11 := h11'.2.2.1
  have row11 : ∀ r, r ≠ 0 → q11.2.1 r = T10.1 r := fun r hr => funext (fun j => h11'.2.1.2 r j (Or.inl hr))
  have R11 : Rd P t n1 1 0 q11.2 := R10.tok h11' (by omega)
  have f11 : q11.2.1 0 11 = q1.1 0 11 := by rw [x11.2.2.2.1, x1.2.2.2.1]
  have g11 : q11.2.1 3 t = q6.2.1 3 t := by rw [row11 3 (by decide), k10 3 (by decide)]
  have nn : (T.1 0 8).toInt ≤ (q11.2.1 0 8).toInt := by
    rw [k10 0 (by decide)] at kn11
    rw [n5] at m6
    omega
  refine wp_b (fun _ => ?_) (fun _ => ?_)
  · refine wp_bif (inb_of (by rw [f11]; omega) (by rw [f11]; omega)) ?_
    refine wp_letv (fun v13 e13 => ?_)
    refine wp_bif (inb_of (by omega) (by omega)) ?_
    refine wp_letv (fun T14 e14 => ?_)
    rw [j4] at e14
    have R14 : Rd P t n1 1 0 T14 := by rw [e14]; exact R11.w4 (by omega)
    have x14 : Xf t c T T14 := x11.trans (by rw [e14]; exact Xf.w4 (by omega))
    have f14 : T14.1 0 11 = q1.1 0 11 := by rw [x14.2.2.2.1, x1.2.2.2.1]
    refine wp_bif (inb_of (by rw [f14]; omega) (by rw [f14]; omega)) ?_
    refine wp_letv (fun v15 e15 => ?_)
    rw [f14, i11] at e15
    have ev15 : v15.toInt = (c : Int) := by rw [e15, x14.2.2.2.2.2.1]; exact h5
    have u := tA (a := v15) (b := 1) (by omega) (by omega)
    refine wp_bif (inb_of (by rw [f14]; omega) (by rw [f14]; omega)) ?_
    refine wp_letv (fun T16 e16 => wp_some ?_)
    rw [f14, i11] at e16
    have I16 : IQ P T16 := by rw [e16]; exact IQ_5 R14.1 R14.2.2.2.2.1 (by omega) (by omega)
    have z16 : ∀ r, r ≠ 5 → T16.1 r = T14.1 r := fun r hr => by rw [e16]; exact ma_no _ _ _ hr
    have five : (T16.1 5 t).toInt = (c : Int) + 1 := by rw [e16, ma_at]; omega
    have g14 : T14.1 3 t = q6.2.1 3 t := by rw [e14, ma_ne (Or.inl (by decide))]; exact g11
    have t2 : T14.1 2 = q6.2.1 2 := by rw [e14, ma_no _ _ _ (by decide), row11 2 (by decide), k10 2 (by decide)]
    have d1 : (T14.1 4 (60 * t + 5 * c + 1)).toInt = (n1 : Int) := by rw [e14, ma_ne (Or.inr (by omega)), row11 4 (by decide)]; exact c10_1
    have d2 : (T14.1 4 (60 * t + 5 * c + 2)).toInt = (n2 : Int) := by rw [e14, ma_ne (Or.inr (by omega)), row11 4 (by decide)]; exact c10_2
    have d3 : (T14.1 4 (60 * t + 5 * c + 3)).toInt = -1 := by rw [e14, ma_ne (Or.inr (by omega)), row11 4 (by decide)]; exact c10_3
    have C14 : CL t T14 := hcl.xf x14 (by omega)
    have C16 : CL t T16 := by
      intro c' hc'
      rw [five] at hc'
      unfold ClOk
      rw [z16 2 (by decide), z16 3 (by decide), z16 4 (by decide)]
      by_cases z : c' = c
      · rw [z, d1, d2, d3, t2, g14, hn2]
        refine ⟨⟨⟨by omega, by omega, by omega, ?_⟩, fun y => by omega⟩, by omega, fun y => by omega⟩
        exact hg1
      · exact C14 c' (by rw [x14.2.2.2.2.2.1, h5]; omega)
    refine ⟨⟨I16, ?_, C16, ?_, ?_, ?_, ?_⟩, fun _ => ⟨?_, five, ?_, ?_⟩⟩
    · dsimp only
      rw [z16 0 (by decide)]
      exact R14.2.1
    · dsimp only
      rw [z16 10 (by decide)]
      exact x14.1
    · dsimp only
      rw [z16 0 (by decide)]
      exact x14.2.1
    · dsimp only
      rw [z16 0 (by decide)]
      exact x14.2.2.1
    · dsimp only
      rw [z16 0 (by decide)]
      exact x14.2.2.2.1
    · dsimp only
      rw [z16 0 (by decide), z16 3 (by decide)]
      have := R14.2.2.2.2.2.1
      omega
    · dsimp only
      rw [z16 0 (by decide), e14, ma_ne (Or.inl (by decide))]
      exact nn
    · dsimp only
      rw [z16 0 (by decide)]
      exact x14.2.2.2.2.1
  · refine wp_bif (inb_of (by rw [f11]; omega) (by rw [f11]; omega)) ?_
    refine wp_letv (fun v17 e17 => ?_)
    rw [f11, i11, g11] at e17
    refine wp_bif (inb_of (by omega) (by omega)) ?_
    refine wp_letv (fun T18 e18 => ?_)
    rw [j3] at e18
    have R18 : Rd P t n2 0 0 T18 := by
      rw [e18]
      exact (R11.w4 (by omega)).seg (by rw [ma_ne (Or.inl (by decide)), g11]; exact hn2)
    have x18 : Xf t c T T18 := x11.trans (by rw [e18]; exact Xf.w4 (by omega))
    refine wp_bind (tm_tested (by omega) R18) (fun q19 h19 => ?_)
    refine wp_b (fun b => wp_some ⟨Dn.of (h19.1 b).1 (h19.1 b).2.1 (x18.trans (Xf.ofE (h19.1 b).2.2)) hcl (by omega), fun z => by cases z⟩) (fun b => ?_)
    obtain ⟨R19, y19, o19, m19⟩ := h19.2 b
    have x19 : Xf t c T q19.2 := x18.trans (Xf.ofE y19)
    have c319 := im_r3 R19.1 t
    obtain ⟨n3, hn3⟩ : ∃ n3 : Nat, (q19.2.1 3 t).toInt = (n3 : Int) := ⟨(q19.2.1 3 t).toInt.toNat, by omega⟩
    have n23 : n2 ≤ n3 := by have := R19.2.2.2.2.2.2.1; omega
    have hg2 : hg (q19.2.1 2) (400 * t + n2) (n3 - n2) = some 1 := by
      have z := R19.2.2.2.2.2.2.2.1
      rw [hn3, show ((n3 : Int)).toNat = n3 by omega] at z
      exact z
    have g18 : T18.1 3 t = q6.2.1 3 t := by rw [e18, ma_ne (Or.inl (by decide))]; exact g11
    have t18 : T18.1 2 = q6.2.1 2 := by rw [e18, ma_no _ _ _ (by decide), row11 2 (by decide), k10 2 (by decide)]
    have hg1' : hg (q19.2.1 2) (400 * t + n1) (n2 - n1) = some 1 := by
      rw [hg_congr (f := q6.2.1 2) _ (fun n hn => by rw [y19.2.2.1 _ (by rw [g18, hn2]; omega), t18])]
      exact hg1
    have f19 : q19.2.1 0 11 = q1.1 0 11 := by rw [x19.2.2.2.1, x1.2.2.2.1]
    refine wp_bif (inb_of (by rw [f19]; omega) (by rw [f19]; omega)) ?_
    refine wp_letv (fun v21 e21 => ?_)
    rw [f19, i11] at e21
    refine wp_bif (inb_of (by omega) (by omega)) ?_
    refine wp_letv (fun T22 e22 => ?_)
    rw [j4] at e22
    have R22 : Rd P t n2 1 0 T22 := by rw [e22]; exact R19.w4 (by omega)
    have x22 : Xf t c T T22 := x19.trans (by rw [e22]; exact Xf.w4 (by omega))
    have f22 : T22.1 0 11 = q1.1 0 11 := by rw [x22.2.2.2.1, x1.2.2.2.1]
    refine wp_bif (inb_of (by rw [f22]; omega) (by rw [f22]; omega)) ?_
    refine wp_letv (fun v23 e23 => ?_)
    rw [f22, i11] at e23
    have ev23 : v23.toInt = (c : Int) := by rw [e23, x22.2.2.2.2.2.1]; exact h5
    have u := tA (a := v23) (b := 1) (by omega) (by omega)
    refine wp_bif (inb_of (by rw [f22]; omega) (by rw [f22]; omega)) ?_
    refine wp_letv (fun T24 e24 => wp_some ?_)
    rw [f22, i11] at e24
    have I24 : IQ P T24 := by rw [e24]; exact IQ_5 R22.1 R22.2.2.2.2.1 (by omega) (by omega)
    have z24 : ∀ r, r ≠ 5 → T24.1 r = T22.1 r := fun r hr => by rw [e24]; exact ma_no _ _ _ hr
    have five : (T24.1 5 t).toInt = (c : Int) + 1 := by rw [e24, ma_at]; omega
    have g22 : T22.1 3 t = q19.2.1 3 t := by rw [e22]; exact ma_ne (Or.inl (by decide))
    have t2 : T22.1 2 = q19.2.1 2 := by rw [e22]; exact ma_no _ _ _ (by decide)
    have r19 : q19.2.1 4 = T18.1 4 := y19.row (by decide) (by decide) (by decide) (by decide)
    have d1 : (T22.1 4 (60 * t + 5 * c + 1)).toInt = (n1 : Int) := by rw [e22, ma_ne (Or.inr (by omega)), r19, e18, ma_ne (Or.inr (by omega)), row11 4 (by decide)]; exact c10_1
    have d2 : (T22.1 4 (60 * t + 5 * c + 2)).toInt = (n2 : Int) := by rw [e22, ma_ne (Or.inr (by omega)), r19, e18, ma_ne (Or.inr (by omega)), row11 4 (by decide)]; exact c10_2
    have d3 : (T22.1 4 (60 * t + 5 * c + 3)).toInt = (n2 : Int) := by rw [e22, ma_ne (Or.inr (by omega)), r19, e18, ma_at, e17]; exact hn2
    have d4 : (T22.1 4 (60 * t + 5 * c + 4)).toInt = (n3 : Int) := by rw [e22, ma_at, e21]; exact hn3
    have C22 : CL t T22 := hcl.xf x22 (by omega)
    have C24 : CL t T24 := by
      intro c' hc'
      rw [five] at hc'
      unfold ClOk
      rw [z24 2 (by decide), z24 3 (by decide), z24 4 (by decide)]
      by_cases z : c' = c
      · rw [z, d1, d2, d3, d4, t2, g22, hn3]
        refine ⟨⟨⟨by omega, by omega, by omega, ?_⟩, fun y => ⟨by omega, by omega, by omega, ?_⟩⟩, by omega, fun y => by omega⟩
        · exact hg1'
        · exact hg2
      · exact C22 c' (by rw [x22.2.2.2.2.2.1, h5]; omega)
    refine ⟨⟨I24, ?_, C24, ?_, ?_, ?_, ?_⟩, fun _ => ⟨?_, five, ?_, ?_⟩⟩
    · dsimp only
      rw [z24 0 (by decide)]
      exact R22.2.1
    · dsimp only
      rw [z24 10 (by decide)]
      exact x22.1
    · dsimp only
      rw [z24 0 (by decide)]
      exact x22.2.1
    · dsimp only
      rw [z24 0 (by decide)]
      exact x22.2.2.1
    · dsimp only
      rw [z24 0 (by decide)]
      exact x22.2.2.2.1
    · dsimp only
      rw [z24 0 (by decide), z24 3 (by decide)]
      have := R22.2.2.2.2.2.1
      omega
    · dsimp only
      rw [z24 0 (by decide), e22, ma_ne (Or.inl (by decide))]
      rw [show T18.1 0 8 = q11.2.1 0 8 by rw [e18]; exact ma_ne (Or.inl (by decide))] at m19
      omega
    · dsimp only
      rw [z24 0 (by decide)]
      exact x22.2.2.2.2.1
