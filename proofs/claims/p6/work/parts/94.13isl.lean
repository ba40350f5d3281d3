/-! ===== the reference's reader: an island's lines ===== -/
theorem fail9 {p0 p1 : Int32} (h0 : 0 ≤ p0.toInt) (h7 : p0.toInt ≤ 7) (a0 : 0 ≤ p1.toInt) (a4 : p1.toInt ≤ 400) : ((1 + (8 * p1)) + p0) ≠ 0 := by
  intro z
  have l_0 : (0 : Int32).toInt = 0 := by decide
  have l_1 : (1 : Int32).toInt = 1 := by decide
  have m := tML (a := 8) (b := p1) (n := 8) (by decide) (by omega) (by omega)
  have t1 := tA (a := 1) (b := 8 * p1) (by omega) (by omega)
  have t2 := tA (a := 1 + 8 * p1) (b := p0) (by omega) (by omega)
  rw [z] at t2
  omega
theorem tm_fails9 {P : Nat → Nat → Option Int} {p0 p1 : Int32} {T : mT} (h0 : 0 ≤ p0.toInt) (h7 : p0.toInt ≤ 7) (a0 : 0 ≤ p1.toInt) (a4 : p1.toInt ≤ 400) (hn : (T.1 0 8).toInt ≤ (T.1 0 1).toInt) (hI : IQ P T) : wp (fm_fails p0 p1 T) (fun w => (w.1 = false ∧ Tok P T w.2) ∧ w.2.1 0 9 ≠ 0) := by
  refine wp_and (tm_fails hn hI) ?_
  unfold fm_fails
  refine wp_if (fun _ => ?_) (fun ne => wp_some ne)
  refine wp_letv (fun T2 e2 => wp_some ?_)
  rw [e2]
  dsimp only
  rw [mz_at]
  exact fail9 h0 h7 a0 a4
/-- what an island's line leaves -/
def Isl (P : Nat → Nat → Option Int) (T w : mT) : Prop := IQ P w ∧ (w.1 0 8).toInt ≤ (w.1 0 1).toInt ∧ w.1 10 = T.1 10 ∧ w.1 0 1 = T.1 0 1 ∧ w.1 0 11 = T.1 0 11 ∧ w.1 6 2 = T.1 6 2 ∧ w.1 6 5 = T.1 6 5 ∧ (T.1 0 8).toInt ≤ (w.1 0 8).toInt
theorem Isl.ofT {P : Nat → Nat → Option Int} {T w : mT} (k : Tok P T w) : Isl P T w := ⟨k.1, k.2.2.2, k.2.1.row (by decide), k.tp, k.2.1.2 0 11 (Or.inr (by decide)), k.2.1.2 6 2 (Or.inl (by decide)), k.2.1.2 6 5 (Or.inl (by decide)), k.2.2.1⟩
theorem Isl.trans {P : Nat → Nat → Option Int} {A B C : mT} (h : Isl P A B) (g : Isl P B C) : Isl P A C := by
  obtain ⟨_, _, h1, h2, h3, h4, h5, h6⟩ := h
  obtain ⟨g1, g2, g3, g4, g5, g6, g7, g8⟩ := g
  exact ⟨g1, g2, g3.trans h1, g4.trans h2, g5.trans h3, g6.trans h4, g7.trans h5, by omega⟩
theorem IQ_6 {P : Nat → Nat → Option Int} {T : mT} {i : Nat} {v : Int32} (hI : IQ P T) (hi : i < 112) (h : (rgS i).1 ≤ v.toInt ∧ v.toInt ≤ (rgS i).2) : IQ P (ma T 6 i v) :=
  IQ_ma hI (by show (if i < 112 then rgS i else fullI).1 ≤ v.toInt ∧ v.toInt ≤ (if i < 112 then rgS i else fullI).2; rw [if_pos hi]; exact h) (no_pinM hI.1 rfl) (by decide) (by decide) (by decide) (by decide) (by decide) (by decide) (by decide) (by decide)
theorem Isl.w6 {P : Nat → Nat → Option Int} {T w : mT} {i : Nat} {v : Int32} (k : Isl P T w) (hi : i < 112) (h2 : i ≠ 2) (h5 : i ≠ 5) (h : (rgS i).1 ≤ v.toInt ∧ v.toInt ≤ (rgS i).2) : Isl P T (ma w 6 i v) := by
  obtain ⟨h1, h2', h3, h4, h5', h6, h7, h8⟩ := k
  have z : ∀ r, r ≠ 6 → (ma w 6 i v).1 r = w.1 r := fun r hr => ma_no _ _ _ hr
  refine ⟨IQ_6 h1 hi h, ?_, ?_, ?_, ?_, ?_, ?_, ?_⟩
  · rw [z 0 (by decide)]; exact h2'
  · rw [z 10 (by decide)]; exact h3
  · rw [z 0 (by decide)]; exact h4
  · rw [z 0 (by decide)]; exact h5'
  · rw [ma_ne (Or.inr (Ne.symm h2))]; exact h6
  · rw [ma_ne (Or.inr (Ne.symm h5))]; exact h7
  · rw [z 0 (by decide)]; exact h8
theorem im_6_0 {P : Nat → Nat → Option Int} {T : mT} (hI : IQ P T) : 0 ≤ (T.1 6 0).toInt ∧ (T.1 6 0).toInt ≤ 6 := hI.1.1 6 0
theorem im_6_1 {P : Nat → Nat → Option Int} {T : mT} (hI : IQ P T) : 0 ≤ (T.1 6 1).toInt ∧ (T.1 6 1).toInt ≤ 8 := hI.1.1 6 1
theorem tm_number9 {P : Nat → Nat → Option Int} {p0 p1 : Int32} {T : mT} (hn : (T.1 0 8).toInt ≤ (T.1 0 1).toInt) (hI : IQ P T) : wp (fm_numberHere p0 p1 T) (fun w => w.1 = false → w.2.1 0 9 ≠ 0) := by
  unfold fm_numberHere
  have fu : (FU : Int) = 1000000 := rfl
  refine wp_bind (tm_see hn hI) (fun q1 h1 => ?_)
  have d1 := im_0_1 h1.1.1
  have d8 := im_0_8 h1.1.1
  refine wp_bind (tm_isDigit d8.1 h1.1.1) (fun q2 h2 => ?_)
  refine wp_b (fun _ => ?_) (fun b2 => ?_)
  · exact wp_bind (tm_fails9 (by decide) (by decide) d8.1 d8.2 h1.1.2.2.2 h1.1.1) (fun q19 h19 => wp_some (fun _ => h19.2))
  · refine wp_bind (tm_numberHere_L34 FU 0 q1.2 h1.1.1 h1.1.2.2.2 (by omega)) (fun w10 h10 => ?_)
    refine wp_letv (fun T11 e11 => ?_)
    have t11 : Tok P T T11 := by rw [e11]; exact tok_10 (h1.1.trans h10.1)
    have fl : wp ((fm_fails 1 (q1.2.1 0 8) T11).bind fun q13 => if (b2i q13.1) = 0 then (some (false, q13.2)) else (some (true, q13.2))) (fun w => w.1 = false → w.2.1 0 9 ≠ 0) := by
      refine wp_bind (tm_fails9 (by decide) (by decide) d8.1 d8.2 t11.2.2.2 t11.1) (fun q13 h13 => ?_)
      exact wp_b (fun _ => wp_some (fun _ => h13.2)) (fun b => by rw [h13.1.1] at b; cases b)
    refine wp_lt (fun _ => fl) (fun _ => ?_)
    refine wp_bind tm_in (fun q15 h15 => ?_)
    refine wp_b (fun _ => fl) (fun b15 => ?_)
    exact wp_some (fun z => by cases z)
/-- an answer of a line's reader -/
def Lin (P : Nat → Nat → Option Int) (T : mT) (w : Bool × mT) : Prop := Isl P T w.2 ∧ (w.1 = false → w.2.1 0 9 ≠ 0)
theorem Lin.pre {P : Nat → Nat → Option Int} {A B : mT} {w : Bool × mT} (h : Isl P A B) (g : Lin P B w) : Lin P A w := ⟨h.trans g.1, g.2⟩
theorem Lin.fails {P : Nat → Nat → Option Int} {A B : mT} {p0 p1 : Int32} (h : Isl P A B) (h0 : 0 ≤ p0.toInt) (h7 : p0.toInt ≤ 7) (a0 : 0 ≤ p1.toInt) (a4 : p1.toInt ≤ 400) : wp ((fm_fails p0 p1 B).bind fun q => some (q.1, q.2)) (fun w => Lin P A w) :=
  wp_bind (tm_fails9 h0 h7 a0 a4 h.2.1 h.1) (fun q hq => wp_some ⟨h.trans (Isl.ofT hq.1.2), fun _ => hq.2⟩)
theorem tm_cellHere {P : Nat → Nat → Option Int} {p0 p1 p2 : Int32} {T : mT} {i : Nat} (hn : (T.1 0 8).toInt ≤ (T.1 0 1).toInt) (hI : IQ P T) (hi : p0.toInt = (i : Int)) (h112 : i < 112) (h2 : i ≠ 2) (h5 : i ≠ 5) (hr : (rgS i).1 ≤ p1.toInt ∧ p2.toInt ≤ (rgS i).2) : wp (fm_cellHere p0 p1 p2 T) (fun w => Lin P T w ∧ ∀ j, j ≠ i → w.2.1 6 j = T.1 6 j) := by
  unfold fm_cellHere
  refine wp_bind (wp_and (tm_numberHere hn hI) (tm_number9 hn hI)) (fun q1 h1 => ?_)
  obtain ⟨⟨k1, g1⟩, f1⟩ := h1
  have r6 : ∀ j, q1.2.1 6 j = T.1 6 j := fun j => k1.2.1.2 6 j (Or.inl (by decide))
  refine wp_b (fun b => wp_some ⟨⟨Isl.ofT k1, fun _ => f1 b⟩, fun j _ => r6 j⟩) (fun b => ?_)
  obtain ⟨_, g2, g3⟩ := g1 b
  refine wp_bif (inb_of (by omega) (by omega)) ?_
  refine wp_letv (fun T3 e3 => wp_some ?_)
  rw [cl_idx hi] at e3
  rw [e3]
  exact ⟨⟨(Isl.ofT k1).w6 h112 h2 h5 ⟨by omega, by omega⟩, fun z => by cases z⟩, fun j hj => by dsimp only; rw [ma_ne (Or.inr hj)]; exact r6 j⟩
theorem tm_areMarksHere {P : Nat → Nat → Option Int} {p0 : Int32} {T : mT} (hn : (T.1 0 8).toInt ≤ (T.1 0 1).toInt) (hI : IQ P T) (a0 : 0 ≤ p0.toInt) (a4 : p0.toInt ≤ 400) : wp (fm_areMarksHere p0 T) (fun w => Lin P T w) := by
  unfold fm_areMarksHere
  refine wp_bif (inb_of (by decide) (by decide)) ?_
  refine wp_letv (fun v1 _ => ?_)
  refine wp_le (fun _ => ?_) (fun _ => ?_)
  · refine wp_bind (tm_passWord hn hI) (fun q3 h3 => ?_)
    refine wp_bind (tm_cellHere (i := 0) h3.1.2.2.2 h3.1.1 (by decide) (by decide) (by decide) (by decide) (by decide)) (fun q4 h4 => wp_some (Lin.pre (Isl.ofT h3.1) h4.1))
  · exact Lin.fails (Isl.ofT (Tok.rfl' hI hn)) (by decide) (by decide) a0 a4
theorem shl_le {v : Int32} (h0 : 0 ≤ v.toInt) (h6 : v.toInt ≤ 6) : ((1 <<< (v &&& 31)) - 1 : Int32).toInt ≤ 63 := by
  have c : v = 0 ∨ v = 1 ∨ v = 2 ∨ v = 3 ∨ v = 4 ∨ v = 5 ∨ v = 6 := by
    have e : v.toInt = 0 ∨ v.toInt = 1 ∨ v.toInt = 2 ∨ v.toInt = 3 ∨ v.toInt = 4 ∨ v.toInt = 5 ∨ v.toInt = 6 := by omega
    have g : ∀ {m : Int32}, v.toInt = m.toInt → v = m := fun z => Int32.toInt_inj.mp z
    rcases e with z | z | z | z | z | z | z
    · exact Or.inl (g z)
    · exact Or.inr (Or.inl (g z))
    · exact Or.inr (Or.inr (Or.inl (g z)))
    · exact Or.inr (Or.inr (Or.inr (Or.inl (g z))))
    · exact Or.inr (Or.inr (Or.inr (Or.inr (Or.inl (g z)))))
    · exact Or.inr (Or.inr (Or.inr (Or.inr (Or.inr (Or.inl (g z))))))
    · exact Or.inr (Or.inr (Or.inr (Or.inr (Or.inr (Or.inr (g z))))))
  rcases c with rfl | rfl | rfl | rfl | rfl | rfl | rfl <;> decide
theorem rgS_6 {i : Nat} (h8 : 8 ≤ i) (h112 : i < 112) (h : i % 4 ≠ 0 ∨ 40 ≤ i) : rgS i = fullI := rgS_free (Or.inl ⟨h8, h112, h⟩)
theorem rgS_f {i : Nat} (h8 : 8 ≤ i) (h40 : i < 40) (h : i % 4 = 0) : rgS i = (0, 63) := by
  unfold rgS
  rw [if_neg (by omega), if_neg (by omega), if_neg (by omega), if_neg (by omega), if_neg (by omega), if_neg (by omega), if_pos ⟨h8, h40, h⟩]
theorem Isl.free {P : Nat → Nat → Option Int} {T w : mT} {i : Nat} {v : Int32} (k : Isl P T w) (h8 : 8 ≤ i) (h112 : i < 112) (h : i % 4 ≠ 0 ∨ 40 ≤ i) : Isl P T (ma w 6 i v) := k.w6 h112 (by omega) (by omega) (by rw [rgS_6 h8 h112 h]; exact bnd v)
theorem tm_isPersonHere_L88 {P : Nat → Nat → Option Int} {k1 k2 : Int32} {T0 : mT} {n : Nat} (hn8 : n < 8) : ∀ (N : Nat) (a3 : Int32) (i : Nat) (T : mT), a3.toInt = (i : Int) → i ≤ 8 → 8 - (i : Int) < (N : Int) → Isl P T0 T → (T.1 6 1).toInt = (n : Int) → wp (fm_isPersonHere_L88 k1 k2 N a3 T) (fun w => Isl P T0 w.2 ∧ (w.2.1 6 1).toInt = (n : Int)) := by
  have l_1 : (1 : Int32).toInt = 1 := by decide
  have l_8 : (8 : Int32).toInt = 8 := by decide
  have l_40 : (40 : Int32).toInt = 40 := by decide
  intro N
  induction N with
  | zero =>
    intro a3 i T e hi hm k h1
    exfalso; omega
  | succ N ih =>
    intro a3 i T e hi hm k h1
    rw [fm_isPersonHere_L88]
    refine wp_le (fun _ => wp_some ⟨k, h1⟩) (fun hc => ?_)
    refine wp_bif (inb_of (by decide) (by decide)) ?_
    refine wp_letv (fun v13 e13 => ?_)
    have ev : v13.toInt = (n : Int) := by rw [e13]; exact h1
    have m := tML (a := 8) (b := v13) (n := 8) (by decide) (by omega) (by omega)
    have t1 := tA (a := 40) (b := 8 * v13) (by omega) (by omega)
    have t2 := tA (a := 40 + 8 * v13) (b := a3) (by omega) (by omega)
    refine wp_bif (inb_of (by omega) (by omega)) ?_
    refine wp_letv (fun T14 e14 => ?_)
    rw [cl_idx (e := (40 + 8 * v13) + a3) (n := 40 + 8 * n + i) (by omega)] at e14
    have K14 : Isl P T0 T14 := by rw [e14]; exact k.free (by omega) (by omega) (by omega)
    have h14 : T14.1 6 1 = T.1 6 1 := by rw [e14]; exact ma_ne (Or.inr (by omega))
    refine wp_bif (inb_of (by decide) (by decide)) ?_
    refine wp_letv (fun v15 e15 => ?_)
    have ev15 : v15.toInt = (n : Int) := by rw [e15]; show (T14.1 6 1).toInt = _; rw [h14]; exact h1
    have m' := tML (a := 8) (b := a3) (n := 8) (by decide) (by omega) (by omega)
    have t1' := tA (a := 40) (b := 8 * a3) (by omega) (by omega)
    have t2' := tA (a := 40 + 8 * a3) (b := v15) (by omega) (by omega)
    refine wp_bif (inb_of (by omega) (by omega)) ?_
    refine wp_letv (fun T16 e16 => ?_)
    rw [cl_idx (e := (40 + 8 * a3) + v15) (n := 40 + 8 * i + n) (by omega)] at e16
    have u := tA (a := a3) (b := 1) (by omega) (by omega)
    exact ih (a3 + 1) (i + 1) T16 (by omega) (by omega) (by omega) (by rw [e16]; exact K14.free (by omega) (by omega) (by omega)) (by rw [e16, ma_ne (Or.inr (by omega)), h14]; exact h1)
theorem tm_isPersonHere {P : Nat → Nat → Option Int} {p0 : Int32} {T : mT} (hn : (T.1 0 8).toInt ≤ (T.1 0 1).toInt) (hI : IQ P T) (a0 : 0 ≤ p0.toInt) (a4 : p0.toInt ≤ 400) : wp (fm_isPersonHere p0 T) (fun w => Lin P T w) := by
  unfold fm_isPersonHere
  have l_0 : (0 : Int32).toInt = 0 := by decide
  have l_1 : (1 : Int32).toInt = 1 := by decide
  have l_2 : (2 : Int32).toInt = 2 := by decide
  have l_3 : (3 : Int32).toInt = 3 := by decide
  have l_8 : (8 : Int32).toInt = 8 := by decide
  have l_104 : (104 : Int32).toInt = 104 := by decide
  have fu : (FU : Int) = 1000000 := rfl
  have c61 := im_6_1 hI
  refine wp_bif (inb_of (by decide) (by decide)) ?_
  refine wp_letv (fun v1 e1 => ?_)
  refine wp_eq (fun _ => Lin.fails (Isl.ofT (Tok.rfl' hI hn)) (by decide) (by decide) a0 a4) (fun ne => ?_)
  have ev1 : v1 = T.1 6 1 := e1
  rw [ev1] at ne
  obtain ⟨n, hn1⟩ : ∃ n : Nat, (T.1 6 1).toInt = (n : Int) := ⟨(T.1 6 1).toInt.toNat, by omega⟩
  have n8 : n < 8 := by omega
  refine wp_bind (tm_passWord hn hI) (fun q3 h3 => ?_)
  have k3 : Isl P T q3 := Isl.ofT h3.1
  have s3 : ∀ j, q3.1 6 j = T.1 6 j := fun j => h3.1.2.1.2 6 j (Or.inl (by decide))
  refine wp_bif (inb_of (by decide) (by decide)) ?_
  refine wp_letv (fun v4 e4 => ?_)
  have ev4 : v4.toInt = (n : Int) := by rw [e4]; show (q3.1 6 1).toInt = _; rw [s3]; exact hn1
  refine wp_bif (inb_of (by decide) (by decide)) ?_
  refine wp_letv (fun v5 e5 => ?_)
  have ev5 : v5 = T.1 6 0 := by rw [e5]; exact s3 0
  have c60 := im_6_0 hI
  have sh := shl_le (v := v5) (by rw [ev5]; exact c60.1) (by rw [ev5]; exact c60.2)
  have m := tML (a := 4) (b := v4) (n := 4) (by decide) (by omega) (by omega)
  have t1 := tA (a := 8) (b := 4 * v4) (by omega) (by omega)
  have ix : (8 + 4 * v4).toInt = ((8 + 4 * n : Nat) : Int) := by omega
  generalize (8 + 4 * v4) = bq at *
  have b1 := tA (a := bq) (b := 1) (by omega) (by omega)
  have b2 := tA (a := bq) (b := 2) (by omega) (by omega)
  have b3 := tA (a := bq) (b := 3) (by omega) (by omega)
  refine wp_bind (tm_cellHere (i := 8 + 4 * n) k3.2.1 k3.1 ix (by omega) (by omega) (by omega) (by rw [rgS_f (by omega) (by omega) (by omega)]; exact ⟨by decide, sh⟩)) (fun q6 h6 => ?_)
  obtain ⟨L6, s6⟩ := h6
  have k6 : Isl P T q6.2 := k3.trans L6.1
  have h61 : q6.2.1 6 1 = T.1 6 1 := by rw [s6 1 (by omega)]; exact s3 1
  refine wp_b (fun b => wp_some ⟨k6, fun _ => L6.2 b⟩) (fun _ => ?_)
  refine wp_bind (tm_cellHere (i := 8 + 4 * n + 1) k6.2.1 k6.1 (by omega) (by omega) (by omega) (by omega) (by rw [rgS_6 (by omega) (by omega) (by omega)]; exact ⟨by decide, by decide⟩)) (fun q8 h8 => ?_)
  obtain ⟨L8, s8⟩ := h8
  have k8 : Isl P T q8.2 := k6.trans L8.1
  have h81 : q8.2.1 6 1 = T.1 6 1 := by rw [s8 1 (by omega)]; exact h61
  refine wp_b (fun b => wp_some ⟨k8, fun _ => L8.2 b⟩) (fun _ => ?_)
  refine wp_bif (inb_of (by omega) (by omega)) ?_
  refine wp_letv (fun T10 e10 => ?_)
  rw [cl_idx (e := bq + 2) (n := 8 + 4 * n + 2) (by omega)] at e10
  refine wp_bif (inb_of (by omega) (by omega)) ?_
  refine wp_letv (fun T11 e11 => ?_)
  rw [cl_idx (e := bq + 3) (n := 8 + 4 * n + 3) (by omega)] at e11
  have k10 : Isl P T T10 := by rw [e10]; exact k8.free (by omega) (by omega) (by omega)
  have k11 : Isl P T T11 := by rw [e11]; exact k10.free (by omega) (by omega) (by omega)
  have h111 : (T11.1 6 1).toInt = (n : Int) := by rw [e11, ma_ne (Or.inr (by omega)), e10, ma_ne (Or.inr (by omega)), h81]; exact hn1
  refine wp_bind (tm_isPersonHere_L88 n8 FU 0 0 T11 (by decide) (by omega) (by omega) k11 h111) (fun w17 h17 => ?_)
  obtain ⟨k17, h171⟩ := h17
  refine wp_bif (inb_of (by decide) (by decide)) ?_
  refine wp_letv (fun v18 e18 => ?_)
  have ev18 : v18.toInt = (n : Int) := by rw [e18]; exact h171
  have t18 := tA (a := 104) (b := v18) (by omega) (by omega)
  refine wp_bif (inb_of (by omega) (by omega)) ?_
  refine wp_letv (fun T19 e19 => ?_)
  rw [cl_idx (e := 104 + v18) (n := 104 + n) (by omega)] at e19
  have k19 : Isl P T T19 := by rw [e19]; exact k17.free (by omega) (by omega) (by omega)
  refine wp_bif (inb_of (by decide) (by decide)) ?_
  refine wp_letv (fun v20 e20 => ?_)
  have ev20 : v20.toInt = (n : Int) := by rw [e20]; show (T19.1 6 1).toInt = _; rw [e19, ma_ne (Or.inr (by omega))]; exact h171
  have u := tA (a := v20) (b := 1) (by omega) (by omega)
  refine wp_bif (inb_of (by decide) (by decide)) ?_
  refine wp_letv (fun T21 e21 => wp_some ⟨?_, fun z => by cases z⟩)
  rw [e21]
  exact k19.w6 (i := 1) (by decide) (by decide) (by decide) (show (0 : Int) ≤ (v20 + 1).toInt ∧ (v20 + 1).toInt ≤ 8 from ⟨by omega, by omega⟩)
theorem Isl.z17 {P : Nat → Nat → Option Int} {T w : mT} {v : Int32} (k : Isl P T w) (h0 : 0 ≤ v.toInt) (h7 : v.toInt ≤ 7) : Isl P T (mz w 17 v) := by
  obtain ⟨h1, h2', h3, h4, h5', h6, h7', h8⟩ := k
  refine ⟨IQ_mz h1 (show (0 : Int) ≤ v.toInt ∧ v.toInt ≤ 7 from ⟨h0, h7⟩) (no_pinM h1.1 rfl) (by decide) (by decide), ?_, ?_, ?_, ?_, ?_, ?_, ?_⟩
  · rw [mz_ne (by decide), mz_ne (by decide)]; exact h2'
  · rw [mz_no _ _ _ (by decide)]; exact h3
  · rw [mz_ne (by decide)]; exact h4
  · rw [mz_ne (by decide)]; exact h5'
  · rw [mz_ne (by decide)]; exact h6
  · rw [mz_ne (by decide)]; exact h7'
  · rw [mz_ne (by decide)]; exact h8
theorem tm_twoHere {P : Nat → Nat → Option Int} {T : mT} (hn : (T.1 0 8).toInt ≤ (T.1 0 1).toInt) (hI : IQ P T) : wp (fm_twoHere T) (fun w => Lin P T w ∧ (w.1 = true → 0 ≤ (w.2.1 0 10).toInt ∧ (w.2.1 0 10).toInt ≤ 7)) := by
  unfold fm_twoHere
  have l_0 : (0 : Int32).toInt = 0 := by decide
  have l_1 : (1 : Int32).toInt = 1 := by decide
  refine wp_bind (tm_passWord hn hI) (fun q1 h1 => ?_)
  have k1 : Isl P T q1 := Isl.ofT h1.1
  refine wp_bif (inb_of (by decide) (by decide)) ?_
  refine wp_letv (fun v2 e2 => ?_)
  have c2 : 0 ≤ v2.toInt ∧ v2.toInt ≤ 8 := by rw [e2]; exact im_6_1 k1.1
  have u2 := tS (a := v2) (b := 1) (by omega) (by omega)
  refine wp_bind (wp_and (tm_numberHere k1.2.1 k1.1) (tm_number9 k1.2.1 k1.1)) (fun q3 h3 => ?_)
  obtain ⟨⟨k3, g3⟩, f3⟩ := h3
  have K3 : Isl P T q3.2 := k1.trans (Isl.ofT k3)
  refine wp_b (fun b => wp_some ⟨⟨K3, fun _ => f3 b⟩, fun z => by cases z⟩) (fun b => ?_)
  obtain ⟨_, g4, g5⟩ := g3 b
  refine wp_letv (fun T5 e5 => ?_)
  have K5 : Isl P T T5 := by rw [e5]; exact K3.z17 (by omega) (by omega)
  refine wp_bind (tm_see K5.2.1 K5.1) (fun q6 h6 => ?_)
  have K6 : Isl P T q6.2 := K5.trans (Isl.ofT h6.1)
  have c68 := im_0_8 K6.1
  refine wp_bif (inb_of (by decide) (by decide)) ?_
  refine wp_letv (fun v7 e7 => ?_)
  have c7 : 0 ≤ v7.toInt ∧ v7.toInt ≤ 8 := by rw [e7]; exact im_6_1 K6.1
  have u7 := tS (a := v7) (b := 1) (by omega) (by omega)
  refine wp_bind (wp_and (tm_numberHere K6.2.1 K6.1) (tm_number9 K6.2.1 K6.1)) (fun q8 h8 => ?_)
  obtain ⟨⟨k8, g8⟩, f8⟩ := h8
  have K8 : Isl P T q8.2 := K6.trans (Isl.ofT k8)
  refine wp_b (fun b => wp_some ⟨⟨K8, fun _ => f8 b⟩, fun z => by cases z⟩) (fun b => ?_)
  obtain ⟨_, g9, g10⟩ := g8 b
  refine wp_eqn (fun _ => ?_) (wp_some ⟨⟨K8, fun z => by cases z⟩, fun _ => ⟨by dsimp only; omega, by dsimp only; omega⟩⟩)
  refine wp_bind (tm_fails9 (by decide) (by decide) c68.1 c68.2 K8.2.1 K8.1) (fun q11 h11 => ?_)
  exact wp_b (fun _ => wp_some ⟨⟨K8.trans (Isl.ofT h11.1.2), fun _ => h11.2⟩, fun z => by cases z⟩) (fun b => by rw [h11.1.1] at b; cases b)
theorem tm_isTieHere {P : Nat → Nat → Option Int} {T : mT} (hn : (T.1 0 8).toInt ≤ (T.1 0 1).toInt) (hI : IQ P T) : wp (fm_isTieHere T) (fun w => Lin P T w) := by
  unfold fm_isTieHere
  have l_40 : (40 : Int32).toInt = 40 := by decide
  refine wp_bind (tm_twoHere hn hI) (fun q1 h1 => ?_)
  obtain ⟨L1, g1⟩ := h1
  refine wp_b (fun b => wp_some ⟨L1.1, fun _ => L1.2 b⟩) (fun b => ?_)
  obtain ⟨a0, a7⟩ := g1 b
  have c17 := im_0_17 L1.1.1
  have m := tML (a := 8) (b := q1.2.1 0 17) (n := 8) (by decide) (by omega) (by omega)
  have t1 := tA (a := 40) (b := 8 * q1.2.1 0 17) (by omega) (by omega)
  have t2 := tA (a := 40 + 8 * q1.2.1 0 17) (b := q1.2.1 0 10) (by omega) (by omega)
  obtain ⟨i, hi⟩ : ∃ i : Nat, ((40 + 8 * q1.2.1 0 17) + q1.2.1 0 10).toInt = (i : Int) := ⟨((40 + 8 * q1.2.1 0 17) + q1.2.1 0 10).toInt.toNat, by omega⟩
  refine wp_bind (tm_cellHere (i := i) L1.1.2.1 L1.1.1 hi (by omega) (by omega) (by omega) (by rw [rgS_6 (by omega) (by omega) (by omega)]; exact ⟨by decide, by decide⟩)) (fun q3 h3 => ?_)
  obtain ⟨L3, _⟩ := h3
  exact wp_b (fun b => wp_some ⟨L1.1.trans L3.1, fun _ => L3.2 b⟩) (fun b => wp_some ⟨L1.1.trans L3.1, fun z => by cases z⟩)
theorem tm_isBoatHere {P : Nat → Nat → Option Int} {T : mT} (hn : (T.1 0 8).toInt ≤ (T.1 0 1).toInt) (hI : IQ P T) : wp (fm_isBoatHere T) (fun w => Lin P T w) := by
  unfold fm_isBoatHere
  have l_104 : (104 : Int32).toInt = 104 := by decide
  refine wp_bind (tm_twoHere hn hI) (fun q1 h1 => ?_)
  obtain ⟨L1, g1⟩ := h1
  refine wp_b (fun b => wp_some ⟨L1.1, fun _ => L1.2 b⟩) (fun b => ?_)
  obtain ⟨a0, a7⟩ := g1 b
  have c17 := im_0_17 L1.1.1
  have t1 := tA (a := 104) (b := q1.2.1 0 17) (by omega) (by omega)
  have t2 := tA (a := 104) (b := q1.2.1 0 10) (by omega) (by omega)
  obtain ⟨i, hi⟩ : ∃ i : Nat, (104 + q1.2.1 0 17).toInt = (i : Int) := ⟨(104 + q1.2.1 0 17).toInt.toNat, by omega⟩
  obtain ⟨k, hk⟩ : ∃ i : Nat, (104 + q1.2.1 0 10).toInt = (i : Int) := ⟨(104 + q1.2.1 0 10).toInt.toNat, by omega⟩
  refine wp_bif (inb_of (by omega) (by omega)) ?_
  refine wp_letv (fun v3 _ => ?_)
  refine wp_bif (inb_of (by omega) (by omega)) ?_
  refine wp_letv (fun T4 e4 => ?_)
  rw [cl_idx hi] at e4
  have K4 : Isl P T T4 := by rw [e4]; exact L1.1.free (by omega) (by omega) (by omega)
  have z4 : ∀ j, T4.1 0 j = q1.2.1 0 j := fun j => by rw [e4]; exact ma_ne (Or.inl (by decide))
  refine wp_bif (inb_of (by rw [z4]; omega) (by rw [z4]; omega)) ?_
  refine wp_letv (fun v5 _ => ?_)
  refine wp_bif (inb_of (by rw [z4]; omega) (by rw [z4]; omega)) ?_
  refine wp_letv (fun T6 e6 => wp_some ⟨?_, fun z => by cases z⟩)
  rw [e6, z4, cl_idx hk]
  exact K4.free (by omega) (by omega) (by omega)
theorem tm_isGlassHere {P : Nat → Nat → Option Int} {T : mT} (hn : (T.1 0 8).toInt ≤ (T.1 0 1).toInt) (hI : IQ P T) : wp (fm_isGlassHere T) (fun w => Lin P T w) := by
  unfold fm_isGlassHere
  have l_0 : (0 : Int32).toInt = 0 := by decide
  have l_1 : (1 : Int32).toInt = 1 := by decide
  refine wp_bind (tm_passWord hn hI) (fun q1 h1 => ?_)
  have k1 : Isl P T q1 := Isl.ofT h1.1
  refine wp_bif (inb_of (by decide) (by decide)) ?_
  refine wp_letv (fun v2 e2 => ?_)
  have c2 : 0 ≤ v2.toInt ∧ v2.toInt ≤ 8 := by rw [e2]; exact im_6_1 k1.1
  have u2 := tS (a := v2) (b := 1) (by omega) (by omega)
  refine wp_bind (tm_cellHere (i := 3) k1.2.1 k1.1 (by decide) (by decide) (by decide) (by decide) (show (0 : Int) ≤ (0 : Int32).toInt ∧ (v2 - 1).toInt ≤ 7 from ⟨by omega, by omega⟩)) (fun q3 h3 => wp_some (Lin.pre k1 h3.1))
theorem tm_islandLineHere {P : Nat → Nat → Option Int} {p0 : Int32} {T : mT} (hn : (T.1 0 8).toInt ≤ (T.1 0 1).toInt) (hI : IQ P T) (a0 : 0 ≤ p0.toInt) (a4 : p0.toInt ≤ 400) : wp (fm_islandLineHere p0 T) (fun w => Lin P T w) := by
  unfold fm_islandLineHere
  refine wp_bind (tm_isWord hn hI) (fun q1 h1 => ?_)
  have k1 : Isl P T q1.2 := Isl.ofT h1.1
  refine wp_b (fun _ => ?_) (fun _ => wp_bind (tm_areMarksHere k1.2.1 k1.1 a0 a4) (fun q h => wp_some (Lin.pre k1 h)))
  refine wp_bif (inb_of (by decide) (by decide)) ?_
  refine wp_letv (fun v3 _ => ?_)
  refine wp_eqn (fun _ => Lin.fails k1 (by decide) (by decide) a0 a4) ?_
  refine wp_bind (tm_isWord k1.2.1 k1.1) (fun q5 h5 => ?_)
  have k5 := k1.trans (Isl.ofT h5.1)
  refine wp_b (fun _ => ?_) (fun _ => wp_bind (tm_isPersonHere k5.2.1 k5.1 a0 a4) (fun q h => wp_some (Lin.pre k5 h)))
  refine wp_bind (tm_isWord k5.2.1 k5.1) (fun q7 h7 => ?_)
  have k7 := k5.trans (Isl.ofT h7.1)
  refine wp_b (fun _ => ?_) (fun _ => wp_bind (tm_isTieHere k7.2.1 k7.1) (fun q h => wp_some (Lin.pre k7 h)))
  refine wp_bind (tm_isWord k7.2.1 k7.1) (fun q9 h9 => ?_)
  have k9 := k7.trans (Isl.ofT h9.1)
  exact wp_b (fun _ => wp_bind (tm_isGlassHere k9.2.1 k9.1) (fun q h => wp_some (Lin.pre k9 h))) (fun _ => wp_bind (tm_isBoatHere k9.2.1 k9.1) (fun q h => wp_some (Lin.pre k9 h)))
theorem tm_isIslandWord {P : Nat → Nat → Option Int} {T : mT} (hn : (T.1 0 8).toInt ≤ (T.1 0 1).toInt) (hI : IQ P T) : wp (fm_isIslandWord T) (fun w => Tok P T w.2) := by
  unfold fm_isIslandWord
  refine wp_bind (tm_isWord hn hI) (fun q1 h1 => ?_)
  have k1 := h1.1
  refine wp_b (fun _ => ?_) (fun _ => wp_some k1)
  refine wp_bind (tm_isWord k1.2.2.2 k1.1) (fun q3 h3 => ?_)
  have k3 := k1.trans h3.1
  refine wp_b (fun _ => ?_) (fun _ => wp_some k3)
  refine wp_bind (tm_isWord k3.2.2.2 k3.1) (fun q5 h5 => ?_)
  have k5 := k3.trans h5.1
  refine wp_b (fun _ => ?_) (fun _ => wp_some k5)
  refine wp_bind (tm_isWord k5.2.2.2 k5.1) (fun q7 h7 => ?_)
  have k7 := k5.trans h7.1
  refine wp_b (fun _ => ?_) (fun _ => wp_some k7)
  refine wp_bind (tm_isWord k7.2.2.2 k7.1) (fun q9 h9 => ?_)
  have k9 := k7.trans h9.1
  exact wp_b (fun _ => wp_some k9) (fun _ => wp_some k9)
