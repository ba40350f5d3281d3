/-! ===== the reference's reader: signs and words ===== -/
/-- all but the place, the fault and the number stands -/
def Tk (T w : mT) : Prop := w.2 = T.2 ∧ ∀ r j, (r ≠ 0 ∨ (j ≠ 8 ∧ j ≠ 9 ∧ j ≠ 10)) → w.1 r j = T.1 r j
theorem Tk.rfl' {T : mT} : Tk T T := ⟨rfl, fun _ _ _ => rfl⟩
theorem Tk.trans {A B C : mT} (h : Tk A B) (g : Tk B C) : Tk A C := ⟨g.1.trans h.1, fun r j z => (g.2 r j z).trans (h.2 r j z)⟩
theorem Tk.w {A B : mT} {i : Nat} {v : Int32} (h : Tk A B) (hi : i = 8 ∨ i = 9 ∨ i = 10) : Tk A (mz B i v) := ⟨h.1, fun r j z => (mz_ne (by omega)).trans (h.2 r j z)⟩
def Tok (P : Nat → Nat → Option Int) (T w : mT) : Prop := IQ P w ∧ Tk T w ∧ (T.1 0 8).toInt ≤ (w.1 0 8).toInt ∧ (w.1 0 8).toInt ≤ (w.1 0 1).toInt
theorem Tok.rfl' {P : Nat → Nat → Option Int} {T : mT} (hI : IQ P T) (hn : (T.1 0 8).toInt ≤ (T.1 0 1).toInt) : Tok P T T := ⟨hI, Tk.rfl', Int.le_refl _, hn⟩
theorem Tok.trans {P : Nat → Nat → Option Int} {A B C : mT} (h : Tok P A B) (g : Tok P B C) : Tok P A C := ⟨g.1, h.2.1.trans g.2.1, Int.le_trans h.2.2.1 g.2.2.1, g.2.2.2⟩
theorem Tok.tp {P : Nat → Nat → Option Int} {A B : mT} (h : Tok P A B) : B.1 0 1 = A.1 0 1 := h.2.1.2 0 1 (Or.inr (by decide))
theorem iz_any {P : Nat → Nat → Option Int} {T : mT} (i : Nat) {v : Int32} (hI : IQ P T) (hr : rg0 i = fullI) (hp : pinM 0 i = false) (h2 : i ≠ 2) (h22 : i ≠ 22 ∧ i ≠ 25) : IQ P (mz T i v) := IQ_mz hI (by rw [hr]; exact bnd v) (no_pinM hI.1 hp) h2 h22
theorem iz_8 {P : Nat → Nat → Option Int} {T : mT} {v : Int32} (hI : IQ P T) (h1 : 0 ≤ v.toInt) (h2 : v.toInt ≤ 400) : IQ P (mz T 8 v) := IQ_mz hI ⟨h1, h2⟩ (no_pinM hI.1 rfl) (by decide) (by decide)
theorem iz_12 {P : Nat → Nat → Option Int} {T : mT} {v : Int32} (hI : IQ P T) (h1 : 0 ≤ v.toInt) (h2 : v.toInt ≤ 60) : IQ P (mz T 12 v) := IQ_mz hI ⟨h1, h2⟩ (no_pinM hI.1 rfl) (by decide) (by decide)
theorem iz_16 {P : Nat → Nat → Option Int} {T : mT} {v : Int32} (hI : IQ P T) (h1 : 0 ≤ v.toInt) (h2 : v.toInt ≤ 400) : IQ P (mz T 16 v) := IQ_mz hI ⟨h1, h2⟩ (no_pinM hI.1 rfl) (by decide) (by decide)
/-- one sign on -/
theorem tok_on {P : Nat → Nat → Option Int} {T : mT} (hI : IQ P T) (hn : (T.1 0 8).toInt < (T.1 0 1).toInt) : Tok P T (mz T 8 ((T.1 0 8) + 1)) ∧ ((mz T 8 ((T.1 0 8) + 1)).1 0 8).toInt = (T.1 0 8).toInt + 1 := by
  have l_1 : (1 : Int32).toInt = 1 := by decide
  have c1 := im_0_1 hI
  have c8 := im_0_8 hI
  have t := tA (a := T.1 0 8) (b := 1) (by omega) (by omega)
  have e : ((mz T 8 ((T.1 0 8) + 1)).1 0 8).toInt = (T.1 0 8).toInt + 1 := by rw [mz_at]; omega
  refine ⟨⟨iz_8 hI (by omega) (by omega), Tk.rfl'.w (Or.inl rfl), by omega, ?_⟩, e⟩
  rw [e, mz_ne (Or.inr (by decide))]
  omega
theorem tm_see_L0 {P : Nat → Nat → Option Int} : ∀ (N : Nat) (T : mT), IQ P T → (T.1 0 8).toInt ≤ (T.1 0 1).toInt → (T.1 0 1).toInt - (T.1 0 8).toInt < (N : Int) → wp (fm_see_L0 N T) (fun w => Tok P T w) := by
  intro N
  induction N with
  | zero =>
    intro T hI hn hm
    exfalso; omega
  | succ N ih =>
    intro T hI hn hm
    rw [fm_see_L0]
    have c1 := im_0_1 hI
    have c8 := im_0_8 hI
    refine wp_le (fun _ => wp_some (Tok.rfl' hI hn)) (fun hc => ?_)
    refine wp_bif (inb_of (by omega) (by omega)) ?_
    refine wp_letv (fun v2 _ => ?_)
    refine wp_eqn (fun _ => ?_) (wp_some (Tok.rfl' hI hn))
    refine wp_letv (fun T4 e4 => ?_)
    have z := tok_on hI hc
    rw [← e4] at z
    have e1 := z.1.tp
    exact wp_mono (ih T4 z.1.1 z.1.2.2.2 (by rw [e1]; omega)) (fun w hw => z.1.trans hw)
theorem tm_see {P : Nat → Nat → Option Int} {T : mT} (hn : (T.1 0 8).toInt ≤ (T.1 0 1).toInt) (hI : IQ P T) : wp (fm_see T) (fun w => Tok P T w.2 ∧ (w.1.toInt ≠ -1 → (w.2.1 0 8).toInt < (w.2.1 0 1).toInt)) := by
  unfold fm_see
  have l_m1 : ((-1) : Int32).toInt = -1 := by decide
  have fu : (FU : Int) = 1000000 := rfl
  have c1 := im_0_1 hI
  have c8 := im_0_8 hI
  refine wp_bind (tm_see_L0 FU T hI hn (by omega)) (fun w5 h5 => ?_)
  have d1 := im_0_1 h5.1
  have d8 := im_0_8 h5.1
  refine wp_le (fun _ => wp_some ⟨h5, fun z => absurd l_m1 z⟩) (fun hc => ?_)
  refine wp_bif (inb_of (by omega) (by omega)) ?_
  exact wp_letv (fun v7 _ => wp_some ⟨h5, fun _ => hc⟩)
def LET (T : mT) (p : Int) : Prop := p < (T.1 0 1).toInt ∧ 97 ≤ (T.1 1 p.toNat).toInt ∧ (T.1 1 p.toNat).toInt ≤ 122
theorem tm_isLetter {P : Nat → Nat → Option Int} {T : mT} {p0 : Int32} (h0 : 0 ≤ p0.toInt) (hI : IQ P T) : wp (fm_isLetter p0 T) (fun w => (w = true → LET T p0.toInt) ∧ (w = false → ¬ LET T p0.toInt)) := by
  unfold fm_isLetter
  have l_97 : (97 : Int32).toInt = 97 := by decide
  have l_122 : (122 : Int32).toInt = 122 := by decide
  have c1 := im_0_1 hI
  have ix : p0.toNatClampNeg = p0.toInt.toNat := rfl
  unfold LET
  refine wp_le (fun hc => wp_some ⟨fun z => (by cases z), fun _ z => (by omega)⟩) (fun hc => ?_)
  refine wp_bif (inb_of (by omega) (by omega)) ?_
  refine wp_letv (fun v2 e2 => ?_)
  rw [ix] at e2
  rw [← e2]
  refine wp_lt (fun hd => wp_some ⟨fun z => (by cases z), fun _ z => (by omega)⟩) (fun hd => ?_)
  refine wp_bif (inb_of (by omega) (by omega)) ?_
  refine wp_letv (fun v4 e4 => ?_)
  rw [ix, ← e2] at e4
  rw [e4]
  exact wp_lt (fun he => wp_some ⟨fun z => (by cases z), fun _ z => (by omega)⟩) (fun he => wp_some ⟨fun _ => ⟨hc, by omega, by omega⟩, fun z => by cases z⟩)
def DIG (T : mT) (p : Int) : Prop := p < (T.1 0 1).toInt ∧ 48 ≤ (T.1 1 p.toNat).toInt ∧ (T.1 1 p.toNat).toInt ≤ 57
theorem tm_isDigit {P : Nat → Nat → Option Int} {T : mT} {p0 : Int32} (h0 : 0 ≤ p0.toInt) (hI : IQ P T) : wp (fm_isDigit p0 T) (fun w => (w = true → DIG T p0.toInt) ∧ (w = false → ¬ DIG T p0.toInt)) := by
  unfold fm_isDigit
  have l_48 : (48 : Int32).toInt = 48 := by decide
  have l_57 : (57 : Int32).toInt = 57 := by decide
  have c1 := im_0_1 hI
  have ix : p0.toNatClampNeg = p0.toInt.toNat := rfl
  unfold DIG
  refine wp_le (fun hc => wp_some ⟨fun z => (by cases z), fun _ z => (by omega)⟩) (fun hc => ?_)
  refine wp_bif (inb_of (by omega) (by omega)) ?_
  refine wp_letv (fun v2 e2 => ?_)
  rw [ix] at e2
  rw [← e2]
  refine wp_lt (fun hd => wp_some ⟨fun z => (by cases z), fun _ z => (by omega)⟩) (fun hd => ?_)
  refine wp_bif (inb_of (by omega) (by omega)) ?_
  refine wp_letv (fun v4 e4 => ?_)
  rw [ix, ← e2] at e4
  rw [e4]
  exact wp_lt (fun he => wp_some ⟨fun z => (by cases z), fun _ z => (by omega)⟩) (fun he => wp_some ⟨fun _ => ⟨hc, by omega, by omega⟩, fun z => by cases z⟩)
theorem tm_isWord_L10 {P : Nat → Nat → Option Int} {k1 : Int64} {T : mT} (hI : IQ P T) : ∀ (N : Nat) (a3 : Int64) (a5 : Int32), 0 ≤ a5.toInt → (T.1 0 8).toInt + a5.toInt ≤ (T.1 0 1).toInt → (T.1 0 1).toInt - (T.1 0 8).toInt - a5.toInt < (N : Int) → wp (fm_isWord_L10 k1 T N a3 a5) (fun w => a5.toInt < w.2.toInt → LET T ((T.1 0 8).toInt + a5.toInt)) := by
  have l_1 : (1 : Int32).toInt = 1 := by decide
  have c1 := im_0_1 hI
  have c8 := im_0_8 hI
  intro N
  induction N with
  | zero =>
    intro a3 a5 h0 h1 hm
    exfalso; omega
  | succ N ih =>
    intro a3 a5 h0 h1 hm
    rw [fm_isWord_L10]
    have t := tA (a := T.1 0 8) (b := a5) (by omega) (by omega)
    have u := tA (a := a5) (b := 1) (by omega) (by omega)
    refine wp_bind (tm_isLetter (by omega) hI) (fun q2 h2 => ?_)
    refine wp_b (fun _ => wp_some (fun z => absurd z (by dsimp only; omega))) (fun b2 => ?_)
    have g2 := h2.1 b2
    rw [t] at g2
    have g3 := g2.1
    refine wp_le (fun _ => wp_mono (ih a3 (a5 + 1) (by omega) (by omega) (by omega)) (fun _ _ _ => g2)) (fun _ => ?_)
    refine wp_bif (inb_of (by omega) (by omega)) ?_
    exact wp_letv (fun v5 _ => wp_mono (ih _ (a5 + 1) (by omega) (by omega) (by omega)) (fun _ _ _ => g2))
theorem tm_isWord {P : Nat → Nat → Option Int} {p0 : Int64} {T : mT} (hn : (T.1 0 8).toInt ≤ (T.1 0 1).toInt) (hI : IQ P T) : wp (fm_isWord p0 T) (fun w => Tok P T w.2 ∧ (w.1 = true → LET w.2 (w.2.1 0 8).toInt)) := by
  unfold fm_isWord
  have l_0 : (0 : Int32).toInt = 0 := by decide
  have fu : (FU : Int) = 1000000 := rfl
  refine wp_bind (tm_see hn hI) (fun q1 h1 => ?_)
  have d1 := im_0_1 h1.1.1
  have d8 := im_0_8 h1.1.1
  have d := h1.1.2.2.2
  refine wp_bind (tm_isWord_L10 h1.1.1 FU 0 0 (by omega) (by omega) (by omega)) (fun w6 h6 => ?_)
  refine wp_le (fun _ => wp_some ⟨h1.1, fun z => by cases z⟩) (fun hc => ?_)
  have g := h6 (by omega)
  rw [l_0, Int.add_zero] at g
  refine wp_le (fun _ => wp_some ⟨h1.1, fun z => by cases z⟩) (fun _ => ?_)
  exact wp_if (fun _ => wp_some ⟨h1.1, fun _ => g⟩) (fun _ => wp_some ⟨h1.1, fun z => by cases z⟩)
theorem tm_passWord_L0 {P : Nat → Nat → Option Int} : ∀ (N : Nat) (T : mT), IQ P T → (T.1 0 8).toInt ≤ (T.1 0 1).toInt → (T.1 0 1).toInt - (T.1 0 8).toInt < (N : Int) → wp (fm_passWord_L0 N T) (fun w => Tok P T w ∧ (LET T (T.1 0 8).toInt → (T.1 0 8).toInt < (w.1 0 8).toInt)) := by
  intro N
  induction N with
  | zero =>
    intro T hI hn hm
    exfalso; omega
  | succ N ih =>
    intro T hI hn hm
    rw [fm_passWord_L0]
    have c8 := im_0_8 hI
    refine wp_bind (tm_isLetter c8.1 hI) (fun q1 h1 => ?_)
    refine wp_b (fun b1 => wp_some ⟨Tok.rfl' hI hn, fun z => absurd z (h1.2 b1)⟩) (fun b1 => ?_)
    refine wp_letv (fun T3 e3 => ?_)
    have z := tok_on hI (h1.1 b1).1
    rw [← e3] at z
    have e1 := z.1.tp
    exact wp_mono (ih T3 z.1.1 z.1.2.2.2 (by rw [e1]; omega)) (fun w hw => ⟨z.1.trans hw.1, fun _ => by have := hw.1.2.2.1; omega⟩)
theorem tm_passWord {P : Nat → Nat → Option Int} {T : mT} (hn : (T.1 0 8).toInt ≤ (T.1 0 1).toInt) (hI : IQ P T) : wp (fm_passWord T) (fun w => Tok P T w ∧ (LET T (T.1 0 8).toInt → (T.1 0 8).toInt < (w.1 0 8).toInt)) := by
  unfold fm_passWord
  have fu : (FU : Int) = 1000000 := rfl
  have c1 := im_0_1 hI
  have c8 := im_0_8 hI
  exact wp_bind (tm_passWord_L0 FU T hI hn (by omega)) (fun w h => wp_some h)
theorem tm_takesWord {P : Nat → Nat → Option Int} {p0 : Int64} {T : mT} (hn : (T.1 0 8).toInt ≤ (T.1 0 1).toInt) (hI : IQ P T) : wp (fm_takesWord p0 T) (fun w => Tok P T w.2) := by
  unfold fm_takesWord
  refine wp_bind (tm_isWord hn hI) (fun q1 h1 => ?_)
  refine wp_b (fun _ => wp_some h1.1) (fun _ => ?_)
  exact wp_bind (tm_passWord h1.1.2.2.2 h1.1.1) (fun q3 h3 => wp_some (h1.1.trans h3.1))
theorem tm_fails {P : Nat → Nat → Option Int} {p0 p1 : Int32} {T : mT} (hn : (T.1 0 8).toInt ≤ (T.1 0 1).toInt) (hI : IQ P T) : wp (fm_fails p0 p1 T) (fun w => w.1 = false ∧ Tok P T w.2) := by
  unfold fm_fails
  refine wp_eqn (fun _ => ?_) (wp_some ⟨rfl, Tok.rfl' hI hn⟩)
  refine wp_letv (fun T2 e2 => wp_some ⟨rfl, ?_⟩)
  rw [e2]
  refine ⟨iz_any 9 hI rfl rfl (by decide) (by decide), Tk.rfl'.w (Or.inr (Or.inl rfl)), ?_, ?_⟩
  · rw [mz_ne (Or.inr (by decide))]
    exact Int.le_refl _
  · rw [mz_ne (Or.inr (by decide)), mz_ne (Or.inr (by decide))]
    exact hn
