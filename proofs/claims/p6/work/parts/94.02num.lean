/-! ===== the reference's reader: numbers, words ===== -/
theorem tm_numberHere_L34 {P : Nat → Nat → Option Int} {k1 k2 k3 : Int32} : ∀ (N : Nat) (a4 : Int32) (T : mT), IQ P T → (T.1 0 8).toInt ≤ (T.1 0 1).toInt → (T.1 0 1).toInt - (T.1 0 8).toInt < (N : Int) → wp (fm_numberHere_L34 k1 k2 k3 N a4 T) (fun w => Tok P T w.2 ∧ (DIG T (T.1 0 8).toInt → (T.1 0 8).toInt < (w.2.1 0 8).toInt)) := by
  intro N
  induction N with
  | zero =>
    intro a4 T hI hn hm
    exfalso; omega
  | succ N ih =>
    intro a4 T hI hn hm
    rw [fm_numberHere_L34]
    have c1 := im_0_1 hI
    have c8 := im_0_8 hI
    refine wp_bind (tm_isDigit c8.1 hI) (fun q4 h4 => ?_)
    refine wp_b (fun b4 => wp_some ⟨Tok.rfl' hI hn, fun z => absurd z (h4.2 b4)⟩) (fun b4 => ?_)
    have g := (h4.1 b4).1
    refine wp_bind (Q := fun _ => True) ?_ (fun w6 _ => ?_)
    · refine wp_le (fun _ => wp_some trivial) (fun _ => ?_)
      refine wp_bif (inb_of (by omega) (by omega)) ?_
      exact wp_letv (fun v8 _ => wp_some trivial)
    · refine wp_letv (fun T9 e9 => ?_)
      have z := tok_on hI g
      rw [← e9] at z
      have e1 := z.1.tp
      exact wp_mono (ih w6 T9 z.1.1 z.1.2.2.2 (by rw [e1]; omega)) (fun w hw => ⟨z.1.trans hw.1, fun _ => by have := hw.1.2.2.1; omega⟩)
theorem tok_10 {P : Nat → Nat → Option Int} {T w : mT} {v : Int32} (h : Tok P T w) : Tok P T (mz w 10 v) := by
  refine ⟨iz_any 10 h.1 rfl rfl (by decide) (by decide), h.2.1.w (Or.inr (Or.inr rfl)), ?_, ?_⟩
  · rw [mz_ne (Or.inr (by decide))]
    exact h.2.2.1
  · rw [mz_ne (Or.inr (by decide)), mz_ne (Or.inr (by decide))]
    exact h.2.2.2
theorem tm_numberHere {P : Nat → Nat → Option Int} {p0 p1 : Int32} {T : mT} (hn : (T.1 0 8).toInt ≤ (T.1 0 1).toInt) (hI : IQ P T) : wp (fm_numberHere p0 p1 T) (fun w => Tok P T w.2 ∧ (w.1 = true → (T.1 0 8).toInt < (w.2.1 0 8).toInt ∧ p0.toInt ≤ (w.2.1 0 10).toInt ∧ (w.2.1 0 10).toInt ≤ p1.toInt)) := by
  unfold fm_numberHere
  have fu : (FU : Int) = 1000000 := rfl
  refine wp_bind (tm_see hn hI) (fun q1 h1 => ?_)
  have d1 := im_0_1 h1.1.1
  have d8 := im_0_8 h1.1.1
  refine wp_bind (tm_isDigit d8.1 h1.1.1) (fun q2 h2 => ?_)
  refine wp_b (fun _ => ?_) (fun b2 => ?_)
  · exact wp_bind (tm_fails h1.1.2.2.2 h1.1.1) (fun q19 h19 => wp_some ⟨h1.1.trans h19.2, fun z => by rw [h19.1] at z; cases z⟩)
  · refine wp_bind (tm_numberHere_L34 FU 0 q1.2 h1.1.1 h1.1.2.2.2 (by omega)) (fun w10 h10 => ?_)
    have g := h10.2 (h2.1 b2)
    refine wp_letv (fun T11 e11 => ?_)
    have t11 : Tok P T T11 := by rw [e11]; exact tok_10 (h1.1.trans h10.1)
    have v11 : T11.1 0 10 = w10.1 := by rw [e11]; exact mz_at _ _ _
    have n11 : T11.1 0 8 = w10.2.1 0 8 := by rw [e11]; exact mz_ne (Or.inr (by decide))
    have lt : (T.1 0 8).toInt < (T11.1 0 8).toInt := by
      have := h1.1.2.2.1
      rw [n11]
      omega
    have fl : ∀ s : Int32, wp ((fm_fails 1 s T11).bind fun q13 => if (b2i q13.1) = 0 then (some (false, q13.2)) else (some (true, q13.2))) (fun w => Tok P T w.2 ∧ (w.1 = true → (T.1 0 8).toInt < (w.2.1 0 8).toInt ∧ p0.toInt ≤ (w.2.1 0 10).toInt ∧ (w.2.1 0 10).toInt ≤ p1.toInt)) := by
      intro s
      refine wp_bind (tm_fails t11.2.2.2 t11.1) (fun q13 h13 => ?_)
      exact wp_b (fun _ => wp_some ⟨t11.trans h13.2, fun z => by cases z⟩) (fun b => by rw [h13.1] at b; cases b)
    refine wp_lt (fun _ => fl _) (fun _ => ?_)
    refine wp_bind tm_in (fun q15 h15 => ?_)
    refine wp_b (fun _ => fl _) (fun b15 => ?_)
    have z := h15 b15
    rw [Int32.toInt_toInt64, Int32.toInt_toInt64, Int32.toInt_toInt64] at z
    exact wp_some ⟨t11, fun _ => ⟨lt, by rw [v11]; exact z.1, by rw [v11]; exact z.2⟩⟩
theorem tm_wordHere {P : Nat → Nat → Option Int} {T : mT} (hn : (T.1 0 8).toInt ≤ (T.1 0 1).toInt) (hI : IQ P T) : wp (fm_wordHere T) (fun w => Tok P T w.2 ∧ w.1.toInt ≤ 7 ∧ (0 ≤ w.1.toInt → LET w.2 (w.2.1 0 8).toInt)) := by
  unfold fm_wordHere
  have nx : ∀ {a : mT} {p : Int64} {e f : (Bool × mT) → Option (Int32 × mT)}, Tok P T a → (∀ q : Bool × mT, Tok P T q.2 → wp (e q) (fun w => Tok P T w.2 ∧ w.1.toInt ≤ 7 ∧ (0 ≤ w.1.toInt → LET w.2 (w.2.1 0 8).toInt))) → (∀ q : Bool × mT, Tok P T q.2 → LET q.2 (q.2.1 0 8).toInt → wp (f q) (fun w => Tok P T w.2 ∧ w.1.toInt ≤ 7 ∧ (0 ≤ w.1.toInt → LET w.2 (w.2.1 0 8).toInt))) → wp ((fm_isWord p a).bind fun q => if (b2i q.1) = 0 then e q else f q) (fun w => Tok P T w.2 ∧ w.1.toInt ≤ 7 ∧ (0 ≤ w.1.toInt → LET w.2 (w.2.1 0 8).toInt)) := by
    intro a p e f ha he hf
    refine wp_bind (tm_isWord ha.2.2.2 ha.1) (fun q hq => ?_)
    exact wp_b (fun _ => he q (ha.trans hq.1)) (fun b => hf q (ha.trans hq.1) (hq.2 b))
  refine nx (Tok.rfl' hI hn) (fun q h => ?_) (fun q h g => wp_some ⟨h, by dsimp only; decide, fun _ => g⟩)
  refine nx h (fun q h => ?_) (fun q h g => wp_some ⟨h, by dsimp only; decide, fun _ => g⟩)
  refine nx h (fun q h => ?_) (fun q h g => wp_some ⟨h, by dsimp only; decide, fun _ => g⟩)
  refine nx h (fun q h => ?_) (fun q h g => wp_some ⟨h, by dsimp only; decide, fun _ => g⟩)
  refine nx h (fun q h => ?_) (fun q h g => wp_some ⟨h, by dsimp only; decide, fun _ => g⟩)
  refine nx h (fun q h => ?_) (fun q h g => wp_some ⟨h, by dsimp only; decide, fun _ => g⟩)
  refine nx h (fun q h => ?_) (fun q h g => wp_some ⟨h, by dsimp only; decide, fun _ => g⟩)
  exact nx h (fun q h => wp_some ⟨h, by dsimp only; decide, fun z => absurd z (by dsimp only; decide)⟩) (fun q h g => wp_some ⟨h, by dsimp only; decide, fun _ => g⟩)
