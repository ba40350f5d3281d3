/-! ===== the reference reads a whole rule ===== -/
theorem um_readsAll {B : Nat → Int} {n : Nat} {K : KS} {m : Nat} {E po : Nat → Nat} {T : mT} (hS : STR B n K m E po) (hB : BY B n) (h : RT B n T) (h11 : (T.1 0 11).toInt ≠ 6) : wl (fm_readsAll T) (fun w => ∃ r, ALL K 0 0 0 r ∧ (w.2.1 0 9).toInt = r.1 ∧ (w.1 = true ↔ r.1 = 0)) := by
  unfold fm_readsAll
  have l_0 : (0 : Int32).toInt = 0 := by decide
  have l_6 : (6 : Int32).toInt = 6 := by decide
  have l_m1 : ((-1) : Int32).toInt = -1 := by decide
  refine wl_bif (wl_letv (fun T1 e1 => ?_))
  refine wl_letv (fun T2 e2 => ?_)
  refine wl_letv (fun T3 e3 => ?_)
  refine wl_letv (fun T4 e4 => ?_)
  refine wl_letv (fun T5 e5 => ?_)
  have z : ∀ r j, r ≠ 3 → (r ≠ 0 ∨ (j ≠ 14 ∧ j ≠ 8 ∧ j ≠ 9 ∧ j ≠ 12)) → T5.1 r j = T.1 r j := fun r j h3 h0 => by
    rw [e5, mz_ne (by omega), e4, mz_ne (by omega), e3, mz_ne (by omega), e2, mz_ne (by omega), e1, ma_ne (Or.inl h3)]
  have v8 : (T5.1 0 8).toInt = 0 := by rw [e5, mz_ne (by decide), e4, mz_ne (by decide), e3, mz_at]; exact l_0
  have v9 : (T5.1 0 9).toInt = 0 := by rw [e5, mz_ne (by decide), e4, mz_at]; exact l_0
  have v12 : (T5.1 0 12).toInt = ((0 : Nat) : Int) := by rw [e5, mz_at]; exact l_0
  have v14 : (T5.1 0 14).toInt = ((0 : Nat) : Int) := by rw [e5, mz_ne (by decide), e4, mz_ne (by decide), e3, mz_ne (by decide), e2, mz_at]; exact l_0
  have rt5 : RT B n T5 := ⟨by rw [z 0 1 (by decide) (Or.inr (by decide))]; exact h.1, fun k hk => by rw [z 1 k (by decide) (Or.inl (by decide))]; exact h.2 k hk⟩
  have r0 := hS.run (c := 0) (Nat.zero_le _)
  rw [hS.2.1] at r0
  have S5 : RSt B n po 0 0 T5 := ⟨rt5, ⟨0, v8, Nat.zero_le _, r0⟩, v9, v12, by decide⟩
  have h115 : (T5.1 0 11).toInt ≠ 6 := by rw [z 0 11 (by decide) (Or.inr (by decide))]; exact h11
  refine wl_bind (um_clauseHere (i := 0) hS hB (Nat.zero_le _) h115 v14 (by decide) S5) (fun q6 h6 => ?_)
  obtain ⟨r, cl, rr⟩ := h6
  have fin : ∀ (w : mT) (s : RS3), ALL K 0 0 0 s → (w.1 0 9).toInt = s.1 → wl (letv (mz w 1 0) fun T24 => if (T24.1 0 9) = 0 then (some (true, T24)) else (some (false, T24))) (fun w => ∃ r, ALL K 0 0 0 r ∧ (w.2.1 0 9).toInt = r.1 ∧ (w.1 = true ↔ r.1 = 0)) := by
    intro w s al e
    refine wl_letv (fun T24 e24 => ?_)
    have v : T24.1 0 9 = w.1 0 9 := by rw [e24]; exact mz_ne (by decide)
    refine wl_eq (fun y => wl_some ⟨s, al, by dsimp only; rw [v]; exact e, ?_⟩) (fun y => wl_some ⟨s, al, by dsimp only; rw [v]; exact e, ?_⟩)
    · rw [v] at y
      exact ⟨fun _ => by omega, fun _ => rfl⟩
    · rw [v] at y
      exact ⟨fun x => (by cases x), fun x => by exfalso; omega⟩
  rcases rr with ⟨a, f, w⟩ | ⟨a, t, cm, i12, R, hm, e14⟩
  · rw [f, show b2i false = 0 from rfl]
    refine wl_bind (R := fun x : Int32 × mT => x = (0, q6.2)) ?_ (fun w12 h12 => ?_)
    · have : FU = 999999 + 1 := rfl
      rw [this, fm_readsAll_L35]
      exact wl_if (fun _ => wl_some rfl) (fun y => absurd rfl y)
    subst h12
    refine wl_bind (R := fun x : Int32 × mT => x = (0, q6.2)) ?_ (fun w13 h13 => ?_)
    · exact wl_if (fun _ => wl_some rfl) (fun y => absurd rfl y)
    subst h13
    refine wl_bind (R := fun x : mT => x = q6.2) ?_ (fun w18 h18 => ?_)
    · exact wl_if (fun _ => wl_some rfl) (fun y => absurd rfl y)
    subst h18
    exact fin q6.2 r (ALL_bad cl a) w
  · rw [t, show b2i true = 1 from rfl]
    have h116 : (q6.2.1 0 11).toInt ≠ 6 := by rw [hm 0 11 (by decide) (by decide) (by decide) (by decide) (by decide) (Or.inr (by decide))]; exact h115
    refine wl_bind (um_readsAll_L35 hS hB FU q6.2 r.2.1 r.2.2 0 cm R h116 (by rw [e14]; rfl) (by decide)) (fun w12 h12 => ?_)
    rcases h12 with ⟨w0, s, y1, y2, y3, y4⟩ | ⟨w1, c', p', y1, y2, y3, y4, y5⟩
    · refine wl_bind (R := fun x : Int32 × mT => x = (0, w12.2)) ?_ (fun w13 h13 => ?_)
      · exact wl_if (fun _ => wl_some (by rw [w0])) (fun y => absurd w0 y)
      subst h13
      refine wl_bind (R := fun x : mT => x = w12.2) ?_ (fun w18 h18 => ?_)
      · exact wl_if (fun _ => wl_some rfl) (fun y => absurd rfl y)
      subst h18
      exact fin w12.2 s (ALL_go cl a y3 y4) y2
    · have H := hm.trans y3
      have h1112 : (w12.2.1 0 11).toInt ≠ 6 := by rw [H 0 11 (by decide) (by decide) (by decide) (by decide) (by decide) (Or.inr (by decide))]; exact h115
      have er : r = (0, r.2.1, r.2.2) := by rw [← a]
      refine wl_bind (R := fun x : Int32 × mT => ∃ s, ALL K 0 0 0 s ∧ (x.2.1 0 9).toInt = s.1 ∧ ((x.1 = 0) ∨ (x.2.1 0 11).toInt ≠ 6)) ?_ (fun w13 h13 => ?_)
      · refine wl_if (fun y => by rw [w1] at y; exact absurd y (by decide)) (fun _ => ?_)
        refine wl_bind (um_seeK hS hB y1 y2) (fun q15 h15 => ?_)
        obtain ⟨R15, x15, _, _, _, en⟩ := h15
        refine wl_eq (fun x => wl_some ?_) (fun x => ?_)
        · have k := en.mp (by omega)
          refine ⟨(0, c', p'), ?_, R15.2.2.1, Or.inr (by dsimp only; rw [x15.2 0 11 (by decide)]; exact h1112)⟩
          rcases y5 with ⟨rfl, rfl⟩ | ⟨k59, g1, _⟩
          · rw [← er]
            exact ALL_end cl a y4 k
          · exact ALL_go cl a k59 (g1 k)
        · have k : K.1 c' ≠ 260 := fun y => x (by rw [en.mpr y]; exact l_m1.symm)
          refine wl_bind (um_failK hS hB y1 R15.2.2.1 R15.2.1 l_0 (by decide) (by decide)) (fun q17 h17 => wl_some ⟨bdc K c' 0, ?_, h17.2.1, Or.inl (by dsimp only; rw [h17.1]; rfl)⟩)
          rcases y5 with ⟨rfl, rfl⟩ | ⟨k59, _, g2⟩
          · exact ALL_more cl a y4 k
          · exact ALL_go cl a k59 (g2 k)
      obtain ⟨s, al, es, cs⟩ := h13
      refine wl_bind (R := fun x : mT => x = w13.2) ?_ (fun w18 h18 => ?_)
      · refine wl_if (fun _ => wl_some rfl) (fun y => ?_)
        refine wl_eq (fun x => ?_) (fun _ => wl_some rfl)
        rcases cs with cs | cs
        · exact absurd cs y
        · exfalso; omega
      subst h18
      exact fin w13.2 s al es
/-- the tape is empty behind a text -/
theorem um_emptied {T : mT} : wl (fm_readsAll T) (fun w => (w.2.1 0 1).toInt = 0) := by
  unfold fm_readsAll
  refine wl_bif (wl_letv (fun T1 e1 => ?_))
  refine wl_letv (fun T2 e2 => ?_)
  refine wl_letv (fun T3 e3 => ?_)
  refine wl_letv (fun T4 e4 => ?_)
  refine wl_letv (fun T5 e5 => ?_)
  refine wl_bind wl_any (fun q6 _ => ?_)
  refine wl_bind wl_any (fun w12 _ => ?_)
  refine wl_bind wl_any (fun w13 _ => ?_)
  refine wl_bind wl_any (fun w18 _ => ?_)
  refine wl_letv (fun T24 e24 => ?_)
  have v : (T24.1 0 1).toInt = 0 := by rw [e24, mz_at]; decide
  exact wl_if (fun _ => wl_some v) (fun _ => wl_some v)
theorem um_island_e {T : mT} : wl (fm_island T) (fun w => (w.2.1 0 1).toInt = 0) := by
  unfold fm_island
  refine wl_letv (fun T1 _ => ?_)
  refine wl_bind wl_any (fun w4 _ => ?_)
  refine wl_bind um_emptied (fun q5 h5 => ?_)
  refine wl_if (fun _ => wl_some h5) (fun _ => ?_)
  have lp : ∀ (N : Nat) (a : Int32) (T : mT), (T.1 0 1).toInt = 0 → wl (fm_island_L44 N a T) (fun w => (w.2.1 0 1).toInt = 0) := by
    intro N
    induction N with
    | zero => intro a T _; exact wl_none
    | succ N ih =>
      intro a T h
      rw [fm_island_L44]
      refine wl_if (fun _ => wl_some h) (fun _ => ?_)
      refine wl_if (fun _ => ?_) (fun _ => ?_)
      · exact wl_bif (wl_letv (fun T9 e9 => ih _ T9 (by rw [e9, ma_ne (Or.inl (by decide))]; exact h)))
      · exact wl_bif (wl_letv (fun v _ => wl_bif (wl_letv (fun T9 e9 => ih _ T9 (by rw [e9, ma_ne (Or.inl (by decide))]; exact h)))))
  refine wl_bind (lp FU 0 q5.2 h5) (fun w12 h12 => ?_)
  refine wl_letv (fun T13 e13 => ?_)
  refine wl_bif (wl_letv (fun v14 _ => wl_some ?_))
  dsimp only
  rw [e13, mz_ne (by decide)]
  exact h12
