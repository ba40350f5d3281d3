/-! ===== island answers alike ===== -/
theorem ui_island {B : Nat → Int} {n : Nat} {S : cT} (hI : IC nonP S) (hB : BY B n) (h : CTB B n S) : wl (fc_X11_island 0 S) (fun w => ∃ K m E po r, STR B n K m E po ∧ IAL K 0 0 0 0 r ∧ ((r.1 = 0 ∧ w.1.toInt = (r.2.2.2 : Int)) ∨ (r.1 ≠ 0 ∧ ∃ x : Int32, x.toInt = r.1 ∧ w.1 = (-2) - x))) := by
  unfold fc_X11_island
  have l_0 : (0 : Int32).toInt = 0 := by decide
  have isp : (S.2.2.1 = 113 ∧ S.2.2.2 = 125) ∨ (S.2.2.1 = 125 ∧ S.2.2.2 = 113) := hI.2.2
  refine wl_bif ?_
  refine wl_bind (wl_and (ui_readAll (b := S.2.2.2) (by omega) hB h) (wl_of (tc_X3_readAll (p0 := 1) (p1 := S.2.2.2) rfl (IC_spare hI) hI))) (fun q2 h2 => ?_)
  obtain ⟨⟨K, m, E, po, r, st, al, ef, ep⟩, _, p2⟩ := h2
  refine wl_letv (fun S3 e3 => ?_)
  have f3 : ∀ q j, (q ≠ 1 ∨ j ≠ 4) → S3.1 q j = q2.1 q j := fun q j hj => by rw [e3]; exact ca_ne hj
  have p3 : S3.2.2 = S.2.2 := by rw [e3]; exact p2
  have v7 : (S3.1 1 7).toInt = r.1 := by rw [f3 1 7 (by decide)]; exact ef
  refine wl_eq (fun z => ?_) (fun z => ?_)
  · have z' : (S3.1 1 7).toInt = (0 : Int32).toInt := z
    have pe := ep (by omega)
    refine wl_bif (wl_bif ?_)
    refine wl_letv (fun S7 e7 => ?_)
    refine wl_bif (wl_bif ?_)
    refine wl_letv (fun S10 e10 => ?_)
    refine wl_bif (wl_bif ?_)
    refine wl_letv (fun S13 e13 => ?_)
    refine wl_letv (fun S14 e14 => ?_)
    have p7 : S7.2.2 = S.2.2 := by rw [e7]; exact p3
    have p10 : S10.2.2 = S.2.2 := by rw [e10]; exact p7
    have hs : S14 = cs S10 S10.2.2.2 S10.2.2.1 := by rw [e14, e13]; rfl
    have v14 : S14.1 = S10.1 := by rw [hs]; rfl
    have s14 : S14.2.2.1 = S.2.2.2 := by rw [hs]; show S10.2.2.2 = _; rw [p10]
    have n9 : S14.1 S.2.2.2 9 = q2.1 S.2.2.2 9 := by rw [v14, e10, ca_ne (Or.inr (by decide)), e7, ca_ne (Or.inr (by decide)), f3 S.2.2.2 9 (by omega)]
    unfold fc_X1_forget
    refine wl_bind (R := fun q : cT => q.2.2 = S14.2.2 ∧ ∀ i j, (i ≠ 0 + 99 ∨ j ≠ 2) → q.1 i j = S14.1 i j) (wl_letv (fun S15 e15 => wl_some ⟨by rw [e15]; rfl, fun i j hj => by rw [e15]; exact ca_ne hj⟩)) (fun q15 h15 => ?_)
    refine wl_bif (wl_some ⟨K, m, E, po, r, st, al, Or.inl ⟨by omega, ?_⟩⟩)
    dsimp only
    rw [h15.1, s14, h15.2 S.2.2.2 9 (by omega), n9]
    exact pe
  · have z' : (S3.1 1 7).toInt ≠ (0 : Int32).toInt := z
    exact wl_some ⟨K, m, E, po, r, st, al, Or.inr ⟨by omega, S3.1 1 7, v7, rfl⟩⟩
theorem uj_L44 {v : Int32} : ∀ (N : Nat) (a1 : Int32) (i : Nat) (T : mT), a1.toInt = (i : Int) → T.1 6 1 = v → (1 < i → T.1 10 1 = v) → wl (fm_island_L44 N a1 T) (fun w => w.2.1 10 1 = v) := by
  have l_1 : (1 : Int32).toInt = 1 := by decide
  have l_112 : (112 : Int32).toInt = 112 := by decide
  have l_410 : (410 : Int32).toInt = 410 := by decide
  intro N
  induction N with
  | zero => intro a1 i T _ _ _; exact wl_none
  | succ N ih =>
    intro a1 i T e h6 h10
    rw [fm_island_L44]
    refine wl_le (fun z => wl_some (h10 (by omega))) (fun z => ?_)
    have u := tA (a := a1) (b := 1) (by omega) (by omega)
    refine wl_le (fun y => ?_) (fun y => ?_)
    · refine wl_bif (wl_letv (fun T9 e9 => ?_))
      rw [cl_idx e] at e9
      exact ih (a1 + 1) (i + 1) T9 (by omega) (by rw [e9, ma_ne (Or.inl (by decide))]; exact h6) (fun _ => by rw [e9, ma_ne (Or.inr (by omega))]; exact h10 (by omega))
    · refine wl_bif (wl_letv (fun v10 e10 => ?_))
      rw [cl_idx e] at e10
      refine wl_bif (wl_letv (fun T11 e11 => ?_))
      rw [cl_idx e] at e11
      refine ih (a1 + 1) (i + 1) T11 (by omega) (by rw [e11, ma_ne (Or.inl (by decide))]; exact h6) (fun _ => ?_)
      by_cases x : i = 1
      · rw [e11, ← x, ma_at, e10, x]; exact h6
      · rw [e11, ma_ne (Or.inr (by omega))]; exact h10 (by omega)
theorem uj_island {B : Nat → Int} {n : Nat} {K : KS} {m : Nat} {E po : Nat → Nat} {T : mT} (hA : Aft nonP T) (hS : STR B n K m E po) (hB : BY B n) (h : RT B n T) : wl (fm_island T) (fun w => ∃ r, IAL K 0 0 0 0 r ∧ ((r.1 = 0 ∧ w.1.toInt = (r.2.2.2 : Int)) ∨ (r.1 ≠ 0 ∧ ∃ x : Int32, x.toInt = r.1 ∧ w.1 = (-2) - x))) := by
  unfold fm_island
  have l_0 : (0 : Int32).toInt = 0 := by decide
  have fu : (FU : Int) = 1000000 := rfl
  refine wl_letv (fun T1 e1 => ?_)
  have I1 : IQ nonP T1 := by
    rw [e1]
    exact IQ_mz hA.1 (show (0 : Int) ≤ (6 : Int32).toInt ∧ (6 : Int32).toInt ≤ 6 from by decide) rfl (by decide) (by decide)
  refine wl_bind (wl_of (tm_island_L8 FU 0 0 T1 (by decide) (by omega) (by omega) I1 (fun j hj => absurd hj (Nat.not_lt_zero _)))) (fun w4 h4 => ?_)
  obtain ⟨I4, z4, f4⟩ := h4
  have rt4 : RT B n w4.2 := ⟨by rw [f4 0 (by decide), e1, mz_ne (by decide)]; exact h.1, fun k hk => by rw [f4 1 (by decide), e1, mz_ne (Or.inl (by decide))]; exact h.2 k hk⟩
  have e11 : (w4.2.1 0 11).toInt = 6 := by rw [f4 0 (by decide), e1, mz_at]; decide
  refine wl_bind (uj_readsAll hS hB rt4 e11 (by rw [z4 0 (by decide)]; exact l_0) (by rw [z4 1 (by decide)]; exact l_0)) (fun q5 h5 => ?_)
  obtain ⟨r, al, ef, io, ep⟩ := h5
  refine wl_b (fun b => wl_some ⟨r, al, Or.inr ⟨fun z => (by rw [io.mpr z] at b; cases b), q5.2.1 0 9, ef, rfl⟩⟩) (fun b => ?_)
  have pe := ep (io.mp b)
  refine wl_bind (uj_L44 (v := q5.2.1 6 1) FU 0 0 q5.2 l_0 rfl (fun z => absurd z (by decide))) (fun w12 h12 => ?_)
  refine wl_letv (fun T13 e13 => ?_)
  refine wl_bif (wl_letv (fun v14 e14 => wl_some ⟨r, al, Or.inl ⟨io.mp b, ?_⟩⟩))
  dsimp only
  rw [e14]
  show (T13.1 10 1).toInt = _
  rw [e13, mz_ne (Or.inl (by decide)), h12]
  exact pe
theorem s_island_t {S : cT} {T : mT} (h : J5 S T) : St true J5 (fc_X11_island 0 S) (fm_island T) := by
  have h' := h
  obtain ⟨n, hn, hB, hCT, hRT⟩ := rl_tape h
  obtain ⟨q, w, eq, ew, _, j⟩ := s_island h'
  refine ⟨q, w, eq, ew, fun _ => ?_, j⟩
  obtain ⟨K, m, E, po, r, st, al, fq⟩ := ui_island h.1 hB hCT q eq
  obtain ⟨r', al', fw⟩ := uj_island h.2.1 st hB hRT w ew
  have er := IAL_det al al'
  subst er
  rcases fq with ⟨a, b⟩ | ⟨a, x, ex, b⟩ <;> rcases fw with ⟨a', b'⟩ | ⟨a', x', ex', b'⟩
  · exact Int32.toInt_inj.mp (b.trans b'.symm)
  · exact absurd a a'
  · exact absurd a' a
  · rw [b, b', Int32.toInt_inj.mp (ex.trans ex'.symm)]
