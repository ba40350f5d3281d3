/-! ===== island ===== -/
/-- what an island leaves of the class -/
abbrev KS5 (q j : Nat) : Prop := (q = 0 ∧ j = 11) ∨ (q = 98 ∧ j < 4) ∨ TrI 50 q j ∨ TrI 62 q j ∨ TrI 74 q j ∨ TrI 86 q j
theorem ks_pin {q j : Nat} (h : KS5 q j) : pinO q j = true := by
  rcases h with ⟨rfl, rfl⟩ | ⟨rfl, a⟩ | a | a | a | a
  · rfl
  · rfl
  · exact pinI (by omega) a
  · exact pinI (by omega) a
  · exact pinI (by omega) a
  · exact pinI (by omega) a
theorem ks_m {k q j : Nat} (hk : k < 4) (tr : TrI (50 + 12 * k) q j) : KS5 q j := by
  rcases (show k = 0 ∨ k = 1 ∨ k = 2 ∨ k = 3 by omega) with rfl | rfl | rfl | rfl
  · exact Or.inr (Or.inr (Or.inl tr))
  · exact Or.inr (Or.inr (Or.inr (Or.inl tr)))
  · exact Or.inr (Or.inr (Or.inr (Or.inr (Or.inl tr))))
  · exact Or.inr (Or.inr (Or.inr (Or.inr (Or.inr tr))))
theorem np_spare {D : Nat → Nat → Prop} [∀ q j, Decidable (D q j)] {S : cT} (h : IC nonP S) : NP (PV D S) S.2.2.2 := fun o j ho => pv_no (Or.inl (by
  rcases h.2.2 with ⟨a, b⟩ | ⟨a, b⟩ <;> rw [a, b] <;> omega))
theorem tc_island5 {S : cT} (h : IC nonP S) : wp (fc_X11_island 0 S) (fun w => IC nonP w.2 ∧ (w.2.1 1 4).toInt = 0 ∧ (w.2.1 w.2.2.2.1 13).toInt = (S.1 S.2.2.1 13).toInt ∧ (∀ q j, KS5 q j → (w.2.1 q j).toInt = (S.1 q j).toInt) ∧ (w.2.2.2 = S.2.2 → ∀ q j, TrI S.2.2.1 q j → (w.2.1 q j).toInt = (S.1 q j).toInt)) := by
  unfold fc_X11_island
  have l_0 : (0 : Int32).toInt = 0 := by decide
  have h1 : IC (PV (fun q j => (q = 1 ∧ j = 4) ∨ q = 2) S) S := IC_pv h
  have fin : ∀ {P : Nat → Nat → Option Int} {S' : cT}, IC P S' → (∀ q j, KS5 q j → P q j = some (S.1 q j).toInt) → ∀ q j, KS5 q j → (S'.1 q j).toInt = (S.1 q j).toInt := fun i hp q j t => (i.2.1 q j _ (hp q j t)).2
  have hp1 : ∀ q j, KS5 q j → PV (fun q j => (q = 1 ∧ j = 4) ∨ q = 2) S q j = some (S.1 q j).toInt := fun q j t => by
    unfold PV
    have nd : ¬ ((q = 1 ∧ j = 4) ∨ q = 2) := by omega
    refine if_pos ⟨?_, nd⟩
    rcases t with a | a | a | a | a | a
    · exact Or.inr (Or.inr (Or.inl a))
    · exact Or.inr (Or.inr (Or.inr (Or.inl a)))
    · exact tr_m (k := 0) (by decide) a
    · exact tr_m (k := 1) (by decide) a
    · exact tr_m (k := 2) (by decide) a
    · exact tr_m (k := 3) (by decide) a
  have isp : (S.2.2.1 = 113 ∧ S.2.2.2 = 125) ∨ (S.2.2.1 = 125 ∧ S.2.2.2 = 113) := h.2.2
  refine wp_bif (beq_k (IC_spare h)) ?_
  refine wp_bind (tc_X3_readAll (p0 := 0 + 1) rfl (IC_spare h1) (np_spare h) h1) (fun q2 r => ?_)
  obtain ⟨i2, p2⟩ := r
  refine wp_letv (fun S3 e3 => ?_)
  have i3 : IC (PV (fun q j => (q = 1 ∧ j = 4) ∨ q = 2) S) S3 := by
    rw [e3]
    exact iw_8_4 (b := 0 + 1) i2 rfl (by omega) (by omega) (pv_no (Or.inr (by omega)))
  have p3 : S3.2.2 = S.2.2 := by rw [e3]; exact p2
  have u3 : (S3.1 1 4).toInt = 0 := by rw [e3]; show ((ca q2 1 4 0).1 1 4).toInt = 0; rw [ca_at]; exact l_0
  have f3 : (S3.1 S.2.2.1 13).toInt = (S.1 S.2.2.1 13).toInt := pv_at i3 tr_isle (by omega)
  refine wp_eqn (fun _ => ?_) (wp_some ⟨IC_non i3, u3, by dsimp only; rw [p3]; exact f3, fin i3 hp1, fun _ q j t => pv_at i3 (tr_i t) (by omega)⟩)
  refine wp_bif (beq_k (IC_spare i3)) ?_
  refine wp_bif (beq_k (IC_isle i3)) ?_
  refine wp_letv (fun S7 e7 => ?_)
  have i7 : IC (PV (fun q j => (q = 1 ∧ j = 4) ∨ q = 2) S) S7 := by
    rw [e7]
    exact iw_2_13 i3 (IC_spare i3) (by rw [p3]; exact np_spare h 0 _ (by decide))
  have p7 : S7.2.2 = S.2.2 := by rw [e7]; exact p3
  refine wp_bif (beq_k (IC_spare i7)) ?_
  refine wp_bif (beq_k (IC_isle i7)) ?_
  refine wp_letv (fun S10 e10 => ?_)
  have i10 : IC (PV (fun q j => (q = 1 ∧ j = 4) ∨ q = 2) S) S10 := by
    rw [e10]
    exact iw_2_14 i7 (IC_spare i7) (by rw [p7]; exact np_spare h 0 _ (by decide))
  have p10 : S10.2.2 = S.2.2 := by rw [e10]; exact p7
  have x10 : (S10.1 S.2.2.2 13).toInt = (S.1 S.2.2.1 13).toInt := by
    rw [e10, ca_ne (Or.inr (by decide)), e7, p3]
    rw [ca_at]
    exact f3
  have u10 : (S10.1 1 4).toInt = 0 := by rw [e10, p7, ca_ne (Or.inl (by omega)), e7, p3, ca_ne (Or.inl (by omega))]; exact u3
  refine wp_bif (beq_k (IC_isle i10)) ?_
  refine wp_bif (beq_k (IC_spare i10)) ?_
  refine wp_letv (fun S13 e13 => ?_)
  refine wp_letv (fun S14 e14 => ?_)
  have hs : S14 = cs S10 S10.2.2.2 S10.2.2.1 := by rw [e14, e13]; rfl
  have v14 : S14.1 = S10.1 := by rw [hs]; rfl
  have s14 : S14.2.2 = (S.2.2.2, S.2.2.1) := by rw [hs, p10]; rfl
  have i14 : IC (fun q j => if KS5 q j then some (S.1 q j).toInt else if q = 1 ∧ j = 4 then some 0 else if q = S.2.2.2 ∧ j = 13 then some (S.1 S.2.2.1 13).toInt else none) S14 := by
    refine ⟨by rw [v14]; exact i10.1, fun q j v hv => ?_, ?_⟩
    · rw [v14]
      dsimp only at hv
      by_cases a : KS5 q j
      · rw [if_pos a] at hv
        have z := i10.2.1 q j _ (hp1 q j a)
        exact ⟨z.1, z.2.trans (Option.some.inj hv)⟩
      · rw [if_neg a] at hv
        by_cases b : q = 1 ∧ j = 4
        · rw [if_pos b] at hv
          obtain ⟨rfl, rfl⟩ := b
          exact ⟨rfl, u10.trans (Option.some.inj hv)⟩
        · rw [if_neg b] at hv
          by_cases c : q = S.2.2.2 ∧ j = 13
          · rw [if_pos c] at hv
            obtain ⟨rfl, rfl⟩ := c
            exact ⟨pin13 (IC_spare h), x10.trans (Option.some.inj hv)⟩
          · rw [if_neg c] at hv
            cases hv
    · rw [s14]
      show (S.2.2.2 = 113 ∧ S.2.2.1 = 125) ∨ (S.2.2.2 = 125 ∧ S.2.2.1 = 113)
      omega
  refine wp_bind (tc_X1_forget (b := 0 + 99) rfl i14) (fun q15 r => ?_)
  obtain ⟨i15, p15⟩ := r
  refine wp_bif (beq_k (IC_isle i15)) ?_
  refine wp_some ⟨IC_non i15, (i15.2.1 1 4 0 ?_).2, ?_, fin i15 (fun q j t => if_pos t), fun e => ?_⟩
  · dsimp only
    rw [if_neg (by omega), if_pos ⟨rfl, rfl⟩]
  · dsimp only
    rw [p15, s14]
    refine (i15.2.1 S.2.2.2 13 _ ?_).2
    dsimp only
    rw [if_neg (by omega), if_neg (by omega), if_pos ⟨rfl, rfl⟩]
  · dsimp only at e
    rw [p15, s14] at e
    have e1 : S.2.2.2 = S.2.2.1 := congrArg Prod.fst e
    exfalso
    omega
/-! ===== island answers alike ===== -/
theorem ic_sz {S : cT} {o : Nat} (hI : IC nonP S) (ho : o = 8 ∨ o = 10) : 0 ≤ (S.1 (S.2.2.2 + o) 3).toInt ∧ (S.1 (S.2.2.2 + o) 3).toInt ≤ 10 := by
  rcases hI.2.2 with ⟨-, a⟩ | ⟨-, a⟩ <;> rw [a] <;> rcases ho with rfl | rfl
  · exact hI.1 133 3
  · exact ⟨(hI.1 135 3).1, Int.le_trans (hI.1 135 3).2 (by decide)⟩
  · exact hI.1 121 3
  · exact ⟨(hI.1 123 3).1, Int.le_trans (hI.1 123 3).2 (by decide)⟩
theorem ui_island {B : Nat → Int} {n : Nat} {S : cT} (hI : IC nonP S) (hB : BY B n) (h : CTB B n S) : wl (fc_X11_island 0 S) (fun w => ∃ K m E po r, STR B n K m E po ∧ IAL K 0 0 0 0 zR r ∧ ((r.1 = 0 ∧ w.1.toInt = (r.2.2.2.1 : Int) ∧ w.2.2.2.1 = S.2.2.2 ∧ (w.2.1 S.2.2.2 8).toInt = (r.2.2.1 : Int) ∧ (w.2.1 S.2.2.2 9).toInt = (r.2.2.2.1 : Int) ∧ HCn S.2.2.2 r.2.2.2.2 w.2) ∨ (r.1 ≠ 0 ∧ w.2.2.2 = S.2.2 ∧ ∃ x : Int32, x.toInt = r.1 ∧ w.1 = (-2) - x))) := by
  unfold fc_X11_island
  have l_0 : (0 : Int32).toInt = 0 := by decide
  have isp : (S.2.2.1 = 113 ∧ S.2.2.2 = 125) ∨ (S.2.2.1 = 125 ∧ S.2.2.2 = 113) := hI.2.2
  have s8 := ic_sz (o := 8) hI (Or.inl rfl)
  have s10 := ic_sz (o := 10) hI (Or.inr rfl)
  refine wl_bif ?_
  refine wl_bind (wl_and (ui_readAll (b := S.2.2.2) (by omega) hB h s8.1 s10.1) (wl_of (tc_X3_readAll (p0 := 1) (p1 := S.2.2.2) rfl (IC_spare hI) (fun _ _ _ => rfl) hI))) (fun q2 h2 => ?_)
  obtain ⟨⟨K, m, E, po, r, st, al, ef, ep⟩, _, p2⟩ := h2
  refine wl_letv (fun S3 e3 => ?_)
  have f3 : ∀ q j, (q ≠ 1 ∨ j ≠ 4) → S3.1 q j = q2.1 q j := fun q j hj => by rw [e3]; exact ca_ne hj
  have p3 : S3.2.2 = S.2.2 := by rw [e3]; exact p2
  have v7 : (S3.1 1 7).toInt = r.1 := by rw [f3 1 7 (by decide)]; exact ef
  refine wl_eq (fun z => ?_) (fun z => ?_)
  · have z' : (S3.1 1 7).toInt = (0 : Int32).toInt := z
    have pe := ep (by omega)
    refine wl_bif (wl_bif ?_)
    refine wl_letv (fun S7 e7 => ?_)
    refine wl_bif (wl_bif ?_)
    refine wl_letv (fun S10 e10 => ?_)
    refine wl_bif (wl_bif ?_)
    refine wl_letv (fun S13 e13 => ?_)
    refine wl_letv (fun S14 e14 => ?_)
    have p7 : S7.2.2 = S.2.2 := by rw [e7]; exact p3
    have p10 : S10.2.2 = S.2.2 := by rw [e10]; exact p7
    have hs : S14 = cs S10 S10.2.2.2 S10.2.2.1 := by rw [e14, e13]; rfl
    have v14 : S14.1 = S10.1 := by rw [hs]; rfl
    have s14 : S14.2.2.1 = S.2.2.2 := by rw [hs]; show S10.2.2.2 = _; rw [p10]
    have nq : ∀ q j, (q ≠ S.2.2.2 ∨ (j ≠ 13 ∧ j ≠ 14)) → q ≠ 1 → S14.1 q j = q2.1 q j := fun q j hj h1 => by rw [v14, e10, ca_ne (by rw [p7]; omega), e7, ca_ne (by rw [p3]; omega), f3 q j (by omega)]
    unfold fc_X1_forget
    refine wl_bind (R := fun q : cT => q.2.2 = S14.2.2 ∧ ∀ i j, (i ≠ 0 + 99 ∨ j ≠ 2) → q.1 i j = S14.1 i j) (wl_letv (fun S15 e15 => wl_some ⟨by rw [e15]; rfl, fun i j hj => by rw [e15]; exact ca_ne hj⟩)) (fun q15 h15 => ?_)
    refine wl_bif (wl_some ⟨K, m, E, po, r, st, al, Or.inl ⟨by omega, ?_, ?_, ?_, ?_, pe.2.2.fr (fun q j hj => ?_)⟩⟩)
    · dsimp only
      rw [h15.1, s14, h15.2 S.2.2.2 9 (by omega), nq _ _ (by omega) (by omega)]
      exact pe.2.1
    · dsimp only
      rw [h15.1, s14]
    · dsimp only
      rw [h15.2 S.2.2.2 8 (by omega), nq _ _ (by omega) (by omega)]
      exact pe.1
    · dsimp only
      rw [h15.2 S.2.2.2 9 (by omega), nq _ _ (by omega) (by omega)]
      exact pe.2.1
    · dsimp only
      rw [h15.2 q j (by omega), nq _ _ (by omega) (by omega)]
  · have z' : (S3.1 1 7).toInt ≠ (0 : Int32).toInt := z
    exact wl_some ⟨K, m, E, po, r, st, al, Or.inr ⟨by omega, p3, S3.1 1 7, v7, rfl⟩⟩
theorem uj_island {B : Nat → Int} {n : Nat} {K : KS} {m : Nat} {E po : Nat → Nat} {T : mT} (hA : Aft nonP T) (hS : STR B n K m E po) (hB : BY B n) (h : RT B n T) : wl (fm_island T) (fun w => ∃ r, IAL K 0 0 0 0 zR r ∧ ((r.1 = 0 ∧ w.1.toInt = (r.2.2.2.1 : Int) ∧ r.2.2.2.1 ≤ 8 ∧ (w.2.1 10 0).toInt = (r.2.2.1 : Int) ∧ (w.2.1 10 1).toInt = (r.2.2.2.1 : Int) ∧ (w.2.1 10 408).toInt = 0 ∧ (w.2.1 10 409).toInt = 0 ∧ (∀ p, p < r.2.2.2.1 → (w.2.1 10 (8 + 4 * p)).toInt = r.2.2.2.2 p) ∧ (∀ p q, p < r.2.2.2.1 → q < r.2.2.2.1 → (w.2.1 10 (40 + 8 * p + q)).toInt = r.2.2.2.2 (8 + 8 * p + q))) ∨ (r.1 ≠ 0 ∧ w.2.1 10 = T.1 10 ∧ ∃ x : Int32, x.toInt = r.1 ∧ w.1 = (-2) - x))) := by
  unfold fm_island
  have l_0 : (0 : Int32).toInt = 0 := by decide
  have fu : (FU : Int) = 1000000 := rfl
  refine wl_letv (fun T1 e1 => ?_)
  have I1 : IQ nonP T1 := by
    rw [e1]
    exact IQ_mz hA.1 (show (0 : Int) ≤ (6 : Int32).toInt ∧ (6 : Int32).toInt ≤ 6 from by decide) rfl (by decide) (by decide)
  refine wl_bind (wl_of (tm_island_L8 FU 0 0 T1 (by decide) (by omega) (by omega) I1 (fun j hj => absurd hj (Nat.not_lt_zero _)))) (fun w4 h4 => ?_)
  obtain ⟨I4, z4, f4⟩ := h4
  have rt4 : RT B n w4.2 := ⟨by rw [f4 0 (by decide), e1, mz_ne (by decide)]; exact h.1, fun k hk => by rw [f4 1 (by decide), e1, mz_ne (Or.inl (by decide))]; exact h.2 k hk⟩
  have e11 : (w4.2.1 0 11).toInt = 6 := by rw [f4 0 (by decide), e1, mz_at]; decide
  refine wl_bind (wl_and (uj_readsAll hS hB rt4 e11 (by rw [z4 0 (by decide)]; exact l_0) (by rw [z4 1 (by decide)]; exact l_0)) (wl_of (tm_readsAll_i (P := nonP) rfl I4 e11))) (fun q5 h5 => ?_)
  obtain ⟨⟨r, al, ef, io, ep⟩, I5, r10, r62, r65, r61⟩ := h5
  have t10 : q5.2.1 10 = T.1 10 := by rw [r10, f4 10 (by decide), e1]; exact mz_no _ _ _ (by decide)
  refine wl_b (fun b => wl_some ⟨r, al, Or.inr ⟨fun z => (by rw [io.mpr z] at b; cases b), t10, q5.2.1 0 9, ef, rfl⟩⟩) (fun b => ?_)
  obtain ⟨pm, pe, ⟨pf, pt, _⟩, p8⟩ := ep (io.mp b)
  have n1 := r61 b
  have n5 : q5.2.1 6 5 = 0 := by rw [r65]; exact z4 5 (by decide)
  refine wl_bind (wl_of (tm_island_L44 I5 n5 n1 FU 0 0 q5.2 (by decide) (by omega) (by omega) (fun _ _ => rfl) rfl (fun j hj => absurd hj (Nat.not_lt_zero _)) (fun _ _ => rfl))) (fun w12 h12 => ?_)
  obtain ⟨f12, g12, lo, hi⟩ := h12
  refine wl_letv (fun T13 e13 => ?_)
  have g13 : ∀ j, j < 410 → T13.1 10 j = if j < 112 then q5.2.1 6 j else 0 := fun j hj => by rw [e13, mz_ne (Or.inl (by decide))]; exact lo j hj
  refine wl_bif (wl_letv (fun v14 e14 => wl_some ⟨r, al, Or.inl ⟨io.mp b, ?_, p8, ?_, ?_, ?_, ?_, fun p hp => ?_, fun p q hp hq => ?_⟩⟩))
  · dsimp only
    rw [e14]
    show (T13.1 10 1).toInt = _
    rw [g13 1 (by decide), if_pos (by decide)]
    exact pe
  · dsimp only
    rw [g13 0 (by decide), if_pos (by decide)]
    exact pm
  · dsimp only
    rw [g13 1 (by decide), if_pos (by decide)]
    exact pe
  · dsimp only
    rw [g13 408 (by decide), if_neg (by decide)]
    exact l_0
  · dsimp only
    rw [g13 409 (by decide), if_neg (by decide)]
    exact l_0
  · dsimp only
    rw [g13 _ (by omega), if_pos (by omega)]
    exact pf p hp
  · dsimp only
    rw [g13 _ (by omega), if_pos (by omega)]
    exact pt p q hp hq
theorem s_island_t {S : cT} {T : mT} (h : J5 S T) : St true J5 (fc_X11_island 0 S) (fm_island T) := by
  obtain ⟨n, hn, hB, hCT, hRT⟩ := rl_tape h
  obtain ⟨hI, hA, R⟩ := h
  have R' := R
  obtain ⟨h1, h2, h3, h4, h5, h6, h7⟩ := R'
  have cM := km_w (tm_island (qv_no (D := fun r j => (r = 0 ∧ j = 1) ∨ r = 1 ∨ r = 10) (T := T) (Or.inr (by omega))) (fun j => qv_no (Or.inr (by omega))) (IQ_qv hA))
  obtain ⟨q, eq, ⟨a1, a2, a3, a4, a5⟩, K, m, E, po, r, st, al, fq⟩ := wp_wl (tc_island5 hI) (ui_island hI hB hCT)
  obtain ⟨w, ew, ⟨⟨b1, b2⟩, b3⟩, r', al', fw⟩ := wp_wl (wp_wl cM um_island_e) (uj_island hA st hB hRT)
  have er := IAL_det al al'
  subst er
  refine ⟨q, w, eq, ew, fun _ => ?_, a1, b1, by omega, fun k hk => by exfalso; omega, ?_, ?_, fun k hk => ?_, ?_, fun k hk z => ?_⟩
  · rcases fq with ⟨a, b, _⟩ | ⟨a, _, x, ex, b⟩ <;> rcases fw with ⟨a', b', _⟩ | ⟨a', _, x', ex', b'⟩
    · exact Int32.toInt_inj.mp (b.trans b'.symm)
    · exact absurd a a'
    · exact absurd a' a
    · rw [b, b', Int32.toInt_inj.mp (ex.trans ex'.symm)]
  · clear fq fw
    rw [a4 0 11 (Or.inl ⟨rfl, rfl⟩), b2 0 2 (by omega) (by omega)]; exact h3
  · clear fq fw
    rw [a3, b2 0 22 (by omega) (by omega)]; exact h4
  · clear fq fw
    rw [a4 98 k (Or.inr (Or.inl ⟨rfl, hk⟩)), b2 18 k (by omega) (by omega), b2 16 k (by omega) (by omega), a4 (50 + 12 * k) 13 (ks_m hk (Or.inl ⟨rfl, Or.inr (Or.inr rfl)⟩))]
    exact h5 k hk
  · rcases fq with ⟨a, _, s1, s2, s3, s4⟩ | ⟨a, s1, _⟩ <;> rcases fw with ⟨a', _, p8, t1, t2, t3, t4, t5, t6⟩ | ⟨a', t1, _⟩
    · rw [s1]
      refine ⟨fun o j c mp g => ?_, fun _ => ?_, fun k hk => ?_⟩
      · rw [Nat.zero_add, t2, Nat.zero_add, t4] at g
        rw [Nat.zero_add]
        obtain ⟨g1, g2, g3⟩ := g
        rcases mp with ⟨rfl, rfl, rfl⟩ | ⟨rfl, rfl, rfl⟩ | ⟨rfl, rfl, rfl⟩ | ⟨rfl, rfl, rfl⟩ | ⟨rfl, hj, rfl⟩ | ⟨rfl, hj, rfl⟩ | ⟨rfl, hj, rfl⟩
        · exact s2.trans t1.symm
        · exact s3.trans t2.symm
        · exact s4.2.2.1.trans t3.symm
        · exact s4.2.2.2.trans t4.symm
        · have := g1 rfl
          rw [s4.1 j hj, t5 j (by omega)]
        · have := g2 rfl
          have := t6 (j / 8) (j % 8) (by omega) (by omega)
          rw [show 40 + 8 * (j / 8) + j % 8 = 40 + j from by omega, show 8 + 8 * (j / 8) + j % 8 = 8 + j from by omega] at this
          rw [s4.2.1 j hj, this]
        · have := g3 rfl
          exfalso
          omega
      · have := IAL_marks al a
        rw [Nat.zero_add, t1]
        omega
      · rw [Nat.zero_add, t4] at hk
        exfalso
        omega
    · exact absurd a a'
    · exact absurd a' a
    · rw [s1]
      exact EQI_tr h6 (i_409 hA.1) (fun o j c mp _ => a5 s1 _ _ (Mp_tr mp)) (fun c _ _ => by rw [t1])
  · clear fq fw
    rw [b2 18 k (by omega) (by omega)] at z
    refine EQI_tr (h7 k hk z) (i_409m hA.1 hk) (fun o j c mp _ => a4 _ _ (ks_m hk (Mp_tr mp))) (fun c _ _ => b2 15 _ (by omega) (by omega))
