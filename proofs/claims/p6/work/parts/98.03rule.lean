/-! ===== rule, island, image, back; the step ===== -/
/-- the bytes of both, as one row -/
def BB (S : cT) (n : Nat) : Nat → Int := fun k => if k < n then (S.1 2 k).toInt else 0
theorem rl_tape {S : cT} {T : mT} (h : J5 S T) : ∃ n : Nat, (T.1 0 1).toInt = (n : Int) ∧ BY (BB S n) n ∧ CTB (BB S n) n S ∧ RT (BB S n) n T := by
  obtain ⟨hI, hA, h1, h2, _⟩ := h
  have c1 := im_0_1 hA.1
  obtain ⟨n, hn⟩ : ∃ n : Nat, (T.1 0 1).toInt = (n : Int) := ⟨(T.1 0 1).toInt.toNat, by omega⟩
  refine ⟨n, hn, ⟨by omega, fun k => ?_, fun k hk => if_neg (by omega)⟩, ⟨by omega, fun k hk => (if_pos hk).symm⟩, hn, fun k hk => ?_⟩
  · unfold BB
    by_cases z : k < n
    · rw [if_pos z]
      have := h2 k (by omega)
      omega
    · rw [if_neg z]
      decide
  · unfold BB
    rw [if_pos hk]
    exact h2 k (by omega)
theorem s_rule {S : cT} {T : mT} (h : J5 S T) : St true J5 (fc_X11_rule 0 S) (fm_rule T) := by
  obtain ⟨n, hn, hB, hCT, hRT⟩ := rl_tape h
  obtain ⟨hI, hA, R⟩ := h
  have R' := R
  obtain ⟨h1, h2, h3, h4, h5, h6, h7⟩ := R'
  have l_0 : (0 : Int32).toInt = 0 := by decide
  have l_1 : (1 : Int32).toInt = 1 := by decide
  have l_6 : (6 : Int32).toInt = 6 := by decide
  have c2 := im_0_2 hA.1
  obtain ⟨t, ht⟩ : ∃ t : Nat, (T.1 0 2).toInt = (t : Int) := ⟨(T.1 0 2).toInt.toNat, by omega⟩
  have ne2 : S.2.2.1 = 113 ∨ S.2.2.1 = 125 := by rcases hI.2.2 with ⟨a, -⟩ | ⟨a, -⟩; exact Or.inl a; exact Or.inr a
  have cC := kc_w (tc_X11_rule (b := 0) rfl (pv_no (D := fun q j => (q = 1 ∧ j = 4) ∨ q = 2 ∨ (q = 0 ∧ j = 11)) (S := S) (Or.inr (by omega))) (pv_no (Or.inr (by omega))) (IC_pv hI))
  have cM := km_w (tm_rule (qv_no (D := fun r j => (r = 0 ∧ (j = 1 ∨ j = 2)) ∨ r = 1) (T := T) (Or.inr (by omega))) (qv_no (Or.inr (by omega))) (IQ_qv hA))
  have wC : wl (fc_X11_rule 0 S) (fun w => (t = 6 ∧ w = (-1, S)) ∨ (t < 6 ∧ ∃ K m E po r, STR (BB S n) n K m E po ∧ ALL K 0 0 0 r ∧ (w.2.1 1 4).toInt = 0 ∧ ((r.1 = 0 ∧ w.1.toInt = (t : Int) ∧ (w.2.1 0 11).toInt = (t : Int) + 1) ∨ (r.1 ≠ 0 ∧ (∃ x : Int32, x.toInt = r.1 ∧ w.1 = (-2) - x) ∧ (w.2.1 0 11).toInt = (t : Int))))) := by
    unfold fc_X11_rule
    refine wl_lt (fun z => by exfalso; omega) (fun _ => ?_)
    refine wl_lt (fun z => ?_) (fun z => wl_some (Or.inl ⟨by omega, rfl⟩))
    refine wl_bif ?_
    have ix : (S.1 0 11).toNatClampNeg = t := cl_idx (by omega)
    rw [ix]
    refine wl_bind (us_readAll (b := 7 + 6 * t) (by omega) hB hCT) (fun q4 h4' => ?_)
    obtain ⟨⟨K, m, E, po, r, st, al, ef⟩, fr⟩ := h4'
    have e11 : q4.1 0 11 = S.1 0 11 := fr 0 11 (by decide) (by decide) (by decide) (by decide) (by omega)
    refine wl_letv (fun S5 e5 => ?_)
    have v4 : (S5.1 1 4).toInt = 0 := by rw [e5]; show ((ca q4 1 4 0).1 1 4).toInt = 0; rw [ca_at]; exact l_0
    have v7 : (S5.1 1 7).toInt = r.1 := by rw [e5]; show ((ca q4 1 4 0).1 1 7).toInt = _; rw [ca_ne (by decide)]; exact ef
    have v11 : (S5.1 0 11).toInt = (t : Int) := by rw [e5]; show ((ca q4 1 4 0).1 0 11).toInt = _; rw [ca_ne (by decide), e11]; omega
    refine wl_eq (fun y => ?_) (fun y => ?_)
    · have y' : (S5.1 1 7).toInt = (0 : Int32).toInt := y
      have u := tA (a := S5.1 0 11) (b := 1) (by omega) (by omega)
      refine wl_letv (fun S7 e7 => wl_some (Or.inr ⟨by omega, K, m, E, po, r, st, al, ?_, Or.inl ⟨by omega, ?_, ?_⟩⟩))
      · dsimp only
        rw [e7, ca_ne (by decide)]; exact v4
      · dsimp only
        have x : (S7.1 0 11).toInt = (t : Int) + 1 := by rw [e7, ca_at]; omega
        have u2 := tS (a := S7.1 0 11) (b := 1) (by omega) (by omega)
        omega
      · dsimp only
        rw [e7, ca_at]; omega
    · have y' : (S5.1 1 7).toInt ≠ (0 : Int32).toInt := y
      exact wl_some (Or.inr ⟨by omega, K, m, E, po, r, st, al, v4, Or.inr ⟨by omega, ⟨S5.1 1 7, v7, rfl⟩, v11⟩⟩)
  obtain ⟨q, eq, ⟨iq, kq⟩, fq⟩ := wp_wl cC wC
  rcases fq with ⟨t6, rfl⟩ | ⟨t6, K, m, E, po, r, st, al, u0, fq⟩
  · refine ⟨(-1, S), (-1, T), eq, ?_, fun _ => rfl, hI, hA, R⟩
    unfold fm_rule
    rw [if_pos (Int32.toInt_inj.mp (by rw [ht, t6]; rfl))]
  have wM : wl (fm_rule T) (fun w => (w.2.1 0 1).toInt = 0 ∧ ∃ r', ALL K 0 0 0 r' ∧ ((r'.1 = 0 ∧ w.1.toInt = (t : Int) ∧ (w.2.1 0 2).toInt = (t : Int) + 1) ∨ (r'.1 ≠ 0 ∧ (∃ x : Int32, x.toInt = r'.1 ∧ w.1 = (-2) - x) ∧ (w.2.1 0 2).toInt = (t : Int)))) := by
    unfold fm_rule
    refine wl_eq (fun z => by exfalso; omega) (fun _ => ?_)
    refine wl_letv (fun T2 e2 => ?_)
    have I2 : IQ nonP T2 := by
      rw [e2]
      exact IQ_mz hA.1 (show (0 : Int) ≤ (T.1 0 2).toInt ∧ (T.1 0 2).toInt ≤ 6 from c2) rfl (by decide) (by decide)
    have v11 : T2.1 0 11 = T.1 0 2 := by rw [e2]; exact mz_at _ _ _
    have v2 : T2.1 0 2 = T.1 0 2 := by rw [e2]; exact mz_ne (by decide)
    have i11 : (T2.1 0 11).toNatClampNeg = t := cl_idx (by rw [v11]; exact ht)
    refine wl_bif (wl_letv (fun T3 e3 => ?_))
    rw [i11] at e3
    have I3 : IQ nonP T3 := by rw [e3]; exact IQ_5 I2 (by rw [v2]; omega) (by omega) (by omega)
    have z3 : ∀ r, r ≠ 5 → T3.1 r = T2.1 r := fun r hr => by rw [e3]; exact ma_no _ _ _ hr
    have rt3 : RT (BB S n) n T3 := ⟨by rw [z3 0 (by decide), e2, mz_ne (by decide)]; exact hRT.1, fun k hk => by rw [z3 1 (by decide), e2, mz_ne (Or.inl (by decide))]; exact hRT.2 k hk⟩
    have t11 : (T3.1 0 11).toInt = (t : Int) := by rw [z3 0 (by decide), v11]; exact ht
    have t2 : (T3.1 0 2).toInt = (t : Int) := by rw [z3 0 (by decide), v2]; exact ht
    refine wl_bind (wl_and (wl_and (um_readsAll st hB rt3 (by omega)) um_emptied) (wl_of (tm_readsAll_r (t := t) (P := nonP) rfl I3 t11 t6 t2 (by rw [e3, ma_at]; exact l_0)))) (fun q4 h4' => ?_)
    obtain ⟨⟨⟨r', al', ef, io⟩, em⟩, _, _, _, n2⟩ := h4'
    have v42 : (q4.2.1 0 2).toInt = (t : Int) := by rw [n2]; exact t2
    refine wl_b (fun b => wl_some ⟨em, r', al', Or.inr ⟨fun z => (by rw [io.mpr z] at b; cases b), ⟨q4.2.1 0 9, ef, rfl⟩, v42⟩⟩) (fun b => ?_)
    have u := tA (a := q4.2.1 0 2) (b := 1) (by omega) (by omega)
    refine wl_letv (fun T6 e6 => wl_some ⟨?_, r', al', Or.inl ⟨io.mp b, ?_, ?_⟩⟩)
    · dsimp only
      rw [e6, mz_ne (by decide)]; exact em
    · dsimp only
      have x : (T6.1 0 2).toInt = (t : Int) + 1 := by rw [e6, mz_at]; omega
      have u2 := tS (a := T6.1 0 2) (b := 1) (by omega) (by omega)
      omega
    · dsimp only
      rw [e6, mz_at]; omega
  obtain ⟨w, ew, ⟨iw, kw⟩, u1, r', al', fw⟩ := wp_wl cM wM
  have er := ALL_det al al'
  subst er
  refine ⟨q, w, eq, ew, fun _ => ?_, iq, iw, by omega, fun k hk => by exfalso; omega, ?_, ?_, fun k hk => ?_, ?_, fun k hk z => ?_⟩
  · rcases fq with ⟨a, b, _⟩ | ⟨a, ⟨x, ex, b⟩, _⟩ <;> rcases fw with ⟨a', b', _⟩ | ⟨a', ⟨x', ex', b'⟩, _⟩
    · exact Int32.toInt_inj.mp (b.trans b'.symm)
    · exact absurd a a'
    · exact absurd a' a
    · rw [b, b', Int32.toInt_inj.mp (ex.trans ex'.symm)]
  · rcases fq with ⟨a, _, b⟩ | ⟨a, _, b⟩ <;> rcases fw with ⟨a', _, b'⟩ | ⟨a', _, b'⟩
    · omega
    · exact absurd a a'
    · exact absurd a' a
    · omega
  · clear fq fw
    rw [kq.1, kq.2 S.2.2.1 13 tr_isle (by omega), kw 0 22 (by omega) (by omega)]; exact h4
  · clear fq fw
    rw [kq.2 98 k (tr_98 hk) (by omega), kw 18 k (by omega) (by omega), kw 16 k (by omega) (by omega), kq.2 (50 + 12 * k) 13 (tr_img hk) (by omega)]
    exact h5 k hk
  · clear fq fw
    exact ei_k hA R kq kw (fun q j t z => by omega) (fun j z => by omega)
  · clear fq fw
    exact em_k hA R kq kw hk (fun q j t z => by omega) (fun j _ _ z => by omega) (fun z => by omega) z
