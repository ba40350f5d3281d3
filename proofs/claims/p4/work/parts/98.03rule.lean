/-! ===== rule, island, image, back; the step ===== -/
/-- the bytes of both, as one row -/
def BB (S : cT) (n : Nat) : Nat → Int := fun k => if k < n then (S.1 2 k).toInt else 0
theorem rl_tape {S : cT} {T : mT} (h : J5 S T) : ∃ n : Nat, (T.1 0 1).toInt = (n : Int) ∧ BY (BB S n) n ∧ CTB (BB S n) n S ∧ RT (BB S n) n T := by
  obtain ⟨hI, hA, h1, h2, _⟩ := h
  have c1 := im_0_1 hA.1
  obtain ⟨n, hn⟩ : ∃ n : Nat, (T.1 0 1).toInt = (n : Int) := ⟨(T.1 0 1).toInt.toNat, by omega⟩
  refine ⟨n, hn, ⟨by omega, fun k => ?_, fun k hk => if_neg (by omega)⟩, ⟨by omega, fun k hk => (if_pos hk).symm⟩, hn, fun k hk => ?_⟩
  · unfold BB
    by_cases z : k < n
    · rw [if_pos z]
      have := h2 k (by omega)
      omega
    · rw [if_neg z]
      decide
  · unfold BB
    rw [if_pos hk]
    exact h2 k (by omega)
theorem s_rule {S : cT} {T : mT} (h : J5 S T) : St true J5 (fc_X11_rule 0 S) (fm_rule T) := by
  obtain ⟨n, hn, hB, hCT, hRT⟩ := rl_tape h
  obtain ⟨hI, hA, R⟩ := h
  have R' := R
  obtain ⟨h1, h2, h3, h4, h5⟩ := R'
  have l_0 : (0 : Int32).toInt = 0 := by decide
  have l_1 : (1 : Int32).toInt = 1 := by decide
  have l_6 : (6 : Int32).toInt = 6 := by decide
  have c2 := im_0_2 hA.1
  obtain ⟨t, ht⟩ : ∃ t : Nat, (T.1 0 2).toInt = (t : Int) := ⟨(T.1 0 2).toInt.toNat, by omega⟩
  have ne2 : S.2.2.1 = 113 ∨ S.2.2.1 = 125 := by rcases hI.2.2 with ⟨a, -⟩ | ⟨a, -⟩; exact Or.inl a; exact Or.inr a
  have cC := kc_w (tc_X11_rule (b := 0) rfl (pv_no (D := fun q j => (q = 1 ∧ j = 4) ∨ q = 2 ∨ (q = 0 ∧ j = 11)) (S := S) (Or.inr (by omega))) (pv_no (Or.inr (by omega))) (IC_pv hI))
  have cM := km_w (tm_rule (qv_no (D := fun r j => (r = 0 ∧ (j = 1 ∨ j = 2)) ∨ r = 1) (T := T) (Or.inr (by omega))) (qv_no (Or.inr (by omega))) (IQ_qv hA))
  have wC : wl (fc_X11_rule 0 S) (fun w => (t = 6 ∧ w = (-1, S)) ∨ (t < 6 ∧ ∃ K m E po r, STR (BB S n) n K m E po ∧ ALL K 0 0 0 r ∧ (w.2.1 1 4).toInt = 0 ∧ ((r.1 = 0 ∧ w.1.toInt = (t : Int) ∧ (w.2.1 0 11).toInt = (t : Int) + 1) ∨ (r.1 ≠ 0 ∧ (∃ x : Int32, x.toInt = r.1 ∧ w.1 = (-2) - x) ∧ (w.2.1 0 11).toInt = (t : Int))))) := by
    unfold fc_X11_rule
    refine wl_lt (fun z => by exfalso; omega) (fun _ => ?_)
    refine wl_lt (fun z => ?_) (fun z => wl_some (Or.inl ⟨by omega, rfl⟩))
    refine wl_bif ?_
    have ix : (S.1 0 11).toNatClampNeg = t := cl_idx (by omega)
    rw [ix]
    refine wl_bind (us_readAll (b := 7 + 6 * t) (by omega) hB hCT) (fun q4 h4' => ?_)
    obtain ⟨⟨K, m, E, po, r, st, al, ef⟩, fr⟩ := h4'
    have e11 : q4.1 0 11 = S.1 0 11 := fr 0 11 (by decide) (by decide) (by decide) (by decide) (by omega)
    refine wl_letv (fun S5 e5 => ?_)
    have v4 : (S5.1 1 4).toInt = 0 := by rw [e5]; show ((ca q4 1 4 0).1 1 4).toInt = 0; rw [ca_at]; exact l_0
    have v7 : (S5.1 1 7).toInt = r.1 := by rw [e5]; show ((ca q4 1 4 0).1 1 7).toInt = _; rw [ca_ne (by decide)]; exact ef
    have v11 : (S5.1 0 11).toInt = (t : Int) := by rw [e5]; show ((ca q4 1 4 0).1 0 11).toInt = _; rw [ca_ne (by decide), e11]; omega
    refine wl_eq (fun y => ?_) (fun y => ?_)
    · have y' : (S5.1 1 7).toInt = (0 : Int32).toInt := y
      have u := tA (a := S5.1 0 11) (b := 1) (by omega) (by omega)
      refine wl_letv (fun S7 e7 => wl_some (Or.inr ⟨by omega, K, m, E, po, r, st, al, ?_, Or.inl ⟨by omega, ?_, ?_⟩⟩))
      · dsimp only
        rw [e7, ca_ne (by decide)]; exact v4
      · dsimp only
        have x : (S7.1 0 11).toInt = (t : Int) + 1 := by rw [e7, ca_at]; omega
        have u2 := tS (a := S7.1 0 11) (b := 1) (by omega) (by omega)
        omega
      · dsimp only
        rw [e7, ca_at]; omega
    · have y' : (S5.1 1 7).toInt ≠ (0 : Int32).toInt := y
      exact wl_some (Or.inr ⟨by omega, K, m, E, po, r, st, al, v4, Or.inr ⟨by omega, ⟨S5.1 1 7, v7, rfl⟩, v11⟩⟩)
  obtain ⟨q, eq, ⟨iq, kq⟩, fq⟩ := wp_wl cC wC
  rcases fq with ⟨t6, rfl⟩ | ⟨t6, K, m, E, po, r, st, al, u0, fq⟩
  · refine ⟨(-1, S), (-1, T), eq, ?_, fun _ => rfl, hI, hA, R⟩
    unfold fm_rule
    rw [if_pos (Int32.toInt_inj.mp (by rw [ht, t6]; rfl))]
  have wM : wl (fm_rule T) (fun w => (w.2.1 0 1).toInt = 0 ∧ ∃ r', ALL K 0 0 0 r' ∧ ((r'.1 = 0 ∧ w.1.toInt = (t : Int) ∧ (w.2.1 0 2).toInt = (t : Int) + 1) ∨ (r'.1 ≠ 0 ∧ (∃ x : Int32, x.toInt = r'.1 ∧ w.1 = (-2) - x) ∧ (w.2.1 0 2).toInt = (t : Int)))) := by
    unfold fm_rule
    refine wl_eq (fun z => by exfalso; omega) (fun _ => ?_)
    refine wl_letv (fun T2 e2 => ?_)
    have I2 : IQ nonP T2 := by
      rw [e2]
      exact IQ_mz hA.1 (show (0 : Int) ≤ (T.1 0 2).toInt ∧ (T.1 0 2).toInt ≤ 6 from c2) rfl (by decide) (by decide)
    have v11 : T2.1 0 11 = T.1 0 2 := by rw [e2]; exact mz_at _ _ _
    have v2 : T2.1 0 2 = T.1 0 2 := by rw [e2]; exact mz_ne (by decide)
    have i11 : (T2.1 0 11).toNatClampNeg = t := cl_idx (by rw [v11]; exact ht)
    refine wl_bif (wl_letv (fun T3 e3 => ?_))
    rw [i11] at e3
    have I3 : IQ nonP T3 := by rw [e3]; exact IQ_5 I2 (by rw [v2]; omega) (by omega) (by omega)
    have z3 : ∀ r, r ≠ 5 → T3.1 r = T2.1 r := fun r hr => by rw [e3]; exact ma_no _ _ _ hr
    have rt3 : RT (BB S n) n T3 := ⟨by rw [z3 0 (by decide), e2, mz_ne (by decide)]; exact hRT.1, fun k hk => by rw [z3 1 (by decide), e2, mz_ne (Or.inl (by decide))]; exact hRT.2 k hk⟩
    have t11 : (T3.1 0 11).toInt = (t : Int) := by rw [z3 0 (by decide), v11]; exact ht
    have t2 : (T3.1 0 2).toInt = (t : Int) := by rw [z3 0 (by decide), v2]; exact ht
    refine wl_bind (wl_and (wl_and (um_readsAll st hB rt3 (by omega)) um_emptied) (wl_of (tm_readsAll_r (t := t) (P := nonP) rfl I3 t11 t6 t2 (by rw [e3, ma_at]; exact l_0)))) (fun q4 h4' => ?_)
    obtain ⟨⟨⟨r', al', ef, io⟩, em⟩, _, _, _, n2⟩ := h4'
    have v42 : (q4.2.1 0 2).toInt = (t : Int) := by rw [n2]; exact t2
    refine wl_b (fun b => wl_some ⟨em, r', al', Or.inr ⟨fun z => (by rw [io.mpr z] at b; cases b), ⟨q4.2.1 0 9, ef, rfl⟩, v42⟩⟩) (fun b => ?_)
    have u := tA (a := q4.2.1 0 2) (b := 1) (by omega) (by omega)
    refine wl_letv (fun T6 e6 => wl_some ⟨?_, r', al', Or.inl ⟨io.mp b, ?_, ?_⟩⟩)
    · dsimp only
      rw [e6, mz_ne (by decide)]; exact em
    · dsimp only
      have x : (T6.1 0 2).toInt = (t : Int) + 1 := by rw [e6, mz_at]; omega
      have u2 := tS (a := T6.1 0 2) (b := 1) (by omega) (by omega)
      omega
    · dsimp only
      rw [e6, mz_at]; omega
  obtain ⟨w, ew, ⟨iw, kw⟩, u1, r', al', fw⟩ := wp_wl cM wM
  have er := ALL_det al al'
  subst er
  refine ⟨q, w, eq, ew, fun _ => ?_, iq, iw, by omega, fun k hk => by exfalso; omega, ?_, ?_, fun k hk => ?_⟩
  · rcases fq with ⟨a, b, _⟩ | ⟨a, ⟨x, ex, b⟩, _⟩ <;> rcases fw with ⟨a', b', _⟩ | ⟨a', ⟨x', ex', b'⟩, _⟩
    · exact Int32.toInt_inj.mp (b.trans b'.symm)
    · exact absurd a a'
    · exact absurd a' a
    · rw [b, b', Int32.toInt_inj.mp (ex.trans ex'.symm)]
  · rcases fq with ⟨a, _, b⟩ | ⟨a, _, b⟩ <;> rcases fw with ⟨a', _, b'⟩ | ⟨a', _, b'⟩
    · omega
    · exact absurd a a'
    · exact absurd a' a
    · omega
  · clear fq fw
    rw [kq.1, kq.2 S.2.2.1 13 tr_isle (by omega), kw 0 22 (by omega) (by omega)]; exact h4
  · clear fq fw
    rw [kq.2 98 k (by omega) (by omega), kw 18 k (by omega) (by omega), kw 16 k (by omega) (by omega), kq.2 (50 + 12 * k) 13 (tr_img hk) (by omega)]
    exact h5 k hk
/-- what an island leaves of the class -/
theorem tc_island5 {S : cT} (h : IC nonP S) : wp (fc_X11_island 0 S) (fun w => IC nonP w.2 ∧ (w.2.1 1 4).toInt = 0 ∧ (w.2.1 w.2.2.2.1 13).toInt = (S.1 S.2.2.1 13).toInt ∧ ∀ q j, ((q = 0 ∧ j = 11) ∨ (j = 13 ∧ (q = 50 ∨ q = 62 ∨ q = 74 ∨ q = 86)) ∨ (q = 98 ∧ j < 4)) → (w.2.1 q j).toInt = (S.1 q j).toInt) := by
  unfold fc_X11_island
  have l_0 : (0 : Int32).toInt = 0 := by decide
  have h1 : IC (PV (fun q j => (q = 1 ∧ j = 4) ∨ q = 2) S) S := IC_pv h
  have fin : ∀ {P : Nat → Nat → Option Int} {S' : cT}, IC P S' → (∀ q j, ((q = 0 ∧ j = 11) ∨ (j = 13 ∧ (q = 50 ∨ q = 62 ∨ q = 74 ∨ q = 86)) ∨ (q = 98 ∧ j < 4)) → P q j = some (S.1 q j).toInt) → ∀ q j, ((q = 0 ∧ j = 11) ∨ (j = 13 ∧ (q = 50 ∨ q = 62 ∨ q = 74 ∨ q = 86)) ∨ (q = 98 ∧ j < 4)) → (S'.1 q j).toInt = (S.1 q j).toInt := fun i hp q j t => (i.2.1 q j _ (hp q j t)).2
  have hp1 : ∀ q j, ((q = 0 ∧ j = 11) ∨ (j = 13 ∧ (q = 50 ∨ q = 62 ∨ q = 74 ∨ q = 86)) ∨ (q = 98 ∧ j < 4)) → PV (fun q j => (q = 1 ∧ j = 4) ∨ q = 2) S q j = some (S.1 q j).toInt := fun q j t => by
    unfold PV
    rw [if_pos ⟨by omega, by omega⟩]
  have isp : (S.2.2.1 = 113 ∧ S.2.2.2 = 125) ∨ (S.2.2.1 = 125 ∧ S.2.2.2 = 113) := h.2.2
  refine wp_bif (beq_k (IC_spare h)) ?_
  refine wp_bind (tc_X3_readAll (p0 := 0 + 1) rfl (IC_spare h1) h1) (fun q2 r => ?_)
  obtain ⟨i2, p2⟩ := r
  refine wp_letv (fun S3 e3 => ?_)
  have i3 : IC (PV (fun q j => (q = 1 ∧ j = 4) ∨ q = 2) S) S3 := by
    rw [e3]
    exact iw_8_4 (b := 0 + 1) i2 rfl (by omega) (by omega) (pv_no (Or.inr (by omega)))
  have p3 : S3.2.2 = S.2.2 := by rw [e3]; exact p2
  have u3 : (S3.1 1 4).toInt = 0 := by rw [e3]; show ((ca q2 1 4 0).1 1 4).toInt = 0; rw [ca_at]; exact l_0
  have f3 : (S3.1 S.2.2.1 13).toInt = (S.1 S.2.2.1 13).toInt := pv_at i3 (by omega) (by omega)
  refine wp_eqn (fun _ => ?_) (wp_some ⟨IC_non i3, u3, by dsimp only; rw [p3]; exact f3, fin i3 hp1⟩)
  refine wp_bif (beq_k (IC_spare i3)) ?_
  refine wp_bif (beq_k (IC_isle i3)) ?_
  refine wp_letv (fun S7 e7 => ?_)
  have i7 : IC (PV (fun q j => (q = 1 ∧ j = 4) ∨ q = 2) S) S7 := by
    rw [e7]
    exact iw_2_13 i3 (IC_spare i3) (by rw [p3]; exact pv_no (Or.inl (by omega)))
  have p7 : S7.2.2 = S.2.2 := by rw [e7]; exact p3
  refine wp_bif (beq_k (IC_spare i7)) ?_
  refine wp_bif (beq_k (IC_isle i7)) ?_
  refine wp_letv (fun S10 e10 => ?_)
  have i10 : IC (PV (fun q j => (q = 1 ∧ j = 4) ∨ q = 2) S) S10 := by
    rw [e10]
    exact iw_2_14 i7 (IC_spare i7) (by rw [p7]; exact pv_no (Or.inl (by omega)))
  have p10 : S10.2.2 = S.2.2 := by rw [e10]; exact p7
  have x10 : (S10.1 S.2.2.2 13).toInt = (S.1 S.2.2.1 13).toInt := by
    rw [e10, ca_ne (Or.inr (by decide)), e7, p3]
    rw [ca_at]
    exact f3
  have u10 : (S10.1 1 4).toInt = 0 := by rw [e10, p7, ca_ne (Or.inl (by omega)), e7, p3, ca_ne (Or.inl (by omega))]; exact u3
  refine wp_bif (beq_k (IC_isle i10)) ?_
  refine wp_bif (beq_k (IC_spare i10)) ?_
  refine wp_letv (fun S13 e13 => ?_)
  refine wp_letv (fun S14 e14 => ?_)
  have hs : S14 = cs S10 S10.2.2.2 S10.2.2.1 := by rw [e14, e13]; rfl
  have v14 : S14.1 = S10.1 := by rw [hs]; rfl
  have s14 : S14.2.2 = (S.2.2.2, S.2.2.1) := by rw [hs, p10]; rfl
  have i14 : IC (fun q j => if ((q = 0 ∧ j = 11) ∨ (j = 13 ∧ (q = 50 ∨ q = 62 ∨ q = 74 ∨ q = 86)) ∨ (q = 98 ∧ j < 4)) then some (S.1 q j).toInt else if q = 1 ∧ j = 4 then some 0 else if q = S.2.2.2 ∧ j = 13 then some (S.1 S.2.2.1 13).toInt else none) S14 := by
    refine ⟨by rw [v14]; exact i10.1, fun q j v hv => ?_, ?_⟩
    · rw [v14]
      dsimp only at hv
      by_cases a : ((q = 0 ∧ j = 11) ∨ (j = 13 ∧ (q = 50 ∨ q = 62 ∨ q = 74 ∨ q = 86)) ∨ (q = 98 ∧ j < 4))
      · rw [if_pos a] at hv
        have z := i10.2.1 q j _ (hp1 q j a)
        exact ⟨z.1, z.2.trans (Option.some.inj hv)⟩
      · rw [if_neg a] at hv
        by_cases b : q = 1 ∧ j = 4
        · rw [if_pos b] at hv
          obtain ⟨rfl, rfl⟩ := b
          exact ⟨rfl, u10.trans (Option.some.inj hv)⟩
        · rw [if_neg b] at hv
          by_cases c : q = S.2.2.2 ∧ j = 13
          · rw [if_pos c] at hv
            obtain ⟨rfl, rfl⟩ := c
            exact ⟨pin13 (IC_spare h), x10.trans (Option.some.inj hv)⟩
          · rw [if_neg c] at hv
            cases hv
    · rw [s14]
      show (S.2.2.2 = 113 ∧ S.2.2.1 = 125) ∨ (S.2.2.2 = 125 ∧ S.2.2.1 = 113)
      omega
  refine wp_bind (tc_X1_forget (b := 0 + 99) rfl i14) (fun q15 r => ?_)
  obtain ⟨i15, p15⟩ := r
  refine wp_bif (beq_k (IC_isle i15)) ?_
  refine wp_some ⟨IC_non i15, (i15.2.1 1 4 0 ?_).2, ?_, fin i15 (fun q j t => if_pos t)⟩
  · dsimp only
    rw [if_neg (by omega), if_pos ⟨rfl, rfl⟩]
  · dsimp only
    rw [p15, s14]
    refine (i15.2.1 S.2.2.2 13 _ ?_).2
    dsimp only
    rw [if_neg (by omega), if_neg (by omega), if_pos ⟨rfl, rfl⟩]
theorem s_island {S : cT} {T : mT} (h : J5 S T) : St false J5 (fc_X11_island 0 S) (fm_island T) := by
  obtain ⟨hI, hA, h1, h2, h3, h4, h5⟩ := h
  have cM := km_w (tm_island (qv_no (D := fun r j => (r = 0 ∧ j = 1) ∨ r = 1) (T := T) (Or.inr (by omega))) (IQ_qv hA))
  refine st_of (tc_island5 hI) (wp_wl cM um_island_e) (fun q w a b => ?_)
  obtain ⟨a1, a2, a3, a4⟩ := a
  obtain ⟨⟨b1, b2⟩, b3⟩ := b
  refine ⟨a1, b1, by omega, fun k hk => by exfalso; omega, ?_, ?_, fun k hk => ?_⟩
  · rw [a4 0 11 (by omega), b2 0 2 (by omega) (by omega)]; exact h3
  · rw [a3, b2 0 22 (by omega) (by omega)]; exact h4
  · rw [a4 98 k (by omega), b2 18 k (by omega) (by omega), b2 16 k (by omega) (by omega), a4 (50 + 12 * k) 13 (by omega)]
    exact h5 k hk
theorem s_image {S : cT} {T : mT} {a1 : Int32} (h : J5 S T) : St false J5 (fc_X11_image 0 a1 S) (fm_image a1 T) := by
  obtain ⟨hI, hA, R⟩ := h
  have R' := R
  obtain ⟨h1, h2, h3, h4, h5⟩ := R'
  have l_0 : (0 : Int32).toInt = 0 := by decide
  have l_4 : (4 : Int32).toInt = 4 := by decide
  have k0 : (0 : Int64).toInt = 0 := by decide
  have k3 : (3 : Int64).toInt = 3 := by decide
  have kp := Int32.toInt_toInt64 a1
  have fu : (FU : Int) = 1000000 := rfl
  have ne2 : S.2.2.1 = 113 ∨ S.2.2.1 = 125 := by rcases hI.2.2 with ⟨a, -⟩ | ⟨a, -⟩; exact Or.inl a; exact Or.inr a
  by_cases g : 0 ≤ a1.toInt ∧ a1.toInt ≤ 3
  · obtain ⟨k, hk⟩ : ∃ k : Nat, a1.toInt = (k : Int) := ⟨a1.toInt.toNat, by omega⟩
    have k4 : k < 4 := by omega
    have ix : a1.toNatClampNeg = k := cl_idx hk
    have hC : wp (fc_X11_image 0 a1 S) (fun w => IC nonP w.2 ∧ KpC (fun q j => (q = 50 + 12 * k ∧ j = 13) ∨ (q = 98 ∧ j = k)) S w.2 ∧ (w.2.1 (50 + 12 * k) 13).toInt = (S.1 S.2.2.1 13).toInt ∧ (w.2.1 98 k).toInt = 1) := by
      unfold fc_X11_image
      refine wp_lt (fun h0 => by exfalso; omega) (fun h0 => ?_)
      refine wp_lt (fun h1' => ?_) (fun h1' => by exfalso; omega)
      have hq : cK (50 + 12 * a1.toNatClampNeg) = 2 := k_img (by omega) (by omega)
      rw [ix] at hq ⊢
      have hi := IC_isle hI
      refine wp_bif (inb_of (by omega) (by omega)) ?_
      refine wp_bif (beq_k hi) ?_
      have hJ : IC (PV (fun q j => (q = 50 + 12 * k ∧ j = 13) ∨ (q = 98 ∧ j = k)) S) S := IC_pv hI
      refine wp_bind (tc_X2_copyFrom hq hi (pv_no (Or.inr (Or.inl ⟨rfl, rfl⟩))) (pv_no (Or.inl (by omega))) (by omega) hJ) (fun q5 r => ?_)
      obtain ⟨i5, p5, e13, -, -⟩ := r
      have i6 := IC_pinv (q := 50 + 12 * k) (j := 13) (v := (S.1 S.2.2.1 13).toInt) i5 (pin13 hq) (by rw [e13])
      refine wp_bif (inb_of (by omega) (by omega)) ?_
      refine wp_letv (fun S7 e7 => ?_)
      have hv : (vp_nar .boolean 1 : Int32).toInt = 1 := by decide +kernel
      have i7 := IC_put (q := 98) (j := k) (v := vp_nar .boolean 1) i6 rfl rfl
      rw [hv, ← e7] at i7
      have p7 : S7.2.2 = S.2.2 := by rw [e7]; exact p5
      refine wp_bind (tc_X1_forget (b := 0 + 99) rfl i7) (fun q8 r => ?_)
      obtain ⟨i8, p8⟩ := r
      refine wp_bif (beq_k (IC_isle i8)) ?_
      refine wp_some ⟨IC_non i8, ⟨p8.trans p7, fun q j t d => ?_⟩, ?_, ?_⟩
      · refine (i8.2.1 q j _ ?_).2
        unfold pnA PV
        rw [if_neg (fun z => d (Or.inr z)), if_neg (fun z => d (Or.inl z)), if_pos ⟨t, d⟩]
      · refine (i8.2.1 (50 + 12 * k) 13 _ ?_).2
        unfold pnA
        rw [if_neg (by omega), if_pos ⟨rfl, rfl⟩]
      · refine (i8.2.1 98 k _ ?_).2
        unfold pnA
        rw [if_pos ⟨rfl, rfl⟩]
    have hM : wp (fm_image a1 T) (fun w => Aft nonP w.2 ∧ KpM (fun r j => (r = 16 ∧ j = k) ∨ (r = 18 ∧ j = k)) T w.2 ∧ (w.2.1 16 k).toInt = (T.1 0 22).toInt ∧ (w.2.1 18 k).toInt = 1) := by
      unfold fm_image
      refine wp_bind tm_inq (fun q1 hq1 => ?_)
      refine wp_b (fun b1 => ?_) (fun b1 => ?_)
      · exfalso
        have := hq1.2 b1
        omega
      have v1 : (vp_nar .boolean 1 : Int32).toInt = 1 := by decide +kernel
      have nI : IQ (QV (fun r j => (r = 16 ∧ j = k) ∨ (r = 18 ∧ j = k)) T) T := (IQ_qv hA).1
      have n18 : QV (fun r j => (r = 16 ∧ j = k) ∨ (r = 18 ∧ j = k)) T 18 k = none := qv_no (Or.inr (Or.inr ⟨rfl, rfl⟩))
      have n16 : QV (fun r j => (r = 16 ∧ j = k) ∨ (r = 18 ∧ j = k)) T 16 k = none := qv_no (Or.inr (Or.inl ⟨rfl, rfl⟩))
      refine wp_bif (inb_of (by omega) (by omega)) ?_
      refine wp_letv (fun T3 e3 => ?_)
      rw [ix] at e3
      have r22 : T3.1 0 22 = T.1 0 22 := by rw [e3]; exact ma_ne (Or.inl (by decide))
      refine wp_bif (inb_of (by omega) (by omega)) ?_
      refine wp_letv (fun T4 e4 => ?_)
      rw [ix, r22] at e4
      have c22 := im_0_22 nI
      have i4 : IQ (QV (fun r j => (r = 16 ∧ j = k) ∨ (r = 18 ∧ j = k)) T) T4 := by
        rw [e4, e3]
        exact IQ_18 nI n18 n16 (by omega) (by omega) c22.1 nI.2.2.2.1
      have x4 : (T4.1 16 k).toInt = (T.1 0 22).toInt := by rw [e4, ma_at]
      have m4 : (T4.1 18 k).toInt = 1 := by rw [e4, ma_no _ _ _ (by decide), e3, ma_at]; exact v1
      have h4' : HrOk T4 := by
        show (T4.1 10 2).toInt ≤ 9999
        rw [e4, ma_no _ _ _ (by decide), e3, ma_no _ _ _ (by decide)]
        exact hA.2
      refine wp_bif (inb_of (by omega) (by omega)) ?_
      refine wp_letv (fun T5 e5 => ?_)
      rw [ix] at e5
      have j4 : IQ (pnA (pnA (QV (fun r j => (r = 16 ∧ j = k) ∨ (r = 18 ∧ j = k)) T) 16 k (T.1 0 22).toInt) 18 k 1) T4 := IQ_pin (IQ_pin i4 rfl x4) rfl m4
      have i5 : IQ (pnA (pnA (QV (fun r j => (r = 16 ∧ j = k) ∨ (r = 18 ∧ j = k)) T) 16 k (T.1 0 22).toInt) 18 k 1) T5 := by
        rw [e5]
        refine IQ_ma j4 (im_0_23 i4) ?_ (by decide) (by decide) (by decide) (by decide) (by decide) (by decide) (by decide) (by decide)
        unfold pnA
        rw [if_neg (by omega), if_neg (by omega)]
        exact qv_no (Or.inl (by omega))
      have h5' : HrOk T5 := by
        show (T5.1 10 2).toInt ≤ 9999
        rw [e5, ma_no _ _ _ (by decide)]
        exact h4'
      have hkk : a1.toInt.toNat = k := by omega
      refine wp_bind (tm_image_L43 (k1 := a1) (by omega) (by omega) FU 0 T5 (by omega) (by omega) (by omega)) (fun w9 h9 => ?_)
      rw [l_0, hkk] at h9
      have a9 := iq_img (by omega) ⟨i5, h5'⟩ h9
      refine wp_bif (inb_of (by decide) (by decide)) ?_
      refine wp_letv (fun v10 _ => wp_some ⟨IQ_non a9, fun r j t d => ?_, ?_, ?_⟩)
      · refine (a9.1.1.2 r j _ ?_).2
        unfold pnA QV
        rw [if_neg (fun z => d (Or.inr z)), if_neg (fun z => d (Or.inl z)), if_pos ⟨t, d⟩]
      · refine (a9.1.1.2 16 k _ ?_).2
        unfold pnA
        rw [if_neg (by omega), if_pos ⟨rfl, rfl⟩]
      · refine (a9.1.1.2 18 k _ ?_).2
        unfold pnA
        rw [if_pos ⟨rfl, rfl⟩]
    refine st_of hC hM (fun q w a b => ?_)
    obtain ⟨a1', a2, a3, a4⟩ := a
    obtain ⟨b1, b2, b3, b4⟩ := b
    refine ⟨a1', b1, ?_, fun j hj => ?_, ?_, ?_, fun j hj => ?_⟩
    · rw [a2.2 1 4 (by omega) (by omega), b2 0 1 (by omega) (by omega)]; exact h1
    · rw [b2 0 1 (by omega) (by omega)] at hj
      rw [a2.2 2 j (by omega) (by omega), b2 1 j (by omega) (by omega)]
      exact h2 j hj
    · rw [a2.2 0 11 (by omega) (by omega), b2 0 2 (by omega) (by omega)]; exact h3
    · rw [a2.1, a2.2 S.2.2.1 13 tr_isle (by omega), b2 0 22 (by omega) (by omega)]; exact h4
    · by_cases e : j = k
      · subst e
        rw [a4, b4, a3, b3]
        exact ⟨rfl, fun _ => h4⟩
      · rw [a2.2 98 j (by omega) (by omega), b2 18 j (by omega) (by omega), b2 16 j (by omega) (by omega), a2.2 (50 + 12 * j) 13 (tr_img hj) (by omega)]
        exact h5 j hj
  · refine ⟨(-1, S), (-1, T), ?_, ?_, fun z => (by cases z), hI, hA, R⟩
    · obtain ⟨q, e, hh⟩ : wp (fc_X11_image 0 a1 S) (fun w => w = (-1, S)) := by
        unfold fc_X11_image
        refine wp_lt (fun h0 => wp_some rfl) (fun h0 => ?_)
        exact wp_lt (fun h1' => by exfalso; omega) (fun h1' => wp_some rfl)
      rw [e, hh]
    · obtain ⟨q, e, hh⟩ : wp (fm_image a1 T) (fun w => w = (-1, T)) := by
        unfold fm_image
        refine wp_bind tm_inq (fun q1 hq1 => ?_)
        refine wp_b (fun b1 => wp_some rfl) (fun b1 => ?_)
        have := hq1.1 b1
        exfalso; omega
      rw [e, hh]
theorem s_back {S : cT} {T : mT} {a1 : Int32} (h : J5 S T) : St false J5 (fc_X11_back 0 a1 S) (fm_back a1 T) := by
  obtain ⟨hI, hA, R⟩ := h
  have R' := R
  obtain ⟨h1, h2, h3, h4, h5⟩ := R'
  have l_0 : (0 : Int32).toInt = 0 := by decide
  have l_4 : (4 : Int32).toInt = 4 := by decide
  have k0 : (0 : Int64).toInt = 0 := by decide
  have k3 : (3 : Int64).toInt = 3 := by decide
  have kp := Int32.toInt_toInt64 a1
  have fu : (FU : Int) = 1000000 := rfl
  have ne2 : S.2.2.1 = 113 ∨ S.2.2.1 = 125 := by rcases hI.2.2 with ⟨a, -⟩ | ⟨a, -⟩; exact Or.inl a; exact Or.inr a
  by_cases g : 0 ≤ a1.toInt ∧ a1.toInt ≤ 3
  · obtain ⟨k, hk⟩ : ∃ k : Nat, a1.toInt = (k : Int) := ⟨a1.toInt.toNat, by omega⟩
    have k4 : k < 4 := by omega
    have ix : a1.toNatClampNeg = k := cl_idx hk
    have hkk : a1.toInt.toNat = k := by omega
    by_cases md : (T.1 18 k).toInt = 0
    · have ms : (S.1 98 k).toInt = 0 := by rw [(h5 k k4).1]; exact md
      refine ⟨(-1, S), (-1, T), ?_, ?_, fun z => (by cases z), hI, hA, R⟩
      · obtain ⟨q, e, hh⟩ : wp (fc_X11_back 0 a1 S) (fun w => w = (-1, S)) := by
          unfold fc_X11_back
          refine wp_lt (fun h0 => wp_some rfl) (fun h0 => ?_)
          refine wp_le (fun h1' => wp_some rfl) (fun h1' => ?_)
          refine wp_bif (inb_of (by omega) (by omega)) ?_
          refine wp_letv (fun v3 e3 => ?_)
          rw [ix] at e3
          refine wp_eq (fun _ => wp_some rfl) (fun z => ?_)
          rw [e3] at z
          have z' : (S.1 98 k).toInt ≠ (0 : Int32).toInt := z
          exfalso; omega
        rw [e, hh]
      · obtain ⟨q, e, hh⟩ : wp (fm_back a1 T) (fun w => w = (-1, T)) := by
          unfold fm_back
          refine wp_bind tm_inq (fun q1 hq1 => ?_)
          refine wp_b (fun b1 => wp_some rfl) (fun b1 => ?_)
          refine wp_bif (inb_of (by omega) (by omega)) ?_
          refine wp_letv (fun v3 e3 => ?_)
          rw [ix] at e3
          refine wp_eq (fun _ => wp_some rfl) (fun z => ?_)
          rw [e3] at z
          exfalso; omega
        rw [e, hh]
    · have ms : (S.1 98 k).toInt ≠ 0 := by rw [(h5 k k4).1]; exact md
      have hC : wp (fc_X11_back 0 a1 S) (fun w => IC nonP w.2 ∧ KpC (fun q j => q = S.2.2.1 ∧ j = 13) S w.2 ∧ (w.2.1 S.2.2.1 13).toInt = (S.1 (50 + 12 * k) 13).toInt) := by
        unfold fc_X11_back
        refine wp_lt (fun h0 => by exfalso; omega) (fun h0 => ?_)
        refine wp_le (fun h1' => by exfalso; omega) (fun h1' => ?_)
        have hq : cK (50 + 12 * a1.toNatClampNeg) = 2 := k_img (by omega) (by omega)
        rw [ix] at hq ⊢
        have hi := IC_isle hI
        refine wp_bif (inb_of (by omega) (by omega)) ?_
        refine wp_letv (fun v3 e3 => ?_)
        have e3' : v3 = S.1 98 k := e3
        refine wp_eq (fun z => by rw [e3'] at z; exfalso; omega) (fun _ => ?_)
        refine wp_bif (beq_k hi) ?_
        refine wp_bif (inb_of (by omega) (by omega)) ?_
        have hJ : IC (PV (fun q j => q = S.2.2.1 ∧ j = 13) S) S := IC_pv hI
        refine wp_bind (tc_X2_copyFrom hi hq (pv_no (Or.inr ⟨rfl, rfl⟩)) (pv_no (Or.inl (by omega))) (by omega) hJ) (fun q7 r => ?_)
        obtain ⟨i7, p7, e13, -, -⟩ := r
        have i8 := IC_pinv (q := S.2.2.1) (j := 13) (v := (S.1 (50 + 12 * k) 13).toInt) i7 (pin13 hi) (by rw [e13])
        refine wp_bind (tc_X1_forget (b := 0 + 99) rfl i8) (fun q8 r => ?_)
        obtain ⟨i9, p9⟩ := r
        refine wp_bif (beq_k (IC_isle i9)) ?_
        refine wp_some ⟨IC_non i9, ⟨p9.trans p7, fun q j t d => ?_⟩, ?_⟩
        · refine (i9.2.1 q j _ ?_).2
          unfold pnA PV
          rw [if_neg d, if_pos ⟨t, d⟩]
        · refine (i9.2.1 S.2.2.1 13 _ ?_).2
          unfold pnA
          rw [if_pos ⟨rfl, rfl⟩]
      have hM : wp (fm_back a1 T) (fun w => Aft nonP w.2 ∧ KpM (fun r j => r = 0 ∧ j = 22) T w.2 ∧ (w.2.1 0 22).toInt = (T.1 16 k).toInt) := by
        unfold fm_back
        refine wp_bind tm_inq (fun q1 hq1 => ?_)
        refine wp_b (fun b1 => ?_) (fun b1 => ?_)
        · exfalso
          have := hq1.2 b1
          omega
        refine wp_bif (inb_of (by omega) (by omega)) ?_
        refine wp_letv (fun v3 e3 => ?_)
        rw [ix] at e3
        refine wp_eq (fun z => by rw [e3] at z; exfalso; omega) (fun _ => ?_)
        refine wp_bif (inb_of (by omega) (by omega)) ?_
        refine wp_letv (fun v5 e5 => ?_)
        rw [ix] at e5
        have nI : IQ (QV (fun r j => r = 0 ∧ j = 22) T) T := (IQ_qv hA).1
        have c5 := im_r16 nI k
        have f5 := nI.2.2.2.2.1 k k4 md
        rw [← e5] at c5 f5
        refine wp_letv (fun T6 e6 => ?_)
        have i6 : IQ (QV (fun r j => r = 0 ∧ j = 22) T) T6 := by rw [e6]; exact IQ_22 nI (qv_no (Or.inr ⟨rfl, rfl⟩)) c5.1 f5
        have x6 : (T6.1 0 22).toInt = (T.1 16 k).toInt := by rw [e6, mz_at, e5]
        have j6 := IQ_pin (q := 0) (j := 22) i6 rfl x6
        have cX := im_r17 i6 k
        refine wp_bif (inb_of (by omega) (by omega)) ?_
        refine wp_letv (fun v7 e7 => ?_)
        rw [ix] at e7
        rw [← e7] at cX
        refine wp_letv (fun T8 e8 => ?_)
        have i8 : IQ (pnA (QV (fun r j => r = 0 ∧ j = 22) T) 0 22 (T.1 16 k).toInt) T8 := by
          rw [e8]
          refine IQ_mz j6 (show (0 : Int) ≤ v7.toInt ∧ v7.toInt ≤ 2147483647 from cX) ?_ (by decide) (by decide)
          unfold pnA
          rw [if_neg (by omega)]
          exact qv_no (Or.inl (by omega))
        refine wp_letv (fun T9 e9 => ?_)
        have i9 : IQ (pnA (QV (fun r j => r = 0 ∧ j = 22) T) 0 22 (T.1 16 k).toInt) T9 := by rw [e9]; exact iz_25 i8 (by omega) (by omega)
        refine wp_bind (tm_back_L50 (k1 := a1) (by omega) (by omega) FU 0 T9 (by omega) (by omega) (by omega)) (fun w13 h13 => ?_)
        rw [l_0, hkk] at h13
        have a13 := iq_gone (by omega) i9 h13
        refine wp_bif (inb_of (by decide) (by decide)) ?_
        refine wp_letv (fun v14 _ => wp_some ⟨IQ_non a13, fun r j t d => ?_, ?_⟩)
        · refine (a13.1.1.2 r j _ ?_).2
          unfold pnA QV
          rw [if_neg d, if_pos ⟨t, d⟩]
        · refine (a13.1.1.2 0 22 _ ?_).2
          unfold pnA
          rw [if_pos ⟨rfl, rfl⟩]
      refine st_of hC hM (fun q w a b => ?_)
      obtain ⟨a1', a2, a3⟩ := a
      obtain ⟨b1, b2, b3⟩ := b
      refine ⟨a1', b1, ?_, fun j hj => ?_, ?_, ?_, fun j hj => ?_⟩
      · rw [a2.2 1 4 (by omega) (by omega), b2 0 1 (by omega) (by omega)]; exact h1
      · rw [b2 0 1 (by omega) (by omega)] at hj
        rw [a2.2 2 j (by omega) (by omega), b2 1 j (by omega) (by omega)]
        exact h2 j hj
      · rw [a2.2 0 11 (by omega) (by omega), b2 0 2 (by omega) (by omega)]; exact h3
      · rw [a2.1, a3, b3]; exact (h5 k k4).2 md
      · rw [a2.2 98 j (by omega) (by omega), b2 18 j (by omega) (by omega), b2 16 j (by omega) (by omega), a2.2 (50 + 12 * j) 13 (tr_img hj) (by omega)]
        exact h5 j hj
  · refine ⟨(-1, S), (-1, T), ?_, ?_, fun z => (by cases z), hI, hA, R⟩
    · obtain ⟨q, e, hh⟩ : wp (fc_X11_back 0 a1 S) (fun w => w = (-1, S)) := by
        unfold fc_X11_back
        refine wp_lt (fun h0 => wp_some rfl) (fun h0 => ?_)
        exact wp_le (fun h1' => wp_some rfl) (fun h1' => by exfalso; omega)
      rw [e, hh]
    · obtain ⟨q, e, hh⟩ : wp (fm_back a1 T) (fun w => w = (-1, T)) := by
        unfold fm_back
        refine wp_bind tm_inq (fun q1 hq1 => ?_)
        refine wp_b (fun b1 => wp_some rfl) (fun b1 => ?_)
        have := hq1.1 b1
        exfalso; omega
      rw [e, hh]
