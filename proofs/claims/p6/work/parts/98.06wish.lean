/-! ===== wish, view ===== -/
theorem i32_msb (x : Int32) : x.toBitVec.msb = decide (x.toInt < 0) := BitVec.msb_eq_toInt
theorem i32_nn {x : Int32} (h : 0 ≤ x.toInt) : x.toBitVec.msb = false := by rw [i32_msb]; exact decide_eq_false (by omega)
theorem vw_bv {p q : Int32} (h : (p &&& (q ^^^ (-1))) = 0) : ∀ i : Nat, p.toBitVec.getLsbD i = true → q.toBitVec.getLsbD i = true := by
  intro i hp
  have e : p.toBitVec &&& (q.toBitVec ^^^ (-1 : Int32).toBitVec) = 0 := congrArg Int32.toBitVec h
  have e2 := congrArg (fun b => BitVec.getLsbD b i) e
  have m1 : (-1 : Int32).toBitVec = BitVec.allOnes 32 := by decide
  rw [BitVec.getLsbD_and, BitVec.getLsbD_xor, m1, BitVec.getLsbD_allOnes, hp] at e2
  have hi : i < 32 := by
    by_cases z : i < 32
    · exact z
    · rw [BitVec.getLsbD_of_ge _ _ (by omega)] at hp
      cases hp
  rw [decide_eq_true hi] at e2
  have z0 : (0 : BitVec 32).getLsbD i = false := BitVec.getLsbD_zero
  rw [z0] at e2
  cases y : q.toBitVec.getLsbD i with
  | true => rfl
  | false => rw [y] at e2; cases e2
theorem vw_and {p q : Int32} (h : (p &&& (q ^^^ (-1))) = 0) : p &&& q = p := by
  have b := vw_bv h
  refine Int32.toBitVec_inj.mp ?_
  show p.toBitVec &&& q.toBitVec = p.toBitVec
  refine BitVec.eq_of_getLsbD_eq (fun i hi => ?_)
  rw [BitVec.getLsbD_and]
  cases y : p.toBitVec.getLsbD i with
  | true => rw [b i y]; rfl
  | false => rfl
theorem i32_nat {x : Int32} (h : 0 ≤ x.toInt) : x.toInt = (x.toBitVec.toNat : Int) := by
  show x.toBitVec.toInt = _
  have := i32_nn h
  rw [BitVec.toInt_eq_msb_cond, this]
  rfl
theorem vw_nn {p q : Int32} (h : (p &&& (q ^^^ (-1))) = 0) (h0 : 0 ≤ q.toInt) : 0 ≤ p.toInt ∧ p.toInt ≤ q.toInt := by
  have a := vw_and h
  have b := vw_bv h
  have hp : 0 ≤ p.toInt := by
    by_cases z : p.toInt < 0
    · have m : p.toBitVec.msb = true := by rw [i32_msb]; exact decide_eq_true z
      rw [BitVec.msb_eq_getLsbD_last] at m
      have m2 := b _ m
      rw [← BitVec.msb_eq_getLsbD_last, i32_nn h0] at m2
      cases m2
    · omega
  refine ⟨hp, ?_⟩
  rw [i32_nat hp, i32_nat h0]
  have e : p.toBitVec.toNat = (p.toBitVec &&& q.toBitVec).toNat := congrArg (fun x : Int32 => x.toBitVec.toNat) a.symm
  rw [BitVec.toNat_and] at e
  have := @Nat.and_le_right p.toBitVec.toNat q.toBitVec.toNat
  omega
theorem ex_8 {S : cT} {T : mT} {D D' : Nat → Nat → Prop} (hA : Aft nonP T) (R : RLk S T) {S' : cT} {T' : mT} (c : KpC D S S') (m : KpM D' T T') (hd : ∀ q j, TrC S.2.2.1 q j → D q j → S.2.2.1 ≤ q ∧ j ≠ 13 ∨ S.2.2.1 + 1 ≤ q) (hm : ∀ r j, D' r j → r = 10) (hI : IC nonP S) (e : EQI S' S'.2.2.1 T' 10 0) : RLk S' T' := by
  have R' := R
  obtain ⟨h1, h2, h3, h4, h5, h6, h7⟩ := R'
  have ne2 : S.2.2.1 = 113 ∨ S.2.2.1 = 125 := by rcases hI.2.2 with ⟨a, -⟩ | ⟨a, -⟩; exact Or.inl a; exact Or.inr a
  have c' : ∀ q j, TrC S.2.2.1 q j → (q < S.2.2.1 ∨ (q = S.2.2.1 ∧ j = 13)) → (S'.1 q j).toInt = (S.1 q j).toInt := fun q j t h => c.2 q j t (fun z => by have := hd q j t z; omega)
  have m' : ∀ r j, TrM r j → r ≠ 10 → (T'.1 r j).toInt = (T.1 r j).toInt := fun r j t h => m r j t (fun z => h (hm r j z))
  refine ⟨?_, fun k hk => ?_, ?_, ?_, fun k hk => ?_, e, fun k hk z => ?_⟩
  · rw [c' 1 4 tr_14 (by omega), m' 0 1 (by omega) (by decide)]; exact h1
  · rw [m' 0 1 (by omega) (by decide)] at hk
    rw [c' 2 k tr_2 (by omega), m' 1 k (by omega) (by decide)]
    exact h2 k hk
  · rw [c' 0 11 tr_011 (by omega), m' 0 2 (by omega) (by decide)]; exact h3
  · rw [c.1, c' S.2.2.1 13 tr_isle (by omega), m' 0 22 (by omega) (by decide)]; exact h4
  · rw [c' 98 k (tr_98 hk) (by omega), m' 18 k (by omega) (by decide), m' 16 k (by omega) (by decide), c' (50 + 12 * k) 13 (tr_img hk) (by omega)]
    exact h5 k hk
  · exact em_k hA R c m hk (fun q j t y => by have := hd q j (tr_m hk t) y; omega) (fun j _ _ y => by have := hm _ _ y; omega) (fun y => by have := hm _ _ y; omega) z
theorem wr_2 {b : Nat} {p0 v : Int32} {n : Nat} {S : cT} (h3 : (S.1 b 3).toInt = (n : Int) + 1) (h1 : (S.1 b 1).toInt = 2) (hn : n ≤ 40) {i : Nat} (hi : p0.toInt = (i : Int)) (hi2 : i < 2) : wl (fc_X6_put b p0 v S) (fun S' => S' = ca S (b + 1) (2 * n + i) v) := by
  have l_0 : (0 : Int32).toInt = 0 := by decide
  have l_1 : (1 : Int32).toInt = 1 := by decide
  unfold fc_X6_put
  refine wl_le (fun z => by exfalso; omega) (fun _ => ?_)
  refine wl_lt (fun z => by exfalso; omega) (fun _ => ?_)
  refine wl_le (fun z => by exfalso; omega) (fun _ => ?_)
  refine wl_bif (wl_letv (fun S5 e5 => wl_some ?_))
  have u := tS (a := S.1 b 3) (b := 1) (by omega) (by omega)
  have m := tMR (a := S.1 b 3 - 1) (b := S.1 b 1) h1 (by omega) (by omega)
  have a := tA (a := (S.1 b 3 - 1) * S.1 b 1) (b := p0) (by omega) (by omega)
  rw [e5, cl_idx (n := 2 * n + i) (by omega)]
theorem s_wish {S : cT} {T : mT} {p0 p1 p2 p3 : Int32} (h : J5 S T) : St true J5 (fc_X11_wish 0 p0 p1 p2 p3 S) (fm_wish p0 p1 p2 p3 T) := by
  obtain ⟨hI, hA, R⟩ := h
  have h6 := R.2.2.2.2.2.1
  have l_0 : (0 : Int32).toInt = 0 := by decide
  have l_1 : (1 : Int32).toInt = 1 := by decide
  have l_4 : (4 : Int32).toInt = 4 := by decide
  have l_8 : (8 : Int32).toInt = 8 := by decide
  have l_10 : (10 : Int32).toInt = 10 := by decide
  have l_16 : (16 : Int32).toInt = 16 := by decide
  have l_99 : (99 : Int32).toInt = 99 := by decide
  have l_352 : (352 : Int32).toInt = 352 := by decide
  have k0 : (0 : Int64).toInt = 0 := by decide
  have k1 : (1 : Int64).toInt = 1 := by decide
  have k15 : (15 : Int64).toInt = 15 := by decide
  have k99 : (99 : Int64).toInt = 99 := by decide
  have y1 := Int32.toInt_toInt64 p1
  have y2 := Int32.toInt_toInt64 p2
  have y3 := Int32.toInt_toInt64 p3
  have ne2 : S.2.2.1 = 113 ∨ S.2.2.1 = 125 := by rcases hI.2.2 with ⟨a, -⟩ | ⟨a, -⟩; exact Or.inl a; exact Or.inr a
  have k5 := ic_5 hI (ko_2_8 (IC_isle hI))
  have r8 := rr_2_8 (IC_isle hI)
  have pe := h6.pe
  have wi := h6.wi
  rw [Nat.zero_add] at pe wi
  have c9 : (T.1 10 1).toInt ≤ 8 := (hA.1.1.1 10 1).2
  have c408 : 0 ≤ (T.1 10 408).toInt ∧ (T.1 10 408).toInt ≤ 10 := hA.1.1.1 10 408
  have cC := kc_w (tc_X11_wish (p0 := p0) (p1 := p1) (p2 := p2) (p3 := p3) (b := 0) rfl (pv_no (D := fun q j => (q = S.2.2.1 + 8 ∧ j = 3) ∨ q = S.2.2.1 + 9) (S := S) (Or.inr (by omega))) (fun j => pv_no (Or.inr (by omega))) (IC_pv hI))
  have cM := km_w (tm_wish (p0 := p0) (p1 := p1) (p2 := p2) (p3 := p3) (P := QV (fun r j => r = 10 ∧ 352 ≤ j) T) (fun j hj => qv_no (Or.inr ⟨rfl, hj⟩)) (IQ_qv hA))
  have wC : wl (fc_X11_wish 0 p0 p1 p2 p3 S) (fun w => (p0 = -1 ∧ w.1 = 0 ∧ (w.2.1 (S.2.2.1 + 8) 3).toInt = 0) ∨ (p0 ≠ -1 ∧ (0 ≤ p0.toInt ∧ p0.toInt < (T.1 10 1).toInt ∧ 0 ≤ p1.toInt ∧ p1.toInt ≤ p2.toInt ∧ p2.toInt ≤ 15 ∧ 1 ≤ p3.toInt ∧ p3.toInt ≤ 99 ∧ (T.1 10 408).toInt < 10) ∧ w.1 = w.2.1 (S.2.2.1 + 8) 3 ∧ (w.2.1 (S.2.2.1 + 8) 3).toInt = (T.1 10 408).toInt + 1) ∨ (p0 ≠ -1 ∧ ¬ (0 ≤ p0.toInt ∧ p0.toInt < (T.1 10 1).toInt ∧ 0 ≤ p1.toInt ∧ p1.toInt ≤ p2.toInt ∧ p2.toInt ≤ 15 ∧ 1 ≤ p3.toInt ∧ p3.toInt ≤ 99 ∧ (T.1 10 408).toInt < 10) ∧ w = (-2, S))) := by
    unfold fc_X11_wish
    refine wl_if (fun z => ?_) (fun z => ?_)
    · refine wl_bif ?_
      unfold fc_X6_cutTo
      refine wl_bind (R := fun q : cT => (q.1 (S.2.2.1 + 8) 3).toInt = 0) ?_ (fun q hq => wl_some (Or.inl ⟨z, rfl, hq⟩))
      refine wl_lt (fun y => by exfalso; omega) (fun _ => ?_)
      refine wl_le (fun y => wl_some (by omega)) (fun y => ?_)
      exact wl_letv (fun S3 e3 => wl_some (by rw [e3, ca_at]; exact l_0))
    · refine wl_bif ?_
      refine wl_bind (R := fun b => b = true ↔ 0 ≤ p0.toInt ∧ p0.toInt < (T.1 10 1).toInt) ?_ (fun q3 g3 => ?_)
      · unfold fc_X2_has
        refine wl_lt (fun y => wl_some ⟨fun x => (by cases x), fun x => by exfalso; omega⟩) (fun _ => ?_)
        refine wl_le (fun y => wl_some ⟨fun x => (by cases x), fun x => by exfalso; omega⟩) (fun _ => ?_)
        exact wl_le (fun y => by exfalso; omega) (fun _ => wl_some ⟨fun _ => by omega, fun _ => rfl⟩)
      refine wl_b (fun b => wl_some (Or.inr (Or.inr ⟨z, fun y => ?_, rfl⟩))) (fun b => ?_)
      · rw [g3.mpr ⟨y.1, y.2.1⟩] at b; cases b
      have g := g3.mp b
      refine wl_lt (fun y => wl_some (Or.inr (Or.inr ⟨z, by omega, rfl⟩))) (fun a1 => ?_)
      refine wl_lt (fun y => wl_some (Or.inr (Or.inr ⟨z, by omega, rfl⟩))) (fun a2 => ?_)
      refine wl_lt (fun a3 => ?_) (fun y => wl_some (Or.inr (Or.inr ⟨z, by omega, rfl⟩)))
      refine wl_lt (fun y => wl_some (Or.inr (Or.inr ⟨z, by omega, rfl⟩))) (fun a4 => ?_)
      refine wl_lt (fun y => wl_some (Or.inr (Or.inr ⟨z, by omega, rfl⟩))) (fun a5 => ?_)
      unfold fc_X6_isFull
      refine wl_bind (R := fun b => b = false ↔ (T.1 10 408).toInt < 10) ?_ (fun q10 g10 => ?_)
      · exact wl_lt (fun y => wl_some ⟨fun _ => by omega, fun _ => rfl⟩) (fun y => wl_some ⟨fun x => (by cases x), fun x => by exfalso; omega⟩)
      refine wl_b (fun b10 => ?_) (fun b10 => wl_some (Or.inr (Or.inr ⟨z, fun y => ?_, rfl⟩)))
      · have g' := g10.mp b10
        unfold fc_X2_addWish
        refine wl_bind (R := fun q12 : cT => q12.2.2 = S.2.2 ∧ (q12.1 (S.2.2.1 + 8) 3).toInt = (T.1 10 408).toInt + 1) ?_ (fun q12 h12 => ?_)
        · have put : ∀ (x y : Int32) (S1 : cT), wl (fc_X6_put (S.2.2.1 + 8) x y S1) (fun S2 => S2.2.2 = S1.2.2 ∧ S2.1 (S.2.2.1 + 8) 3 = S1.1 (S.2.2.1 + 8) 3) := fun x y S1 => by
            unfold fc_X6_put
            refine wl_if (fun _ => wl_some ⟨rfl, rfl⟩) (fun _ => ?_)
            refine wl_if (fun _ => wl_some ⟨rfl, rfl⟩) (fun _ => ?_)
            refine wl_if (fun _ => wl_some ⟨rfl, rfl⟩) (fun _ => ?_)
            exact wl_bif (wl_letv (fun S5 e5 => wl_some ⟨by rw [e5]; rfl, by rw [e5]; exact ca_ne (Or.inl (by omega))⟩))
          have u := tA (a := S.1 (S.2.2.1 + 8) 3) (b := 1) (by omega) (by omega)
          refine wl_bind (R := fun q : cT => q.2.2 = S.2.2 ∧ (q.1 (S.2.2.1 + 8) 3).toInt = (T.1 10 408).toInt + 1) ?_ (fun q1 h1 => ?_)
          · unfold fc_X6_addRow
            exact wl_le (fun y => by exfalso; omega) (fun _ => wl_letv (fun S2 e2 => wl_some ⟨by rw [e2]; rfl, by rw [e2, ca_at]; omega⟩))
          refine wl_bind (put _ _ _) (fun q2 h2 => ?_)
          refine wl_bind (put _ _ _) (fun q3 h3 => ?_)
          refine wl_bind (put _ _ _) (fun q4 h4 => ?_)
          refine wl_bind (put _ _ _) (fun q5 h5 => wl_some ⟨?_, ?_⟩)
          · rw [h5.1, h4.1, h3.1, h2.1]; exact h1.1
          · rw [h5.2, h4.2, h3.2, h2.2]; exact h1.2
        · refine wl_bif (wl_some (Or.inr (Or.inl ⟨z, by omega, ?_, h12.2⟩)))
          dsimp only
          rw [h12.1]
      · rw [g10.mpr y.2.2.2.2.2.2.2] at b10; cases b10
  have wM : wl (fm_wish p0 p1 p2 p3 T) (fun w => ((p0 = -1 ∧ w.1 = 0 ∧ (w.2.1 10 408).toInt = 0) ∨ (p0 ≠ -1 ∧ (0 ≤ p0.toInt ∧ p0.toInt < (T.1 10 1).toInt ∧ 0 ≤ p1.toInt ∧ p1.toInt ≤ p2.toInt ∧ p2.toInt ≤ 15 ∧ 1 ≤ p3.toInt ∧ p3.toInt ≤ 99 ∧ (T.1 10 408).toInt < 10) ∧ w.1 = w.2.1 10 408 ∧ (w.2.1 10 408).toInt = (T.1 10 408).toInt + 1) ∨ (p0 ≠ -1 ∧ ¬ (0 ≤ p0.toInt ∧ p0.toInt < (T.1 10 1).toInt ∧ 0 ≤ p1.toInt ∧ p1.toInt ≤ p2.toInt ∧ p2.toInt ≤ 15 ∧ 1 ≤ p3.toInt ∧ p3.toInt ≤ 99 ∧ (T.1 10 408).toInt < 10) ∧ w = (-2, T))) ∧ ∀ j, 392 ≤ j → j ≠ 408 → w.2.1 10 j = T.1 10 j) := by
    unfold fm_wish
    have i408 : (408 : Int32).toNatClampNeg = 408 := by decide
    rw [i408]
    refine wl_if (fun z => ?_) (fun z => ?_)
    · refine wl_bif (wl_letv (fun T20 e20 => wl_some ⟨Or.inl ⟨z, rfl, ?_⟩, fun j _ hj => ?_⟩))
      · dsimp only
        rw [e20, ma_at]; exact l_0
      · dsimp only
        rw [e20, ma_ne (Or.inr hj)]
    · refine wl_bind (R := fun b => b = true ↔ 0 ≤ p0.toInt ∧ p0.toInt < (T.1 10 1).toInt) ?_ (fun q2 g2 => ?_)
      · unfold fm_isPerson
        refine wl_lt (fun y => wl_some ⟨fun x => (by cases x), fun x => by exfalso; omega⟩) (fun _ => ?_)
        refine wl_bif (wl_letv (fun v2 e2 => ?_))
        have e2' : v2 = T.1 10 1 := e2
        rw [e2']
        exact wl_le (fun y => wl_some ⟨fun x => (by cases x), fun x => by exfalso; omega⟩) (fun y => wl_some ⟨fun _ => by omega, fun _ => rfl⟩)
      refine wl_b (fun b => wl_some ⟨Or.inr (Or.inr ⟨z, fun y => ?_, rfl⟩), fun _ _ _ => rfl⟩) (fun b => ?_)
      · rw [g2.mpr ⟨y.1, y.2.1⟩] at b; cases b
      have g := g2.mp b
      refine wl_bind (wl_of tm_inq) (fun q4 g4 => wl_b (fun b4 => wl_some ⟨Or.inr (Or.inr ⟨z, fun y => g4.2 b4 (by omega), rfl⟩), fun _ _ _ => rfl⟩) (fun b4 => ?_))
      have x4 := g4.1 b4
      refine wl_bind (wl_of tm_inq) (fun q6 g6 => wl_b (fun b6 => wl_some ⟨Or.inr (Or.inr ⟨z, fun y => g6.2 b6 (by omega), rfl⟩), fun _ _ _ => rfl⟩) (fun b6 => ?_))
      have x6 := g6.1 b6
      refine wl_bind (wl_of tm_inq) (fun q8 g8 => wl_b (fun b8 => wl_some ⟨Or.inr (Or.inr ⟨z, fun y => g8.2 b8 (by omega), rfl⟩), fun _ _ _ => rfl⟩) (fun b8 => ?_))
      have x8 := g8.1 b8
      refine wl_bif (wl_letv (fun v10 e10 => ?_))
      rw [e10]
      refine wl_eq (fun y => wl_some ⟨Or.inr (Or.inr ⟨z, by omega, rfl⟩), fun _ _ _ => rfl⟩) (fun y => ?_)
      refine wl_bif (wl_letv (fun v12 e12 => ?_))
      obtain ⟨n, hn⟩ : ∃ n : Nat, (T.1 10 408).toInt = (n : Int) := ⟨(T.1 10 408).toInt.toNat, by omega⟩
      have m := tML (a := 4) (b := v12) (n := 4) l_4 (by rw [e12]; omega) (by rw [e12]; omega)
      rw [e12] at m
      have a0 := tA (a := 352) (b := 4 * v12) (by rw [e12]; omega) (by rw [e12]; omega)
      rw [e12] at a0
      rw [e12]
      have a1 := tA (a := 352 + 4 * T.1 10 408) (b := 1) (by omega) (by omega)
      have l_2 : (2 : Int32).toInt = 2 := by decide
      have l_3 : (3 : Int32).toInt = 3 := by decide
      have a2 := tA (a := 352 + 4 * T.1 10 408) (b := 2) (by omega) (by omega)
      have a3 := tA (a := 352 + 4 * T.1 10 408) (b := 3) (by omega) (by omega)
      refine wl_bif (wl_letv (fun T13 e13 => ?_))
      rw [cl_idx (n := 352 + 4 * n) (by omega)] at e13
      refine wl_bif (wl_letv (fun T14 e14 => ?_))
      rw [cl_idx (n := 352 + 4 * n + 1) (by omega)] at e14
      refine wl_bif (wl_letv (fun T15 e15 => ?_))
      rw [cl_idx (n := 352 + 4 * n + 2) (by omega)] at e15
      refine wl_bif (wl_letv (fun T16 e16 => ?_))
      rw [cl_idx (n := 352 + 4 * n + 3) (by omega)] at e16
      have f16 : ∀ j, 392 ≤ j → T16.1 10 j = T.1 10 j := fun j hj => by rw [e16, ma_ne (Or.inr (by omega)), e15, ma_ne (Or.inr (by omega)), e14, ma_ne (Or.inr (by omega)), e13, ma_ne (Or.inr (by omega))]
      refine wl_bif (wl_letv (fun v17 e17 => ?_))
      have u := tA (a := T.1 10 408) (b := 1) (by omega) (by omega)
      refine wl_bif (wl_letv (fun T18 e18 => ?_))
      rw [e17, f16 408 (by decide)] at e18
      have v18 : (T18.1 10 408).toInt = (T.1 10 408).toInt + 1 := by rw [e18, ma_at]; omega
      refine wl_bif (wl_letv (fun v19 e19 => wl_some ⟨Or.inr (Or.inl ⟨z, by omega, e19, v18⟩), fun j hj hj' => ?_⟩))
      dsimp only
      rw [e18, ma_ne (Or.inr hj'), f16 j hj]
  obtain ⟨q, eq, ⟨iq, kq⟩, fq⟩ := wp_wl cC wC
  obtain ⟨w, ew, ⟨iw, kw⟩, fw, ff⟩ := wp_wl cM wM
  have sz : (q.2.1 (S.2.2.1 + 8) 3).toInt = (w.2.1 10 408).toInt ∧ q.1 = w.1 := by
    rcases fq with ⟨z, a, b⟩ | ⟨z, cd, a, b⟩ | ⟨z, cd, rfl⟩ <;> rcases fw with ⟨z', a', b'⟩ | ⟨z', cd', a', b'⟩ | ⟨z', cd', rfl⟩
    · exact ⟨by omega, by rw [a, a']⟩
    · exact absurd z z'
    · exact absurd z z'
    · exact absurd z' z
    · have e : (q.2.1 (S.2.2.1 + 8) 3).toInt = (w.2.1 10 408).toInt := by omega
      exact ⟨e, by rw [a, a']; exact Int32.toInt_inj.mp e⟩
    · exact absurd cd cd'
    · exact absurd z' z
    · exact absurd cd' cd
    · exact ⟨wi, rfl⟩
  clear fq fw
  have tj : ∀ c, c < 410 → c ≠ 408 → stJ c = true → (c < 352 ∨ 392 ≤ c) → (w.2.1 10 c).toInt = (T.1 10 c).toInt := fun c h1 h2 h3 h4 => by
    by_cases y : c < 352
    · exact kw 10 c (Or.inr (Or.inr (Or.inr (Or.inr (Or.inr ⟨rfl, h3⟩))))) (by omega)
    · rw [ff c (by omega) h2]
  have vok : VOK w.2 10 0 := by
    have v := h6.2
    have e1 := tj 1 (by decide) (by decide) (by decide) (by decide)
    have e0 := tj 0 (by decide) (by decide) (by decide) (by decide)
    have e9 : w.2.1 10 (0 + 409) = T.1 10 (0 + 409) := ff 409 (by decide) (by decide)
    have x0 : w.2.1 10 (0 + 0) = T.1 10 (0 + 0) := Int32.toInt_inj.mp e0
    refine ⟨fun y => ?_, fun k hk => ?_⟩
    · rw [x0]
      exact v.1 (by rw [Nat.zero_add] at y ⊢; omega)
    · rw [e9] at hk
      have i9 := i_409 hA.1
      rw [x0, show w.2.1 10 (0 + (392 + (2 * k + 1))) = T.1 10 (0 + (392 + (2 * k + 1))) from ff _ (by omega) (by omega), show w.2.1 10 (0 + (392 + 2 * k)) = T.1 10 (0 + (392 + 2 * k)) from ff _ (by omega) (by omega)]
      exact v.2 k hk
  refine ⟨q, w, eq, ew, fun _ => sz.2, iq, iw, ex_8 hA R kq kw (fun q j _ z => by omega) (fun r j z => z.1) hI ⟨fun o j c mp g => ?_, vok⟩⟩
  rw [kq.1]
  have e1 := tj 1 (by decide) (by decide) (by decide) (by decide)
  have e9 := tj 409 (by decide) (by decide) (by decide) (by decide)
  rw [Nat.zero_add, Nat.zero_add, e1, e9] at g
  by_cases y : c = 408
  · have : o = 8 ∧ j = 3 := by omega
    rw [this.1, this.2, y]
    exact sz.1
  · have st := Mp_st mp
    rw [kq.2 _ _ (tr_i (Mp_tr mp)) (by omega), Nat.zero_add, tj c st.2 y st.1 (by omega)]
    have := h6.1 o j c mp (by rw [Nat.zero_add, Nat.zero_add]; exact g)
    rw [Nat.zero_add] at this
    exact this
theorem s_view {S : cT} {T : mT} {p0 p1 : Int32} (h : J5 S T) : St true J5 (fc_X11_view 0 p0 p1 S) (fm_view p0 p1 T) := by
  obtain ⟨hI, hA, R⟩ := h
  have h6 := R.2.2.2.2.2.1
  have l_0 : (0 : Int32).toInt = 0 := by decide
  have l_1 : (1 : Int32).toInt = 1 := by decide
  have l_2 : (2 : Int32).toInt = 2 := by decide
  have l_8 : (8 : Int32).toInt = 8 := by decide
  have l_392 : (392 : Int32).toInt = 392 := by decide
  have k1 : (1 : Int64).toInt = 1 := by decide
  have y0 := Int32.toInt_toInt64 p0
  have ne2 : S.2.2.1 = 113 ∨ S.2.2.1 = 125 := by rcases hI.2.2 with ⟨a, -⟩ | ⟨a, -⟩; exact Or.inl a; exact Or.inr a
  have k5 := ic_5 hI (ko_2_10 (IC_isle hI))
  have r10 := rr_2_10 (IC_isle hI)
  have mk' := h6.mk'
  have vi := h6.vi
  rw [Nat.zero_add] at mk' vi
  have mkE : S.1 S.2.2.1 8 = T.1 10 0 := Int32.toInt_inj.mp mk'
  have c0 : 0 ≤ (T.1 10 0).toInt ∧ (T.1 10 0).toInt ≤ 6 := hA.1.1.1 10 0
  have c409 : 0 ≤ (T.1 10 409).toInt ∧ (T.1 10 409).toInt ≤ 8 := hA.1.1.1 10 409
  obtain ⟨n, hn⟩ : ∃ n : Nat, (T.1 10 409).toInt = (n : Int) := ⟨(T.1 10 409).toInt.toNat, by omega⟩
  obtain ⟨F, hF⟩ : ∃ F : Int32, F = ((1 : Int32) <<< (T.1 10 0 &&& 31)) - 1 := ⟨_, rfl⟩
  have F0 : (T.1 10 0).toInt = 0 → F.toInt = 0 := fun z => by
    rw [hF, shl_face (mq := 0) (by omega) (by decide)]; rfl
  have cC := kc_w (tc_X11_view (p0 := p0) (p1 := p1) (b := 0) rfl (pv_no (D := fun q j => (q = S.2.2.1 + 10 ∧ j = 3) ∨ q = S.2.2.1 + 11) (S := S) (Or.inr (by omega))) (fun j => pv_no (Or.inr (by omega))) (IC_pv hI))
  have cM := km_w (tm_view (p0 := p0) (p1 := p1) (P := QV (fun r j => r = 10 ∧ 352 ≤ j) T) (fun j hj => qv_no (Or.inr ⟨rfl, hj⟩)) (IQ_qv hA))
  have wC : wl (fc_X11_view 0 p0 p1 S) (fun w => (p0 = -1 ∧ w.1 = 0 ∧ (w.2.1 (S.2.2.1 + 10) 3).toInt = 0) ∨ (p0 ≠ -1 ∧ (1 ≤ p0.toInt ∧ p0.toInt ≤ F.toInt ∧ (p1 &&& (p0 ^^^ (-1))) = 0 ∧ n < 8) ∧ w.1 = w.2.1 (S.2.2.1 + 10) 3 ∧ (w.2.1 (S.2.2.1 + 10) 3).toInt = (n : Int) + 1 ∧ w.2.1 (S.2.2.1 + 11) (2 * n) = p0 ∧ w.2.1 (S.2.2.1 + 11) (2 * n + 1) = p1 ∧ ∀ j, j < 2 * n → w.2.1 (S.2.2.1 + 11) j = S.1 (S.2.2.1 + 11) j) ∨ (p0 ≠ -1 ∧ ¬ (1 ≤ p0.toInt ∧ p0.toInt ≤ F.toInt ∧ (p1 &&& (p0 ^^^ (-1))) = 0 ∧ n < 8) ∧ w = (-2, S))) := by
    unfold fc_X11_view
    refine wl_if (fun z => ?_) (fun z => ?_)
    · refine wl_bif ?_
      unfold fc_X6_cutTo
      refine wl_bind (R := fun q : cT => (q.1 (S.2.2.1 + 10) 3).toInt = 0) ?_ (fun q hq => wl_some (Or.inl ⟨z, rfl, hq⟩))
      refine wl_lt (fun y => by exfalso; omega) (fun _ => ?_)
      refine wl_le (fun y => wl_some (by omega)) (fun y => ?_)
      exact wl_letv (fun S3 e3 => wl_some (by rw [e3, ca_at]; exact l_0))
    · refine wl_eq (fun y => wl_some (Or.inr (Or.inr ⟨z, by omega, rfl⟩))) (fun nz => ?_)
      refine wl_bif ?_
      refine wl_bind (R := fun b => b = true ↔ 0 ≤ p0.toInt ∧ p0.toInt ≤ F.toInt) ?_ (fun q4 g4 => ?_)
      · unfold fc_X2_isFace fc_X2_lastFace
        refine wl_lt (fun y => wl_some ⟨fun x => (by cases x), fun x => by exfalso; omega⟩) (fun _ => ?_)
        refine wl_bind (R := fun v : Int32 => v = F) (wl_some (by rw [mkE, hF])) (fun q2 e2 => ?_)
        rw [e2]
        exact wl_lt (fun y => wl_some ⟨fun x => (by cases x), fun x => by exfalso; omega⟩) (fun _ => wl_some ⟨fun _ => by omega, fun _ => rfl⟩)
      refine wl_b (fun b => wl_some (Or.inr (Or.inr ⟨z, fun y => ?_, rfl⟩))) (fun b => ?_)
      · rw [g4.mpr ⟨by omega, y.2.1⟩] at b; cases b
      have g := g4.mp b
      refine wl_if (fun ha => ?_) (fun ha => wl_some (Or.inr (Or.inr ⟨z, fun y => ha y.2.2.1, rfl⟩)))
      unfold fc_X6_isFull
      refine wl_bind (R := fun b => b = false ↔ n < 8) ?_ (fun q7 g7 => ?_)
      · exact wl_lt (fun y => wl_some ⟨fun _ => by omega, fun _ => rfl⟩) (fun y => wl_some ⟨fun x => (by cases x), fun x => by exfalso; omega⟩)
      refine wl_b (fun b7 => ?_) (fun b7 => wl_some (Or.inr (Or.inr ⟨z, fun y => ?_, rfl⟩)))
      · have g' := g7.mp b7
        unfold fc_X2_addView
        refine wl_bind (R := fun q : cT => q.2.2 = S.2.2 ∧ (q.1 (S.2.2.1 + 10) 3).toInt = (n : Int) + 1 ∧ q.1 (S.2.2.1 + 11) (2 * n) = p0 ∧ q.1 (S.2.2.1 + 11) (2 * n + 1) = p1 ∧ ∀ j, j < 2 * n → q.1 (S.2.2.1 + 11) j = S.1 (S.2.2.1 + 11) j) ?_ (fun q9 h9 => ?_)
        · have u := tA (a := S.1 (S.2.2.1 + 10) 3) (b := 1) (by omega) (by omega)
          refine wl_bind (R := fun q : cT => q = ca S (S.2.2.1 + 10) 3 (S.1 (S.2.2.1 + 10) 3 + 1)) ?_ (fun q1 h1 => ?_)
          · unfold fc_X6_addRow
            exact wl_le (fun y => by exfalso; omega) (fun _ => wl_letv (fun S2 e2 => wl_some e2))
          have x3 : (q1.1 (S.2.2.1 + 10) 3).toInt = (n : Int) + 1 := by rw [h1, ca_at]; omega
          have x1 : (q1.1 (S.2.2.1 + 10) 1).toInt = 2 := by rw [h1, ca_ne (Or.inr (by decide))]; omega
          refine wl_bind (wr_2 (n := n) (i := 0) x3 x1 (by omega) l_0 (by decide)) (fun q2 h2 => ?_)
          refine wl_bind (wr_2 (n := n) (i := 1) (by rw [h2, ca_ne (Or.inl (by omega))]; exact x3) (by rw [h2, ca_ne (Or.inl (by omega))]; exact x1) (by omega) l_1 (by decide)) (fun q3 h3 => wl_some ⟨?_, ?_, ?_, ?_, fun j hj => ?_⟩)
          · rw [h3, h2, h1]; rfl
          · rw [h3, ca_ne (Or.inl (by omega)), h2, ca_ne (Or.inl (by omega))]; exact x3
          · rw [h3, ca_ne (Or.inr (by omega)), h2]; exact ca_at _ _ _ _
          · rw [h3]; exact ca_at _ _ _ _
          · rw [h3, ca_ne (Or.inr (by omega)), h2, ca_ne (Or.inr (by omega)), h1, ca_ne (Or.inl (by omega))]
        · refine wl_bif (wl_some (Or.inr (Or.inl ⟨z, ⟨by omega, g.2, ha, g'⟩, ?_, h9.2⟩)))
          dsimp only
          rw [h9.1]
      · rw [g7.mpr y.2.2.2] at b7; cases b7
  have wM : wl (fm_view p0 p1 T) (fun w => (p0 = -1 ∧ w.1 = 0 ∧ (w.2.1 10 409).toInt = 0 ∧ ∀ j, j ≠ 409 → w.2.1 10 j = T.1 10 j) ∨ (p0 ≠ -1 ∧ (1 ≤ p0.toInt ∧ p0.toInt ≤ F.toInt ∧ (p1 &&& (p0 ^^^ (-1))) = 0 ∧ n < 8) ∧ w.1 = w.2.1 10 409 ∧ (w.2.1 10 409).toInt = (n : Int) + 1 ∧ w.2.1 10 (392 + 2 * n) = p0 ∧ w.2.1 10 (392 + (2 * n + 1)) = p1 ∧ ∀ j, j ≠ 409 → j ≠ 392 + 2 * n → j ≠ 392 + (2 * n + 1) → w.2.1 10 j = T.1 10 j) ∨ (p0 ≠ -1 ∧ ¬ (1 ≤ p0.toInt ∧ p0.toInt ≤ F.toInt ∧ (p1 &&& (p0 ^^^ (-1))) = 0 ∧ n < 8) ∧ w = (-2, T))) := by
    unfold fm_view
    have i409 : (409 : Int32).toNatClampNeg = 409 := by decide
    rw [i409]
    refine wl_if (fun z => ?_) (fun z => ?_)
    · refine wl_bif (wl_letv (fun T20 e20 => wl_some (Or.inl ⟨z, rfl, ?_, fun j hj => ?_⟩)))
      · dsimp only
        rw [e20, ma_at]; exact l_0
      · dsimp only
        rw [e20, ma_ne (Or.inr hj)]
    · refine wl_bind (R := fun b => b = true ↔ 0 < (T.1 10 0).toInt) ?_ (fun q2 g2 => ?_)
      · unfold fm_isIsland
        refine wl_bif (wl_letv (fun v1 e1 => ?_))
        have e1' : v1 = T.1 10 0 := e1
        rw [e1']
        exact wl_le (fun y => wl_some ⟨fun x => (by cases x), fun x => by exfalso; omega⟩) (fun y => wl_some ⟨fun _ => by omega, fun _ => rfl⟩)
      refine wl_b (fun b => wl_some (Or.inr (Or.inr ⟨z, fun y => ?_, rfl⟩))) (fun b => ?_)
      · have e0 : (T.1 10 0).toInt = 0 := by
          by_cases x : (T.1 10 0).toInt = 0
          · exact x
          · rw [g2.mpr (by omega)] at b; cases b
        have := F0 e0
        omega
      refine wl_bind (R := fun v : Int32 => v = F) ?_ (fun q4 e4 => ?_)
      · unfold fm_allMarks
        exact wl_bif (wl_letv (fun v1 e1 => wl_some (by rw [e1, hF]; rfl)))
      rw [e4]
      have yF := Int32.toInt_toInt64 F
      refine wl_bind (wl_of tm_inq) (fun q5 g5 => wl_b (fun b5 => wl_some (Or.inr (Or.inr ⟨z, fun y => g5.2 b5 (by omega), rfl⟩))) (fun b5 => ?_))
      have x5 := g5.1 b5
      refine wl_lt (fun y => wl_some (Or.inr (Or.inr ⟨z, fun x => ?_, rfl⟩))) (fun p10 => ?_)
      · have := vw_nn x.2.2.1 (by omega)
        omega
      refine wl_if (fun ha => ?_) (fun ha => wl_some (Or.inr (Or.inr ⟨z, fun y => ha y.2.2.1, rfl⟩)))
      refine wl_bif (wl_letv (fun v9 e9 => ?_))
      rw [e9]
      refine wl_eq (fun y => wl_some (Or.inr (Or.inr ⟨z, fun x => by omega, rfl⟩))) (fun y => ?_)
      refine wl_bif (wl_letv (fun v11 e11 => ?_))
      have m := tML (a := 2) (b := T.1 10 409) (n := 2) l_2 (by omega) (by omega)
      have a0 := tA (a := 392) (b := 2 * T.1 10 409) (by omega) (by omega)
      have a1 := tA (a := 392 + 2 * T.1 10 409) (b := 1) (by omega) (by omega)
      rw [e11]
      refine wl_bif (wl_letv (fun T12 e12 => ?_))
      rw [cl_idx (n := 392 + 2 * n) (by omega)] at e12
      refine wl_bif (wl_letv (fun v13 e13 => ?_))
      have e13' : v13 = T.1 10 409 := by rw [e13, e12, ma_ne (Or.inr (by omega))]
      rw [e13']
      refine wl_bif (wl_letv (fun T14 e14 => ?_))
      rw [cl_idx (n := 392 + (2 * n + 1)) (by omega)] at e14
      have f14 : ∀ j, j ≠ 392 + 2 * n → j ≠ 392 + (2 * n + 1) → T14.1 10 j = T.1 10 j := fun j h1 h2 => by rw [e14, ma_ne (Or.inr h2), e12, ma_ne (Or.inr h1)]
      refine wl_bif (wl_letv (fun v15 e15 => ?_))
      have u := tA (a := T.1 10 409) (b := 1) (by omega) (by omega)
      refine wl_bif (wl_letv (fun T16 e16 => ?_))
      rw [e15, f14 409 (by omega) (by omega)] at e16
      have v16 : (T16.1 10 409).toInt = (n : Int) + 1 := by rw [e16, ma_at]; omega
      refine wl_bif (wl_letv (fun v17 e17 => wl_some (Or.inr (Or.inl ⟨z, ⟨by omega, by omega, ha, by omega⟩, e17, v16, ?_, ?_, fun j h1 h2 h3 => ?_⟩))))
      · dsimp only
        rw [e16, ma_ne (Or.inr (by omega)), e14, ma_ne (Or.inr (by omega)), e12, ma_at]
      · dsimp only
        rw [e16, ma_ne (Or.inr (by omega)), e14, ma_at]
      · dsimp only
        rw [e16, ma_ne (Or.inr h1), f14 j h2 h3]
  obtain ⟨q, eq, ⟨iq, kq⟩, fq⟩ := wp_wl cC wC
  obtain ⟨w, ew, ⟨iw, kw⟩, fw⟩ := wp_wl cM wM
  -- the old cells that stay
  have fin : q.1 = w.1 → (q.2.1 (S.2.2.1 + 10) 3).toInt = (w.2.1 10 409).toInt → (∀ j : Nat, j < 408 → ¬ (392 ≤ j ∧ 2 * (n : Int) ≤ (j : Int) - 392) → w.2.1 10 j = T.1 10 j) → w.2.1 10 408 = T.1 10 408 → (∀ j : Nat, (j : Int) < 2 * (w.2.1 10 409).toInt → j < 16 → (q.2.1 (S.2.2.1 + 11) j).toInt = (w.2.1 10 (392 + j)).toInt) → (∀ k : Nat, (k : Int) < (w.2.1 10 409).toInt → 0 ≤ (w.2.1 10 (392 + (2 * k + 1))).toInt ∧ (w.2.1 10 (392 + (2 * k + 1))).toInt ≤ F.toInt ∧ w.2.1 10 (392 + (2 * k + 1)) &&& w.2.1 10 (392 + 2 * k) = w.2.1 10 (392 + (2 * k + 1))) → St true J5 (fc_X11_view 0 p0 p1 S) (fm_view p0 p1 T) := by
    intro ea es ej e8 ec ev
    have x0 : w.2.1 10 0 = T.1 10 0 := ej 0 (by decide) (by omega)
    have x1 : w.2.1 10 1 = T.1 10 1 := ej 1 (by decide) (by omega)
    refine ⟨q, w, eq, ew, fun _ => ea, iq, iw, ex_8 hA R kq kw (fun q j _ z => by omega) (fun r j z => z.1) hI ⟨fun o j c mp g => ?_, ?_, ?_⟩⟩
    · rw [kq.1]
      rw [Nat.zero_add, Nat.zero_add] at g
      rw [Nat.zero_add]
      by_cases y : o = 11
      · subst y
        have : c = 392 + j ∧ j < 16 := by omega
        rw [this.1]
        exact ec j (g.2.2 rfl) this.2
      · by_cases y2 : o = 10
        · have : j = 3 ∧ c = 409 := by omega
          rw [y2, this.1, this.2]
          exact es
        · have g' : Gd (T.1 10 (0 + 1)).toInt (T.1 10 (0 + 409)).toInt o j := by
            rw [x1] at g
            exact ⟨g.1, g.2.1, fun z => absurd z y⟩
          have hc : c = 408 ∨ c < 352 := by omega
          have e : w.2.1 10 c = T.1 10 c := by
            rcases hc with rfl | hc
            · exact e8
            · exact ej c (by omega) (by omega)
          rw [kq.2 _ _ (tr_i (Mp_tr mp)) (by omega), e]
          have := h6.1 o j c mp g'
          rw [Nat.zero_add] at this
          exact this
    · rw [Nat.zero_add, Nat.zero_add, x0, x1]
      have := h6.2.1
      rw [Nat.zero_add, Nat.zero_add] at this
      exact this
    · intro k hk
      rw [Nat.zero_add] at hk
      have := ev k hk
      rw [Nat.zero_add, Nat.zero_add, Nat.zero_add, x0, ← hF]
      exact this
  have oldv : ∀ k : Nat, k < n → 0 ≤ (T.1 10 (392 + (2 * k + 1))).toInt ∧ (T.1 10 (392 + (2 * k + 1))).toInt ≤ F.toInt ∧ T.1 10 (392 + (2 * k + 1)) &&& T.1 10 (392 + 2 * k) = T.1 10 (392 + (2 * k + 1)) := fun k hk => by
    have := h6.2.2 k (by rw [Nat.zero_add]; omega)
    rw [Nat.zero_add, Nat.zero_add, Nat.zero_add, ← hF] at this
    exact this
  have oldc : ∀ j, j < 16 → j < 2 * n → (S.1 (S.2.2.1 + 11) j).toInt = (T.1 10 (392 + j)).toInt := fun j h1 h2 => by
    have := h6.1 11 j (392 + j) (by omega) ⟨fun z => absurd z (by decide), fun z => absurd z (by decide), fun _ => by rw [Nat.zero_add]; omega⟩
    rw [Nat.zero_add] at this
    exact this
  rcases fq with ⟨z, a, b⟩ | ⟨z, cd, a, b, q1, q2, q3⟩ | ⟨z, cd, rfl⟩ <;> rcases fw with ⟨z', a', b', t1⟩ | ⟨z', cd', a', b', t1, t2, t3⟩ | ⟨z', cd', rfl⟩
  · exact fin (by rw [a, a']) (by omega) (fun j hj _ => t1 j (by omega)) (t1 408 (by decide)) (fun j hj _ => by exfalso; omega) (fun k hk => by exfalso; omega)
  · exact absurd z z'
  · exact absurd z z'
  · exact absurd z' z
  · have es : (q.2.1 (S.2.2.1 + 10) 3).toInt = (w.2.1 10 409).toInt := by omega
    refine fin (by rw [a, a']; exact Int32.toInt_inj.mp es) es (fun j hj hn' => t3 j (by omega) (by omega) (by omega)) (t3 408 (by decide) (by omega) (by omega)) (fun j hj h16 => ?_) (fun k hk => ?_)
    · by_cases y : j < 2 * n
      · rw [q3 j y, t3 _ (by omega) (by omega) (by omega)]
        exact oldc j h16 y
      · by_cases y2 : j = 2 * n
        · rw [y2, q1, t1]
        · have : j = 2 * n + 1 := by omega
          rw [this, q2, t2]
    · by_cases y : k < n
      · rw [t3 _ (by omega) (by omega) (by omega), t3 _ (by omega) (by omega) (by omega)]
        exact oldv k y
      · have : k = n := by omega
        rw [this, t1, t2]
        have v := vw_nn cd.2.2.1 (by omega)
        exact ⟨v.1, by omega, vw_and cd.2.2.1⟩
  · exact absurd cd cd'
  · exact absurd z' z
  · exact absurd cd' cd
  · exact ⟨(-2, S), (-2, T), eq, ew, fun _ => rfl, hI, hA, R⟩
