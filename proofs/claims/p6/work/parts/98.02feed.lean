/-! ===== bytes that are fed ===== -/
def bt (v : Int32) (s : Nat) : Int := ((v.toBitVec.toNat / 2 ^ s % 256 : Nat) : Int)
theorem toInt_mod (v : Int32) : v.toInt % 256 = ((v.toBitVec.toNat % 256 : Nat) : Int) := by
  show v.toBitVec.toInt % 256 = _
  have := v.toBitVec.isLt
  rw [BitVec.toInt_eq_toNat_cond]
  split <;> omega
theorem cls_sh {v a : Int32} {s : Nat} (c : (a.toUInt32 &&& Int32.toUInt32 31).toNat % 32 = s) : (((v.toUInt32 >>> (a.toUInt32 &&& Int32.toUInt32 31)).toInt32) &&& 255).toInt = bt v s := by
  rw [and255, toInt_mod]
  have e : ((v.toUInt32 >>> (a.toUInt32 &&& Int32.toUInt32 31)).toInt32).toBitVec.toNat = (v.toUInt32 >>> (a.toUInt32 &&& Int32.toUInt32 31)).toNat := rfl
  rw [e, UInt32.toNat_shiftRight, c]
  have e2 : v.toUInt32.toNat = v.toBitVec.toNat := rfl
  rw [e2, Nat.shiftRight_eq_div_pow]
  rfl
theorem sh_int {v a : Int32} {s : Nat} (c : ((a &&& 31).toBitVec.smod 32).toNat = s) : (v >>> (a &&& 31)).toInt = v.toInt / 2 ^ s := by
  show (v.toBitVec.sshiftRight' ((a &&& 31).toBitVec.smod 32)).toInt = v.toBitVec.toInt / 2 ^ s
  show (v.toBitVec.sshiftRight ((a &&& 31).toBitVec.smod 32).toNat).toInt = _
  rw [c, BitVec.toInt_sshiftRight, Int.shiftRight_eq_div_pow]
  rfl
theorem i8 (z : Int32) : z.toInt8.toInt32.toInt % 256 = z.toInt % 256 ∧ -128 ≤ z.toInt8.toInt32.toInt ∧ z.toInt8.toInt32.toInt ≤ 127 := by
  rw [Int8.toInt_toInt32, Int32.toInt_toInt8]
  unfold Int.bmod
  simp only []
  split <;> omega
theorem i8i8 (z : Int32) : z.toInt8.toInt32.toInt8 = z.toInt8 := by
  simp
theorem rf_sh {v a : Int32} {s : Nat} (hs : s = 24 ∨ s = 16 ∨ s = 8 ∨ s = 0) (c : ((a &&& 31).toBitVec.smod 32).toNat = s) : (v >>> (a &&& 31)).toInt % 256 = bt v s := by
  rw [sh_int c]
  have h : v.toInt = v.toBitVec.toInt := rfl
  have := v.toBitVec.isLt
  rw [BitVec.toInt_eq_toNat_cond] at h
  unfold bt
  rcases hs with rfl | rfl | rfl | rfl
  · rw [h]; split <;> omega
  · rw [h]; split <;> omega
  · rw [h]; split <;> omega
  · rw [h]; split <;> omega
theorem nar_b (x : Int32) : vp_nar .byte x = x.toInt8.toInt32 := rfl
theorem sh4 {a : Int32} {i : Nat} (hi : i < 4) (ha : a.toInt = 24 - 8 * (i : Int)) : (a.toUInt32 &&& Int32.toUInt32 31).toNat % 32 = 24 - 8 * i ∧ ((a &&& 31).toBitVec.smod 32).toNat = 24 - 8 * i := by
  have g : ∀ {b : Int32}, a.toInt = b.toInt → a = b := fun z => Int32.toInt_inj.mp z
  have c : i = 0 ∨ i = 1 ∨ i = 2 ∨ i = 3 := by omega
  rcases c with rfl | rfl | rfl | rfl
  · have e : a = 24 := g (by rw [ha]; decide)
    subst e; decide
  · have e : a = 16 := g (by rw [ha]; decide)
    subst e; decide
  · have e : a = 8 := g (by rw [ha]; decide)
    subst e; decide
  · have e : a = 0 := g (by rw [ha]; decide)
    subst e; decide
def App (S S' : cT) (v : Int32) (n : Nat) : Prop := (S'.1 1 4).toInt = (n : Int) + 4 ∧ (∀ k, k < n → S'.1 2 k = S.1 2 k) ∧ ∀ j, j < 4 → (S'.1 2 (n + j)).toInt = bt v (24 - 8 * j)
def Fou (T T' : mT) (v : Int32) (n : Nat) : Prop := (T'.1 0 1).toInt = (n : Int) + 4 ∧ (∀ k, k < n → T'.1 1 k = T.1 1 k) ∧ ∀ j, j < 4 → (T'.1 1 (n + j)).toInt % 256 = bt v (24 - 8 * j) ∧ -128 ≤ (T'.1 1 (n + j)).toInt ∧ (T'.1 1 (n + j)).toInt ≤ 127
theorem uc_appL {v : Int32} {n : Nat} {S0' : cT} (hn : n + 4 ≤ 400) : ∀ (N : Nat) (a2 : Int32) (S : cT) (i : Nat), i ≤ 4 → a2.toInt = 24 - 8 * (i : Int) → (S.1 1 4).toInt = (n : Int) + i → (∀ k, k < n → S.1 2 k = S0'.1 2 k) → (∀ j, j < i → (S.1 2 (n + j)).toInt = bt v (24 - 8 * j)) → wl (fc_X10_append_L3 1 v N a2 S) (fun w => App S0' w.2 v n) := by
  have l_0 : (0 : Int32).toInt = 0 := by decide
  have l_1 : (1 : Int32).toInt = 1 := by decide
  have l_400 : (400 : Int32).toInt = 400 := by decide
  have l_m8 : ((-8) : Int32).toInt = -8 := by decide
  intro N
  induction N with
  | zero => intro a2 S i _ _ _ _ _; exact wl_none
  | succ N ih =>
    intro a2 S i hi ha hu hlo hj
    rw [fc_X10_append_L3]
    generalize ((-8) : Int32) = m8 at l_m8 ⊢
    refine wl_lt (fun z => wl_some ?_) (fun z => ?_)
    · have e : i = 4 := by omega
      subst e
      exact ⟨hu, hlo, hj⟩
    refine wl_lt (fun y => by exfalso; omega) (fun _ => ?_)
    refine wl_le (fun y => by exfalso; omega) (fun _ => ?_)
    refine wl_bif (wl_letv (fun S5 e5 => ?_))
    rw [cl_idx (n := n + i) (by omega)] at e5
    refine wl_letv (fun S6 e6 => ?_)
    have x5 : S5.1 1 4 = S.1 1 4 := by rw [e5]; exact ca_ne (Or.inl (by decide))
    have u := tA (a := S5.1 1 4) (b := 1) (by rw [x5]; omega) (by rw [x5]; omega)
    have u2 := tA (a := a2) (b := m8) (by omega) (by omega)
    refine ih (a2 + m8) S6 (i + 1) (by omega) (by omega) (by rw [e6, ca_at, u, x5]; omega) (fun k hk => ?_) (fun j hj' => ?_)
    · rw [e6, ca_ne (Or.inl (by decide)), e5]
      show (ca S 2 (n + i) _).1 2 k = _
      rw [ca_ne (Or.inr (by omega))]
      exact hlo k hk
    · rw [e6, ca_ne (Or.inl (by decide)), e5]
      show ((ca S 2 (n + i) _).1 2 (n + j)).toInt = _
      by_cases y : j = i
      · subst y
        rw [ca_at]
        exact cls_sh (sh4 (by omega) ha).1
      · rw [ca_ne (Or.inr (by omega))]
        exact hj j (by omega)
theorem uc_append {v : Int32} {n : Nat} {S : cT} (hn : n + 4 ≤ 400) (hu : (S.1 1 4).toInt = (n : Int)) : wl (fc_X10_append 1 v S) (fun S' => App S S' v n) := by
  unfold fc_X10_append
  exact wl_bind (uc_appL hn FU 24 S 0 (by decide) (by decide) (by omega) (fun _ _ => rfl) (fun j hj => absurd hj (Nat.not_lt_zero _))) (fun w hw => wl_some hw)
theorem um_fourL {v : Int32} {n : Nat} {T0' : mT} (hn : n + 4 ≤ 400) : ∀ (N : Nat) (a2 : Int32) (T : mT) (i : Nat), i ≤ 4 → a2.toInt = 24 - 8 * (i : Int) → (T.1 0 1).toInt = (n : Int) + i → (∀ k, k < n → T.1 1 k = T0'.1 1 k) → (∀ j, j < i → (T.1 1 (n + j)).toInt % 256 = bt v (24 - 8 * j) ∧ -128 ≤ (T.1 1 (n + j)).toInt ∧ (T.1 1 (n + j)).toInt ≤ 127) → wl (fm_four_L3 v N a2 T) (fun w => Fou T0' w.2 v n) := by
  have l_0 : (0 : Int32).toInt = 0 := by decide
  have l_1 : (1 : Int32).toInt = 1 := by decide
  have l_m8 : ((-8) : Int32).toInt = -8 := by decide
  intro N
  induction N with
  | zero => intro a2 T i _ _ _ _ _; exact wl_none
  | succ N ih =>
    intro a2 T i hi ha hu hlo hj
    rw [fm_four_L3]
    generalize ((-8) : Int32) = m8 at l_m8 ⊢
    refine wl_lt (fun z => wl_some ?_) (fun z => ?_)
    · have e : i = 4 := by omega
      subst e
      exact ⟨hu, hlo, hj⟩
    refine wl_bif (wl_letv (fun T2 e2 => ?_))
    rw [cl_idx (n := n + i) (by omega)] at e2
    refine wl_letv (fun T3 e3 => ?_)
    have x2 : T2.1 0 1 = T.1 0 1 := by rw [e2]; exact ma_ne (Or.inl (by decide))
    have u := tA (a := T2.1 0 1) (b := 1) (by rw [x2]; omega) (by rw [x2]; omega)
    have u2 := tA (a := a2) (b := m8) (by omega) (by omega)
    refine ih (a2 + m8) T3 (i + 1) (by omega) (by omega) (by rw [e3, mz_at, u, x2]; omega) (fun k hk => ?_) (fun j hj' => ?_)
    · rw [e3, mz_ne (Or.inl (by decide)), e2, ma_ne (Or.inr (by omega))]
      exact hlo k hk
    · rw [e3, mz_ne (Or.inl (by decide)), e2]
      by_cases y : j = i
      · subst y
        rw [ma_at, nar_b, i8i8]
        have q := i8 (v >>> (a2 &&& 31))
        have q2 := rf_sh (v := v) (a := a2) (s := 24 - 8 * j) (by omega) (sh4 (by omega) ha).2
        exact ⟨by rw [q.1]; exact q2, q.2.1, q.2.2⟩
      · rw [ma_ne (Or.inr (by omega))]
        exact hj j (by omega)
theorem um_four {v : Int32} {n : Nat} {T : mT} (hn : n + 4 ≤ 400) (hu : (T.1 0 1).toInt = (n : Int)) : wl (fm_four v T) (fun T' => Fou T T' v n) := by
  unfold fm_four
  exact wl_bind (um_fourL hn FU 24 T 0 (by decide) (by decide) (by omega) (fun _ _ => rfl) (fun j hj => absurd hj (Nat.not_lt_zero _))) (fun w hw => wl_some hw)
def BR (n : Nat) (S : cT) (T : mT) : Prop := (S.1 1 4).toInt = (n : Int) ∧ (T.1 0 1).toInt = (n : Int) ∧ ∀ k, k < n → (S.1 2 k).toInt = (T.1 1 k).toInt % 256 ∧ -128 ≤ (T.1 1 k).toInt ∧ (T.1 1 k).toInt ≤ 127
theorem BR_step {n : Nat} {v : Int32} {S S' : cT} {T T' : mT} (h : BR n S T) (a : App S S' v n) (f : Fou T T' v n) : BR (n + 4) S' T' := by
  refine ⟨by rw [a.1]; rfl, by rw [f.1]; rfl, fun k hk => ?_⟩
  by_cases z : k < n
  · rw [a.2.1 k z, f.2.1 k z]
    exact h.2.2 k z
  · obtain ⟨j, rfl⟩ : ∃ j, k = n + j := ⟨k - n, by omega⟩
    have y := f.2.2 j (by omega)
    rw [a.2.2 j (by omega), y.1]
    exact ⟨rfl, y.2⟩
theorem s_feed {S : cT} {T : mT} {a1 a2 a3 a4 a5 : Int32} (h : J5 S T) : St true J5 (fc_X11_feed 0 a1 a2 a3 a4 a5 S) (fm_feed a1 a2 a3 a4 a5 T) := by
  obtain ⟨hI, hA, R⟩ := h
  have R' := R
  obtain ⟨h1, h2, h3, h4, h5, h6, h7⟩ := R'
  have l_20 : (20 : Int32).toInt = 20 := by decide
  have l_400 : (400 : Int32).toInt = 400 := by decide
  have c1 := im_0_1 hA.1
  obtain ⟨n, hn⟩ : ∃ n : Nat, (T.1 0 1).toInt = (n : Int) := ⟨(T.1 0 1).toInt.toNat, by omega⟩
  have ut := tA (a := T.1 0 1) (b := 20) (by omega) (by omega)
  have us := tA (a := S.1 1 4) (b := 20) (by omega) (by omega)
  have b0 : BR n S T := ⟨by omega, hn, fun k hk => h2 k (by omega)⟩
  have cC := kc_w (tc_X11_feed (p0 := a1) (p1 := a2) (p2 := a3) (p3 := a4) (p4 := a5) (b := 0) rfl (pv_no (D := fun q j => (q = 1 ∧ j = 4) ∨ q = 2) (S := S) (Or.inr (by omega))) (fun j => pv_no (Or.inr (by omega))) (IC_pv hI))
  have cM := km_w (tm_feed (p0 := a1) (p1 := a2) (p2 := a3) (p3 := a4) (p4 := a5) (qv_no (D := fun r j => (r = 0 ∧ j = 1) ∨ r = 1) (T := T) (Or.inr (by omega))) (fun j => qv_no (Or.inr (by omega))) (IQ_qv hA))
  have wC : wl (fc_X11_feed 0 a1 a2 a3 a4 a5 S) (fun w => ((n : Int) + 20 ≤ 400 ∧ w.1 = w.2.1 1 4 ∧ ∃ q2 q3 q4 q5, App S q2 a1 n ∧ App q2 q3 a2 (n + 4) ∧ App q3 q4 a3 (n + 4 + 4) ∧ App q4 q5 a4 (n + 4 + 4 + 4) ∧ App q5 w.2 a5 (n + 4 + 4 + 4 + 4)) ∨ (400 < (n : Int) + 20 ∧ w = (-1, S))) := by
    unfold fc_X11_feed
    refine wl_le (fun z => ?_) (fun z => wl_some (Or.inr ⟨?_, rfl⟩))
    · have z' : (S.1 1 4 + 20).toInt ≤ (400 : Int32).toInt := z
      refine wl_bind (uc_append (n := n) (by omega) b0.1) (fun q2 g2 => ?_)
      refine wl_bind (uc_append (n := n + 4) (by omega) (by rw [g2.1]; rfl)) (fun q3 g3 => ?_)
      refine wl_bind (uc_append (n := n + 4 + 4) (by omega) (by rw [g3.1]; rfl)) (fun q4 g4 => ?_)
      refine wl_bind (uc_append (n := n + 4 + 4 + 4) (by omega) (by rw [g4.1]; rfl)) (fun q5 g5 => ?_)
      refine wl_bind (uc_append (n := n + 4 + 4 + 4 + 4) (by omega) (by rw [g5.1]; rfl)) (fun q6 g6 => wl_some (Or.inl ⟨by omega, rfl, q2, q3, q4, q5, g2, g3, g4, g5, g6⟩))
    · have z' : (400 : Int32).toInt < (S.1 1 4 + 20).toInt := z
      omega
  have wM : wl (fm_feed a1 a2 a3 a4 a5 T) (fun w => ((n : Int) + 20 ≤ 400 ∧ w.1 = w.2.1 0 1 ∧ ∃ q2 q3 q4 q5, Fou T q2 a1 n ∧ Fou q2 q3 a2 (n + 4) ∧ Fou q3 q4 a3 (n + 4 + 4) ∧ Fou q4 q5 a4 (n + 4 + 4 + 4) ∧ Fou q5 w.2 a5 (n + 4 + 4 + 4 + 4)) ∨ (400 < (n : Int) + 20 ∧ w = (-1, T))) := by
    unfold fm_feed
    refine wl_le (fun z => ?_) (fun z => wl_some (Or.inr ⟨by omega, rfl⟩))
    refine wl_bind (um_four (n := n) (by omega) b0.2.1) (fun q2 g2 => ?_)
    refine wl_bind (um_four (n := n + 4) (by omega) (by rw [g2.1]; rfl)) (fun q3 g3 => ?_)
    refine wl_bind (um_four (n := n + 4 + 4) (by omega) (by rw [g3.1]; rfl)) (fun q4 g4 => ?_)
    refine wl_bind (um_four (n := n + 4 + 4 + 4) (by omega) (by rw [g4.1]; rfl)) (fun q5 g5 => ?_)
    refine wl_bind (um_four (n := n + 4 + 4 + 4 + 4) (by omega) (by rw [g5.1]; rfl)) (fun q6 g6 => wl_some (Or.inl ⟨by omega, rfl, q2, q3, q4, q5, g2, g3, g4, g5, g6⟩))
  obtain ⟨q, eq, ⟨iq, kq⟩, fq⟩ := wp_wl cC wC
  obtain ⟨w, ew, ⟨iw, kw⟩, fw⟩ := wp_wl cM wM
  have ne2 : S.2.2.1 = 113 ∨ S.2.2.1 = 125 := by rcases hI.2.2 with ⟨a, -⟩ | ⟨a, -⟩; exact Or.inl a; exact Or.inr a
  rcases fq with ⟨l1, r1, x2, x3, x4, x5, g2, g3, g4, g5, g6⟩ | ⟨l1, rfl⟩ <;> rcases fw with ⟨l2, r2, y2, y3, y4, y5, f2, f3, f4, f5, f6⟩ | ⟨l2, rfl⟩
  · have b := BR_step (BR_step (BR_step (BR_step (BR_step b0 g2 f2) g3 f3) g4 f4) g5 f5) g6 f6
    refine ⟨q, w, eq, ew, fun _ => ?_, iq, iw, ?_, ?_, ?_, ?_, fun k hk => ?_, ei_k hA R kq kw (fun q j t z => by omega) (fun j z => by omega), fun k hk z => em_k hA R kq kw hk (fun q j t z => by omega) (fun j _ _ z => by omega) (fun z => by omega) z⟩
    · rw [r1, r2]
      exact Int32.toInt_inj.mp (b.1.trans b.2.1.symm)
    · exact b.1.trans b.2.1.symm
    · intro k hk
      rw [b.2.1] at hk
      exact b.2.2 k (by omega)
    · rw [kq.2 0 11 tr_011 (by omega), kw 0 2 (by omega) (by omega)]; exact h3
    · rw [kq.1, kq.2 S.2.2.1 13 tr_isle (by omega), kw 0 22 (by omega) (by omega)]; exact h4
    · rw [kq.2 98 k (tr_98 hk) (by omega), kw 18 k (by omega) (by omega), kw 16 k (by omega) (by omega), kq.2 (50 + 12 * k) 13 (tr_img hk) (by omega)]
      exact h5 k hk
  · exfalso; omega
  · exfalso; omega
  · exact ⟨(-1, S), (-1, T), eq, ew, fun _ => rfl, hI, hA, R⟩
