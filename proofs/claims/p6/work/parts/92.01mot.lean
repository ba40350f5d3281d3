/-! ===== the reference answers 1 ===== -/
theorem tm_in {p0 p1 p2 : Int64} : wp (fm_in p0 p1 p2) (fun w => (w = true → p1.toInt ≤ p0.toInt ∧ p0.toInt ≤ p2.toInt)) := by
  rw [fm_in_eq]
  refine wp_some (fun h => ?_)
  have h := of_decide_eq_true h
  exact ⟨Int64.le_iff_toInt_le.mp h.1, Int64.le_iff_toInt_le.mp h.2⟩
theorem tm_isOf {p0 : Int32} {p1 : Int32}   : wp (fm_isOf p0 p1) (fun w => True) := by
  unfold fm_isOf
  have l_1 : (1 : Int32).toInt = 1 := by decide
  have t1 := and_i (p0 >>> (p1 &&& (31 : Int32))) (c := 1) l_1 (by decide)
  refine wp_eq_hi (by omega) (fun hc2 => ?_) (fun hc2 => ?_)
  · skip
    exact wp_some trivial
  · skip
    exact wp_some trivial
theorem and_pred {s : Int32} (h : 0 < s.toInt) : 0 ≤ (s &&& (s - 1)).toInt ∧ (s &&& (s - 1)).toInt < s.toInt := by
  have l_1 : (1 : Int32).toInt = 1 := by decide
  have b := bnd s
  have t := tS (a := s) (b := 1) (by omega) (by omega)
  have hp : 0 ≤ (s - 1).toInt := by omega
  have h1 := andL_i s (s - 1) (by omega)
  have h2 : (s &&& (s - 1)).toInt ≤ (s - 1).toInt := by
    obtain ⟨m1, e1⟩ := bv_nn (x := s &&& (s - 1)) h1.1
    obtain ⟨m2, e2⟩ := bv_nn hp
    have h3 : (s &&& (s - 1)).toBitVec.toNat ≤ (s - 1).toBitVec.toNat := by
      show (s.toBitVec &&& (s - 1).toBitVec).toNat ≤ _
      rw [BitVec.toNat_and]
      exact Nat.and_le_right
    omega
  omega
theorem tm_bits_L4 {k0 : Int32} : ∀ (N : Nat) (a1 : Int32) (a2 : Int32), 0 ≤ a2.toInt → a2.toInt < (N : Int) → wp (fm_bits_L4 k0 N a1 a2) (fun _ => True) := by
  intro N
  induction N with
  | zero =>
    intro a1 a2 h0 hm
    exfalso; omega
  | succ N ih =>
    intro a1 a2 h0 hm
    rw [fm_bits_L4]
    have l_0 : (0 : Int32).toInt = 0 := by decide
    refine wp_eq (fun _ => wp_some trivial) (fun hc => ?_)
    have := and_pred (s := a2) (by omega)
    exact ih _ _ this.1 (by omega)
theorem tm_bits {p0 : Int32} (hl_p0 : 0 ≤ p0.toInt) (hu_p0 : p0.toInt ≤ 255) : wp (fm_bits p0) (fun _ => True) := by
  unfold fm_bits
  have fu : (FU : Int) = 1000000 := rfl
  exact wp_bind (tm_bits_L4 FU 0 p0 hl_p0 (by omega)) (fun w _ => wp_some trivial)
theorem tm_isRule {P : Nat → Nat → Option Int} {p0 : Int32} {T : mT}  (hI : IQ P T) : wp (fm_isRule p0 T) (fun w => (w = true → 0 ≤ (p0).toInt ∧ (p0).toInt < (T.1 0 2).toInt)) := by
  unfold fm_isRule
  have l_0 : (0 : Int32).toInt = 0 := by decide
  refine wp_lt (fun hc1 => ?_) (fun hc1 => ?_)
  · skip
    exact wp_some (fun e => by cases e)
  · skip
    have c2 := im_0_2 hI
    refine wp_le (fun hc3 => ?_) (fun hc3 => ?_)
    · skip
      exact wp_some (fun e => by cases e)
    · skip
      exact wp_some (fun _ => ⟨(by first | omega | (dsimp only; omega)), (by first | omega | (dsimp only; omega))⟩)
def Sm (T T' : mT) : Prop := ∀ r j, (r ≠ 0 ∨ j ≠ 19) → T'.1 r j = T.1 r j
theorem Sm.rfl' {T : mT} : Sm T T := fun _ _ _ => rfl
theorem Sm.trans {A B C : mT} (h1 : Sm A B) (h2 : Sm B C) : Sm A C := fun r j h => (h2 r j h).trans (h1 r j h)
theorem Sm.row {A B : mT} (h : Sm A B) {r : Nat} (hr : r ≠ 0) : B.1 r = A.1 r := funext (fun j => h r j (Or.inl hr))
theorem Sm.z (T : mT) (v : Int32) : Sm T (mz T 19 v) := fun r j h => mz_ne (by omega)
theorem tm_push {P : Nat → Nat → Option Int} {p0 : Int64} {T : mT} (h : (T.1 0 19).toInt < 64) (hI : IQ P T) : wp (fm_push p0 T) (fun w => IQ P w ∧ Sm T w ∧ (w.1 0 19).toInt = (T.1 0 19).toInt + 1) := by
  unfold fm_push
  have l_1 : (1 : Int32).toInt = 1 := by decide
  have c := im_0_19 hI
  refine wp_bif (inb_of (by omega) (by omega)) ?_
  refine wp_letv (fun T1 e1 => ?_)
  have q : T1.1 = T.1 := by rw [e1]; rfl
  have h1 : IQ P T1 := by rw [e1]; exact iq_l hI (by decide)
  have t := tA (a := T1.1 0 19) (b := 1) (by rw [q]; omega) (by rw [q]; omega)
  have u : (T1.1 0 19 + 1).toInt = (T.1 0 19).toInt + 1 := by rw [t, q, l_1]
  refine wp_letv (fun T2 e2 => ?_)
  refine wp_some ⟨by rw [e2]; exact iz_19 h1 (by omega) (by omega), ?_, by rw [e2, mz_at]; exact u⟩
  rw [e2]
  intro r j hr
  rw [Sm.z T1 _ r j hr, q]
theorem tm_pop {P : Nat → Nat → Option Int} {T : mT} (h : 0 < (T.1 0 19).toInt) (hI : IQ P T) : wp (fm_pop T) (fun w => IQ P w.2 ∧ Sm T w.2 ∧ (w.2.1 0 19).toInt = (T.1 0 19).toInt - 1) := by
  unfold fm_pop
  have l_1 : (1 : Int32).toInt = 1 := by decide
  have c := im_0_19 hI
  have t := tS (a := T.1 0 19) (b := 1) (by omega) (by omega)
  refine wp_letv (fun T1 e1 => ?_)
  have h1 : IQ P T1 := by rw [e1]; exact iz_19 hI (by omega) (by omega)
  have q : (T1.1 0 19).toInt = (T.1 0 19).toInt - 1 := by rw [e1, mz_at]; omega
  refine wp_bif (inb_of (by omega) (by omega)) ?_
  refine wp_letv (fun v _ => wp_some ⟨h1, by rw [e1]; exact Sm.z T _, q⟩)
theorem tm_one {p0 : Int32} {p1 : Int64} {p2 : Int64}   : wp (fm_one p0 p1 p2) (fun w => True) := by
  unfold fm_one
  have l_0 : (0 : Int32).toInt = 0 := by decide
  have l_10 : (10 : Int32).toInt = 10 := by decide
  have l_12 : (12 : Int32).toInt = 12 := by decide
  have l_14 : (14 : Int32).toInt = 14 := by decide
  have l_2 : (2 : Int32).toInt = 2 := by decide
  have l_3 : (3 : Int32).toInt = 3 := by decide
  have l_4 : (4 : Int32).toInt = 4 := by decide
  have l_5 : (5 : Int32).toInt = 5 := by decide
  have l_6 : (6 : Int32).toInt = 6 := by decide
  have l_7 : (7 : Int32).toInt = 7 := by decide
  have l_8 : (8 : Int32).toInt = 8 := by decide
  have l_9 : (9 : Int32).toInt = 9 := by decide
  refine wp_eqn (fun hc1 => ?_) ?_
  · skip
    exact wp_some trivial
  · skip
    refine wp_eqn (fun hc2 => ?_) ?_
    · skip
      exact wp_some trivial
    · skip
      refine wp_eqn (fun hc3 => ?_) ?_
      · skip
        exact wp_some trivial
      · skip
        refine wp_eqn (fun hc4 => ?_) ?_
        · skip
          refine wp_if (fun hc5 => ?_) (fun hc5 => ?_)
          · skip
            exact wp_some trivial
          · skip
            refine wp_dzl (fun e => hc5 (by rw [e]; decide)) ?_
            exact wp_some trivial
        · skip
          refine wp_eqn (fun hc6 => ?_) ?_
          · skip
            refine wp_le (fun hc7 => ?_) (fun hc7 => ?_)
            · skip
              exact wp_some trivial
            · skip
              exact wp_some trivial
          · skip
            refine wp_eqn (fun hc8 => ?_) ?_
            · skip
              refine wp_lt (fun hc9 => ?_) (fun hc9 => ?_)
              · skip
                exact wp_some trivial
              · skip
                exact wp_some trivial
            · skip
              refine wp_eqn (fun hc10 => ?_) ?_
              · skip
                refine wp_if (fun hc11 => ?_) (fun hc11 => ?_)
                · skip
                  exact wp_some trivial
                · skip
                  exact wp_some trivial
              · skip
                refine wp_eqn (fun hc12 => ?_) ?_
                · skip
                  refine wp_if (fun hc13 => ?_) (fun hc13 => ?_)
                  · skip
                    exact wp_some trivial
                  · skip
                    exact wp_some trivial
                · skip
                  refine wp_eqn (fun hc14 => ?_) ?_
                  · skip
                    refine wp_if (fun hc15 => ?_) (fun hc15 => ?_)
                    · skip
                      exact wp_some trivial
                    · skip
                      exact wp_some trivial
                  · skip
                    refine wp_eqn (fun hc16 => ?_) ?_
                    · skip
                      exact wp_some trivial
                    · skip
                      refine wp_eqn (fun hc17 => ?_) ?_
                      · skip
                        refine wp_if (fun hc18 => ?_) (fun hc18 => ?_)
                        · skip
                          exact wp_some trivial
                        · skip
                          refine wp_dzl (fun e => hc18 (by rw [e]; decide)) ?_
                          exact wp_some trivial
                      · skip
                        exact wp_some trivial
theorem hg_pre {f : Nat → Int32} {a x : Nat} : ∀ {m n : Nat}, hg f a m = some x → n ≤ m → ∃ h, hg f a n = some h := by
  intro m
  induction m generalizing x with
  | zero =>
    intro n h hn
    have : n = 0 := by omega
    subst this
    exact ⟨_, h⟩
  | succ m ih =>
    intro n h hn
    by_cases e : n = m + 1
    · subst e
      exact ⟨_, h⟩
    · have h' : (hg f a m).bind (stepH (f (a + m))) = some x := h
      obtain ⟨y, hy, -⟩ := Option.bind_eq_some_iff.mp h'
      exact ih hy (by omega)
theorem hg_at {f : Nat → Int32} {a x n m : Nat} (h : hg f a m = some x) (hn : n < m) {y : Nat} (hy : hg f a n = some y) : ∃ z, stepH (f (a + n)) y = some z ∧ hg f a (n + 1) = some z := by
  obtain ⟨z, hz⟩ := hg_pre h (n := n + 1) hn
  have h' : (hg f a n).bind (stepH (f (a + n))) = some z := hz
  rw [hy] at h'
  exact ⟨z, h', hz⟩
theorem t_400 {k1 a4 : Int32} (h0 : 0 ≤ k1.toInt) (h1 : k1.toInt ≤ 5) (h2 : 0 ≤ a4.toInt) (h3 : a4.toInt ≤ 400) : (((400 : Int32) * k1) + a4).toInt = 400 * k1.toInt + a4.toInt := by
  have l : (400 : Int32).toInt = 400 := by decide
  have m := tML (a := 400) (b := k1) l (by omega) (by omega)
  have t := tA (a := 400 * k1) (b := a4) (by omega) (by omega)
  omega
theorem tm_reckons_L8 {P : Nat → Nat → Option Int} {k1 k2 k3 : Int32} (h0 : 0 ≤ k1.toInt) (h1 : k1.toInt ≤ 5) : ∀ (N : Nat) (a4 : Int32) (T : mT) (h : Nat), IQ P T → sg (T.1 2) (400 * k1.toInt.toNat) k2.toInt k3.toInt → k2.toInt ≤ a4.toInt → a4.toInt ≤ k3.toInt → hg (T.1 2) (400 * k1.toInt.toNat + k2.toInt.toNat) (a4.toInt.toNat - k2.toInt.toNat) = some h → (T.1 0 19).toInt = (h : Int) → k3.toInt - a4.toInt < (N : Int) → wp (fm_reckons_L8 k1 k2 k3 N a4 T) (fun w => IQ P w.2 ∧ Sm T w.2 ∧ (w.2.1 0 19).toInt = 1) := by
  intro N
  induction N with
  | zero =>
    intro a4 T h hI hs ha hb hh ht hm
    exfalso; omega
  | succ N ih =>
    intro a4 T h hI hs ha hb hh ht hm
    obtain ⟨s1, s2, s3, s4⟩ := hs
    have hs' : sg (T.1 2) (400 * k1.toInt.toNat) k2.toInt k3.toInt := ⟨s1, s2, s3, s4⟩
    rw [fm_reckons_L8]
    have l_1 : (1 : Int32).toInt = 1 := by decide
    refine wp_le (fun hc => ?_) (fun hc => ?_)
    · have e : a4.toInt = k3.toInt := by omega
      rw [e] at hh
      rw [s4] at hh
      have := Option.some.inj hh
      exact wp_some ⟨hI, Sm.rfl', by dsimp only; omega⟩
    · have t := t_400 (k1 := k1) (a4 := a4) h0 h1 (by omega) (by omega)
      have ix : (((400 : Int32) * k1) + a4).toNatClampNeg = 400 * k1.toInt.toNat + k2.toInt.toNat + (a4.toInt.toNat - k2.toInt.toNat) := cl_idx (by omega)
      refine wp_bif (inb_of (by omega) (by omega)) ?_
      refine wp_letv (fun v3 e3 => ?_)
      refine wp_bif (inb_of (by omega) (by omega)) ?_
      refine wp_letv (fun v4 e4 => ?_)
      rw [ix] at e3 e4
      have e34 : v4 = v3 := e4.trans e3.symm
      subst e34
      obtain ⟨z, z1, z2⟩ := hg_at s4 (n := a4.toInt.toNat - k2.toInt.toNat) (by omega) hh
      rw [← e3] at z1
      have b4 := bnd a4
      have ta := tA (a := a4) (b := 1) (by omega) (by omega)
      have c19 := im_0_19 hI
      have go : ∀ T' : mT, IQ P T' → Sm T T' → (T'.1 0 19).toInt = (z : Int) → wp (fm_reckons_L8 k1 k2 k3 N (a4 + 1) T') (fun w => IQ P w.2 ∧ Sm T w.2 ∧ (w.2.1 0 19).toInt = 1) := by
        intro T' hI' hS hz
        refine wp_mono (ih (a4 + 1) T' z hI' (by rw [hS.row (by decide)]; exact hs') (by omega) (by omega) ?_ hz (by omega)) (fun w hw => ⟨hw.1, hS.trans hw.2.1, hw.2.2⟩)
        rw [hS.row (by decide), show (a4 + 1).toInt.toNat - k2.toInt.toNat = a4.toInt.toNat - k2.toInt.toNat + 1 by omega]
        exact z2
      unfold stepH at z1
      refine wp_if (fun g0 => ?_) (fun g0 => ?_)
      · rw [if_pos g0] at z1
        by_cases hh64 : h < 64
        · rw [if_pos hh64] at z1
          have ez := Option.some.inj z1
          exact wp_bind (tm_push (by omega) hI) (fun q16 hq => go q16 hq.1 hq.2.1 (by omega))
        · rw [if_neg hh64] at z1; cases z1
      · rw [if_neg g0] at z1
        refine wp_if (fun g1 => ?_) (fun g1 => ?_)
        · rw [if_pos g1] at z1
          by_cases hw : 0 ≤ (v4 >>> (4 &&& 31)).toInt ∧ (v4 >>> (4 &&& 31)).toInt < 8 ∧ h < 64
          · rw [if_pos hw] at z1
            have ez := Option.some.inj z1
            refine wp_bif (inb_of hw.1 (by omega)) ?_
            refine wp_letv (fun v14 _ => ?_)
            exact wp_bind (tm_push (by omega) hI) (fun q16 hq => go q16 hq.1 hq.2.1 (by omega))
          · rw [if_neg hw] at z1; cases z1
        · rw [if_neg g1] at z1
          refine wp_if (fun g2 => ?_) (fun g2 => ?_)
          · rw [if_pos g2] at z1
            by_cases hw : 1 ≤ h
            · rw [if_pos hw] at z1
              have ez := Option.some.inj z1
              refine wp_bind (tm_pop (by omega) hI) (fun q12 h12 => ?_)
              refine wp_bind (tm_push (by omega) h12.1) (fun q13 h13 => go q13 h13.1 (h12.2.1.trans h13.2.1) (by omega))
            · rw [if_neg hw] at z1; cases z1
          · rw [if_neg g2] at z1
            by_cases hw : 2 ≤ h
            · rw [if_pos hw] at z1
              have ez := Option.some.inj z1
              refine wp_bind (tm_pop (by omega) hI) (fun q8 h8 => ?_)
              refine wp_bind (tm_pop (by omega) h8.1) (fun q9 h9 => ?_)
              refine wp_bind (Q := fun _ => True) tm_one (fun q10 _ => ?_)
              refine wp_bind (tm_push (by omega) h9.1) (fun q11 h11 => go q11 h11.1 (h8.2.1.trans (h9.2.1.trans h11.2.1)) (by omega))
            · rw [if_neg hw] at z1; cases z1
theorem tm_reckons {P : Nat → Nat → Option Int} {p0 p1 p2 : Int32} {T : mT} (h0 : 0 ≤ p0.toInt) (h1 : p0.toInt ≤ 5) (hs : sg (T.1 2) (400 * p0.toInt.toNat) p1.toInt p2.toInt) (hI : IQ P T) : wp (fm_reckons p0 p1 p2 T) (fun w => IQ P w.2 ∧ Sm T w.2) := by
  unfold fm_reckons
  have l_0 : (0 : Int32).toInt = 0 := by decide
  have fu : (FU : Int) = 1000000 := rfl
  have b1 := bnd p1
  refine wp_letv (fun T1 e1 => ?_)
  have hI1 : IQ P T1 := by rw [e1]; exact iz_19 hI (by omega) (by omega)
  have hS : Sm T T1 := by rw [e1]; exact Sm.z T 0
  have ht : (T1.1 0 19).toInt = ((0 : Nat) : Int) := by rw [e1, mz_at]; exact l_0
  obtain ⟨s1, s2, s3, s4⟩ := hs
  refine wp_bind (tm_reckons_L8 (k1 := p0) (k2 := p1) (k3 := p2) h0 h1 FU p1 T1 0 hI1 (by rw [hS.row (by decide)]; exact ⟨s1, s2, s3, s4⟩) (by omega) (by omega) (by rw [Nat.sub_self]; rfl) ht (by omega)) (fun w17 h17 => ?_)
  refine wp_bind (tm_pop (by omega) h17.1) (fun q18 h18 => ?_)
  exact wp_some ⟨h18.1, hS.trans (h17.2.1.trans h18.2.1)⟩
theorem tm_isIsland {P : Nat → Nat → Option Int}  {T : mT}  (hI : IQ P T) : wp (fm_isIsland T) (fun w => (w = true → 0 < (T.1 10 (0 : Int32).toNatClampNeg).toInt)) := by
  unfold fm_isIsland
  have l_0 : (0 : Int32).toInt = 0 := by decide
  refine wp_bif (inb_of (by omega) (by omega)) ?_
  refine wp_letv (fun v1 ev1 => ?_)
  have c1 := im_10_0 hI
  rw [← ev1] at c1
  have c2 := im_10_0 hI
  have c3 : (v1).toInt = ((T.1 10 ((0 : Int32)).toNatClampNeg)).toInt := congrArg Int32.toInt ev1
  refine wp_le (fun hc4 => ?_) (fun hc4 => ?_)
  · skip
    exact wp_some (fun e => by cases e)
  · skip
    exact wp_some (fun _ => (by first | omega | (dsimp only; omega)))
theorem tm_isPerson {P : Nat → Nat → Option Int} {p0 : Int32} {T : mT}  (hI : IQ P T) : wp (fm_isPerson p0 T) (fun w => (w = true → 0 ≤ (p0).toInt ∧ (p0).toInt ≤ 7)) := by
  unfold fm_isPerson
  have l_0 : (0 : Int32).toInt = 0 := by decide
  have l_1 : (1 : Int32).toInt = 1 := by decide
  refine wp_lt (fun hc1 => ?_) (fun hc1 => ?_)
  · skip
    exact wp_some (fun e => by cases e)
  · skip
    refine wp_bif (inb_of (by omega) (by omega)) ?_
    refine wp_letv (fun v2 ev2 => ?_)
    have c2 := im_10_1 hI
    rw [← ev2] at c2
    have c3 := im_10_1 hI
    have c4 : (v2).toInt = ((T.1 10 ((1 : Int32)).toNatClampNeg)).toInt := congrArg Int32.toInt ev2
    refine wp_le (fun hc5 => ?_) (fun hc5 => ?_)
    · skip
      exact wp_some (fun e => by cases e)
    · skip
      exact wp_some (fun _ => ⟨(by first | omega | (dsimp only; omega)), (by first | omega | (dsimp only; omega))⟩)
theorem tm_isTelling {P : Nat → Nat → Option Int} {p0 : Int32} {T : mT}  (hI : IQ P T) : wp (fm_isTelling p0 T) (fun w => (w = true → 0 ≤ (p0).toInt ∧ (p0).toInt ≤ 39 ∧ (p0).toInt < (T.1 10 (5 : Int32).toNatClampNeg).toInt)) := by
  unfold fm_isTelling
  have l_0 : (0 : Int32).toInt = 0 := by decide
  have l_5 : (5 : Int32).toInt = 5 := by decide
  refine wp_lt (fun hc1 => ?_) (fun hc1 => ?_)
  · skip
    exact wp_some (fun e => by cases e)
  · skip
    refine wp_bif (inb_of (by omega) (by omega)) ?_
    refine wp_letv (fun v2 ev2 => ?_)
    have c2 := im_10_5 hI
    rw [← ev2] at c2
    have c3 := im_10_5 hI
    have c4 : (v2).toInt = ((T.1 10 ((5 : Int32)).toNatClampNeg)).toInt := congrArg Int32.toInt ev2
    refine wp_le (fun hc5 => ?_) (fun hc5 => ?_)
    · skip
      exact wp_some (fun e => by cases e)
    · skip
      exact wp_some (fun _ => ⟨(by first | omega | (dsimp only; omega)), (by first | omega | (dsimp only; omega)), (by first | omega | (dsimp only; omega))⟩)
theorem t_pers {p0 p1 : Int32} (a0 : 0 ≤ p0.toInt) (a1 : p0.toInt ≤ 7) (b0 : 0 ≤ p1.toInt) (b1 : p1.toInt ≤ 3) : (((8 : Int32) + ((4 : Int32) * p0)) + p1).toInt = 8 + 4 * p0.toInt + p1.toInt := by
  have l_8 : (8 : Int32).toInt = 8 := by decide
  have l_4 : (4 : Int32).toInt = 4 := by decide
  have m := tML (a := 4) (b := p0) l_4 (by omega) (by omega)
  have t := tA (a := 8) (b := 4 * p0) (by omega) (by omega)
  have u := tA (a := 8 + 4 * p0) (b := p1) (by omega) (by omega)
  omega
theorem tm_personOf {P : Nat → Nat → Option Int} {p0 p1 : Int32} {T : mT} (hl_p0 : 0 ≤ p0.toInt) (hu_p0 : p0.toInt ≤ 7) (hl_p1 : 0 ≤ p1.toInt) (hu_p1 : p1.toInt ≤ 3) (hI : IQ P T) : wp (fm_personOf p0 p1 T) (fun _ => True) := by
  unfold fm_personOf
  have t := t_pers hl_p0 hu_p0 hl_p1 hu_p1
  exact wp_bif (inb_of (by omega) (by omega)) (wp_letv (fun v _ => wp_some trivial))
theorem tm_personOf_0 {P : Nat → Nat → Option Int} {p0 : Int32} {T : mT} (hl_p0 : 0 ≤ p0.toInt) (hu_p0 : p0.toInt ≤ 7) (hI : IQ P T) : wp (fm_personOf p0 0 T) (fun w => (0 ≤ (w).toInt) ∧ ((w).toInt ≤ 63)) := by
  unfold fm_personOf
  have l_0 : (0 : Int32).toInt = 0 := by decide
  have t := t_pers (p1 := 0) hl_p0 hu_p0 (by omega) (by omega)
  refine wp_bif (inb_of (by omega) (by omega)) (wp_letv (fun v ev => wp_some ?_))
  have c := hI.1.1 10 (((8 : Int32) + ((4 : Int32) * p0)) + 0).toNatClampNeg
  rw [← ev] at c
  have i : (((8 : Int32) + ((4 : Int32) * p0)) + 0).toNatClampNeg = 8 + 4 * p0.toInt.toNat := cl_idx (by omega)
  have r : rgM 10 (((8 : Int32) + ((4 : Int32) * p0)) + 0).toNatClampNeg = (0, 63) := by
    rw [i]
    show rgS _ = _
    unfold rgS
    rw [if_neg (by omega), if_neg (by omega), if_neg (by omega), if_neg (by omega), if_neg (by omega), if_neg (by omega), if_pos (by omega)]
  rw [r] at c
  exact c
theorem t_tel {p0 p1 : Int32} (a0 : 0 ≤ p0.toInt) (a1 : p0.toInt ≤ 39) (b0 : 0 ≤ p1.toInt) (b1 : p1.toInt ≤ 5) : (((112 : Int32) + ((6 : Int32) * p0)) + p1).toInt = 112 + 6 * p0.toInt + p1.toInt := by
  have l_8 : (112 : Int32).toInt = 112 := by decide
  have l_4 : (6 : Int32).toInt = 6 := by decide
  have m := tML (a := 6) (b := p0) l_4 (by omega) (by omega)
  have t := tA (a := 112) (b := 6 * p0) (by omega) (by omega)
  have u := tA (a := 112 + 6 * p0) (b := p1) (by omega) (by omega)
  omega
theorem rgS_tel {t c : Nat} (ht : t < 40) (hc : c < 6) : rgS (112 + 6 * t + c) = if c ≤ 2 then (0, 7) else if c = 3 then (0, 63) else if c = 5 then (-1, 39) else fullI := by
  unfold rgS
  rw [if_neg (by omega), if_neg (by omega), if_neg (by omega), if_neg (by omega), if_neg (by omega), if_neg (by omega), if_neg (by omega), if_pos (by omega), show (112 + 6 * t + c - 112) % 6 = c by omega]
theorem tm_tel {P : Nat → Nat → Option Int} {p0 p1 : Int32} {T : mT} (hl_p0 : 0 ≤ p0.toInt) (hu_p0 : p0.toInt ≤ 39) (hl_p1 : 0 ≤ p1.toInt) (hu_p1 : p1.toInt ≤ 5) (hI : IQ P T) : wp (fm_tellingOf p0 p1 T) (fun w => w = T.1 10 (112 + 6 * p0.toInt.toNat + p1.toInt.toNat) ∧ (if p1.toInt.toNat ≤ 2 then ((0 : Int), (7 : Int)) else if p1.toInt.toNat = 3 then (0, 63) else if p1.toInt.toNat = 5 then (-1, 39) else fullI).1 ≤ w.toInt ∧ w.toInt ≤ (if p1.toInt.toNat ≤ 2 then ((0 : Int), (7 : Int)) else if p1.toInt.toNat = 3 then (0, 63) else if p1.toInt.toNat = 5 then (-1, 39) else fullI).2) := by
  unfold fm_tellingOf
  have t := t_tel hl_p0 hu_p0 hl_p1 hu_p1
  refine wp_bif (inb_of (by omega) (by omega)) (wp_letv (fun v ev => wp_some ?_))
  have i : (((112 : Int32) + ((6 : Int32) * p0)) + p1).toNatClampNeg = 112 + 6 * p0.toInt.toNat + p1.toInt.toNat := cl_idx (by omega)
  rw [i] at ev
  have c := hI.1.1 10 (112 + 6 * p0.toInt.toNat + p1.toInt.toNat)
  rw [← ev, show rgM 10 (112 + 6 * p0.toInt.toNat + p1.toInt.toNat) = rgS (112 + 6 * p0.toInt.toNat + p1.toInt.toNat) from rfl, rgS_tel (by omega) (by omega)] at c
  exact ⟨ev, c⟩
theorem tm_tellingOf {P : Nat → Nat → Option Int} {p0 p1 : Int32} {T : mT} (hl_p0 : 0 ≤ p0.toInt) (hu_p0 : p0.toInt ≤ 39) (hl_p1 : 0 ≤ p1.toInt) (hu_p1 : p1.toInt ≤ 5) (hI : IQ P T) : wp (fm_tellingOf p0 p1 T) (fun _ => True) := wp_mono (tm_tel hl_p0 hu_p0 hl_p1 hu_p1 hI) (fun _ _ => trivial)
theorem tm_tellingOf_0 {P : Nat → Nat → Option Int} {p0 : Int32} {T : mT} (hl_p0 : 0 ≤ p0.toInt) (hu_p0 : p0.toInt ≤ 39) (hI : IQ P T) : wp (fm_tellingOf p0 0 T) (fun w => (0 ≤ (w).toInt) ∧ ((w).toInt ≤ 7)) := wp_mono (tm_tel hl_p0 hu_p0 (by decide) (by decide) hI) (fun _ h => h.2)
theorem tm_tellingOf_1 {P : Nat → Nat → Option Int} {p0 : Int32} {T : mT} (hl_p0 : 0 ≤ p0.toInt) (hu_p0 : p0.toInt ≤ 39) (hI : IQ P T) : wp (fm_tellingOf p0 1 T) (fun w => (0 ≤ (w).toInt) ∧ ((w).toInt ≤ 7)) := wp_mono (tm_tel hl_p0 hu_p0 (by decide) (by decide) hI) (fun _ h => h.2)
theorem tm_tellingOf_2 {P : Nat → Nat → Option Int} {p0 : Int32} {T : mT} (hl_p0 : 0 ≤ p0.toInt) (hu_p0 : p0.toInt ≤ 39) (hI : IQ P T) : wp (fm_tellingOf p0 2 T) (fun w => (0 ≤ (w).toInt) ∧ ((w).toInt ≤ 7)) := wp_mono (tm_tel hl_p0 hu_p0 (by decide) (by decide) hI) (fun _ h => h.2)
theorem tm_tellingOf_3 {P : Nat → Nat → Option Int} {p0 : Int32} {T : mT} (hl_p0 : 0 ≤ p0.toInt) (hu_p0 : p0.toInt ≤ 39) (hI : IQ P T) : wp (fm_tellingOf p0 3 T) (fun w => (0 ≤ (w).toInt) ∧ ((w).toInt ≤ 63)) := wp_mono (tm_tel hl_p0 hu_p0 (by decide) (by decide) hI) (fun _ h => h.2)
theorem tm_from {P : Nat → Nat → Option Int} {p0 : Int32} {T : mT} (hl_p0 : 0 ≤ p0.toInt) (hs : p0.toInt < (T.1 10 (5 : Int32).toNatClampNeg).toInt) (hI : IQ P T) : wp (fm_tellingOf p0 5 T) (fun w => w = T.1 10 (112 + 6 * p0.toInt.toNat + 5) ∧ -1 ≤ w.toInt ∧ w.toInt < p0.toInt) := by
  have h40 := im_10_5 hI
  refine wp_mono (tm_tel hl_p0 (by omega) (by decide) (by decide) hI) (fun w h => ⟨h.1, h.2.1, ?_⟩)
  have hb := hI.2.1.1.2 p0.toInt.toNat (by show ((p0.toInt.toNat : Nat) : Int) < (T.1 10 (5 : Int32).toNatClampNeg).toInt; omega)
  rw [Nat.zero_add] at hb
  have hw : w = T.1 10 (112 + 6 * p0.toInt.toNat + 5) := h.1
  rw [← hw] at hb
  omega
theorem tm_tieOf {P : Nat → Nat → Option Int} {p0 p1 : Int32} {T : mT} (hl_p0 : 0 ≤ p0.toInt) (hu_p0 : p0.toInt ≤ 7) (hl_p1 : 0 ≤ p1.toInt) (hu_p1 : p1.toInt ≤ 7) (hI : IQ P T) : wp (fm_tieOf p0 p1 T) (fun _ => True) := by
  unfold fm_tieOf
  have l_8 : (40 : Int32).toInt = 40 := by decide
  have l_4 : (8 : Int32).toInt = 8 := by decide
  have m := tML (a := 8) (b := p0) l_4 (by omega) (by omega)
  have t := tA (a := 40) (b := 8 * p0) (by omega) (by omega)
  have u := tA (a := 40 + 8 * p0) (b := p1) (by omega) (by omega)
  exact wp_bif (inb_of (by omega) (by omega)) (wp_letv (fun v _ => wp_some trivial))
theorem tm_isLook {P : Nat → Nat → Option Int} {p0 : Int32} {T : mT} (hl_p0 : 0 ≤ p0.toInt) (hu_p0 : p0.toInt ≤ 39) (hI : IQ P T) : wp (fm_isLook p0 T) (fun w => True) := by
  unfold fm_isLook
  refine wp_bind (tm_tellingOf_0 (by omega) (by omega) hI) (fun q1 hq1 => ?_)
  obtain ⟨h2, h3⟩ := hq1
  refine wp_bind (tm_tellingOf_1 (by omega) (by omega) hI) (fun q2 hq4 => ?_)
  obtain ⟨h5, h6⟩ := hq4
  refine wp_eqn (fun hc7 => ?_) ?_
  · skip
    exact wp_some trivial
  · skip
    exact wp_some trivial
theorem tm_allMarks {P : Nat → Nat → Option Int}  {T : mT}  (hI : IQ P T) : wp (fm_allMarks T) (fun w => (0 ≤ (w).toInt) ∧ ((w).toInt ≤ 63)) := by
  unfold fm_allMarks
  have l_0 : (0 : Int32).toInt = 0 := by decide
  have l_1 : (1 : Int32).toInt = 1 := by decide
  refine wp_bif (inb_of (by omega) (by omega)) ?_
  refine wp_letv (fun v1 ev1 => ?_)
  have c1 := im_10_0 hI
  rw [← ev1] at c1
  have c2 := im_10_0 hI
  have c3 : (v1).toInt = ((T.1 10 ((0 : Int32)).toNatClampNeg)).toInt := congrArg Int32.toInt ev1
  have t4 := shl_i (e := v1) (n := 6) (by omega) (by omega) (by decide)
  have t5 : (((1 : Int32) <<< (v1 &&& (31 : Int32))) - (1 : Int32) : Int32).toInt = (((1 : Int32) <<< (v1 &&& (31 : Int32)))).toInt - ((1 : Int32)).toInt := tS (by omega) (by omega)
  exact wp_some ⟨(by first | omega | (dsimp only; omega)), (by first | omega | (dsimp only; omega))⟩
theorem tm_stepsOf_L4 {P : Nat → Nat → Option Int} {k1 : Int32} {T : mT} (hI : IQ P T) : ∀ (N : Nat) (a2 : Int32) (a3 : Int32), 0 ≤ a3.toInt → a3.toInt < (T.1 10 (5 : Int32).toNatClampNeg).toInt → a3.toInt + 1 < (N : Int) → wp (fm_stepsOf_L4 k1 T N a2 a3) (fun _ => True) := by
  intro N
  induction N with
  | zero =>
    intro a2 a3 h0 hs hm
    exfalso; omega
  | succ N ih =>
    intro a2 a3 h0 hs hm
    rw [fm_stepsOf_L4]
    have l_0 : (0 : Int32).toInt = 0 := by decide
    refine wp_bind (tm_from h0 hs hI) (fun q1 h1 => ?_)
    refine wp_lt (fun _ => wp_some trivial) (fun hc => ?_)
    refine wp_bind (tm_from h0 hs hI) (fun q3 h3 => ?_)
    have e : q3 = q1 := h3.1.trans h1.1.symm
    subst e
    exact ih _ _ (by omega) (by omega) (by omega)
theorem tm_stepsOf {P : Nat → Nat → Option Int} {p0 : Int32} {T : mT} (hl_p0 : 0 ≤ p0.toInt) (hs : p0.toInt < (T.1 10 (5 : Int32).toNatClampNeg).toInt) (hI : IQ P T) : wp (fm_stepsOf p0 T) (fun _ => True) := by
  unfold fm_stepsOf
  have fu : (FU : Int) = 1000000 := rfl
  have h40 := im_10_5 hI
  exact wp_bind (tm_stepsOf_L4 hI FU 0 p0 hl_p0 hs (by omega)) (fun w _ => wp_some trivial)
theorem tm_words {P : Nat → Nat → Option Int} {p0 : Int32} {p1 : Int32} {p2 : Int32} {p3 : Int32} {p4 : Int32} {p5 : Int32} {T : mT} (hl_p0 : 0 ≤ p0.toInt) (hu_p0 : p0.toInt ≤ 7) (hl_p1 : 0 ≤ p1.toInt) (hu_p1 : p1.toInt ≤ 7) (hI : IQ P T) : wp (fm_words p0 p1 p2 p3 p4 p5 T) (fun w => (IQ P w) ∧ (Sm T w)) := by
  unfold fm_words
  have l_0 : (0 : Int32).toInt = 0 := by decide
  have l_1 : (1 : Int32).toInt = 1 := by decide
  have l_2 : (2 : Int32).toInt = 2 := by decide
  have l_3 : (3 : Int32).toInt = 3 := by decide
  have l_4 : (4 : Int32).toInt = 4 := by decide
  have l_5 : (5 : Int32).toInt = 5 := by decide
  have l_6 : (6 : Int32).toInt = 6 := by decide
  have l_7 : (7 : Int32).toInt = 7 := by decide
  refine wp_bif (inb_of (by omega) (by omega)) ?_
  refine wp_letv (fun T1 eT1 => ?_)
  have hIT1 : IQ P T1 := by rw [eT1]; exact (iq_l hI (by decide))
  have hST1 : Sm T T1 := by rw [eT1]; exact Sm.rfl'
  refine wp_bif (inb_of (by omega) (by omega)) ?_
  refine wp_letv (fun T2 eT2 => ?_)
  have hIT2 : IQ P T2 := by rw [eT2]; exact (iq_l hIT1 (by decide))
  have hST2 : Sm T T2 := by rw [eT2]; exact hST1
  refine wp_bif (inb_of (by omega) (by omega)) ?_
  refine wp_letv (fun T3 eT3 => ?_)
  have hIT3 : IQ P T3 := by rw [eT3]; exact (iq_l hIT2 (by decide))
  have hST3 : Sm T T3 := by rw [eT3]; exact hST2
  refine wp_bif (inb_of (by omega) (by omega)) ?_
  refine wp_letv (fun v4 ev4 => ?_)
  have c1 := im_10_2 hIT3
  rw [← ev4] at c1
  have c2 := im_10_2 hIT3
  have c3 := im_10_2 hIT2
  have c4 := im_10_2 hIT1
  have c5 := im_10_2 hI
  have f6 : ((T1.1 10 ((2 : Int32)).toNatClampNeg)).toInt = ((T.1 10 ((2 : Int32)).toNatClampNeg)).toInt := by rw [eT1]; exact rfl
  have f7 : ((T2.1 10 ((2 : Int32)).toNatClampNeg)).toInt = ((T1.1 10 ((2 : Int32)).toNatClampNeg)).toInt := by rw [eT2]; exact rfl
  have f8 : ((T3.1 10 ((2 : Int32)).toNatClampNeg)).toInt = ((T2.1 10 ((2 : Int32)).toNatClampNeg)).toInt := by rw [eT3]; exact rfl
  have c9 : (v4).toInt = ((T3.1 10 ((2 : Int32)).toNatClampNeg)).toInt := congrArg Int32.toInt ev4
  refine wp_bif (inb_of (by omega) (by omega)) ?_
  refine wp_letv (fun T5 eT5 => ?_)
  have hIT5 : IQ P T5 := by rw [eT5]; exact (iq_l hIT3 (by decide))
  have hST5 : Sm T T5 := by rw [eT5]; exact hST3
  refine wp_bif (inb_of (by omega) (by omega)) ?_
  refine wp_letv (fun T6 eT6 => ?_)
  have hIT6 : IQ P T6 := by rw [eT6]; exact (iq_l hIT5 (by decide))
  have hST6 : Sm T T6 := by rw [eT6]; exact hST5
  refine wp_bind (Q := fun w => True) ?_ (fun w7 hq10 => ?_)
  · skip
    refine wp_eqn (fun hc11 => ?_) ?_
    · skip
      exact wp_some trivial
    · skip
      refine wp_bind (tm_tieOf (by omega) (by omega) (by omega) (by omega) hIT6) (fun q9 hq12 => ?_)
      exact wp_some trivial
  · skip
    refine wp_bif (inb_of (by omega) (by omega)) ?_
    refine wp_letv (fun T10 eT10 => ?_)
    have hIT10 : IQ P T10 := by rw [eT10]; exact (iq_l hIT6 (by decide))
    have hST10 : Sm T T10 := by rw [eT10]; exact hST6
    refine wp_bif (inb_of (by omega) (by omega)) ?_
    refine wp_letv (fun T11 eT11 => ?_)
    have hIT11 : IQ P T11 := by rw [eT11]; exact (iq_l hIT10 (by decide))
    have hST11 : Sm T T11 := by rw [eT11]; exact hST10
    refine wp_bif (inb_of (by omega) (by omega)) ?_
    refine wp_letv (fun T12 eT12 => ?_)
    have hIT12 : IQ P T12 := by rw [eT12]; exact (iq_l hIT11 (by decide))
    have hST12 : Sm T T12 := by rw [eT12]; exact hST11
    exact wp_some ⟨hIT12, hST12⟩
def CA (T : mT) (p0 at' : Int32) : Prop := 0 ≤ p0.toInt ∧ p0.toInt < (T.1 0 2).toInt ∧ ∃ c : Nat, (c : Int) < (T.1 5 p0.toInt.toNat).toInt ∧ at'.toInt = 60 * p0.toInt + 5 * c
theorem CA.same {A B : mT} {p0 at' : Int32} (h : Sm A B) (hc : CA A p0 at') : CA B p0 at' := by
  obtain ⟨a, b, c, d, e⟩ := hc
  refine ⟨a, ?_, c, ?_, e⟩
  · rw [h 0 2 (Or.inr (by decide))]; exact b
  · rw [h.row (by decide)]; exact d
theorem t_60 {k1 a3 : Int32} (h0 : 0 ≤ k1.toInt) (h1 : k1.toInt ≤ 5) (h2 : 0 ≤ a3.toInt) (h3 : a3.toInt ≤ 11) : (((60 : Int32) * k1) + ((5 : Int32) * a3)).toInt = 60 * k1.toInt + 5 * a3.toInt := by
  have l : (60 : Int32).toInt = 60 := by decide
  have l5 : (5 : Int32).toInt = 5 := by decide
  have m := tML (a := 60) (b := k1) l (by omega) (by omega)
  have m2 := tML (a := 5) (b := a3) l5 (by omega) (by omega)
  have t := tA (a := 60 * k1) (b := 5 * a3) (by omega) (by omega)
  omega
theorem tm_clauseFor_L8 {P : Nat → Nat → Option Int} {k1 k2 : Int32} (h0 : 0 ≤ k1.toInt) : ∀ (N : Nat) (a3 : Int32) (T : mT), 0 ≤ a3.toInt → a3.toInt ≤ 12 → IQ P T → k1.toInt < (T.1 0 2).toInt → 12 - a3.toInt < (N : Int) → wp (fm_clauseFor_L8 k1 k2 N a3 T) (fun w => Sum.elim (fun w => IQ P w.2 ∧ Sm T w.2) (fun w => IQ P w.2 ∧ Sm T w.2 ∧ CA T k1 w.1) w) := by
  intro N
  induction N with
  | zero =>
    intro a3 T ha hb hI hr hm
    exfalso; omega
  | succ N ih =>
    intro a3 T ha hb hI hr hm
    rw [fm_clauseFor_L8]
    have l_0 : (0 : Int32).toInt = 0 := by decide
    have l_1 : (1 : Int32).toInt = 1 := by decide
    have l_3 : (3 : Int32).toInt = 3 := by decide
    have l_4 : (4 : Int32).toInt = 4 := by decide
    have c2 := im_0_2 hI
    have ki : k1.toNatClampNeg = k1.toInt.toNat := rfl
    have ta := tA (a := a3) (b := 1) (by omega) (by omega)
    refine wp_bif (inb_of (by omega) (by omega)) ?_
    refine wp_letv (fun v2 e2 => ?_)
    have c5 := im_r5 hI k1.toNatClampNeg
    rw [← e2] at c5
    rw [ki] at e2
    refine wp_le (fun hc => wp_some ⟨hI, Sm.rfl'⟩) (fun hc => ?_)
    have t := t_60 (k1 := k1) (a3 := a3) h0 (by omega) ha (by omega)
    have t3 := tA (a := (60 : Int32) * k1 + (5 : Int32) * a3) (b := 3) (by omega) (by omega)
    have t4 := tA (a := (60 : Int32) * k1 + (5 : Int32) * a3) (b := 4) (by omega) (by omega)
    have i3 : (((60 : Int32) * k1) + ((5 : Int32) * a3) + 3).toNatClampNeg = 60 * k1.toInt.toNat + 5 * a3.toInt.toNat + 3 := cl_idx (by omega)
    have i4 : (((60 : Int32) * k1) + ((5 : Int32) * a3) + 4).toNatClampNeg = 60 * k1.toInt.toNat + 5 * a3.toInt.toNat + 4 := cl_idx (by omega)
    have hCA : CA T k1 (((60 : Int32) * k1) + ((5 : Int32) * a3)) := ⟨h0, hr, a3.toInt.toNat, by rw [← e2]; omega, by omega⟩
    have hok := hI.2.2.1 k1.toInt.toNat a3.toInt.toNat (by omega) (by rw [← e2]; omega)
    have go : ∀ T' : mT, IQ P T' → Sm T T' → wp (fm_clauseFor_L8 k1 k2 N (a3 + 1) T') (fun w => Sum.elim (fun w => IQ P w.2 ∧ Sm T w.2) (fun w => IQ P w.2 ∧ Sm T w.2 ∧ CA T k1 w.1) w) := by
      intro T' hI' hS
      refine wp_mono (ih (a3 + 1) T' (by omega) (by omega) hI' (by rw [hS 0 2 (Or.inr (by decide))]; exact hr) (by omega)) (fun w hw => sum_mono hw (fun x hx => ⟨hx.1, hS.trans hx.2⟩) (fun x hx => ⟨hx.1, hS.trans hx.2.1, CA.same (fun r j h => (hS r j h).symm) hx.2.2⟩))
    refine wp_bif (inb_of (by omega) (by omega)) ?_
    refine wp_letv (fun v4 _ => ?_)
    refine wp_eq (fun _ => ?_) (fun _ => go T hI Sm.rfl')
    refine wp_bif (inb_of (by omega) (by omega)) ?_
    refine wp_letv (fun v6 e6 => ?_)
    rw [i3] at e6
    refine wp_lt (fun _ => wp_some ⟨hI, Sm.rfl', hCA⟩) (fun h6 => ?_)
    refine wp_bif (inb_of (by omega) (by omega)) ?_
    refine wp_letv (fun v8 e8 => ?_)
    rw [i3] at e8
    refine wp_bif (inb_of (by omega) (by omega)) ?_
    refine wp_letv (fun v9 e9 => ?_)
    rw [i4] at e9
    have hseg := hok.2 (by rw [← e6]; omega)
    rw [← e8, ← e9] at hseg
    refine wp_bind (tm_reckons h0 (by omega) hseg hI) (fun q10 h10 => ?_)
    refine wp_if (fun _ => wp_some ⟨h10.1, h10.2, hCA⟩) (fun _ => go q10.2 h10.1 h10.2)
theorem tm_clauseFor {P : Nat → Nat → Option Int} {p0 p1 : Int32} {T : mT} (hr : p0.toInt < (T.1 0 2).toInt) (hI : IQ P T) : wp (fm_clauseFor p0 p1 T) (fun w => IQ P w.2 ∧ Sm T w.2 ∧ (0 ≤ w.1.toInt → CA T p0 w.1)) := by
  unfold fm_clauseFor
  have l_0 : (0 : Int32).toInt = 0 := by decide
  have l_m1 : ((-1) : Int32).toInt = -1 := by decide
  have fu : (FU : Int) = 1000000 := rfl
  refine wp_le (fun hc => ?_) (fun hc => wp_some ⟨hI, Sm.rfl', fun h => by dsimp only at h; omega⟩)
  refine wp_bind (tm_clauseFor_L8 (by omega) FU 0 T (by omega) (by omega) hI hr (by omega)) (fun w12 h => ?_)
  exact wp_sum h (fun a ha => wp_some ⟨ha.1, ha.2, fun h => by dsimp only at h; omega⟩) (fun b hb => wp_some ⟨hb.1, hb.2.1, fun _ => hb.2.2⟩)
theorem i64_i32 {x : Int64} {m : Int} (h0 : 0 ≤ x.toInt) (h1 : x.toInt ≤ m) (hm : m ≤ 2147483647) : x.toInt32.toInt = x.toInt := by
  rw [Int64.toInt_toInt32]
  exact Int.bmod_eq_of_le (by omega) (by omega)
theorem tm_heldSum {P : Nat → Nat → Option Int} {p0 p1 p2 : Int32} {T : mT} (hc : CA T p0 p1) (hp : 0 ≤ p2.toInt) (hI : IQ P T) : wp (fm_heldSum p0 p1 p2 T) (fun w => IQ P w.2 ∧ Sm T w.2 ∧ 0 ≤ w.1.toInt ∧ w.1.toInt ≤ p2.toInt) := by
  unfold fm_heldSum
  have l_0 : (0 : Int32).toInt = 0 := by decide
  have l_1 : (1 : Int32).toInt = 1 := by decide
  have l_2 : (2 : Int32).toInt = 2 := by decide
  obtain ⟨c0, c1, c, c3, c4⟩ := hc
  have k2 := im_0_2 hI
  have k5 := im_r5 hI p0.toInt.toNat
  have t1 := tA (a := p1) (b := 1) (by omega) (by omega)
  have t2 := tA (a := p1) (b := 2) (by omega) (by omega)
  have i1 : (p1 + 1).toNatClampNeg = 60 * p0.toInt.toNat + 5 * c + 1 := cl_idx (by omega)
  have i2 : (p1 + 2).toNatClampNeg = 60 * p0.toInt.toNat + 5 * c + 2 := cl_idx (by omega)
  have hok := hI.2.2.1 p0.toInt.toNat c (by omega) c3
  refine wp_bif (inb_of (by omega) (by omega)) ?_
  refine wp_letv (fun v1 e1 => ?_)
  rw [i1] at e1
  refine wp_bif (inb_of (by omega) (by omega)) ?_
  refine wp_letv (fun v2 e2 => ?_)
  rw [i2] at e2
  have hs := hok.1
  rw [← e1, ← e2] at hs
  refine wp_bind (tm_reckons c0 (by omega) hs hI) (fun q3 h3 => ?_)
  refine wp_if (fun g => ?_) (fun g => wp_some ⟨h3.1, h3.2, by dsimp only; omega, by dsimp only; omega⟩)
  have g0 := Int64.le_iff_toInt_le.mp ((lg_cmp_ge q3.1 0).mp g)
  have z0 : (0 : Int64).toInt = 0 := by decide
  refine wp_if (fun g1 => ?_) (fun g1 => wp_some ⟨h3.1, h3.2, hp, Int.le_refl _⟩)
  have g2 := Int64.le_iff_toInt_le.mp ((lg_cmp_le q3.1 p2.toInt64).mp g1)
  rw [Int32.toInt_toInt64] at g2
  have b := bnd p2
  have e := i64_i32 (x := q3.1) (m := p2.toInt) (by omega) g2 (by omega)
  exact wp_some ⟨h3.1, h3.2, by dsimp only; omega, by dsimp only; omega⟩
theorem tm_weightOf {P : Nat → Nat → Option Int} {p0 : Int32} {T : mT} (hl_p0 : 0 ≤ p0.toInt) (hs : p0.toInt < (T.1 10 (5 : Int32).toNatClampNeg).toInt) (hI : IQ P T) : wp (fm_weightOf p0 T) (fun w => (IQ P w.2) ∧ (Sm T w.2)) := by
  unfold fm_weightOf
  have l_0 : (0 : Int32).toInt = 0 := by decide
  have l_2 : (2 : Int32).toInt = 2 := by decide
  have l_999 : (999 : Int32).toInt = 999 := by decide
  have h40 := im_10_5 hI
  refine wp_bind (tm_tellingOf_0 hl_p0 (by omega) hI) (fun q1 h1 => ?_)
  refine wp_bind (tm_tellingOf_1 hl_p0 (by omega) hI) (fun q2 h2 => ?_)
  refine wp_bind (tm_tellingOf_2 hl_p0 (by omega) hI) (fun q3 h3 => ?_)
  refine wp_bind (tm_tellingOf_3 hl_p0 (by omega) hI) (fun q4 h4 => ?_)
  refine wp_bif (inb_of (by omega) (by omega)) ?_
  refine wp_letv (fun v5 _ => ?_)
  refine wp_bind (tm_tellingOf hl_p0 (by omega) (by decide) (by decide) hI) (fun q6 _ => ?_)
  refine wp_bind (tm_stepsOf hl_p0 hs hI) (fun q7 _ => ?_)
  refine wp_bind (tm_words h1.1 h1.2 h2.1 h2.2 hI) (fun q8 h8 => ?_)
  refine wp_bind (tm_clauseFor (h8.1.2.2.2.1) h8.1) (fun q9 h9 => ?_)
  refine wp_lt (fun hc => ?_) (fun hc => ?_)
  · refine wp_bind (Q := fun _ => True) (tm_isLook hl_p0 (by omega) h9.1) (fun q11 _ => ?_)
    exact wp_b (fun _ => wp_some ⟨h9.1, h8.2.trans h9.2.1⟩) (fun _ => wp_some ⟨h9.1, h8.2.trans h9.2.1⟩)
  · have hca := CA.same h9.2.1 (h9.2.2 (by omega))
    rw [← h9.2.1 0 22 (Or.inr (by decide))] at hca
    refine wp_bind (tm_heldSum hca (by omega) h9.1) (fun q13 h13 => ?_)
    exact wp_some ⟨h13.1, h8.2.trans (h9.2.1.trans h13.2.1)⟩
theorem tm_sumOf_L5 {P : Nat → Nat → Option Int} {k1 : Int32} {k2 : Int32}   : ∀ (N : Nat) (a3 : Int32) (a4 : Int32) (T : mT), 0 ≤ a4.toInt → a4.toInt ≤ 40 → IQ P T → 40 - a4.toInt < (N : Int) → wp (fm_sumOf_L5 k1 k2 N a3 a4 T) (fun w => (0 ≤ (w.2.1).toInt) ∧ ((w.2.1).toInt ≤ 40) ∧ (IQ P w.2.2) ∧ (Sm T w.2.2)) := by
  intro N
  induction N with
  | zero =>
    intro a3 a4 T vl_a4 vu_a4 hI hm
    exfalso; omega
  | succ N ih =>
    intro a3 a4 T vl_a4 vu_a4 hI hm
    rw [fm_sumOf_L5]
    have l_1 : (1 : Int32).toInt = 1 := by decide
    have l_5 : (5 : Int32).toInt = 5 := by decide
    refine wp_bif (inb_of (by omega) (by omega)) ?_
    refine wp_letv (fun v1 ev1 => ?_)
    have c1 := im_10_5 hI
    rw [← ev1] at c1
    have c2 := im_10_5 hI
    have c3 : (v1).toInt = ((T.1 10 ((5 : Int32)).toNatClampNeg)).toInt := congrArg Int32.toInt ev1
    refine wp_le (fun hc4 => ?_) (fun hc4 => ?_)
    · skip
      exact wp_some ⟨(by first | omega | (dsimp only; omega)), (by first | omega | (dsimp only; omega)), hI, Sm.rfl'⟩
    · skip
      refine wp_bind (tm_tellingOf_1 (by omega) (by omega) hI) (fun q3 hq5 => ?_)
      obtain ⟨h6, h7⟩ := hq5
      refine wp_eqn (fun hc8 => ?_) ?_
      · skip
        refine wp_bind (tm_tellingOf_2 (by omega) (by omega) hI) (fun q5 hq9 => ?_)
        obtain ⟨h10, h11⟩ := hq9
        refine wp_eqn (fun hc12 => ?_) ?_
        · skip
          refine wp_bind (tm_tellingOf_3 (by omega) (by omega) hI) (fun q7 hq13 => ?_)
          obtain ⟨h14, h15⟩ := hq13
          refine wp_bind (tm_isOf ) (fun q8 hq16 => ?_)
          refine wp_b (fun hb17 => ?_) (fun hb17 => ?_)
          · skip
            refine wp_bind (tm_weightOf (by omega) (by omega) hI) (fun q10 hq18 => ?_)
            obtain ⟨h19, h20⟩ := hq18
            have t21 : (a4 + (1 : Int32) : Int32).toInt = (a4).toInt + ((1 : Int32)).toInt := tA (by omega) (by omega)
            have zz22 := (ih (a3 + (-q10.1)) (a4 + (1 : Int32)) q10.2 (by omega) (by omega) h19 (by omega))
            exact wp_mono zz22 (fun w hw => ⟨hw.1, hw.2.1, hw.2.2.1, (h20.trans hw.2.2.2)⟩)
          · skip
            refine wp_bind (tm_weightOf (by omega) (by omega) hI) (fun q11 hq23 => ?_)
            obtain ⟨h24, h25⟩ := hq23
            have t26 : (a4 + (1 : Int32) : Int32).toInt = (a4).toInt + ((1 : Int32)).toInt := tA (by omega) (by omega)
            have zz27 := (ih (a3 + q11.1) (a4 + (1 : Int32)) q11.2 (by omega) (by omega) h24 (by omega))
            exact wp_mono zz27 (fun w hw => ⟨hw.1, hw.2.1, hw.2.2.1, (h25.trans hw.2.2.2)⟩)
        · skip
          have t28 : (a4 + (1 : Int32) : Int32).toInt = (a4).toInt + ((1 : Int32)).toInt := tA (by omega) (by omega)
          have zz29 := (ih a3 (a4 + (1 : Int32)) T (by omega) (by omega) hI (by omega))
          exact wp_mono zz29 (fun w hw => ⟨hw.1, hw.2.1, hw.2.2.1, hw.2.2.2⟩)
      · skip
        have t30 : (a4 + (1 : Int32) : Int32).toInt = (a4).toInt + ((1 : Int32)).toInt := tA (by omega) (by omega)
        have zz31 := (ih a3 (a4 + (1 : Int32)) T (by omega) (by omega) hI (by omega))
        exact wp_mono zz31 (fun w hw => ⟨hw.1, hw.2.1, hw.2.2.1, hw.2.2.2⟩)
