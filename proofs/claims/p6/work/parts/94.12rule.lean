/-! ===== the reference's reader: a rule ===== -/
def RuS (P : Nat → Nat → Option Int) (t : Nat) (T : mT) : Prop := IQ P T ∧ (T.1 0 8).toInt ≤ (T.1 0 1).toInt ∧ (T.1 0 11).toInt = (t : Int) ∧ t < 6 ∧ (T.1 0 2).toInt = (t : Int) ∧ (T.1 3 t).toInt ≤ (T.1 0 8).toInt ∧ (T.1 5 t).toInt ≤ (T.1 0 14).toInt ∧ (T.1 0 14).toInt ≤ 12 ∧ CL t T
theorem Tk.row {A B : mT} (h : Tk A B) {r : Nat} (hr : r ≠ 0) : B.1 r = A.1 r := funext (fun j => h.2 r j (Or.inl hr))
theorem CL.tk {t : Nat} {A B : mT} (h : CL t A) (k : Tk A B) : CL t B := h.xf (c := (A.1 5 t).toInt.toNat) (Xf.ofT k) (by omega)
theorem RuS.tok {P : Nat → Nat → Option Int} {t : Nat} {A B : mT} (h : RuS P t A) (k : Tok P A B) : RuS P t B := by
  obtain ⟨a1, a2, a3, a4, a5, a6, a7, a8, a9⟩ := h
  have m := k.2.2.1
  refine ⟨k.1, k.2.2.2, ?_, a4, ?_, ?_, ?_, ?_, a9.tk k.2.1⟩
  · rw [k.2.1.2 0 11 (Or.inr (by decide))]; exact a3
  · rw [k.2.1.2 0 2 (Or.inr (by decide))]; exact a5
  · rw [k.2.1.2 3 t (Or.inl (by decide))]; omega
  · rw [k.2.1.2 5 t (Or.inl (by decide)), k.2.1.2 0 14 (Or.inr (by decide))]; exact a7
  · rw [k.2.1.2 0 14 (Or.inr (by decide))]; exact a8
theorem RuS.dn {P : Nat → Nat → Option Int} {t : Nat} {A B : mT} (h : RuS P t A) (k : Tok P A B) : Dn P t A B := Dn.of (c := (A.1 5 t).toInt.toNat) k.1 k.2.2.2 (Xf.ofT k.2.1) h.2.2.2.2.2.2.2.2 (by omega)
theorem Dn.trans {P : Nat → Nat → Option Int} {t : Nat} {A B C : mT} (h : Dn P t A B) (g : Dn P t B C) : Dn P t A C := by
  obtain ⟨_, _, _, h1, h2, h3, h4⟩ := h
  obtain ⟨g1, g2, g3, g4, g5, g6, g7⟩ := g
  exact ⟨g1, g2, g3, g4.trans h1, g5.trans h2, g6.trans h3, g7.trans h4⟩
theorem tm_clauseHere_r {P : Nat → Nat → Option Int} {t : Nat} {T : mT} (h : RuS P t T) : wp (fm_clauseHere T) (fun w => Dn P t T w.2 ∧ (w.1 = true → RuS P t w.2 ∧ (T.1 0 8).toInt ≤ (w.2.1 0 8).toInt)) := by
  unfold fm_clauseHere
  have l_0 : (0 : Int32).toInt = 0 := by decide
  have l_1 : (1 : Int32).toInt = 1 := by decide
  have l_6 : (6 : Int32).toInt = 6 := by decide
  have l_12 : (12 : Int32).toInt = 12 := by decide
  refine wp_bind (tm_see h.2.1 h.1) (fun q1 h1 => ?_)
  have k1 := h1.1
  have H1 := h.tok k1
  refine wp_bind (Q := fun w => w = 0) ?_ (fun w2 e2 => ?_)
  · refine wp_eq (fun z => ?_) (fun _ => wp_some rfl)
    have a := H1.2.2.1
    have b := H1.2.2.2.1
    exfalso
    omega
  subst e2
  rw [if_pos (rfl : (0 : Int32) = 0)]
  have bad : ∀ (q : mT) (s m : Int32), Tok P T q → wp ((fm_fails s m q).bind fun q31 => some (q31.1, q31.2)) (fun w => Dn P t T w.2 ∧ (w.1 = true → RuS P t w.2 ∧ (T.1 0 8).toInt ≤ (w.2.1 0 8).toInt)) := fun q s m k => wp_bind (tm_fails k.2.2.2 k.1) (fun q31 h31 => wp_some ⟨h.dn (k.trans h31.2), fun z => by rw [h31.1] at z; cases z⟩)
  have doing : ∀ (q : mT) (p : Int32), RuS P t q → Dn P t T q → (q.1 5 t).toInt < (q.1 0 14).toInt → (T.1 0 8).toInt ≤ (q.1 0 8).toInt → wp ((fm_isDoingHere p q).bind fun q27 => some (q27.1, q27.2)) (fun w => Dn P t T w.2 ∧ (w.1 = true → RuS P t w.2 ∧ (T.1 0 8).toInt ≤ (w.2.1 0 8).toInt)) := by
    intro q p H d lt mn
    obtain ⟨a1, a2, a3, a4, a5, a6, a7, a8, a9⟩ := H
    have c5 := im_r5 a1 t
    obtain ⟨c, hc⟩ : ∃ c : Nat, (q.1 5 t).toInt = (c : Int) := ⟨(q.1 5 t).toInt.toNat, by omega⟩
    refine wp_bind (tm_isDoingHere (c := c) a1 a2 a3 a4 a5 a6 hc (by omega) a9) (fun w hw => wp_some ⟨d.trans hw.1, fun b => ?_⟩)
    obtain ⟨b1, b2, b3, b4⟩ := hw.2 b
    have D := hw.1
    refine ⟨⟨D.1, D.2.1, by rw [D.2.2.2.2.2.2]; exact a3, a4, by rw [D.2.2.2.2.2.1]; exact a5, b1, (by dsimp only; rw [b4]; omega), (by dsimp only; rw [b4]; exact a8), D.2.2.1⟩, by dsimp only; omega⟩
  have go : ∀ q : mT, Tok P T q → wp (Option.bind (if (0 : Int32) = 0 then (some (12)) else (some (40)) : Option (Int32)) fun w20 => if (q.1 0 14) = w20 then ((fm_fails 4 (q1.2.1 0 8) q).bind fun q30 => some (q30.1, q30.2)) else (letv (mz q 14 ((q.1 0 14) + 1)) fun T23 => if (0 : Int32) = 0 then ((fm_isWord 1952803948 T23).bind fun q25 => if (b2i q25.1) = 0 then ((fm_isDoingHere 1 q25.2).bind fun q27 => some (q27.1, q27.2)) else ((fm_isDoingHere 0 q25.2).bind fun q28 => some (q28.1, q28.2))) else ((fm_islandLineHere (q1.2.1 0 8) T23).bind fun q29 => some (q29.1, q29.2)))) (fun w => Dn P t T w.2 ∧ (w.1 = true → RuS P t w.2 ∧ (T.1 0 8).toInt ≤ (w.2.1 0 8).toInt)) := by
    intro q k
    have H := h.tok k
    have kn := k.2.2.1
    rw [if_pos (rfl : (0 : Int32) = 0)]
    refine wp_bind (wp_some (P := fun c : Int32 => c = 12) rfl) (fun w20 e20 => ?_)
    subst e20
    refine wp_eq (fun _ => bad q _ _ k) (fun hne => ?_)
    obtain ⟨a1, a2, a3, a4, a5, a6, a7, a8, a9⟩ := H
    have c5 := im_r5 a1 t
    have u := tA (a := q.1 0 14) (b := 1) (by omega) (by omega)
    refine wp_letv (fun T23 e23 => ?_)
    have z : ∀ r j, (r ≠ 0 ∨ j ≠ 14) → T23.1 r j = q.1 r j := fun r j hj => by rw [e23]; exact mz_ne hj
    have zr : ∀ r, r ≠ 0 → T23.1 r = q.1 r := fun r hr => funext (fun j => z r j (Or.inl hr))
    have v14 : (T23.1 0 14).toInt = (q.1 0 14).toInt + 1 := by rw [e23, mz_at]; omega
    have C23 : CL t T23 := by
      intro c hc
      rw [zr 5 (by decide)] at hc
      have y := a9 c hc
      unfold ClOk at y ⊢
      rw [zr 2 (by decide), zr 3 (by decide), zr 4 (by decide)]
      exact y
    have I23 : IQ P T23 := by rw [e23]; exact iz_any 14 a1 rfl rfl (by decide) (by decide)
    have H23 : RuS P t T23 := by
      unfold RuS
      rw [z 0 8 (by decide), z 0 1 (by decide), z 0 11 (by decide), z 0 2 (by decide), zr 3 (by decide), zr 5 (by decide), v14]
      exact ⟨I23, a2, a3, a4, a5, a6, by omega, by omega, C23⟩
    have D23 : Dn P t T T23 := by
      have d := h.dn k
      refine ⟨I23, H23.2.1, C23, ?_, ?_, ?_, ?_⟩
      · rw [zr 10 (by decide)]; exact d.2.2.2.1
      · rw [z 0 1 (by decide)]; exact d.2.2.2.2.1
      · rw [z 0 2 (by decide)]; exact d.2.2.2.2.2.1
      · rw [z 0 11 (by decide)]; exact d.2.2.2.2.2.2
    rw [if_pos (rfl : (0 : Int32) = 0)]
    refine wp_bind (tm_isWord H23.2.1 I23) (fun q25 h25 => ?_)
    have k25 := h25.1
    have kn25 := k25.2.2.1
    have H25 := H23.tok k25
    have D25 := D23.trans (H23.dn k25)
    have lt : (q25.2.1 5 t).toInt < (q25.2.1 0 14).toInt := by
      rw [k25.2.1.2 5 t (Or.inl (by decide)), k25.2.1.2 0 14 (Or.inr (by decide)), v14, zr 5 (by decide)]
      omega
    have mn : (T.1 0 8).toInt ≤ (q25.2.1 0 8).toInt := by
      rw [z 0 8 (by decide)] at kn25
      omega
    exact wp_b (fun _ => doing _ _ H25 D25 lt mn) (fun _ => doing _ _ H25 D25 lt mn)
  refine wp_bind (tm_isWord k1.2.2.2 k1.1) (fun q5 h5 => ?_)
  have k5 := k1.trans h5.1
  refine wp_b (fun _ => ?_) (fun _ => go q5.2 k5)
  refine wp_bind (tm_isWord k5.2.2.2 k5.1) (fun q18 h18 => ?_)
  have k18 := k5.trans h18.1
  exact wp_b (fun _ => bad q18.2 _ _ k18) (fun _ => go q18.2 k18)
theorem tm_readsAll_L35_r {P : Nat → Nat → Option Int} {t : Nat} {T0 : mT} : ∀ (N : Nat) (a1 : Int32) (T : mT), Dn P t T0 T → (a1 ≠ 0 → RuS P t T ∧ (T.1 0 1).toInt - (T.1 0 8).toInt + 2 ≤ (N : Int)) → 1 ≤ N → wp (fm_readsAll_L35 N a1 T) (fun w => Dn P t T0 w.2 ∧ (w.1 ≠ 0 → RuS P t w.2)) := by
  have l_59 : (59 : Int32).toInt = 59 := by decide
  intro N
  induction N with
  | zero =>
    intro a1 T d h hm
    exfalso; omega
  | succ N ih =>
    intro a1 T d h hm
    rw [fm_readsAll_L35]
    refine wp_if (fun e => wp_some ⟨d, fun z => absurd e z⟩) (fun e => ?_)
    obtain ⟨H, m⟩ := h e
    refine wp_bind (tm_see H.2.1 H.1) (fun q8 h8 => ?_)
    have k8 := h8.1
    have kn := k8.2.2.1
    have H8 := H.tok k8
    refine wp_eq (fun hc => ?_) (fun _ => wp_some ⟨d.trans (H.dn k8), fun _ => H8⟩)
    have lt := h8.2 (by omega)
    have z := tok_on k8.1 lt
    refine wp_letv (fun T10 e10 => ?_)
    rw [← e10] at z
    have H10 := H8.tok z.1
    have D10 := d.trans ((H.dn k8).trans (H8.dn z.1))
    refine wp_bind (tm_clauseHere_r H10) (fun q11 h11 => ?_)
    have p10 : T10.1 0 1 = T.1 0 1 := (k8.trans z.1).tp
    have p11 : q11.2.1 0 1 = T.1 0 1 := h11.1.2.2.2.2.1.trans p10
    have hn := H.2.1
    refine ih (b2i q11.1) q11.2 (D10.trans h11.1) (fun hb => ?_) (by omega)
    have b : q11.1 = true := by
      cases hq : q11.1 with
      | true => rfl
      | false => rw [hq] at hb; exact absurd rfl hb
    obtain ⟨R, mn⟩ := h11.2 b
    exact ⟨R, by rw [p11]; omega⟩
/-- a rule's text is read -/
theorem tm_readsAll_r {P : Nat → Nat → Option Int} {t : Nat} {T : mT} (hp : P 0 1 = none) (hI : IQ P T) (h11 : (T.1 0 11).toInt = (t : Int)) (ht : t < 6) (h2 : (T.1 0 2).toInt = (t : Int)) (h5 : (T.1 5 t).toInt = 0) : wp (fm_readsAll T) (fun w => IQ P w.2 ∧ CL t w.2 ∧ w.2.1 10 = T.1 10 ∧ w.2.1 0 2 = T.1 0 2) := by
  unfold fm_readsAll
  have l_0 : (0 : Int32).toInt = 0 := by decide
  have l_6 : (6 : Int32).toInt = 6 := by decide
  have fu : (FU : Int) = 1000000 := rfl
  have c1 := im_0_1 hI
  have i11 : (T.1 0 11).toNatClampNeg = t := cl_idx h11
  refine wp_bif (inb_of (by omega) (by omega)) ?_
  refine wp_letv (fun T1 e1 => ?_)
  rw [i11] at e1
  refine wp_letv (fun T2 e2 => ?_)
  refine wp_letv (fun T3 e3 => ?_)
  refine wp_letv (fun T4 e4 => ?_)
  refine wp_letv (fun T5 e5 => ?_)
  have I1 : IQ P T1 := by
    rw [e1]
    exact IQ_ma hI (show (0 : Int) ≤ (0 : Int32).toInt ∧ (0 : Int32).toInt ≤ 400 from ⟨by omega, by omega⟩) (no_pinM hI.1 rfl) (by decide) (by decide) (by decide) (by decide) (by decide) (by decide) (by decide) (by decide)
  have I2 : IQ P T2 := by rw [e2]; exact iz_any 14 I1 rfl rfl (by decide) (by decide)
  have I3 : IQ P T3 := by rw [e3]; exact iz_8 I2 (by omega) (by omega)
  have I4 : IQ P T4 := by rw [e4]; exact iz_any 9 I3 rfl rfl (by decide) (by decide)
  have I5 : IQ P T5 := by rw [e5]; exact iz_12 I4 (by omega) (by omega)
  have z : ∀ r j, (r ≠ 3 ∨ j ≠ t) → (r ≠ 0 ∨ (j ≠ 14 ∧ j ≠ 8 ∧ j ≠ 9 ∧ j ≠ 12)) → T5.1 r j = T.1 r j := fun r j h3 h0 => by
    rw [e5, mz_ne (by omega), e4, mz_ne (by omega), e3, mz_ne (by omega), e2, mz_ne (by omega), e1, ma_ne h3]
  have v8 : (T5.1 0 8).toInt = 0 := by rw [e5, mz_ne (by decide), e4, mz_ne (by decide), e3, mz_at]; exact l_0
  have v14 : (T5.1 0 14).toInt = 0 := by rw [e5, mz_ne (by decide), e4, mz_ne (by decide), e3, mz_ne (by decide), e2, mz_at]; exact l_0
  have v3 : (T5.1 3 t).toInt = 0 := by rw [e5, mz_ne (Or.inl (by decide)), e4, mz_ne (Or.inl (by decide)), e3, mz_ne (Or.inl (by decide)), e2, mz_ne (Or.inl (by decide)), e1, ma_at]; exact l_0
  have v5 : (T5.1 5 t).toInt = 0 := by rw [z 5 t (Or.inl (by decide)) (Or.inl (by decide))]; exact h5
  have C5 : CL t T5 := fun c hc => by rw [v5] at hc; omega
  have p5 : T5.1 0 1 = T.1 0 1 := z 0 1 (Or.inl (by decide)) (Or.inr (by decide))
  have H5 : RuS P t T5 := ⟨I5, by rw [p5]; omega, by rw [z 0 11 (Or.inl (by decide)) (Or.inr (by decide))]; exact h11, ht, by rw [z 0 2 (Or.inl (by decide)) (Or.inr (by decide))]; exact h2, by omega, by omega, by omega, C5⟩
  refine wp_bind (tm_clauseHere_r H5) (fun q6 h6 => ?_)
  have p6 : q6.2.1 0 1 = T.1 0 1 := h6.1.2.2.2.2.1.trans p5
  have c68 := im_0_8 h6.1.1
  refine wp_bind (tm_readsAll_L35_r (T0 := T5) FU (b2i q6.1) q6.2 h6.1 (fun hb => ?_) (by decide)) (fun w12 h12 => ?_)
  · have b : q6.1 = true := by
      cases hq : q6.1 with
      | true => rfl
      | false => rw [hq] at hb; exact absurd rfl hb
    exact ⟨(h6.2 b).1, by rw [p6]; omega⟩
  refine wp_bind (Q := fun w => Dn P t T5 w.2) ?_ (fun w13 h13 => ?_)
  · refine wp_if (fun _ => wp_some h12.1) (fun e => ?_)
    have H := h12.2 e
    refine wp_bind (tm_see H.2.1 H.1) (fun q15 h15 => ?_)
    refine wp_if (fun _ => wp_some (h12.1.trans (H.dn h15.1))) (fun _ => ?_)
    exact wp_bind (tm_fails h15.1.2.2.2 h15.1.1) (fun q17 h17 => wp_some (h12.1.trans (H.dn (h15.1.trans h17.2))))
  refine wp_bind (Q := fun w => w = w13.2) ?_ (fun w18 h18 => ?_)
  · refine wp_if (fun _ => wp_some rfl) (fun _ => ?_)
    refine wp_eq (fun e => ?_) (fun _ => wp_some rfl)
    rw [h13.2.2.2.2.2.2, z 0 11 (Or.inl (by decide)) (Or.inr (by decide))] at e
    exfalso
    omega
  subst h18
  refine wp_letv (fun T24 e24 => ?_)
  have I24 : IQ P T24 := by
    rw [e24]
    exact IQ_mz h13.1 (show (0 : Int) ≤ (0 : Int32).toInt ∧ (0 : Int32).toInt ≤ 400 from ⟨by omega, by omega⟩) hp (by decide) (by decide)
  have zr : ∀ r, r ≠ 0 → T24.1 r = w13.2.1 r := fun r hr => by rw [e24]; exact mz_no _ _ _ hr
  have fin : IQ P T24 ∧ CL t T24 ∧ T24.1 10 = T.1 10 ∧ T24.1 0 2 = T.1 0 2 := by
    refine ⟨I24, ?_, ?_, ?_⟩
    · intro c hc
      rw [zr 5 (by decide)] at hc
      have y := h13.2.2.1 c hc
      unfold ClOk at y ⊢
      rw [zr 2 (by decide), zr 3 (by decide), zr 4 (by decide)]
      exact y
    · rw [zr 10 (by decide), h13.2.2.2.1]
      exact funext (fun j => z 10 j (Or.inl (by decide)) (Or.inl (by decide)))
    · rw [e24, mz_ne (by decide), h13.2.2.2.2.2.1]
      exact z 0 2 (Or.inl (by decide)) (Or.inr (by decide))
  exact wp_if (fun _ => wp_some fin) (fun _ => wp_some fin)
theorem tm_rule {P : Nat → Nat → Option Int} {T : mT} (hp : P 0 1 = none) (hp2 : P 0 2 = none) (hA : Aft P T) : wp (fm_rule T) (fun w => Aft P w.2) := by
  unfold fm_rule
  have l_0 : (0 : Int32).toInt = 0 := by decide
  have l_1 : (1 : Int32).toInt = 1 := by decide
  have l_6 : (6 : Int32).toInt = 6 := by decide
  obtain ⟨hI, hh⟩ := hA
  have c2 := im_0_2 hI
  refine wp_eq (fun _ => wp_some ⟨hI, hh⟩) (fun ne => ?_)
  obtain ⟨t, ht⟩ : ∃ t : Nat, (T.1 0 2).toInt = (t : Int) := ⟨(T.1 0 2).toInt.toNat, by omega⟩
  refine wp_letv (fun T2 e2 => ?_)
  have I2 : IQ P T2 := by
    rw [e2]
    exact IQ_mz hI (show (0 : Int) ≤ (T.1 0 2).toInt ∧ (T.1 0 2).toInt ≤ 6 from c2) (no_pinM hI.1 rfl) (by decide) (by decide)
  have v11 : T2.1 0 11 = T.1 0 2 := by rw [e2]; exact mz_at _ _ _
  have v2 : T2.1 0 2 = T.1 0 2 := by rw [e2]; exact mz_ne (by decide)
  have i11 : (T2.1 0 11).toNatClampNeg = t := cl_idx (by rw [v11]; exact ht)
  refine wp_bif (inb_of (by rw [v11]; omega) (by rw [v11]; omega)) ?_
  refine wp_letv (fun T3 e3 => ?_)
  rw [i11] at e3
  have I3 : IQ P T3 := by rw [e3]; exact IQ_5 I2 (by rw [v2]; omega) (by omega) (by omega)
  have z3 : ∀ r, r ≠ 5 → T3.1 r = T2.1 r := fun r hr => by rw [e3]; exact ma_no _ _ _ hr
  have r10 : T3.1 10 = T.1 10 := by rw [z3 10 (by decide), e2]; exact mz_no _ _ _ (by decide)
  refine wp_bind (tm_readsAll_r (t := t) hp I3 (by rw [z3 0 (by decide), v11]; exact ht) (by omega) (by rw [z3 0 (by decide), v2]; exact ht) (by rw [e3, ma_at]; exact l_0)) (fun q4 h4 => ?_)
  obtain ⟨I4, C4, t4, n4⟩ := h4
  have h4h : HrOk q4.2 := by
    unfold HrOk
    rw [t4, r10]
    exact hh
  refine wp_b (fun _ => wp_some ⟨I4, h4h⟩) (fun _ => ?_)
  have e42 : (q4.2.1 0 2).toInt = (t : Int) := by rw [n4, z3 0 (by decide), v2]; exact ht
  have u := tA (a := q4.2.1 0 2) (b := 1) (by omega) (by omega)
  refine wp_letv (fun T6 e6 => wp_some ?_)
  have zr : ∀ r, r ≠ 0 → T6.1 r = q4.2.1 r := fun r hr => by rw [e6]; exact mz_no _ _ _ hr
  have v6 : (T6.1 0 2).toInt = (t : Int) + 1 := by rw [e6, mz_at]; omega
  have I6 : IQ P T6 := by
    refine ⟨?_, ?_, ?_, ?_⟩
    · rw [e6]
      exact IM_ma (q := 0) I4.1 (show (0 : Int) ≤ (q4.2.1 0 2 + 1).toInt ∧ (q4.2.1 0 2 + 1).toInt ≤ 6 from ⟨by omega, by omega⟩) hp2
    · unfold Blks
      rw [zr 10 (by decide), zr 11 (by decide), zr 15 (by decide)]
      exact I4.2.1
    · intro t' c ht' hc
      rw [zr 5 (by decide)] at hc
      have y : ClOk q4.2 t' c := by
        by_cases e : t' = t
        · rw [e] at hc ⊢
          exact (C4 c hc).1
        · exact I4.2.2.1 t' c (by omega) hc
      unfold ClOk at y ⊢
      rw [zr 2 (by decide), zr 4 (by decide)]
      exact y
    · have f := I4.2.2.2
      unfold ForceOk at f ⊢
      rw [zr 16 (by decide), zr 18 (by decide), zr 10 (by decide), zr 11 (by decide), show T6.1 0 25 = q4.2.1 0 25 by rw [e6]; exact mz_ne (by decide), v6, show T6.1 0 22 = q4.2.1 0 22 by rw [e6]; exact mz_ne (by decide), show T6.2 = q4.2.2 by rw [e6]; rfl]
      rw [e42] at f
      exact ⟨by omega, fun k hk h8 => by have := f.2.1 k hk h8; omega, f.2.2⟩
  refine ⟨I6, ?_⟩
  unfold HrOk
  dsimp only
  rw [zr 10 (by decide)]
  exact h4h
