/-! ===== cells behind writing; the first loops ===== -/
theorem n0le {p z : Int32} (hz : z = 0) (h : ¬ p < 0) : z ≤ p := by rw [hz]; exact Int32.not_lt.mp h
theorem fm_in_eq (x a b : Int64) : fm_in x a b = some (decide (a ≤ x ∧ x ≤ b)) := by
  unfold fm_in
  by_cases h1 : x < a
  · rw [if_pos ((lg_cmp_lt x a).mpr h1), decide_eq_false (fun q => Int64.not_le.mpr h1 q.1)]
  · rw [if_neg (fun q => h1 ((lg_cmp_lt x a).mp q))]
    by_cases h2 : b < x
    · rw [if_pos ((lg_cmp_gt x b).mpr h2), decide_eq_false (fun q => Int64.not_le.mpr h2 q.2)]
    · rw [if_neg (fun q => h2 ((lg_cmp_gt x b).mp q)), decide_eq_true ⟨Int64.not_lt.mp h1, Int64.not_lt.mp h2⟩]
theorem i64le {a b : Int64} : a ≤ b ↔ a.toInt ≤ b.toInt := Int64.le_iff_toInt_le
theorem in_p {p : Int32} {a b : Int64} {x y : Int} (ha : a.toInt = x) (hb : b.toInt = y) : fm_in p.toInt64 a b = some (decide (x ≤ p.toInt ∧ p.toInt ≤ y)) := by
  rw [fm_in_eq]
  congr 1
  rw [decide_eq_decide, i64le, i64le, Int32.toInt_toInt64, ha, hb]
theorem ca_at (S : cT) (q i : Nat) (v : Int32) : (ca S q i v).1 q i = v := by
  show va_up S.1 q (upd (S.1 q) i v) q i = v
  rw [va_up_self]
  exact if_pos rfl
theorem ca_no (S : cT) {q q' : Nat} (i : Nat) (v : Int32) (h : q' ≠ q) : (ca S q i v).1 q' = S.1 q' := va_up_ne _ _ h
theorem ca_ni (S : cT) (q : Nat) {i i' : Nat} (v : Int32) (h : i' ≠ i) : (ca S q i v).1 q i' = S.1 q i' := by
  show va_up S.1 q (upd (S.1 q) i v) q i' = _
  rw [va_up_self]
  exact if_neg h
theorem ma_at (S : mT) (q i : Nat) (v : Int32) : (ma S q i v).1 q i = v := by
  show va_up S.1 q (upd (S.1 q) i v) q i = v
  rw [va_up_self]
  exact if_pos rfl
theorem ma_no (S : mT) {q q' : Nat} (i : Nat) (v : Int32) (h : q' ≠ q) : (ma S q i v).1 q' = S.1 q' := va_up_ne _ _ h
theorem mz_at (S : mT) (i : Nat) (v : Int32) : (mz S i v).1 0 i = v := by
  show va_up S.1 0 (upd (S.1 0) i v) 0 i = v
  rw [va_up_self]
  exact if_pos rfl
theorem inb_n {n N : Nat} (h : n < N) (hN : n < 2 ^ 31) : inb (nI n) N = true := by
  unfold inb
  rw [decide_eq_false (nI_pos hN), nI_clamp hN]
  exact Nat.ble_eq_true_of_le h
theorem app_st {p : Int32} {N : Nat} {a : Int32} {S : cT} {n : Nat} (ha : ¬ a < 0) (hn : S.1 1 4 = nI n) (h : n < 400) : ∃ v, fc_X10_append_L3 1 p (N + 1) a S = fc_X10_append_L3 1 p N (a + (-8)) (ca (ca S 2 n v) 1 4 (nI (n + 1))) := by
  apply Exists.intro
  rw [fc_X10_append_L3, if_neg ha, hn, if_neg (nI_pos (by omega)), if_neg (show ¬ (400 : Int32) ≤ nI n from nI_ge (a := n) (b := 400) h (by omega)), inb_n h (by omega), cond_true, nI_clamp (by omega)]
  simp only [letv]
  rw [ca_no _ _ _ (show (1 : Nat) ≠ 1 + 1 by decide), hn, nI_1]
theorem app_ok (S : cT) (p : Int32) (n : Nat) (hn : S.1 1 4 = nI n) (h : n + 4 ≤ 400) : ∃ S', fc_X10_append 1 p S = some S' ∧ S'.1 1 4 = nI (n + 4) := by
  unfold fc_X10_append
  rw [show FU = 999995 + 1 + 1 + 1 + 1 + 1 from rfl]
  obtain ⟨v1, e1⟩ := app_st (p := p) (N := 999995 + 1 + 1 + 1 + 1) (a := 24) (by decide) hn (by omega)
  obtain ⟨v2, e2⟩ := app_st (p := p) (N := 999995 + 1 + 1 + 1) (a := 24 + (-8)) (S := ca (ca S 2 n v1) 1 4 (nI (n + 1))) (n := n + 1) (by decide) (ca_at _ _ _ _) (by omega)
  obtain ⟨v3, e3⟩ := app_st (p := p) (N := 999995 + 1 + 1) (a := 24 + (-8) + (-8)) (S := ca (ca (ca (ca S 2 n v1) 1 4 (nI (n + 1))) 2 (n + 1) v2) 1 4 (nI (n + 1 + 1))) (n := n + 1 + 1) (by decide) (ca_at _ _ _ _) (by omega)
  obtain ⟨v4, e4⟩ := app_st (p := p) (N := 999995 + 1) (a := 24 + (-8) + (-8) + (-8)) (S := ca (ca (ca (ca (ca (ca S 2 n v1) 1 4 (nI (n + 1))) 2 (n + 1) v2) 1 4 (nI (n + 1 + 1))) 2 (n + 1 + 1) v3) 1 4 (nI (n + 1 + 1 + 1))) (n := n + 1 + 1 + 1) (by decide) (ca_at _ _ _ _) (by omega)
  rw [e1, e2, e3, e4, fc_X10_append_L3, if_pos (by decide)]
  exact ⟨_, rfl, ca_at _ _ _ _⟩
theorem four_st {p : Int32} {N : Nat} {a : Int32} {S : mT} {n : Nat} (ha : ¬ a < 0) (hn : S.1 0 1 = nI n) (h : n < 400) : ∃ v, fm_four_L3 p (N + 1) a S = fm_four_L3 p N (a + (-8)) (mz (ma S 1 n v) 1 (nI (n + 1))) := by
  apply Exists.intro
  rw [fm_four_L3, if_neg ha, hn, inb_n h (by omega), cond_true, nI_clamp (by omega)]
  simp only [letv]
  rw [ma_no _ _ _ (show (0 : Nat) ≠ 1 by decide), hn, nI_1]
theorem four_ok (S : mT) (p : Int32) (n : Nat) (hn : S.1 0 1 = nI n) (h : n + 4 ≤ 400) : ∃ S', fm_four p S = some S' ∧ S'.1 0 1 = nI (n + 4) := by
  unfold fm_four
  rw [show FU = 999995 + 1 + 1 + 1 + 1 + 1 from rfl]
  obtain ⟨v1, e1⟩ := four_st (p := p) (N := 999995 + 1 + 1 + 1 + 1) (a := 24) (by decide) hn (by omega)
  obtain ⟨v2, e2⟩ := four_st (p := p) (N := 999995 + 1 + 1 + 1) (a := 24 + (-8)) (S := mz (ma S 1 n v1) 1 (nI (n + 1))) (n := n + 1) (by decide) (mz_at _ _ _) (by omega)
  obtain ⟨v3, e3⟩ := four_st (p := p) (N := 999995 + 1 + 1) (a := 24 + (-8) + (-8)) (S := mz (ma (mz (ma S 1 n v1) 1 (nI (n + 1))) 1 (n + 1) v2) 1 (nI (n + 1 + 1))) (n := n + 1 + 1) (by decide) (mz_at _ _ _) (by omega)
  obtain ⟨v4, e4⟩ := four_st (p := p) (N := 999995 + 1) (a := 24 + (-8) + (-8) + (-8)) (S := mz (ma (mz (ma (mz (ma S 1 n v1) 1 (nI (n + 1))) 1 (n + 1) v2) 1 (nI (n + 1 + 1))) 1 (n + 1 + 1) v3) 1 (nI (n + 1 + 1 + 1))) (n := n + 1 + 1 + 1) (by decide) (mz_at _ _ _) (by omega)
  rw [e1, e2, e3, e4, fm_four_L3, if_pos (by decide)]
  exact ⟨_, rfl, mz_at _ _ _⟩
theorem i03 {p : Int32} (h : 0 ≤ p.toInt ∧ p.toInt ≤ 3) : p = 0 ∨ p = 1 ∨ p = 2 ∨ p = 3 := by
  have e0 : (0 : Int32).toInt = 0 := by decide
  have e1 : (1 : Int32).toInt = 1 := by decide
  have e2 : (2 : Int32).toInt = 2 := by decide
  have e3 : (3 : Int32).toInt = 3 := by decide
  rcases (show p.toInt = 0 ∨ p.toInt = 1 ∨ p.toInt = 2 ∨ p.toInt = 3 by omega) with h | h | h | h
  · exact Or.inl (Int32.toInt_inj.mp (h.trans e0.symm))
  · exact Or.inr (Or.inl (Int32.toInt_inj.mp (h.trans e1.symm)))
  · exact Or.inr (Or.inr (Or.inl (Int32.toInt_inj.mp (h.trans e2.symm))))
  · exact Or.inr (Or.inr (Or.inr (Int32.toInt_inj.mp (h.trans e3.symm))))
theorem img_st {k1 : Int32} {N : Nat} {n : Nat} {T : mT} {k : Nat} (hk1 : k1 = nI k) (hk : k < 4) (h : n < 410) : ∃ v, fm_image_L43 k1 (N + 1) (nI n) T = fm_image_L43 k1 N (nI (n + 1)) (ma T 15 (410 * k + n) v) := by
  apply Exists.intro
  have e : (410 * k1 + nI n) = nI (410 * k + n) := by
    rw [hk1, show (410 : Int32) = nI 410 from rfl, ← nI_add]
    congr 1
    exact (Int32.ofNat_mul 410 k).symm
  rw [fm_image_L43, if_neg (show ¬ (410 : Int32) ≤ nI n from nI_ge (a := n) (b := 410) h (by omega)), inb_n h (by omega), cond_true]
  simp only [letv]
  rw [e, inb_n (by omega) (by omega), cond_true, nI_clamp (n := 410 * k + n) (by omega), nI_1]
theorem img_ok {k1 : Int32} {k : Nat} (hk1 : k1 = nI k) (hk : k < 4) : ∀ (d N n : Nat) (T : mT), n + d = 410 → d < N → ∃ T', fm_image_L43 k1 N (nI n) T = some (nI 410, T') ∧ T'.1 10 = T.1 10 := by
  intro d
  induction d with
  | zero =>
    intro N n T hn hN
    obtain ⟨N, rfl⟩ : ∃ M, N = M + 1 := ⟨N - 1, by omega⟩
    have : n = 410 := by omega
    subst this
    rw [fm_image_L43, if_pos (show (410 : Int32) ≤ nI 410 by decide +kernel)]
    exact ⟨T, rfl, rfl⟩
  | succ d ih =>
    intro N n T hn hN
    obtain ⟨N, rfl⟩ : ∃ M, N = M + 1 := ⟨N - 1, by omega⟩
    obtain ⟨v, hv⟩ := img_st (N := N) (n := n) (T := T) hk1 hk (by omega)
    obtain ⟨T', h1, h2⟩ := ih N (n + 1) (ma T 15 (410 * k + n) v) (by omega) (by omega)
    exact ⟨T', hv.trans h1, h2.trans (ma_no _ _ _ (by decide))⟩
