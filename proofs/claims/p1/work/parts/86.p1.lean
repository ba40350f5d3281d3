/-! ===== p1: the first call on a fresh object ===== -/
def Tr : cT → mT → Prop := fun _ _ => True
theorem n0le {p z : Int32} (hz : z = 0) (h : ¬ p < 0) : z ≤ p := by rw [hz]; exact Int32.not_lt.mp h
theorem z_k2 : Nat.beq (cK S0.2.2.1) 2 = true := rfl
theorem z_k2s : Nat.beq (cK S0.2.2.2) 2 = true := rfl
theorem z_is : S0.2.2.1 = 113 := rfl
theorem z_people : S0.1 113 9 = 0 := rfl
theorem z_has (p : Int32) : fc_X2_has 113 p S0 = some false := by
  unfold fc_X2_has
  by_cases h : p < 0
  · rw [if_pos h]
  · rw [if_neg h, if_pos (n0le z_people h)]
theorem z_two (p q : Int32) : fc_X2_hasTwo 113 p q S0 = some false := by
  unfold fc_X2_hasTwo
  rw [z_has]
  rfl
theorem z_mark (p : Int32) : fc_X2_hasMark 113 p S0 = some false := by
  unfold fc_X2_hasMark
  by_cases h : p < 0
  · rw [if_pos h]
  · rw [if_neg h, if_pos (n0le (show S0.1 113 8 = 0 from rfl) h)]
theorem z_tel (p : Int32) : fc_X6_has (113 + 6) p S0 = some false := by
  unfold fc_X6_has
  by_cases h : p < 0
  · rw [if_pos h]
  · rw [if_neg h, if_pos (n0le (show S0.1 (113 + 6) 3 = 0 from rfl) h)]
theorem z_view (p : Int32) : fc_X6_has (113 + 10) p S0 = some false := by
  unfold fc_X6_has
  by_cases h : p < 0
  · rw [if_pos h]
  · rw [if_neg h, if_pos (n0le (show S0.1 (113 + 10) 3 = 0 from rfl) h)]
theorem z_rule (p : Int32) : fc_X11_isRule 0 p S0 = some false := by
  unfold fc_X11_isRule
  by_cases h : p < 0
  · rw [if_pos h]
  · rw [if_neg h, if_pos (n0le (show S0.1 0 11 = 0 from rfl) h)]
theorem z_act : fc_X11_canAct 0 S0 = some false := by
  unfold fc_X11_canAct
  rw [z_k2, cond_true, z_is]
  exact if_pos (by rw [z_people]; decide)
theorem z_canTell : fc_X11_canTell 0 S0 = some false := by
  unfold fc_X11_canTell
  rw [z_act]
  rfl
theorem z_person (p : Int32) : fm_isPerson p T0 = some false := by
  unfold fm_isPerson
  by_cases h : p < 0
  · rw [if_pos h]
  · rw [if_neg h]
    exact if_pos (n0le rfl h)
theorem z_mrule (p : Int32) : fm_isRule p T0 = some false := by
  unfold fm_isRule
  by_cases h : p < 0
  · rw [if_pos h]
  · rw [if_neg h, if_pos (n0le (show T0.1 0 2 = 0 from rfl) h)]
theorem z_mtel (p : Int32) : fm_isTelling p T0 = some false := by
  unfold fm_isTelling
  by_cases h : p < 0
  · rw [if_pos h]
  · rw [if_neg h]
    exact if_pos (n0le rfl h)
theorem z_isle : fm_isIsland T0 = some false := by decide +kernel
theorem z_hour : fm_isHourLeft T0 = some false := by decide +kernel
theorem z_mark0 : fm_allMarks T0 = some 0 := by decide +kernel
theorem St_of {f : Option (Int32 × cT)} {g : Option (Int32 × mT)} {v : Int32} (hf : f.map Prod.fst = some v) (hg : g.map Prod.fst = some v) : St true Tr f g := by
  obtain ⟨q, hq, e1⟩ := Option.map_eq_some_iff.mp hf
  obtain ⟨w, hw, e2⟩ := Option.map_eq_some_iff.mp hg
  exact ⟨q, w, hq, hw, fun _ => e1.trans e2.symm, trivial⟩
theorem St_s {f : Option (Int32 × cT)} {g : Option (Int32 × mT)} {q : Int32 × cT} {w : Int32 × mT} (hf : f = some q) (hg : g = some w) (h : q.1 = w.1) : St true Tr f g := ⟨q, w, hf, hg, fun _ => h, trivial⟩
theorem fm_in_eq (x a b : Int64) : fm_in x a b = some (decide (a ≤ x ∧ x ≤ b)) := by
  unfold fm_in
  by_cases h1 : x < a
  · rw [if_pos ((lg_cmp_lt x a).mpr h1), decide_eq_false (fun q => Int64.not_le.mpr h1 q.1)]
  · rw [if_neg (fun q => h1 ((lg_cmp_lt x a).mp q))]
    by_cases h2 : b < x
    · rw [if_pos ((lg_cmp_gt x b).mpr h2), decide_eq_false (fun q => Int64.not_le.mpr h2 q.2)]
    · rw [if_neg (fun q => h2 ((lg_cmp_gt x b).mp q)), decide_eq_true ⟨Int64.not_lt.mp h1, Int64.not_lt.mp h2⟩]
theorem i64le {a b : Int64} : a ≤ b ↔ a.toInt ≤ b.toInt := Int64.le_iff_toInt_le
theorem in_p {p : Int32} {a b : Int64} {x y : Int} (ha : a.toInt = x) (hb : b.toInt = y) : fm_in p.toInt64 a b = some (decide (x ≤ p.toInt ∧ p.toInt ≤ y)) := by
  rw [fm_in_eq]
  congr 1
  rw [decide_eq_decide, i64le, i64le, Int32.toInt_toInt64, ha, hb]
/-- reading behind writing -/
theorem ca_at (S : cT) (q i : Nat) (v : Int32) : (ca S q i v).1 q i = v := by
  show va_up S.1 q (upd (S.1 q) i v) q i = v
  rw [va_up_self]
  exact if_pos rfl
theorem ca_no (S : cT) {q q' : Nat} (i : Nat) (v : Int32) (h : q' ≠ q) : (ca S q i v).1 q' = S.1 q' := va_up_ne _ _ h
theorem ca_ni (S : cT) (q : Nat) {i i' : Nat} (v : Int32) (h : i' ≠ i) : (ca S q i v).1 q i' = S.1 q i' := by
  show va_up S.1 q (upd (S.1 q) i v) q i' = _
  rw [va_up_self]
  exact if_neg h
theorem ma_at (S : mT) (q i : Nat) (v : Int32) : (ma S q i v).1 q i = v := by
  show va_up S.1 q (upd (S.1 q) i v) q i = v
  rw [va_up_self]
  exact if_pos rfl
theorem ma_no (S : mT) {q q' : Nat} (i : Nat) (v : Int32) (h : q' ≠ q) : (ma S q i v).1 q' = S.1 q' := va_up_ne _ _ h
theorem mz_at (S : mT) (i : Nat) (v : Int32) : (mz S i v).1 0 i = v := by
  show va_up S.1 0 (upd (S.1 0) i v) 0 i = v
  rw [va_up_self]
  exact if_pos rfl
theorem inb_n {n N : Nat} (h : n < N) (hN : n < 2 ^ 31) : inb (nI n) N = true := by
  unfold inb
  rw [decide_eq_false (nI_pos hN), nI_clamp hN]
  exact Nat.ble_eq_true_of_le h
theorem app_st {p : Int32} {N : Nat} {a : Int32} {S : cT} {n : Nat} (ha : ¬ a < 0) (hn : S.1 1 4 = nI n) (h : n < 400) : ∃ v, fc_X10_append_L3 1 p (N + 1) a S = fc_X10_append_L3 1 p N (a + (-8)) (ca (ca S 2 n v) 1 4 (nI (n + 1))) := by
  apply Exists.intro
  rw [fc_X10_append_L3, if_neg ha, hn, if_neg (nI_pos (by omega)), if_neg (show ¬ (400 : Int32) ≤ nI n from nI_ge (a := n) (b := 400) h (by omega)), inb_n h (by omega), cond_true, nI_clamp (by omega)]
  simp only [letv]
  rw [ca_no _ _ _ (show (1 : Nat) ≠ 1 + 1 by decide), hn, nI_1]
theorem app_ok (S : cT) (p : Int32) (n : Nat) (hn : S.1 1 4 = nI n) (h : n + 4 ≤ 400) : ∃ S', fc_X10_append 1 p S = some S' ∧ S'.1 1 4 = nI (n + 4) := by
  unfold fc_X10_append
  rw [show FU = 999995 + 1 + 1 + 1 + 1 + 1 from rfl]
  obtain ⟨v1, e1⟩ := app_st (p := p) (N := 999995 + 1 + 1 + 1 + 1) (a := 24) (by decide) hn (by omega)
  obtain ⟨v2, e2⟩ := app_st (p := p) (N := 999995 + 1 + 1 + 1) (a := 24 + (-8)) (S := ca (ca S 2 n v1) 1 4 (nI (n + 1))) (n := n + 1) (by decide) (ca_at _ _ _ _) (by omega)
  obtain ⟨v3, e3⟩ := app_st (p := p) (N := 999995 + 1 + 1) (a := 24 + (-8) + (-8)) (S := ca (ca (ca (ca S 2 n v1) 1 4 (nI (n + 1))) 2 (n + 1) v2) 1 4 (nI (n + 1 + 1))) (n := n + 1 + 1) (by decide) (ca_at _ _ _ _) (by omega)
  obtain ⟨v4, e4⟩ := app_st (p := p) (N := 999995 + 1) (a := 24 + (-8) + (-8) + (-8)) (S := ca (ca (ca (ca (ca (ca S 2 n v1) 1 4 (nI (n + 1))) 2 (n + 1) v2) 1 4 (nI (n + 1 + 1))) 2 (n + 1 + 1) v3) 1 4 (nI (n + 1 + 1 + 1))) (n := n + 1 + 1 + 1) (by decide) (ca_at _ _ _ _) (by omega)
  rw [e1, e2, e3, e4, fc_X10_append_L3, if_pos (by decide)]
  exact ⟨_, rfl, ca_at _ _ _ _⟩
theorem four_st {p : Int32} {N : Nat} {a : Int32} {S : mT} {n : Nat} (ha : ¬ a < 0) (hn : S.1 0 1 = nI n) (h : n < 400) : ∃ v, fm_four_L3 p (N + 1) a S = fm_four_L3 p N (a + (-8)) (mz (ma S 1 n v) 1 (nI (n + 1))) := by
  apply Exists.intro
  rw [fm_four_L3, if_neg ha, hn, inb_n h (by omega), cond_true, nI_clamp (by omega)]
  simp only [letv]
  rw [ma_no _ _ _ (show (0 : Nat) ≠ 1 by decide), hn, nI_1]
theorem four_ok (S : mT) (p : Int32) (n : Nat) (hn : S.1 0 1 = nI n) (h : n + 4 ≤ 400) : ∃ S', fm_four p S = some S' ∧ S'.1 0 1 = nI (n + 4) := by
  unfold fm_four
  rw [show FU = 999995 + 1 + 1 + 1 + 1 + 1 from rfl]
  obtain ⟨v1, e1⟩ := four_st (p := p) (N := 999995 + 1 + 1 + 1 + 1) (a := 24) (by decide) hn (by omega)
  obtain ⟨v2, e2⟩ := four_st (p := p) (N := 999995 + 1 + 1 + 1) (a := 24 + (-8)) (S := mz (ma S 1 n v1) 1 (nI (n + 1))) (n := n + 1) (by decide) (mz_at _ _ _) (by omega)
  obtain ⟨v3, e3⟩ := four_st (p := p) (N := 999995 + 1 + 1) (a := 24 + (-8) + (-8)) (S := mz (ma (mz (ma S 1 n v1) 1 (nI (n + 1))) 1 (n + 1) v2) 1 (nI (n + 1 + 1))) (n := n + 1 + 1) (by decide) (mz_at _ _ _) (by omega)
  obtain ⟨v4, e4⟩ := four_st (p := p) (N := 999995 + 1) (a := 24 + (-8) + (-8) + (-8)) (S := mz (ma (mz (ma (mz (ma S 1 n v1) 1 (nI (n + 1))) 1 (n + 1) v2) 1 (nI (n + 1 + 1))) 1 (n + 1 + 1) v3) 1 (nI (n + 1 + 1 + 1))) (n := n + 1 + 1 + 1) (by decide) (mz_at _ _ _) (by omega)
  rw [e1, e2, e3, e4, fm_four_L3, if_pos (by decide)]
  exact ⟨_, rfl, mz_at _ _ _⟩
theorem q_feed (a1 a2 a3 a4 a5 : Int32) : St true Tr (fc_X11_feed 0 a1 a2 a3 a4 a5 S0) (fm_feed a1 a2 a3 a4 a5 T0) := by
  obtain ⟨s1, e1, h1⟩ := app_ok S0 a1 0 rfl (by decide)
  obtain ⟨s2, e2, h2⟩ := app_ok s1 a2 (0 + 4) h1 (by decide)
  obtain ⟨s3, e3, h3⟩ := app_ok s2 a3 (0 + 4 + 4) h2 (by decide)
  obtain ⟨s4, e4, h4⟩ := app_ok s3 a4 (0 + 4 + 4 + 4) h3 (by decide)
  obtain ⟨s5, e5, h5⟩ := app_ok s4 a5 (0 + 4 + 4 + 4 + 4) h4 (by decide)
  obtain ⟨t1, d1, g1⟩ := four_ok T0 a1 0 rfl (by decide)
  obtain ⟨t2, d2, g2⟩ := four_ok t1 a2 (0 + 4) g1 (by decide)
  obtain ⟨t3, d3, g3⟩ := four_ok t2 a3 (0 + 4 + 4) g2 (by decide)
  obtain ⟨t4, d4, g4⟩ := four_ok t3 a4 (0 + 4 + 4 + 4) g3 (by decide)
  obtain ⟨t5, d5, g5⟩ := four_ok t4 a5 (0 + 4 + 4 + 4 + 4) g4 (by decide)
  refine St_s (q := (s5.1 1 4, s5)) (w := (t5.1 0 1, t5)) ?_ ?_ (h5.trans g5.symm)
  · unfold fc_X11_feed
    rw [if_pos (by decide), show (0 + 1 : Nat) = 1 from rfl, e1, Option.bind_some, e2, Option.bind_some, e3, Option.bind_some, e4, Option.bind_some, e5, Option.bind_some]
  · unfold fm_feed
    rw [if_pos (by decide), d1, Option.bind_some, d2, Option.bind_some, d3, Option.bind_some, d4, Option.bind_some, d5, Option.bind_some]
theorem q_end (a1 : Int32) : St true Tr (fc_X11_end 0 a1 S0) (fm_end a1 T0) := by
  unfold fc_X11_end fm_end
  by_cases h : a1 < 0
  · rw [if_pos h, if_pos h]
    exact St_s rfl rfl rfl
  · rw [if_neg h, if_neg h]
    by_cases h2 : a1 ≤ 0
    · rw [if_pos (show a1 ≤ S0.1 (0 + 1) 4 from h2), if_pos (show a1 ≤ T0.1 0 1 from h2)]
      exact St_s rfl rfl rfl
    · rw [if_neg (show ¬ a1 ≤ S0.1 (0 + 1) 4 from h2), if_neg (show ¬ a1 ≤ T0.1 0 1 from h2)]
      exact St_s rfl rfl rfl
set_option maxRecDepth 100000 in
theorem q_island : St true Tr (fc_X11_island 0 S0) (fm_island T0) := St_of (v := -3) (by decide +kernel) (by decide +kernel)
set_option maxRecDepth 100000 in
theorem q_rule : St true Tr (fc_X11_rule 0 S0) (fm_rule T0) := St_of (v := -3) (by decide +kernel) (by decide +kernel)
theorem z_none (p : Int32) (h : ¬ p = -1) : fc_X11_isRuleOrNone 0 p S0 = some false := by
  unfold fc_X11_isRuleOrNone
  rw [if_neg h, z_rule]
  rfl
theorem z_mnone (p : Int32) (h : ¬ p = -1) : fm_mayBe p T0 = some false := by
  unfold fm_mayBe
  rw [if_neg h, z_mrule]
  rfl
theorem z_some : fc_X11_isRuleOrNone 0 (-1) S0 = some true := if_pos rfl
theorem q_force (a1 : Int32) : St true Tr (fc_X11_force 0 a1 S0) (fm_force a1 T0) := by
  unfold fc_X11_force fm_force
  by_cases h : a1 = -1
  · subst h
    rw [z_some, if_pos rfl]
    exact St_s rfl rfl rfl
  · rw [z_none _ h, if_neg h, z_mrule]
    exact St_s (q := (-2, S0)) (w := (-2, T0)) rfl rfl rfl
theorem q_person (a1 a2 : Int32) : St true Tr (fc_X11_person 0 a1 a2 S0) (fm_person a1 a2 T0) := by
  unfold fc_X11_person fm_person
  rw [z_k2, cond_true, z_is, z_has, z_person]
  exact St_s (q := (-1, S0)) (w := (-1, T0)) rfl rfl rfl
theorem q_sum (a1 a2 : Int32) : St true Tr (fc_X11_sum 0 a1 a2 S0) (fm_sum a1 a2 T0) := by
  unfold fc_X11_sum fm_sum
  rw [z_k2, cond_true, z_is, z_has, z_person]
  exact St_s (q := (-1000000, S0)) (w := (-1000000, T0)) rfl rfl rfl
theorem q_tie (a1 a2 : Int32) : St true Tr (wiS (fc_X11_tie 0 a1 a2 S0) S0) (wiT (fm_tie a1 a2 T0) T0) := by
  unfold fc_X11_tie fm_tie
  rw [z_k2, cond_true, z_is, z_two, z_person]
  exact St_s (q := (-1, S0)) (w := (-1, T0)) rfl rfl rfl
theorem q_telling (a1 a2 : Int32) : St true Tr (wiS (fc_X11_telling 0 a1 a2 S0) S0) (wiT (fm_telling a1 a2 T0) T0) := by
  unfold fc_X11_telling fm_telling
  rw [z_k2, cond_true, z_is, z_tel, z_mtel]
  exact St_s (q := (-2, S0)) (w := (-2, T0)) rfl rfl rfl
theorem q_tell (a1 a2 a3 a4 : Int32) : St true Tr (fc_X11_tell 0 a1 a2 a3 a4 S0) (fm_tell a1 a2 a3 a4 T0) := by
  unfold fc_X11_tell fm_tell
  by_cases h : a1 = -1
  · subst h
    rw [z_some, show fm_mayBe (-1) T0 = some true from if_pos rfl, z_k2, z_is, z_two, z_person]
    exact St_s (q := (-1, S0)) (w := (-1, T0)) rfl rfl rfl
  · rw [z_none _ h, z_mnone _ h]
    exact St_s (q := (-1, S0)) (w := (-1, T0)) rfl rfl rfl
theorem q_retell (a1 a2 a3 : Int32) : St true Tr (fc_X11_retell 0 a1 a2 a3 S0) (fm_retell a1 a2 a3 T0) := by
  unfold fc_X11_retell fm_retell
  rw [z_k2, cond_true, z_is, z_tel, z_mtel]
  exact St_s (q := (-1, S0)) (w := (-1, T0)) rfl rfl rfl
theorem q_look : St true Tr (fc_X11_look 0 S0) (fm_look T0) := by
  refine St_s (q := (-1, S0)) (w := (-1, T0)) ?_ ?_ rfl
  · unfold fc_X11_look
    rw [z_canTell]
    rfl
  · unfold fm_look
    rw [z_hour]
    rfl
theorem q_give (a1 : Int32) : St true Tr (fc_X11_give 0 a1 S0) (fm_give a1 T0) := by
  unfold fc_X11_give fm_give
  rw [z_act, z_person]
  exact St_s (q := (-1, S0)) (w := (-1, T0)) rfl rfl rfl
theorem q_save : St true Tr (fc_X11_save 0 S0) (fm_save T0) := by
  unfold fc_X11_save fm_save
  rw [z_act, z_hour]
  exact St_s (q := (-1, S0)) (w := (-1, T0)) rfl rfl rfl
theorem q_sell (a1 a2 a3 : Int32) : St true Tr (fc_X11_sell 0 a1 a2 a3 S0) (fm_sell a1 a2 a3 T0) := by
  unfold fc_X11_sell fm_sell
  rw [z_k2, cond_true, z_is, z_two, z_person]
  exact St_s (q := (-1, S0)) (w := (-1, T0)) rfl rfl rfl
theorem q_spend (a1 : Int32) : St true Tr (fc_X11_spend 0 a1 S0) (fm_spend a1 T0) := by
  unfold fc_X11_spend fm_spend
  rw [z_act, z_person]
  exact St_s (q := (-1, S0)) (w := (-1, T0)) rfl rfl rfl
theorem q_keep (a1 : Int32) : St true Tr (wbS (fc_X11_keep 0 a1 S0)) (wbT (fm_keep a1 T0)) := by
  unfold fc_X11_keep fm_keep
  rw [z_k2, cond_true, z_is, z_isle, if_pos z_people]
  exact St_s (q := (0, S0)) (w := (0, T0)) rfl rfl rfl
theorem q_rest : St true Tr (fc_X11_rest 0 S0) (fm_rest T0) := by
  unfold fc_X11_rest fm_rest
  rw [z_act, z_hour]
  exact St_s (q := (-1, S0)) (w := (-1, T0)) rfl rfl rfl
theorem q_undo : St true Tr (fc_X11_undo 0 S0) (fm_undo T0) := by
  unfold fc_X11_undo fm_undo
  rw [if_neg (show ¬ 1 ≤ S0.1 (0 + 99) 2 by decide), if_pos (show T0.1 0 25 = 0 from rfl)]
  exact St_s rfl rfl rfl
theorem q_run (a1 a2 : Int32) : St true Tr (fc_X11_run 0 a1 a2 S0) (fm_run a1 a2 T0) := by
  unfold fc_X11_run fm_run
  rw [z_rule, z_isle]
  exact St_s (q := (-1, S0)) (w := (-1, T0)) rfl rfl rfl
theorem q_lean (a1 : Int32) : St true Tr (wiS (fc_X11_lean 0 a1 S0) S0) (wiT (fm_lean a1 T0) T0) := by
  unfold fc_X11_lean fm_lean
  rw [z_k2, cond_true, z_is, z_has, z_person]
  exact St_s (q := (-1000000, S0)) (w := (-1000000, T0)) rfl rfl rfl
theorem q_likeliest (a1 a2 : Int32) : St true Tr (fc_X11_likeliest 0 a1 a2 S0) (wiT (fm_likeliest a1 a2 T0) T0) := by
  unfold fc_X11_likeliest fm_likeliest
  rw [z_k2, cond_true, z_is, z_has, z_person]
  exact St_s (q := (-1, S0)) (w := (-1, T0)) rfl rfl rfl
theorem q_flatters (a1 a2 : Int32) : St true Tr (wiS (fc_X11_flatters 0 a1 a2 S0) S0) (wiT (fm_flatters a1 a2 T0) T0) := by
  refine St_s (q := (-1000000, S0)) (w := (-1000000, T0)) ?_ ?_ rfl
  · unfold fc_X11_flatters
    rw [z_k2, cond_true, cond_true, z_is, z_has, if_pos (show S0.1 113 9 ≤ 0 by decide)]
    by_cases h : a2 = 0
    · rw [if_pos h]
      subst h
      rfl
    · rw [if_neg h]
      by_cases h1 : a2 = 1
      · rw [if_pos h1]
        rfl
      · rw [if_neg h1]
        rfl
  · unfold fm_flatters
    rw [z_isle]
    rfl
theorem q_ask (a1 a2 : Int32) : St true Tr (fc_X11_ask 0 a1 a2 S0) (fm_ask a1 a2 T0) := by
  unfold fc_X11_ask fm_ask
  rw [z_k2, cond_true, z_is, z_has, z_person]
  exact St_s (q := (-1, S0)) (w := (-1, T0)) rfl rfl rfl
theorem q_chain (a1 a2 : Int32) : St true Tr (wiS (fc_X11_chain 0 a1 a2 S0) S0) (wiT (fm_chain a1 a2 T0) T0) := by
  unfold fc_X11_chain fm_chain
  rw [z_k2, cond_true, z_is, z_tel, z_mtel]
  exact St_s (q := (-1, S0)) (w := (-1, T0)) rfl rfl rfl
theorem q_slip (a1 a2 : Int32) : St true Tr (wiS (fc_X11_slip 0 a1 a2 S0) S0) (wiT (fm_slip a1 a2 T0) T0) := by
  unfold fc_X11_slip fm_slip
  rw [z_k2, cond_true, z_is, z_tel, z_mtel]
  exact St_s (q := (-1, S0)) (w := (-1, T0)) rfl rfl rfl
theorem q_wish (a1 a2 a3 a4 : Int32) : St true Tr (fc_X11_wish 0 a1 a2 a3 a4 S0) (fm_wish a1 a2 a3 a4 T0) := by
  unfold fc_X11_wish fm_wish
  by_cases h : a1 = -1
  · rw [if_pos h, if_pos h]
    exact St_s (q := (0, S0)) (w := (0, _)) rfl rfl rfl
  · rw [if_neg h, if_neg h, z_k2, cond_true, z_is, z_has, z_person]
    exact St_s (q := (-2, S0)) (w := (-2, T0)) rfl rfl rfl
theorem q_round (a1 a2 : Int32) : St true Tr (fc_X11_round 0 a1 a2 S0) (fm_round a1 a2 T0) := by
  unfold fc_X11_round fm_round
  rw [z_k2, cond_true, z_is, z_isle, if_pos z_people]
  exact St_s (q := (-2, S0)) (w := (-2, T0)) rfl rfl rfl
theorem z_face (p : Int32) (h : ¬ p = 0) : fc_X2_isFace 113 p S0 = some false := by
  unfold fc_X2_isFace fc_X2_lastFace
  by_cases h1 : p < 0
  · rw [if_pos h1]
  · rw [if_neg h1, Option.bind_some, if_pos]
    rw [show (((1 : Int32) <<< ((S0.1 113 8) &&& 31)) - 1) = 0 from by decide +kernel]
    rw [Int32.lt_iff_toInt_lt] at h1 ⊢
    have h2 : p.toInt ≠ 0 := fun e => h (Int32.toInt_inj.mp (by rw [e]; decide))
    have h3 : (0 : Int32).toInt = 0 := by decide
    omega
theorem q_view (a1 a2 : Int32) : St true Tr (fc_X11_view 0 a1 a2 S0) (fm_view a1 a2 T0) := by
  unfold fc_X11_view fm_view
  by_cases h : a1 = -1
  · rw [if_pos h, if_pos h]
    exact St_s (q := (0, S0)) (w := (0, _)) rfl rfl rfl
  · rw [if_neg h, if_neg h, z_isle]
    by_cases h0 : a1 = 0
    · rw [if_pos h0]
      exact St_s (q := (-2, S0)) (w := (-2, T0)) rfl rfl rfl
    · rw [if_neg h0, z_k2, cond_true, z_is, z_face _ h0]
      exact St_s (q := (-2, S0)) (w := (-2, T0)) rfl rfl rfl
theorem q_fits (a1 : Int32) : St true Tr (wiS (fc_X11_fits 0 a1 S0) S0) (wiT (fm_fits a1 T0) T0) := by
  refine St_s (q := (-1, S0)) (w := (-1, T0)) ?_ ?_ rfl
  · unfold fc_X11_fits
    rw [z_k2, cond_true, z_is, z_view]
    rfl
  · unfold fm_fits
    rw [show inb 409 410 = true by decide +kernel, cond_true]
    show wiT ((fm_in a1.toInt64 0 (Int64.ofInt (-1))).bind _) T0 = _
    rw [in_p (x := 0) (y := -1) (by decide +kernel) (by decide +kernel), decide_eq_false (by omega)]
    rfl
theorem q_views (a1 : Int32) : St true Tr (fc_X11_views 0 a1 S0) (fm_views a1 T0) := by
  unfold fc_X11_views fm_views
  rw [z_k2, cond_true, z_is, z_isle, if_pos z_people]
  exact St_s (q := (-1, S0)) (w := (-1, T0)) rfl rfl rfl
theorem q_seed (a1 : Int32) : St true Tr (fc_X11_seed 0 a1 S0) (fm_seed a1 T0) := by
  unfold fc_X11_seed fm_seed
  by_cases h : 0 ≤ a1
  · rw [if_pos h, if_pos h]
    exact St_s rfl rfl rfl
  · rw [if_neg h, if_neg h]
    exact St_s rfl rfl rfl
theorem q_drawn (a1 a2 a3 a4 a5 : Int32) : St true Tr (fc_X11_drawn 0 a1 a2 a3 a4 a5 S0) (fm_drawn a1 a2 a3 a4 a5 T0) := by
  refine St_s (q := (-1, S0)) (w := (-1, T0)) ?_ ?_ rfl
  · unfold fc_X11_drawn
    by_cases h : a1 = -1
    · subst h
      rw [z_some, z_k2, z_is, if_pos z_people]
      rfl
    · rw [z_none _ h]
      rfl
  · unfold fm_drawn
    rw [z_isle]
    rfl
theorem q_count (a1 : Int32) : St true Tr (wiS (fc_X11_count 0 a1 S0) S0) (wiT (fm_count a1 T0) T0) := by
  unfold fc_X11_count fm_count
  by_cases h0 : a1 = 0
  · rw [if_pos h0, if_pos h0]; subst h0; exact St_of (v := 0) (by decide +kernel) (by decide +kernel)
  rw [if_neg h0, if_neg h0]
  by_cases h1 : a1 = 1
  · rw [if_pos h1, if_pos h1]; subst h1; exact St_of (v := 0) (by decide +kernel) (by decide +kernel)
  rw [if_neg h1, if_neg h1]
  by_cases h2 : a1 = 2
  · rw [if_pos h2, if_pos h2]; exact St_of (v := 0) (by decide +kernel) (by decide +kernel)
  rw [if_neg h2, if_neg h2]
  by_cases h3 : a1 = 3
  · rw [if_pos h3, if_pos h3]; exact St_of (v := -1) (by decide +kernel) (by decide +kernel)
  rw [if_neg h3, if_neg h3]
  by_cases h4 : a1 = 4
  · rw [if_pos h4, if_pos h4]; exact St_of (v := 0) (by decide +kernel) (by decide +kernel)
  rw [if_neg h4, if_neg h4]
  by_cases h5 : a1 = 5
  · rw [if_pos h5, if_pos h5]; exact St_of (v := -1) (by decide +kernel) (by decide +kernel)
  rw [if_neg h5, if_neg h5]
  by_cases h6 : a1 = 6
  · rw [if_pos h6, if_pos h6]; exact St_of (v := 0) (by decide +kernel) (by decide +kernel)
  rw [if_neg h6, if_neg h6]
  by_cases h7 : a1 = 7
  · rw [if_pos h7, if_pos h7]; exact St_of (v := 0) (by decide +kernel) (by decide +kernel)
  rw [if_neg h7, if_neg h7]
  by_cases h8 : a1 = 8
  · rw [if_pos h8, if_pos h8]; exact St_of (v := 0) (by decide +kernel) (by decide +kernel)
  rw [if_neg h8, if_neg h8]
  by_cases h9 : a1 = 9
  · rw [if_pos h9, if_pos h9]; exact St_of (v := 0) (by decide +kernel) (by decide +kernel)
  rw [if_neg h9, if_neg h9]
  by_cases h10 : a1 = 10
  · rw [if_pos h10, if_pos h10]; exact St_of (v := 0) (by decide +kernel) (by decide +kernel)
  rw [if_neg h10, if_neg h10]
  by_cases h11 : a1 = 11
  · rw [if_pos h11, if_pos h11]; exact St_of (v := 0) (by decide +kernel) (by decide +kernel)
  rw [if_neg h11, if_neg h11]
  exact St_of (v := -1) (by decide +kernel) (by decide +kernel)
theorem i03 {p : Int32} (h : 0 ≤ p.toInt ∧ p.toInt ≤ 3) : p = 0 ∨ p = 1 ∨ p = 2 ∨ p = 3 := by
  have e0 : (0 : Int32).toInt = 0 := by decide
  have e1 : (1 : Int32).toInt = 1 := by decide
  have e2 : (2 : Int32).toInt = 2 := by decide
  have e3 : (3 : Int32).toInt = 3 := by decide
  rcases (show p.toInt = 0 ∨ p.toInt = 1 ∨ p.toInt = 2 ∨ p.toInt = 3 by omega) with h | h | h | h
  · exact Or.inl (Int32.toInt_inj.mp (h.trans e0.symm))
  · exact Or.inr (Or.inl (Int32.toInt_inj.mp (h.trans e1.symm)))
  · exact Or.inr (Or.inr (Or.inl (Int32.toInt_inj.mp (h.trans e2.symm))))
  · exact Or.inr (Or.inr (Or.inr (Int32.toInt_inj.mp (h.trans e3.symm))))
theorem z_in03 {p : Int32} (h : ¬ (0 ≤ p.toInt ∧ p.toInt ≤ 3)) : fm_in p.toInt64 0 3 = some false := by
  rw [in_p (x := 0) (y := 3) (by decide) (by decide), decide_eq_false h]
theorem img_st {k1 : Int32} {N : Nat} {n : Nat} {T : mT} {k : Nat} (hk1 : k1 = nI k) (hk : k < 4) (h : n < 410) : ∃ v, fm_image_L43 k1 (N + 1) (nI n) T = fm_image_L43 k1 N (nI (n + 1)) (ma T 15 (410 * k + n) v) := by
  apply Exists.intro
  have e : (410 * k1 + nI n) = nI (410 * k + n) := by
    rw [hk1, show (410 : Int32) = nI 410 from rfl, ← nI_add]
    congr 1
    exact (Int32.ofNat_mul 410 k).symm
  rw [fm_image_L43, if_neg (show ¬ (410 : Int32) ≤ nI n from nI_ge (a := n) (b := 410) h (by omega)), inb_n h (by omega), cond_true]
  simp only [letv]
  rw [e, inb_n (by omega) (by omega), cond_true, nI_clamp (n := 410 * k + n) (by omega), nI_1]
theorem img_ok {k1 : Int32} {k : Nat} (hk1 : k1 = nI k) (hk : k < 4) : ∀ (d N n : Nat) (T : mT), n + d = 410 → d < N → ∃ T', fm_image_L43 k1 N (nI n) T = some (nI 410, T') ∧ T'.1 10 = T.1 10 := by
  intro d
  induction d with
  | zero =>
    intro N n T hn hN
    obtain ⟨N, rfl⟩ : ∃ M, N = M + 1 := ⟨N - 1, by omega⟩
    have : n = 410 := by omega
    subst this
    rw [fm_image_L43, if_pos (show (410 : Int32) ≤ nI 410 by decide +kernel)]
    exact ⟨T, rfl, rfl⟩
  | succ d ih =>
    intro N n T hn hN
    obtain ⟨N, rfl⟩ : ∃ M, N = M + 1 := ⟨N - 1, by omega⟩
    obtain ⟨v, hv⟩ := img_st (N := N) (n := n) (T := T) hk1 hk (by omega)
    obtain ⟨T', h1, h2⟩ := ih N (n + 1) (ma T 15 (410 * k + n) v) (by omega) (by omega)
    exact ⟨T', hv.trans h1, h2.trans (ma_no _ _ _ (by decide))⟩
theorem q_image_m {k1 : Int32} {k : Nat} (hk1 : k1 = nI k) (hk : k < 4) : (fm_image k1 T0).map Prod.fst = some 0 := by
  unfold fm_image
  rw [in_p (x := 0) (y := 3) (by decide) (by decide), decide_eq_true (by rw [hk1, nI_toInt (by omega)]; omega)]
  have hb : inb k1 4 = true := by rw [hk1]; exact inb_n hk (by omega)
  rw [Option.bind_some, if_neg (by decide), hb]
  simp only [cond_true, letv]
  obtain ⟨T', h1, h2⟩ := img_ok hk1 hk 410 FU 0 (ma (ma (ma T0 18 k1.toNatClampNeg (vp_nar .boolean 1)) 16 k1.toNatClampNeg ((ma T0 18 k1.toNatClampNeg (vp_nar .boolean 1)).1 0 22)) 17 k1.toNatClampNeg ((ma (ma T0 18 k1.toNatClampNeg (vp_nar .boolean 1)) 16 k1.toNatClampNeg ((ma T0 18 k1.toNatClampNeg (vp_nar .boolean 1)).1 0 22)).1 0 23)) rfl (by decide +kernel)
  rw [show nI 0 = 0 from rfl] at h1
  rw [h1, show inb 2 410 = true by decide +kernel]
  simp only [Option.bind_some, cond_true, Option.map_some]
  rw [h2, ma_no _ _ _ (by decide), ma_no _ _ _ (by decide), ma_no _ _ _ (by decide)]
  rfl
theorem q_image (a1 : Int32) : St true Tr (fc_X11_image 0 a1 S0) (fm_image a1 T0) := by
  by_cases h : 0 ≤ a1.toInt ∧ a1.toInt ≤ 3
  · rcases i03 h with rfl | rfl | rfl | rfl
    · exact St_of (v := 0) (by decide +kernel) (q_image_m (k := 0) rfl (by decide))
    · exact St_of (v := 0) (by decide +kernel) (q_image_m (k := 1) rfl (by decide))
    · exact St_of (v := 0) (by decide +kernel) (q_image_m (k := 2) rfl (by decide))
    · exact St_of (v := 0) (by decide +kernel) (q_image_m (k := 3) rfl (by decide))
  · refine St_s (q := (-1, S0)) (w := (-1, T0)) ?_ ?_ rfl
    · unfold fc_X11_image
      by_cases h1 : a1 < 0
      · rw [if_pos h1]
      · rw [if_neg h1, if_neg]
        rw [Int32.lt_iff_toInt_lt] at h1 ⊢
        have e0 : (0 : Int32).toInt = 0 := by decide
        have e4 : (4 : Int32).toInt = 4 := by decide
        omega
    · unfold fm_image
      rw [z_in03 h]
      rfl
theorem q_back (a1 : Int32) : St true Tr (fc_X11_back 0 a1 S0) (fm_back a1 T0) := by
  by_cases h : 0 ≤ a1.toInt ∧ a1.toInt ≤ 3
  · rcases i03 h with rfl | rfl | rfl | rfl
    · exact St_of (v := -1) (by decide +kernel) (by decide +kernel)
    · exact St_of (v := -1) (by decide +kernel) (by decide +kernel)
    · exact St_of (v := -1) (by decide +kernel) (by decide +kernel)
    · exact St_of (v := -1) (by decide +kernel) (by decide +kernel)
  · refine St_s (q := (-1, S0)) (w := (-1, T0)) ?_ ?_ rfl
    · unfold fc_X11_back
      by_cases h1 : a1 < 0
      · rw [if_pos h1]
      · rw [if_neg h1, if_pos]
        rw [Int32.lt_iff_toInt_lt] at h1
        rw [Int32.le_iff_toInt_le]
        have e0 : (0 : Int32).toInt = 0 := by decide
        have e4 : (4 : Int32).toInt = 4 := by decide
        omega
    · unfold fm_back
      rw [z_in03 h]
      rfl
theorem q_all (j : Nat) (hj : j ≤ 35) (a1 a2 a3 a4 a5 : Int32) : SStp Tr S0 T0 j a1 a2 a3 a4 a5 := by
  match j, hj with
  | 0, _ => exact q_feed _ _ _ _ _
  | 1, _ => exact q_end _
  | 2, _ => exact q_island
  | 3, _ => exact q_rule
  | 4, _ => exact q_force _
  | 5, _ => exact q_person _ _
  | 6, _ => exact q_sum _ _
  | 7, _ => exact q_tie _ _
  | 8, _ => exact q_telling _ _
  | 9, _ => exact q_tell _ _ _ _
  | 10, _ => exact q_retell _ _ _
  | 11, _ => exact q_look
  | 12, _ => exact q_give _
  | 13, _ => exact q_save
  | 14, _ => exact q_sell _ _ _
  | 15, _ => exact q_spend _
  | 16, _ => exact q_keep _
  | 17, _ => exact q_rest
  | 18, _ => exact q_undo
  | 19, _ => exact q_run _ _
  | 20, _ => exact q_lean _
  | 21, _ => exact q_likeliest _ _
  | 22, _ => exact q_flatters _ _
  | 23, _ => exact q_ask _ _
  | 24, _ => exact q_chain _ _
  | 25, _ => exact q_slip _ _
  | 26, _ => exact q_wish _ _ _ _
  | 27, _ => exact q_round _ _
  | 28, _ => exact q_view _ _
  | 29, _ => exact q_fits _
  | 30, _ => exact q_views _
  | 31, _ => exact q_seed _
  | 32, _ => exact q_drawn _ _ _ _ _
  | 33, _ => exact q_count _
  | 34, _ => exact q_image _
  | 35, _ => exact q_back _
  | j + 36, hj => omega
