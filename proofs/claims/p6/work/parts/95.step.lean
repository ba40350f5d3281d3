/-! ===== p33: the step of both, and their start ===== -/
def J33 (S : cT) (T : mT) : Prop := ∃ x X M, RC x X M S ∧ RM x X M T
theorem st_of {I : cT → mT → Prop} {f : Option (Int32 × cT)} {g : Option (Int32 × mT)} {A : Int32 × cT → Prop} {B : Int32 × mT → Prop} (hf : wp f A) (hg : wp g B) (h : ∀ q w, A q → B w → I q.2 w.2) : St false I f g := by
  obtain ⟨q, e, a⟩ := hf
  obtain ⟨w, e', b⟩ := hg
  exact ⟨q, w, e, e', fun z => (by cases z), h q w a b⟩
theorem st_xm {x : Int} {X M : Nat → Int} {f : Option (Int32 × cT)} {g : Option (Int32 × mT)} (hf : wp f (fun w => RC x X M w.2)) (hg : wp g (fun w => RM x X M w.2)) : St false J33 f g := st_of hf hg (fun _ _ a b => ⟨x, X, M, a, b⟩)
theorem rc_w {x : Int} {X M : Nat → Int} {S : cT} {f : Option (Int32 × cT)} (h : wp f (fun w => IC (PC S.2.2.1 x X M) w.2 ∧ w.2.2.2 = S.2.2)) : wp f (fun w => RC x X M w.2) := wp_mono h (fun _ hw => RC_keep hw.1 hw.2)
theorem rc_i {x : Int} {X M : Nat → Int} {S : cT} {f : Option Int32} (hR : RC x X M S) (h : wp f (fun _ => True)) : wp (wiS f S) (fun w => RC x X M w.2) := by
  obtain ⟨a, e, _⟩ := h
  exact ⟨(a, S), by rw [e]; rfl, hR⟩
theorem rc_b {x : Int} {X M : Nat → Int} {S : cT} {f : Option (Bool × cT)} (h : wp f (fun w => IC (PC S.2.2.1 x X M) w.2 ∧ w.2.2.2 = S.2.2)) : wp (wbS f) (fun w => RC x X M w.2) := by
  obtain ⟨a, e, ha⟩ := h
  exact ⟨(b2i a.1, a.2), by rw [e]; rfl, RC_keep ha.1 ha.2⟩
theorem rm_i {x : Int} {X M : Nat → Int} {T : mT} {f : Option Int32} (hR : RM x X M T) (h : wp f (fun _ => True)) : wp (wiT f T) (fun w => RM x X M w.2) := by
  obtain ⟨a, e, _⟩ := h
  exact ⟨(a, T), by rw [e]; rfl, hR⟩
theorem rm_b {x : Int} {X M : Nat → Int} {f : Option (Bool × mT)} (h : wp f (fun w => Aft (PM x X M) w.2)) : wp (wbT f) (fun w => RM x X M w.2) := by
  obtain ⟨a, e, ha⟩ := h
  exact ⟨(b2i a.1, a.2), by rw [e]; rfl, ha⟩
theorem rm_r {x : Int} {X M : Nat → Int} {T : mT} {f : Option (Int32 × mT)} (hR : RM x X M T) (h : wp f (fun w => IQ (PM x X M) w.2 ∧ w.2.1 10 = T.1 10)) : wp f (fun w => RM x X M w.2) := wp_mono h (fun w hw => ⟨hw.1, by unfold HrOk; rw [hw.2]; exact hR.2⟩)
theorem rm_s {x : Int} {X M : Nat → Int} {T : mT} {f : Option (Int32 × mT)} (hR : RM x X M T) (h : wp f (fun w => IQ (PM x X M) w.2 ∧ Sm T w.2)) : wp f (fun w => RM x X M w.2) := rm_r hR (wp_mono h (fun _ hw => ⟨hw.1, hw.2.row (by decide)⟩))
theorem kz_lo (a : Int32) : 0 ≤ (kz a).toInt ∧ (kz a).toInt ≤ 1 := by
  unfold kz
  by_cases h : a = 0
  · rw [if_pos h]; decide
  · rw [if_neg h]; decide
theorem beq_no {a b : Nat} (h : a ≠ b) : Nat.beq a b = false := by
  cases e : Nat.beq a b with
  | false => rfl
  | true => exact absurd (Nat.eq_of_beq_eq_true e) h
theorem rg_S0 (q j : Nat) : (rgB q j).1 ≤ (S0i q j).toInt ∧ (S0i q j).toInt ≤ (rgB q j).2 := by
  have l_0 : (0 : Int32).toInt = 0 := by decide
  unfold rgB S0i
  by_cases h2 : cK q = 2
  · rw [h2]
    show (if j = 8 then ((0 : Int), (6 : Int)) else if j = 9 then (0, 8) else if j = 11 then (0, 1) else fullI).1 ≤ (bif Nat.beq j 13 then (-1 : Int32) else 0).toInt ∧ (bif Nat.beq j 13 then (-1 : Int32) else 0).toInt ≤ (if j = 8 then ((0 : Int), (6 : Int)) else if j = 9 then (0, 8) else if j = 11 then (0, 1) else fullI).2
    by_cases h13 : j = 13
    · subst h13; decide
    · rw [beq_no h13, cond_false, l_0]
      by_cases a : j = 8
      · rw [if_pos a]; decide
      · rw [if_neg a]
        by_cases b : j = 9
        · rw [if_pos b]; decide
        · rw [if_neg b]
          by_cases c : j = 11
          · rw [if_pos c]; decide
          · rw [if_neg c]; decide
  · by_cases h5 : cK q = 5
    · rw [h5]
      unfold rW rR
      generalize cN (q + 1) = n
      show (if j = 1 then ((if n = 280 then (7 : Int) else if n = 40 then 4 else 2), (if n = 280 then (7 : Int) else if n = 40 then 4 else 2)) else if j = 2 then ((if n = 280 then (40 : Int) else if n = 40 then 10 else 8), (if n = 280 then (40 : Int) else if n = 40 then 10 else 8)) else if j = 3 then (0, (if n = 280 then (40 : Int) else if n = 40 then 10 else 8)) else fullI).1 ≤ (bif Nat.beq j 1 then (bif Nat.beq n 280 then (7 : Int32) else bif Nat.beq n 40 then 4 else 2) else bif Nat.beq j 2 then (bif Nat.beq n 280 then 40 else bif Nat.beq n 40 then 10 else 8) else 0).toInt ∧ (bif Nat.beq j 1 then (bif Nat.beq n 280 then (7 : Int32) else bif Nat.beq n 40 then 4 else 2) else bif Nat.beq j 2 then (bif Nat.beq n 280 then 40 else bif Nat.beq n 40 then 10 else 8) else 0).toInt ≤ (if j = 1 then ((if n = 280 then (7 : Int) else if n = 40 then 4 else 2), (if n = 280 then (7 : Int) else if n = 40 then 4 else 2)) else if j = 2 then ((if n = 280 then (40 : Int) else if n = 40 then 10 else 8), (if n = 280 then (40 : Int) else if n = 40 then 10 else 8)) else if j = 3 then (0, (if n = 280 then (40 : Int) else if n = 40 then 10 else 8)) else fullI).2
      by_cases j1 : j = 1
      · subst j1
        by_cases a : n = 280
        · subst a; decide
        · by_cases b : n = 40
          · subst b; decide
          · rw [beq_no a, beq_no b, if_neg a, if_neg b, if_pos (rfl : (1 : Nat) = 1)]; decide
      · rw [beq_no j1, cond_false, if_neg j1]
        by_cases j2 : j = 2
        · subst j2
          by_cases a : n = 280
          · subst a; decide
          · by_cases b : n = 40
            · subst b; decide
            · rw [beq_no a, beq_no b, if_neg a, if_neg b]; decide
        · rw [beq_no j2, cond_false, if_neg j2, l_0]
          by_cases j3 : j = 3
          · rw [if_pos j3]
            by_cases a : n = 280
            · rw [if_pos a]; decide
            · rw [if_neg a]
              by_cases b : n = 40
              · rw [if_pos b]; decide
              · rw [if_neg b]; decide
          · rw [if_neg j3]; decide
    · rw [beq_no h2, beq_no h5, cond_false, cond_false, l_0]
      by_cases k4 : cK q = 4
      · rw [k4]
        show (if j = 3 then ((0 : Int), (16 : Int)) else fullI).1 ≤ 0 ∧ 0 ≤ (if j = 3 then ((0 : Int), (16 : Int)) else fullI).2
        by_cases a : j = 3
        · rw [if_pos a]; decide
        · rw [if_neg a]; decide
      · by_cases k6 : cK q = 6
        · rw [k6]
          show (if j = 5 then ((0 : Int), (400 : Int)) else if j = 6 then (0, 12) else fullI).1 ≤ 0 ∧ 0 ≤ (if j = 5 then ((0 : Int), (400 : Int)) else if j = 6 then (0, 12) else fullI).2
          by_cases a : j = 5
          · rw [if_pos a]; decide
          · rw [if_neg a]
            by_cases b : j = 6
            · rw [if_pos b]; decide
            · rw [if_neg b]; decide
        · by_cases k8 : cK q = 8
          · rw [k8]
            show (if j = 4 then ((0 : Int), (400 : Int)) else if j = 5 then (0, 401) else if j = 6 then (0, 400) else fullI).1 ≤ 0 ∧ 0 ≤ (if j = 4 then ((0 : Int), (400 : Int)) else if j = 5 then (0, 401) else if j = 6 then (0, 400) else fullI).2
            by_cases a : j = 4
            · rw [if_pos a]; decide
            · rw [if_neg a]
              by_cases b : j = 5
              · rw [if_pos b]; decide
              · rw [if_neg b]
                by_cases c : j = 6
                · rw [if_pos c]; decide
                · rw [if_neg c]; decide
          · by_cases k9 : cK q = 9
            · rw [k9]
              show (if j = 11 then ((0 : Int), (6 : Int)) else fullI).1 ≤ 0 ∧ 0 ≤ (if j = 11 then ((0 : Int), (6 : Int)) else fullI).2
              by_cases a : j = 11
              · rw [if_pos a]; decide
              · rw [if_neg a]; decide
            · generalize cK q = k at *
              split
              · exact absurd rfl h2
              · exact absurd rfl k4
              · exact absurd rfl h5
              · exact absurd rfl k6
              · exact absurd rfl k8
              · exact absurd rfl k9
              · decide
theorem rgS_z (j : Nat) : (rgS j).1 ≤ 0 ∧ 0 ≤ (rgS j).2 := by
  by_cases h : 112 ≤ j
  · exact rgS_0 h
  · have : ∀ i : Fin 112, (rgS i.1).1 ≤ 0 ∧ 0 ≤ (rgS i.1).2 := by decide +kernel
    exact this ⟨j, by omega⟩
theorem t0_0 (r j : Nat) (h : r ≠ 0 ∨ j ≠ 22) : T0.1 r j = 0 := by
  show (bif Nat.beq r 0 then (bif Nat.beq j 22 then (-1 : Int32) else 0) else 0) = 0
  by_cases a : r = 0
  · rw [beq_no (b := 22) (a := j) (by omega), cond_false]
    cases Nat.beq r 0 <;> rfl
  · rw [beq_no a, cond_false]
theorem rg0_z (j : Nat) : (rg0 j).1 ≤ 0 ∧ 0 ≤ (rg0 j).2 := by
  unfold rg0
  split <;> decide
theorem rg_T0 (r j : Nat) : (rgM r j).1 ≤ (T0.1 r j).toInt ∧ (T0.1 r j).toInt ≤ (rgM r j).2 := by
  have l_0 : (0 : Int32).toInt = 0 := by decide
  by_cases h : r = 0 ∧ j = 22
  · obtain ⟨rfl, rfl⟩ := h
    decide
  · rw [t0_0 r j (by omega), l_0]
    unfold rgM
    split
    · exact rg0_z j
    · decide
    · decide
    · by_cases a : j < 112
      · rw [if_pos a]; exact rgS_z j
      · rw [if_neg a]; decide
    · exact rgS_z j
    · exact rgS_z _
    · exact rgS_z j
    · exact rgS_z _
    · decide
    · decide
    · decide
    · decide
theorem start_C : RC 0 (fun _ => 0) (fun _ => 0) S0 := by
  refine ⟨rg_S0, fun q j v hv => ?_, Or.inl ⟨rfl, rfl⟩⟩
  have hv' : PC 113 0 (fun _ => 0) (fun _ => 0) q j = some v := hv
  unfold PC at hv'
  by_cases a : j = 14 ∧ q = 113
  · rw [if_pos a] at hv'
    obtain ⟨rfl, rfl⟩ := a
    exact ⟨rfl, Option.some.inj hv'⟩
  · rw [if_neg a] at hv'
    by_cases b : j = 14 ∧ (q = 50 ∨ q = 62 ∨ q = 74 ∨ q = 86)
    · rw [if_pos b] at hv'
      obtain ⟨rfl, b⟩ := b
      rcases b with rfl | rfl | rfl | rfl <;> exact ⟨rfl, Option.some.inj hv'⟩
    · rw [if_neg b] at hv'
      by_cases c : q = 98 ∧ j < 4
      · rw [if_pos c] at hv'
        obtain ⟨rfl, c⟩ := c
        exact ⟨rfl, Option.some.inj hv'⟩
      · rw [if_neg c] at hv'
        cases hv'
theorem start_M : RM 0 (fun _ => 0) (fun _ => 0) T0 := by
  have l_0 : (0 : Int32).toInt = 0 := by decide
  have z : ∀ r j, r ≠ 0 → (T0.1 r j).toInt = 0 := fun r j h => by rw [t0_0 r j (Or.inl h)]; exact l_0
  refine ⟨⟨⟨rg_T0, fun r j v hv => ?_⟩, ⟨⟨fun h => ?_, fun t ht => ?_⟩, fun k hk => ⟨⟨fun h => ?_, fun t ht => ?_⟩, ?_⟩, fun k hk => ⟨⟨fun h => ?_, fun t ht => ?_⟩, ?_⟩⟩, fun t c ht => ?_, ⟨?_, fun k hk h8 => ?_, ?_, ?_⟩⟩, ?_⟩
  · unfold PM at hv
    by_cases a : r = 0 ∧ j = 23
    · rw [if_pos a] at hv
      obtain ⟨rfl, rfl⟩ := a
      exact ⟨rfl, Option.some.inj hv⟩
    · rw [if_neg a] at hv
      by_cases b : r = 17 ∧ j < 4
      · rw [if_pos b] at hv
        obtain ⟨rfl, b⟩ := b
        exact ⟨rfl, Option.some.inj hv⟩
      · rw [if_neg b] at hv
        by_cases c : r = 18 ∧ j < 4
        · rw [if_pos c] at hv
          obtain ⟨rfl, c⟩ := c
          exact ⟨rfl, Option.some.inj hv⟩
        · rw [if_neg c] at hv
          cases hv
  · rw [z 10 _ (by decide)] at h
    omega
  · rw [z 10 _ (by decide)] at ht
    omega
  · rw [z 11 _ (by decide)] at h
    omega
  · rw [z 11 _ (by decide)] at ht
    omega
  · rw [z 11 _ (by decide)]
    decide
  · rw [z 15 _ (by decide)] at h
    omega
  · rw [z 15 _ (by decide)] at ht
    omega
  · rw [z 15 _ (by decide)]
    decide
  · rw [t0_0 0 2 (by decide), l_0] at ht
    omega
  · decide
  · rw [z 18 _ (by decide)] at h8
    exact absurd rfl h8
  · show (0 : Int) ≤ (0 : Int64).toInt
    decide
  · refine ⟨?_, fun k j hk _ _ => ?_⟩
    · show (0 : Int64).toInt ≤ 2147483647
      decide
    · rw [t0_0 0 25 (by decide), l_0] at hk
      omega
  · show (T0.1 10 2).toInt ≤ 9999
    rw [z 10 _ (by decide)]
    decide
