/-! ===== islands: the reference reads all 2 ===== -/
section RIT
variable {B : Nat → Int} {n : Nat} {K : KS} {m : Nat} {E po : Nat → Nat}
theorem uj_tie {c mq pp : Nat} {Cc : CR} {T : mT} (hS : STR B n K m E po) (hB : BY B n) (hk : K.1 c = 305) (hq : RQt B n po c 0 T) (h : IS B n po m c mq pp Cc T) : wl (fm_isTieHere T) (fun w => IO B n po m (ILf K 305 (c + 1) mq pp Cc) T w) := by
  unfold fm_isTieHere
  have l_1 : (1 : Int32).toInt = 1 := by decide
  have l_9 : (9 : Int32).toInt = 9 := by decide
  have l_40 : (40 : Int32).toInt = 40 := by decide
  have i0 : ILf K 305 (c + 1) mq pp Cc = (if NUMf K (c + 1) 0 ((pp : Int) - 1) = 0 then (if OTHf K (c + 1) ((pp : Int) - 1) = 0 then (if NUMf K (c + 1 + 2) 1 9 = 0 then (0, c + 1 + 3, mq, pp, wR Cc (8 + 8 * (K.2.1 (c + 1)).toNat + (K.2.1 (c + 1 + 1)).toNat) (K.2.1 (c + 1 + 2))) else (NUMf K (c + 1 + 2) 1 9, 0, 0, 0, zR)) else (OTHf K (c + 1) ((pp : Int) - 1), 0, 0, 0, zR)) else (NUMf K (c + 1) 0 ((pp : Int) - 1), 0, 0, 0, zR)) := by unfold ILf; rw [if_neg (by decide), if_neg (by decide), if_pos rfl]
  have p8 := h.2.2.2.2.2.1
  refine wl_bind (uj_two (i := 5) hS hB (by decide) hk hq h) (fun q1 h1 => ?_)
  rcases h1 with ⟨a, f, e⟩ | ⟨a, o, f, e⟩ | ⟨a, o, t, I1, x1, w1, w2, w3, w4, w5, w6⟩
  · refine wl_b (fun _ => wl_some (Or.inl ?_)) (fun b => by rw [f] at b; cases b)
    rw [i0, if_neg a]
    exact ⟨a, rfl, e⟩
  · refine wl_b (fun _ => wl_some (Or.inl ?_)) (fun b => by rw [f] at b; cases b)
    rw [i0, if_pos a, if_neg o]
    exact ⟨o, rfl, e⟩
  refine wl_b (fun b => by rw [t] at b; cases b) (fun _ => ?_)
  have m8 := tML (a := 8) (b := q1.2.1 0 17) (n := 8) (by decide) (by omega) (by omega)
  have t1 := tA (a := 40) (b := 8 * q1.2.1 0 17) (by omega) (by omega)
  have t2 := tA (a := 40 + 8 * q1.2.1 0 17) (b := q1.2.1 0 10) (by omega) (by omega)
  obtain ⟨o1, ho1⟩ : ∃ o : Nat, K.2.1 (c + 1) = (o : Int) := ⟨(K.2.1 (c + 1)).toNat, by omega⟩
  obtain ⟨o2, ho2⟩ : ∃ o : Nat, K.2.1 (c + 1 + 1) = (o : Int) := ⟨(K.2.1 (c + 1 + 1)).toNat, by omega⟩
  obtain ⟨i, ei⟩ : ∃ i : Nat, i = 40 + 8 * o1 + o2 := ⟨_, rfl⟩
  have hi : ((40 + 8 * q1.2.1 0 17) + q1.2.1 0 10).toInt = (i : Int) := by omega
  obtain ⟨g1, g2, g3, g4, g5, g6, gr⟩ := I1
  refine wl_bind (uj_cell (ix := i) hS hB g1 g2 (by decide) hi) (fun q3 h3 => ?_)
  rw [l_1, l_9] at h3
  rcases h3 with ⟨a3, f, e⟩ | ⟨a3, t3, cm3, R3, v3, _, _, x3, y3⟩
  · refine wl_b (fun _ => wl_some (Or.inl ?_)) (fun b => by rw [f] at b; cases b)
    rw [i0, if_pos a, if_pos o, if_neg a3]
    exact ⟨a3, rfl, e⟩
  · refine wl_b (fun b => by rw [t3] at b; cases b) (fun _ => wl_some (Or.inr ?_))
    rw [i0, if_pos a, if_pos o, if_pos a3]
    refine ⟨rfl, rfl, ⟨cm3, R3, by dsimp only; rw [y3 0 (by omega)]; exact g3, g4, by dsimp only; rw [y3 1 (by omega)]; exact g5, g6, ?_, ?_, ?_⟩, x1.trans x3⟩
    · intro p hp'
      have hp' : p < pp := hp'
      dsimp only
      rw [y3 _ (by omega), wR_ne (by omega)]
      exact gr.1 p hp'
    · intro p q hp' hq'
      have hp' : p < pp := hp'
      have hq' : q < pp := hq'
      dsimp only
      rw [ho1, ho2]
      show _ = wR Cc (8 + 8 * o1 + o2) (K.2.1 (c + 1 + 2)) (8 + 8 * p + q)
      by_cases z : 40 + 8 * p + q = i
      · rw [z, v3, show 8 + 8 * p + q = 8 + 8 * o1 + o2 from by omega, wR_at]
      · rw [y3 _ z, wR_ne (by omega)]
        exact gr.2.1 p q hp' hq'
    · intro p q p8' q8' ho
      have ho : pp ≤ p ∨ pp ≤ q := ho
      dsimp only
      rw [ho1, ho2]
      show wR Cc (8 + 8 * o1 + o2) (K.2.1 (c + 1 + 2)) (8 + 8 * p + q) = 0
      rw [wR_ne (by omega)]
      exact gr.2.2 p q p8' q8' ho
theorem uj_boat {c mq pp : Nat} {Cc : CR} {T : mT} (hS : STR B n K m E po) (hB : BY B n) (hk : K.1 c = 310) (hq : RQt B n po c 0 T) (h : IS B n po m c mq pp Cc T) : wl (fm_isBoatHere T) (fun w => IO B n po m (ILf K 310 (c + 1) mq pp Cc) T w) := by
  unfold fm_isBoatHere
  have l_104 : (104 : Int32).toInt = 104 := by decide
  have i0 : ILf K 310 (c + 1) mq pp Cc = (if NUMf K (c + 1) 0 ((pp : Int) - 1) = 0 then (if OTHf K (c + 1) ((pp : Int) - 1) = 0 then (0, c + 1 + 2, mq, pp, Cc) else (OTHf K (c + 1) ((pp : Int) - 1), 0, 0, 0, zR)) else (NUMf K (c + 1) 0 ((pp : Int) - 1), 0, 0, 0, zR)) := by unfold ILf; rw [if_neg (by decide), if_neg (by decide), if_neg (by decide), if_pos rfl]
  have p8 := h.2.2.2.2.2.1
  refine wl_bind (uj_two (i := 10) hS hB (by decide) hk hq h) (fun q1 h1 => ?_)
  rcases h1 with ⟨a, f, e⟩ | ⟨a, o, f, e⟩ | ⟨a, o, t, I1, x1, w1, w2, w3, w4, w5, w6⟩
  · refine wl_b (fun _ => wl_some (Or.inl ?_)) (fun b => by rw [f] at b; cases b)
    rw [i0, if_neg a]
    exact ⟨a, rfl, e⟩
  · refine wl_b (fun _ => wl_some (Or.inl ?_)) (fun b => by rw [f] at b; cases b)
    rw [i0, if_pos a, if_neg o]
    exact ⟨o, rfl, e⟩
  refine wl_b (fun b => by rw [t] at b; cases b) (fun _ => ?_)
  have t1 := tA (a := 104) (b := q1.2.1 0 17) (by omega) (by omega)
  have t2 := tA (a := 104) (b := q1.2.1 0 10) (by omega) (by omega)
  obtain ⟨i, hi⟩ : ∃ i : Nat, (104 + q1.2.1 0 17).toInt = (i : Int) := ⟨(104 + q1.2.1 0 17).toInt.toNat, by omega⟩
  obtain ⟨k, hk'⟩ : ∃ i : Nat, (104 + q1.2.1 0 10).toInt = (i : Int) := ⟨(104 + q1.2.1 0 10).toInt.toNat, by omega⟩
  refine wl_bif (wl_letv (fun v3 _ => ?_))
  refine wl_bif (wl_letv (fun T4 e4 => ?_))
  rw [cl_idx hi] at e4
  have z4 : ∀ r j, (r ≠ 6 ∨ j < 104) → T4.1 r j = q1.2.1 r j := fun r j hj => by rw [e4]; exact ma_ne (by omega)
  refine wl_bif (wl_letv (fun v5 _ => ?_))
  refine wl_bif (wl_letv (fun T6 e6 => wl_some (Or.inr ?_)))
  rw [z4 0 10 (Or.inl (by decide)), cl_idx hk'] at e6
  have z6 : ∀ r j, (r ≠ 6 ∨ j < 104) → T6.1 r j = q1.2.1 r j := fun r j hj => by rw [e6, ma_ne (by omega), z4 r j hj]
  obtain ⟨g1, g2, g3, g4, g5, g6, gr⟩ := I1
  rw [i0, if_pos a, if_pos o]
  exact ⟨rfl, rfl, ⟨g1, g2.fr (fun r j hj => z6 r j (by omega)), by dsimp only; rw [z6 6 0 (by omega)]; exact g3, g4, by dsimp only; rw [z6 6 1 (by omega)]; exact g5, g6, gr.fr g6 (fun j _ hj => z6 6 j (Or.inr hj))⟩, x1.trans (fun r j b1 b2 => z6 r j (Or.inl b1))⟩
theorem uj_glass {c mq pp : Nat} {Cc : CR} {T : mT} (hS : STR B n K m E po) (hB : BY B n) (hk : K.1 c = 311) (hq : RQt B n po c 0 T) (h : IS B n po m c mq pp Cc T) : wl (fm_isGlassHere T) (fun w => IO B n po m (ILf K 311 (c + 1) mq pp Cc) T w) := by
  unfold fm_isGlassHere
  have l_0 : (0 : Int32).toInt = 0 := by decide
  have l_1 : (1 : Int32).toInt = 1 := by decide
  have i0 : ILf K 311 (c + 1) mq pp Cc = (if NUMf K (c + 1) 0 ((pp : Int) - 1) = 0 then (0, c + 1 + 1, mq, pp, Cc) else (NUMf K (c + 1) 0 ((pp : Int) - 1), 0, 0, 0, zR)) := by unfold ILf; rw [if_neg (by decide), if_neg (by decide), if_neg (by decide), if_neg (by decide)]
  obtain ⟨hc, hR, hm, m6, hp, p8, hr⟩ := h
  have cm := hS.lt hc (by omega)
  refine wl_bind (um_passK (i := 11) hS hB hc (by decide) hk hq) (fun q1 h1 => ?_)
  obtain ⟨R1, x1⟩ := h1
  refine wl_bif (wl_letv (fun v2 e2 => ?_))
  have ev2 : v2.toInt = (pp : Int) := by rw [e2]; show (q1.1 6 1).toInt = _; rw [x1.2 6 1 (Or.inl (by decide))]; exact hp
  have u2 := tS (a := v2) (b := 1) (by omega) (by omega)
  have hu2 : (v2 - 1).toInt = (pp : Int) - 1 := by omega
  refine wl_bind (uj_cell (ix := 3) (lo := 0) (hi := v2 - 1) hS hB (by omega) R1 (by decide) (by decide)) (fun q3 h3 => ?_)
  rw [l_0, hu2] at h3
  rcases h3 with ⟨a3, f, e⟩ | ⟨a3, t3, cm3, R3, _, _, _, x3, y3⟩
  · refine wl_some (Or.inl ?_)
    rw [i0, if_neg a3]
    exact ⟨a3, f, e⟩
  · refine wl_some (Or.inr ?_)
    rw [i0, if_pos a3]
    exact ⟨rfl, t3, ⟨cm3, R3, by dsimp only; rw [y3 0 (by decide), x1.2 6 0 (Or.inl (by decide))]; exact hm, m6, by dsimp only; rw [y3 1 (by decide), x1.2 6 1 (Or.inl (by decide))]; exact hp, p8, hr.fr p8 (fun j hj _ => by dsimp only; rw [y3 j (by omega), x1.2 6 j (Or.inl (by decide))])⟩, (Lm.nx x1).trans x3⟩
theorem uj_marks {c mq pp : Nat} {Cc : CR} {at' : Int32} {T : mT} (hS : STR B n K m E po) (hB : BY B n) (hk : K.1 c = 308) (hq : RQt B n po c 0 T) (ha : at'.toInt = (po c : Int)) (h : IS B n po m c mq pp Cc T) : wl (fm_areMarksHere at' T) (fun w => IO B n po m (if 0 < mq then bdi K c 4 else ILf K 308 (c + 1) mq pp Cc) T w) := by
  unfold fm_areMarksHere
  have l_0 : (0 : Int32).toInt = 0 := by decide
  have l_1 : (1 : Int32).toInt = 1 := by decide
  have l_6 : (6 : Int32).toInt = 6 := by decide
  have i0 : ILf K 308 (c + 1) mq pp Cc = (if NUMf K (c + 1) 1 6 = 0 then (0, c + 1 + 1, (K.2.1 (c + 1)).toNat, pp, Cc) else (NUMf K (c + 1) 1 6, 0, 0, 0, zR)) := by unfold ILf; rw [if_pos rfl]
  obtain ⟨hc, hR, hm, m6, hp, p8, hr⟩ := h
  refine wl_bif (wl_letv (fun v1 e1 => ?_))
  have ev1 : v1.toInt = (mq : Int) := by rw [e1]; exact hm
  refine wl_le (fun z => ?_) (fun z => ?_)
  · rw [if_neg (by omega)]
    have cm := hS.lt hc (by omega)
    refine wl_bind (um_passK (i := 8) hS hB hc (by decide) hk hq) (fun q3 h3 => ?_)
    obtain ⟨R3, x3⟩ := h3
    refine wl_bind (uj_cell (ix := 0) (lo := 1) (hi := 6) hS hB (by omega) R3 (by decide) (by decide)) (fun q4 h4 => ?_)
    rw [l_1, l_6] at h4
    rcases h4 with ⟨a3, f, e⟩ | ⟨a3, t3, cm3, R4, v4, o1, o2, x4, y4⟩
    · refine wl_some (Or.inl ?_)
      rw [i0, if_neg a3]
      exact ⟨a3, f, e⟩
    · refine wl_some (Or.inr ?_)
      rw [i0, if_pos a3]
      refine ⟨rfl, t3, ⟨cm3, R4, ?_, ?_, by dsimp only; rw [y4 1 (by decide), x3.2 6 1 (Or.inl (by decide))]; exact hp, p8, hr.fr p8 (fun j hj _ => by dsimp only; rw [y4 j (by omega), x3.2 6 j (Or.inl (by decide))])⟩, (Lm.nx x3).trans x4⟩
      · dsimp only
        rw [v4]
        omega
      · show (K.2.1 (c + 1)).toNat ≤ 6
        omega
  · rw [if_pos (by omega)]
    exact wl_bind (um_failK hS hB hc hR.2.2.1 ha (by decide) (by decide) (by decide)) (fun q hq' => wl_some (Or.inl ⟨hq'.2.2, hq'.1, hq'.2.1⟩))
theorem uj_clause {c mq pp i : Nat} {Cc : CR} {T : mT} (hS : STR B n K m E po) (hB : BY B n) (h11 : (T.1 0 11).toInt = 6) (h14 : (T.1 0 14).toInt = (i : Int)) (hi : i ≤ 40) (hmi : i = 0 ↔ mq = 0) (h : IS B n po m c mq pp Cc T) : wl (fm_clauseHere T) (fun w => ((ICLf K i c mq pp Cc).1 ≠ 0 ∧ w.1 = false ∧ (w.2.1 0 9).toInt = (ICLf K i c mq pp Cc).1) ∨ ((ICLf K i c mq pp Cc).1 = 0 ∧ w.1 = true ∧ i < 40 ∧ IS B n po m (ICLf K i c mq pp Cc).2.1 (ICLf K i c mq pp Cc).2.2.1 (ICLf K i c mq pp Cc).2.2.2.1 (ICLf K i c mq pp Cc).2.2.2.2 w.2 ∧ (ICLf K i c mq pp Cc).2.2.1 ≠ 0 ∧ (w.2.1 0 11).toInt = 6 ∧ (w.2.1 0 14).toInt = (i : Int) + 1)) := by
  unfold fm_clauseHere
  have l_0 : (0 : Int32).toInt = 0 := by decide
  have l_1 : (1 : Int32).toInt = 1 := by decide
  have l_6 : (6 : Int32).toInt = 6 := by decide
  have l_40 : (40 : Int32).toInt = 40 := by decide
  have hc := h.1
  refine wl_bind (um_seeK hS hB hc h.2.1) (fun q1 h1 => ?_)
  obtain ⟨R1, x1, _⟩ := h1
  refine wl_bind (R := fun w : Int32 => w = 1) ?_ (fun w2 e2 => ?_)
  · refine wl_eq (fun _ => wl_some rfl) (fun z => ?_)
    rw [x1.2 0 11 (by decide)] at z
    exfalso
    omega
  subst e2
  rw [if_neg (by decide : ¬ (1 : Int32) = 0)]
  -- the word
  refine wl_bind (R := fun w : Bool × mT => RQt B n po c 0 w.2 ∧ Nx T w.2 (po c) ∧ (w.1 = true → isW (K.1 c)) ∧ (w.1 = false → ¬ isW (K.1 c))) ?_ (fun q32 h32 => ?_)
  · unfold fm_isIslandWord
    refine wl_bind (um_wordK (i := 8) hS hB hc (by decide) (by decide +kernel) (R1.s hS hB hc)) (fun a1 g1 => ?_)
    have y1 := x1.trans g1.2.1
    refine wl_b (fun b1 => ?_) (fun b => wl_some ⟨g1.1, y1, fun _ => Or.inl (g1.2.2.1 b), fun z => by cases z⟩)
    refine wl_bind (um_wordK (i := 9) hS hB hc (by decide) (by decide +kernel) (g1.1.s hS hB hc)) (fun a3 g3 => ?_)
    have y3 := y1.trans g3.2.1
    refine wl_b (fun b3 => ?_) (fun b => wl_some ⟨g3.1, y3, fun _ => Or.inr (Or.inl (g3.2.2.1 b)), fun z => by cases z⟩)
    refine wl_bind (um_wordK (i := 5) hS hB hc (by decide) (by decide +kernel) (g3.1.s hS hB hc)) (fun a5 g5 => ?_)
    have y5 := y3.trans g5.2.1
    refine wl_b (fun b5 => ?_) (fun b => wl_some ⟨g5.1, y5, fun _ => Or.inr (Or.inr (Or.inl (g5.2.2.1 b))), fun z => by cases z⟩)
    refine wl_bind (um_wordK (i := 10) hS hB hc (by decide) (by decide +kernel) (g5.1.s hS hB hc)) (fun a7 g7 => ?_)
    have y7 := y5.trans g7.2.1
    refine wl_b (fun b7 => ?_) (fun b => wl_some ⟨g7.1, y7, fun _ => Or.inr (Or.inr (Or.inr (Or.inl (g7.2.2.1 b)))), fun z => by cases z⟩)
    refine wl_bind (um_wordK (i := 11) hS hB hc (by decide) (by decide +kernel) (g7.1.s hS hB hc)) (fun a9 g9 => ?_)
    have y9 := y7.trans g9.2.1
    refine wl_b (fun b9 => ?_) (fun b => wl_some ⟨g9.1, y9, fun _ => Or.inr (Or.inr (Or.inr (Or.inr (g9.2.2.1 b)))), fun z => by cases z⟩)
    have n1 := g1.2.2.2 b1
    have n3 := g3.2.2.2 b3
    have n5 := g5.2.2.2 b5
    have n7 := g7.2.2.2 b7
    have n9 := g9.2.2.2 b9
    exact wl_some ⟨g9.1, y9, fun z => (by cases z), fun _ => by omega⟩
  obtain ⟨R32, x32, y32, n32⟩ := h32
  refine wl_b (fun b => ?_) (fun b => ?_)
  · have e : ICLf K i c mq pp Cc = bdi K c 0 := by unfold ICLf; rw [if_pos (n32 b)]
    refine wl_bind (um_failK hS hB hc R32.2.2.1 R1.2.1 l_0 (by decide) (by decide)) (fun q hq => wl_some (Or.inl ?_))
    rw [e]
    exact ⟨hq.2.2, hq.1, hq.2.1⟩
  have kw := y32 b
  have b4 : (40 ≤ i ∨ (K.1 c = 308 ∧ i ≠ 0) ∨ (K.1 c ≠ 308 ∧ i = 0) ∨ (K.1 c = 309 ∧ 8 ≤ pp)) → ICLf K i c mq pp Cc = bdi K c 4 := fun y => by unfold ICLf; rw [if_neg (fun z => z kw), if_pos y]
  rw [if_neg (by decide : ¬ (1 : Int32) = 0)]
  refine wl_bind (wl_some (Q := fun w : Int32 => w = 40) rfl) (fun w34 e34 => ?_)
  subst e34
  have e14 : q32.2.1 0 14 = T.1 0 14 := x32.2 0 14 (by decide)
  refine wl_eq (fun z => ?_) (fun z => ?_)
  · rw [e14] at z
    refine wl_bind (um_failK (why := 4) hS hB hc R32.2.2.1 R1.2.1 (by decide) (by decide) (by decide)) (fun q hq => wl_some (Or.inl ?_))
    rw [b4 (Or.inl (by omega))]
    exact ⟨hq.2.2, hq.1, hq.2.1⟩
  rw [e14] at z
  have i40 : i < 40 := by omega
  have u := tA (a := q32.2.1 0 14) (b := 1) (by rw [e14]; omega) (by rw [e14]; omega)
  refine wl_letv (fun T37 e37 => ?_)
  have y37 : ∀ r j, (r ≠ 0 ∨ j ≠ 14) → T37.1 r j = q32.2.1 r j := fun r j hj => by rw [e37]; exact mz_ne hj
  have v14 : (T37.1 0 14).toInt = (i : Int) + 1 := by rw [e37, mz_at, u, e14, h14, l_1]
  have v11 : (T37.1 0 11).toInt = 6 := by rw [y37 0 11 (by decide), x32.2 0 11 (by decide)]; exact h11
  have S37 : RSt B n po c 0 T37 := (R32.s hS hB hc).fr (fun r j hj => y37 r j (by omega))
  have I37 : IS B n po m c mq pp Cc T37 := ⟨hc, S37, by rw [y37 6 0 (Or.inl (by decide)), x32.2 6 0 (Or.inl (by decide))]; exact h.2.2.1, h.2.2.2.1, by rw [y37 6 1 (Or.inl (by decide)), x32.2 6 1 (Or.inl (by decide))]; exact h.2.2.2.2.1, h.2.2.2.2.2.1, h.2.2.2.2.2.2.fr h.2.2.2.2.2.1 (fun j _ _ => by rw [y37 6 j (Or.inl (by decide)), x32.2 6 j (Or.inl (by decide))])⟩
  rw [if_neg (by decide : ¬ (1 : Int32) = 0)]
  refine wl_bind (R := fun w : Bool × mT => ∃ r, IO B n po m r T37 w ∧ (r = ICLf K i c mq pp Cc) ∧ (r.1 = 0 → r.2.2.1 ≠ 0)) ?_ (fun q43 h43 => wl_some ?_)
  · unfold fm_islandLineHere
    have at1 := R1.2.1
    have il : ¬ (40 ≤ i ∨ (K.1 c = 308 ∧ i ≠ 0) ∨ (K.1 c ≠ 308 ∧ i = 0) ∨ (K.1 c = 309 ∧ 8 ≤ pp)) → ICLf K i c mq pp Cc = ILf K (K.1 c) (c + 1) mq pp Cc := fun y => by unfold ICLf; rw [if_neg (fun z => z kw), if_neg y]
    refine wl_bind (um_wordK (i := 8) hS hB hc (by decide) (by decide +kernel) S37) (fun a1 g1 => ?_)
    have J1 := I37.q g1.2.1 hc (g1.1.s hS hB hc)
    have pre : ∀ {q : Nat} {T1 : mT} {r : RI} {w : Bool × mT}, Nx T37 T1 q → IO B n po m r T1 w → IO B n po m r T37 w := fun x io => by
      rcases io with y | ⟨y1, y2, y3, y4⟩
      · exact Or.inl y
      · exact Or.inr ⟨y1, y2, y3, (Lm.nx x).trans y4⟩
    refine wl_b (fun b1 => ?_) (fun b1 => ?_)
    · have k308 : K.1 c ≠ 308 := g1.2.2.2 b1
      refine wl_bif (wl_letv (fun v3 e3 => ?_))
      have ev3 : v3.toInt = (mq : Int) := by rw [e3]; exact J1.2.2.1
      refine wl_eq (fun y => ?_) (fun y => ?_)
      · refine wl_bind (um_failK (why := 4) hS hB hc g1.1.2.2.1 at1 (by decide) (by decide) (by decide)) (fun q hq => wl_some ⟨bdi K c 4, Or.inl ⟨hq.2.2, hq.1, hq.2.1⟩, (b4 (Or.inr (Or.inr (Or.inl ⟨k308, hmi.mpr (by omega)⟩)))).symm, fun y => absurd y hq.2.2⟩)
      have i0 : i ≠ 0 := fun y => by have := hmi.mp y; omega
      have mk0 : mq ≠ 0 := fun y => i0 (hmi.mpr y)
      refine wl_bind (um_wordK (i := 9) hS hB hc (by decide) (by decide +kernel) J1.2.1) (fun a5 g5 => ?_)
      have x5 := g1.2.1.trans g5.2.1
      have J5' := J1.q g5.2.1 hc (g5.1.s hS hB hc)
      have ilm : ∀ k, k ≠ 308 → (ILf K k (c + 1) mq pp Cc).1 = 0 → (ILf K k (c + 1) mq pp Cc).2.2.1 = mq := by
        intro k hk
        unfold ILf
        rw [if_neg hk]
        by_cases a : k = 309
        · rw [if_pos a]
          by_cases b : NUMf K (c + 1) 0 (2 ^ mq - 1) = 0
          · rw [if_pos b]
            by_cases d : NUMf K (c + 1 + 1) 0 99 = 0
            · rw [if_pos d]; intro _; rfl
            · rw [if_neg d]; intro y; exact absurd y d
          · rw [if_neg b]; intro y; exact absurd y b
        · rw [if_neg a]
          by_cases b : NUMf K (c + 1) 0 ((pp : Int) - 1) = 0
          · rw [if_pos b, if_pos b, if_pos b]
            by_cases d : OTHf K (c + 1) ((pp : Int) - 1) = 0
            · rw [if_pos d, if_pos d]
              by_cases e : k = 305
              · rw [if_pos e]
                by_cases f : NUMf K (c + 1 + 2) 1 9 = 0
                · rw [if_pos f]; intro _; rfl
                · rw [if_neg f]; intro y; exact absurd y f
              · rw [if_neg e]
                by_cases f : k = 310
                · rw [if_pos f]; intro _; rfl
                · rw [if_neg f]; intro _; rfl
            · rw [if_neg d, if_neg d]
              by_cases e : k = 305
              · rw [if_pos e]; intro y; exact absurd y d
              · rw [if_neg e]
                by_cases f : k = 310
                · rw [if_pos f]; intro y; exact absurd y d
                · rw [if_neg f]; intro _; rfl
          · rw [if_neg b, if_neg b, if_neg b]
            by_cases e : k = 305
            · rw [if_pos e]; intro y; exact absurd y b
            · rw [if_neg e]
              by_cases f : k = 310
              · rw [if_pos f]; intro y; exact absurd y b
              · rw [if_neg f]; intro y; exact absurd y b
      refine wl_b (fun b5 => ?_) (fun b5 => ?_)
      · have k309 : K.1 c ≠ 309 := g5.2.2.2 b5
        have il' := il (by omega)
        refine wl_bind (um_wordK (i := 5) hS hB hc (by decide) (by decide +kernel) J5'.2.1) (fun a7 g7 => ?_)
        have x7 := x5.trans g7.2.1
        have J7 := J5'.q g7.2.1 hc (g7.1.s hS hB hc)
        refine wl_b (fun b7 => ?_) (fun b7 => ?_)
        · have k305 : K.1 c ≠ 305 := g7.2.2.2 b7
          refine wl_bind (um_wordK (i := 10) hS hB hc (by decide) (by decide +kernel) J7.2.1) (fun a9 g9 => ?_)
          have x9 := x7.trans g9.2.1
          have J9 := J7.q g9.2.1 hc (g9.1.s hS hB hc)
          refine wl_b (fun b9 => ?_) (fun b9 => ?_)
          · have k310 : K.1 c ≠ 310 := g9.2.2.2 b9
            have k : K.1 c = 311 := by omega
            refine wl_bind (uj_glass hS hB k g9.1 J9) (fun q hq => wl_some ⟨_, pre x9 hq, by rw [il', k], fun y => by rw [ilm 311 (by decide) y]; exact mk0⟩)
          · have k : K.1 c = 310 := g9.2.2.1 b9
            refine wl_bind (uj_boat hS hB k g9.1 J9) (fun q hq => wl_some ⟨_, pre x9 hq, by rw [il', k], fun y => by rw [ilm 310 (by decide) y]; exact mk0⟩)
        · have k : K.1 c = 305 := g7.2.2.1 b7
          refine wl_bind (uj_tie hS hB k g7.1 J7) (fun q hq => wl_some ⟨_, pre x7 hq, by rw [il', k], fun y => by rw [ilm 305 (by decide) y]; exact mk0⟩)
      · have k : K.1 c = 309 := g5.2.2.1 b5
        refine wl_bind (uj_person hS hB k g5.1 at1 J5') (fun q hq => wl_some ⟨_, pre x5 hq, ?_, fun y => ?_⟩)
        · by_cases p : 8 ≤ pp
          · rw [if_pos p, b4 (Or.inr (Or.inr (Or.inr ⟨k, p⟩)))]
          · rw [if_neg p, il (by omega), k]
        · by_cases p : 8 ≤ pp
          · rw [if_pos p] at y
            have pl := hS.2.2.2.2.2.2 c hc
            have y' : 1 + 8 * K.2.2 c + 4 = 0 := y
            rw [pl] at y'
            exfalso; omega
          · rw [if_neg p] at y ⊢
            rw [ilm 309 (by decide) y]
            exact mk0
    · have k : K.1 c = 308 := g1.2.2.1 b1
      refine wl_bind (uj_marks hS hB k g1.1 at1 J1) (fun q hq => wl_some ⟨_, pre g1.2.1 hq, ?_, fun y => ?_⟩)
      · by_cases p : 0 < mq
        · rw [if_pos p, b4 (Or.inr (Or.inl ⟨k, fun y => by have := hmi.mp y; omega⟩))]
        · rw [if_neg p, il (by have := hmi.mpr (by omega : mq = 0); omega), k]
      · by_cases p : 0 < mq
        · rw [if_pos p] at y
          have pl := hS.2.2.2.2.2.2 c hc
          have y' : 1 + 8 * K.2.2 c + 4 = 0 := y
          rw [pl] at y'
          exfalso; omega
        · rw [if_neg p] at y ⊢
          have i0 : ILf K 308 (c + 1) mq pp Cc = (if NUMf K (c + 1) 1 6 = 0 then (0, c + 1 + 1, (K.2.1 (c + 1)).toNat, pp, Cc) else (NUMf K (c + 1) 1 6, 0, 0, 0, zR)) := by unfold ILf; rw [if_pos rfl]
          rw [i0] at y ⊢
          by_cases d : NUMf K (c + 1) 1 6 = 0
          · rw [if_pos d]
            show (K.2.1 (c + 1)).toNat ≠ 0
            unfold NUMf at d
            by_cases f : K.1 (c + 1) ≠ 258
            · rw [if_pos f] at d
              have pl := hS.2.2.2.2.2.2 (c + 1) (hS.lt hc (by omega))
              rw [pl] at d
              exfalso; omega
            · rw [if_neg f] at d
              by_cases g : K.2.1 (c + 1) < 1 ∨ 6 < K.2.1 (c + 1)
              · rw [if_pos g] at d
                have pl := hS.2.2.2.2.2.2 (c + 1) (hS.lt hc (by omega))
                rw [pl] at d
                exfalso; omega
              · omega
          · rw [if_neg d] at y
            exact absurd y d
  · obtain ⟨r, io, rfl, mz'⟩ := h43
    rcases io with ⟨a, f, e⟩ | ⟨a, t, I, l⟩
    · exact Or.inl ⟨a, f, e⟩
    · exact Or.inr ⟨a, t, i40, I, mz' a, by dsimp only; rw [l 0 11 (by decide) (Or.inr (by decide))]; exact v11, by dsimp only; rw [l 0 14 (by decide) (Or.inr (by decide))]; exact v14⟩
theorem uj_allL (hS : STR B n K m E po) (hB : BY B n) : ∀ (N : Nat) (T : mT) (c mq pp i : Nat) (Cc : CR), IS B n po m c mq pp Cc T → (T.1 0 11).toInt = 6 → (T.1 0 14).toInt = ((i + 1 : Nat) : Int) → i < 40 → mq ≠ 0 → wl (fm_readsAll_L35 N 1 T) (fun w => (w.1 = 0 ∧ ∃ r, r.1 ≠ 0 ∧ (w.2.1 0 9).toInt = r.1 ∧ K.1 c = 59 ∧ IAL K (i + 1) (c + 1) mq pp Cc r) ∨ (w.1 = 1 ∧ (w.2.1 0 11).toInt = 6 ∧ ∃ r : RI, IS B n po m r.2.1 r.2.2.1 r.2.2.2.1 r.2.2.2.2 w.2 ∧ K.1 r.2.1 ≠ 59 ∧ r.1 = 0 ∧ (r = (0, c, mq, pp, Cc) ∨ (K.1 c = 59 ∧ (K.1 r.2.1 = 260 ∧ r.2.2.2.1 ≠ 0 → IAL K (i + 1) (c + 1) mq pp Cc r) ∧ (¬ (K.1 r.2.1 = 260 ∧ r.2.2.2.1 ≠ 0) → IAL K (i + 1) (c + 1) mq pp Cc (bdi K r.2.1 0)))))) := by
  have l_59 : (59 : Int32).toInt = 59 := by decide
  intro N
  induction N with
  | zero => intro T c mq pp i Cc _ _ _ _ _; exact wl_none
  | succ N ih =>
    intro T c mq pp i Cc h h11 h14 hi hmk
    rw [fm_readsAll_L35]
    refine wl_if (fun z => absurd z (by decide)) (fun _ => ?_)
    have hc := h.1
    refine wl_bind (um_seeK hS hB hc h.2.1) (fun q8 h8 => ?_)
    obtain ⟨R8, x8, s8, _⟩ := h8
    refine wl_eq (fun z => ?_) (fun z => wl_some (Or.inr ⟨rfl, by dsimp only; rw [x8.2 0 11 (by decide)]; exact h11, (0, c, mq, pp, Cc), h.q x8 hc (R8.s hS hB hc), fun k => z (by rw [(s8 59 (by decide)).mpr k]; exact l_59.symm), rfl, Or.inl rfl⟩))
    have k59 := (s8 59 (by decide)).mp (by omega)
    have cm := hS.lt hc (by omega)
    refine wl_letv (fun T10 e10 => ?_)
    have o := um_onK hS hB hc (s := 59) (by decide) k59 R8
    rw [← e10] at o
    have x10 := x8.trans o.2
    refine wl_bind (uj_clause (i := i + 1) hS hB (by rw [x10.2 0 11 (by decide)]; exact h11) (by rw [x10.2 0 14 (by decide)]; exact h14) (by omega) (by omega) (h.q x10 (by omega) o.1)) (fun q11 h11' => ?_)
    rcases h11' with ⟨a, f, w⟩ | ⟨a, t, i40, I, mq', e11, e14⟩
    · rw [f]
      cases N with
      | zero => exact wl_none
      | succ N =>
        rw [show b2i false = 0 from rfl, fm_readsAll_L35]
        exact wl_if (fun _ => wl_some (Or.inl ⟨rfl, _, a, w, k59, IAL_bad a⟩)) (fun z' => absurd rfl z')
    · rw [t, show b2i true = 1 from rfl]
      refine wl_mono (ih q11.2 _ _ _ (i + 1) _ I e11 (by rw [e14]; rfl) (by omega) mq') (fun w hw => ?_)
      rcases hw with ⟨w0, s, z1, z2, z3, z4⟩ | ⟨w1, y0, r, y1, y2, y3, y4⟩
      · exact Or.inl ⟨w0, s, z1, z2, k59, IAL_go a z3 z4⟩
      · refine Or.inr ⟨w1, y0, r, y1, y2, y3, Or.inr ⟨k59, fun k => ?_, fun k => ?_⟩⟩
        · rcases y4 with er | ⟨g1, g2, _⟩
          · have ei : r = ICLf K (i + 1) (c + 1) mq pp Cc := by rw [er, ← a]
            rw [ei] at k y2 ⊢
            exact IAL_end a y2 k
          · exact IAL_go a g1 (g2 k)
        · rcases y4 with er | ⟨g1, _, g3⟩
          · have ei : r = ICLf K (i + 1) (c + 1) mq pp Cc := by rw [er, ← a]
            rw [ei] at k y2 ⊢
            exact IAL_more a y2 k
          · exact IAL_go a g1 (g3 k)
/-- the reference's reader of islands -/
theorem uj_readsAll {T : mT} (hS : STR B n K m E po) (hB : BY B n) (h : RT B n T) (h11 : (T.1 0 11).toInt = 6) (h0 : (T.1 6 0).toInt = 0) (h1 : (T.1 6 1).toInt = 0) : wl (fm_readsAll T) (fun w => ∃ r, IAL K 0 0 0 0 zR r ∧ (w.2.1 0 9).toInt = r.1 ∧ (w.1 = true ↔ r.1 = 0) ∧ (r.1 = 0 → (w.2.1 6 0).toInt = (r.2.2.1 : Int) ∧ (w.2.1 6 1).toInt = (r.2.2.2.1 : Int) ∧ HRn r.2.2.2.1 r.2.2.2.2 w.2 ∧ r.2.2.2.1 ≤ 8)) := by
  unfold fm_readsAll
  have l_0 : (0 : Int32).toInt = 0 := by decide
  have l_6 : (6 : Int32).toInt = 6 := by decide
  have l_m1 : ((-1) : Int32).toInt = -1 := by decide
  refine wl_bif (wl_letv (fun T1 e1 => ?_))
  refine wl_letv (fun T2 e2 => ?_)
  refine wl_letv (fun T3 e3 => ?_)
  refine wl_letv (fun T4 e4 => ?_)
  refine wl_letv (fun T5 e5 => ?_)
  have z : ∀ r j, r ≠ 3 → (r ≠ 0 ∨ (j ≠ 14 ∧ j ≠ 8 ∧ j ≠ 9 ∧ j ≠ 12)) → T5.1 r j = T.1 r j := fun r j h3 h0 => by
    rw [e5, mz_ne (by omega), e4, mz_ne (by omega), e3, mz_ne (by omega), e2, mz_ne (by omega), e1, ma_ne (Or.inl h3)]
  have v8 : (T5.1 0 8).toInt = 0 := by rw [e5, mz_ne (by decide), e4, mz_ne (by decide), e3, mz_at]; exact l_0
  have v9 : (T5.1 0 9).toInt = 0 := by rw [e5, mz_ne (by decide), e4, mz_at]; exact l_0
  have v12 : (T5.1 0 12).toInt = ((0 : Nat) : Int) := by rw [e5, mz_at]; exact l_0
  have v14 : (T5.1 0 14).toInt = ((0 : Nat) : Int) := by rw [e5, mz_ne (by decide), e4, mz_ne (by decide), e3, mz_ne (by decide), e2, mz_at]; exact l_0
  have rt5 : RT B n T5 := ⟨by rw [z 0 1 (by decide) (Or.inr (by decide))]; exact h.1, fun k hk => by rw [z 1 k (by decide) (Or.inl (by decide))]; exact h.2 k hk⟩
  have r0 := hS.run (c := 0) (Nat.zero_le _)
  rw [hS.2.1] at r0
  have S5 : RSt B n po 0 0 T5 := ⟨rt5, ⟨0, v8, Nat.zero_le _, r0⟩, v9, v12, by decide⟩
  have I5 : IS B n po m 0 0 0 zR T5 := ⟨Nat.zero_le _, S5, by rw [z 6 0 (by decide) (Or.inl (by decide))]; exact h0, by decide, by rw [z 6 1 (by decide) (Or.inl (by decide))]; exact h1, by decide, fun p hp => absurd hp (Nat.not_lt_zero _), fun p q hp => absurd hp (Nat.not_lt_zero _), fun _ _ _ _ _ => rfl⟩
  have h115 : (T5.1 0 11).toInt = 6 := by rw [z 0 11 (by decide) (Or.inr (by decide))]; exact h11
  refine wl_bind (uj_clause (i := 0) hS hB h115 v14 (by decide) (by decide) I5) (fun q6 h6 => ?_)
  have fin : ∀ (w : mT) (s : RI), IAL K 0 0 0 0 zR s → (w.1 0 9).toInt = s.1 → (s.1 = 0 → (w.1 6 0).toInt = (s.2.2.1 : Int) ∧ (w.1 6 1).toInt = (s.2.2.2.1 : Int) ∧ HRn s.2.2.2.1 s.2.2.2.2 w ∧ s.2.2.2.1 ≤ 8) → wl (letv (mz w 1 0) fun T24 => if (T24.1 0 9) = 0 then (some (true, T24)) else (some (false, T24))) (fun w => ∃ r, IAL K 0 0 0 0 zR r ∧ (w.2.1 0 9).toInt = r.1 ∧ (w.1 = true ↔ r.1 = 0) ∧ (r.1 = 0 → (w.2.1 6 0).toInt = (r.2.2.1 : Int) ∧ (w.2.1 6 1).toInt = (r.2.2.2.1 : Int) ∧ HRn r.2.2.2.1 r.2.2.2.2 w.2 ∧ r.2.2.2.1 ≤ 8)) := by
    intro w s al e e6
    refine wl_letv (fun T24 e24 => ?_)
    have v : T24.1 0 9 = w.1 0 9 := by rw [e24]; exact mz_ne (by decide)
    have v6 : ∀ j, T24.1 6 j = w.1 6 j := fun j => by rw [e24]; exact mz_ne (Or.inl (by decide))
    refine wl_eq (fun y => wl_some ⟨s, al, by dsimp only; rw [v]; exact e, ?_, fun x => by dsimp only; rw [v6, v6]; exact ⟨(e6 x).1, (e6 x).2.1, (e6 x).2.2.1.fr (e6 x).2.2.2 (fun j _ _ => v6 j), (e6 x).2.2.2⟩⟩) (fun y => wl_some ⟨s, al, by dsimp only; rw [v]; exact e, ?_, fun x => by dsimp only; rw [v6, v6]; exact ⟨(e6 x).1, (e6 x).2.1, (e6 x).2.2.1.fr (e6 x).2.2.2 (fun j _ _ => v6 j), (e6 x).2.2.2⟩⟩)
    · rw [v] at y
      exact ⟨fun _ => by omega, fun _ => rfl⟩
    · rw [v] at y
      exact ⟨fun x => (by cases x), fun x => by exfalso; omega⟩
  rcases h6 with ⟨a, f, w⟩ | ⟨a, t, i40, I, mq', e11, e14⟩
  · rw [f, show b2i false = 0 from rfl]
    refine wl_bind (R := fun x : Int32 × mT => x = (0, q6.2)) ?_ (fun w12 h12 => ?_)
    · have : FU = 999999 + 1 := rfl
      rw [this, fm_readsAll_L35]
      exact wl_if (fun _ => wl_some rfl) (fun y => absurd rfl y)
    subst h12
    refine wl_bind (R := fun x : Int32 × mT => x = (0, q6.2)) ?_ (fun w13 h13 => ?_)
    · exact wl_if (fun _ => wl_some rfl) (fun y => absurd rfl y)
    subst h13
    refine wl_bind (R := fun x : mT => x = q6.2) ?_ (fun w18 h18 => ?_)
    · exact wl_if (fun _ => wl_some rfl) (fun y => absurd rfl y)
    subst h18
    exact fin q6.2 _ (IAL_bad a) w (fun x => absurd x a)
  · rw [t, show b2i true = 1 from rfl]
    refine wl_bind (uj_allL hS hB FU q6.2 _ _ _ 0 _ I e11 (by rw [e14]; rfl) (by decide) mq') (fun w12 h12 => ?_)
    rcases h12 with ⟨w0, s, y1, y2, y3, y4⟩ | ⟨w1, y0, r, y1, y2, y3, y4⟩
    · refine wl_bind (R := fun x : Int32 × mT => x = (0, w12.2)) ?_ (fun w13 h13 => ?_)
      · exact wl_if (fun _ => wl_some (by rw [w0])) (fun y => absurd w0 y)
      subst h13
      refine wl_bind (R := fun x : mT => x = w12.2) ?_ (fun w18 h18 => ?_)
      · exact wl_if (fun _ => wl_some rfl) (fun y => absurd rfl y)
      subst h18
      exact fin w12.2 s (IAL_go a y3 y4) y2 (fun x => absurd x y1)
    · have end' : K.1 r.2.1 = 260 ∧ r.2.2.2.1 ≠ 0 → IAL K 0 0 0 0 zR r := fun k => by
        rcases y4 with er | ⟨g1, g2, _⟩
        · have ei : r = ICLf K 0 0 0 0 zR := by rw [er, ← a]
          rw [ei] at k y2 ⊢
          exact IAL_end a y2 k
        · exact IAL_go a g1 (g2 k)
      have more' : ¬ (K.1 r.2.1 = 260 ∧ r.2.2.2.1 ≠ 0) → IAL K 0 0 0 0 zR (bdi K r.2.1 0) := fun k => by
        rcases y4 with er | ⟨g1, _, g3⟩
        · have ei : r = ICLf K 0 0 0 0 zR := by rw [er, ← a]
          rw [ei] at k y2 ⊢
          exact IAL_more a y2 k
        · exact IAL_go a g1 (g3 k)
      refine wl_bind (R := fun x : Int32 × mT => (x.1 = 0 ∧ ∃ s, IAL K 0 0 0 0 zR s ∧ s.1 ≠ 0 ∧ (x.2.1 0 9).toInt = s.1) ∨ (x.1 = 1 ∧ (x.2.1 0 11).toInt = 6 ∧ K.1 r.2.1 = 260 ∧ RQt B n po r.2.1 0 x.2 ∧ (x.2.1 6 0).toInt = (r.2.2.1 : Int) ∧ (x.2.1 6 1).toInt = (r.2.2.2.1 : Int) ∧ HRn r.2.2.2.1 r.2.2.2.2 x.2 ∧ r.2.2.2.1 ≤ 8)) ?_ (fun w13 h13 => ?_)
      · refine wl_if (fun y => by rw [w1] at y; exact absurd y (by decide)) (fun _ => ?_)
        refine wl_bind (um_seeK hS hB y1.1 y1.2.1) (fun q15 h15 => ?_)
        obtain ⟨R15, x15, _, _, _, en⟩ := h15
        refine wl_eq (fun x => wl_some (Or.inr ⟨w1, ?_, en.mp (by omega), R15, ?_, ?_, y1.2.2.2.2.2.2.fr y1.2.2.2.2.2.1 (fun j _ _ => x15.2 6 j (Or.inl (by decide))), y1.2.2.2.2.2.1⟩)) (fun x => ?_)
        · dsimp only; rw [x15.2 0 11 (by decide)]; exact y0
        · dsimp only; rw [x15.2 6 0 (Or.inl (by decide))]; exact y1.2.2.1
        · dsimp only; rw [x15.2 6 1 (Or.inl (by decide))]; exact y1.2.2.2.2.1
        · have k : K.1 r.2.1 ≠ 260 := fun y => x (by rw [en.mpr y]; exact l_m1.symm)
          refine wl_bind (um_failK hS hB y1.1 R15.2.2.1 R15.2.1 l_0 (by decide) (by decide)) (fun q17 h17 => wl_some (Or.inl ⟨by dsimp only; rw [h17.1]; rfl, bdi K r.2.1 0, more' (fun y => k y.1), h17.2.2, h17.2.1⟩))
      rcases h13 with ⟨w0, s, al, sn, es⟩ | ⟨w0, e6, k, R13, m13, p13, c13⟩
      · refine wl_bind (R := fun x : mT => x = w13.2) ?_ (fun w18 h18 => ?_)
        · exact wl_if (fun _ => wl_some rfl) (fun y => absurd w0 y)
        subst h18
        exact fin w13.2 s al es (fun x => absurd x sn)
      · refine wl_bind (R := fun x : mT => (r.2.2.2.1 = 0 ∧ (x.1 0 9).toInt = (bdi K r.2.1 0).1 ∧ (bdi K r.2.1 0).1 ≠ 0) ∨ (r.2.2.2.1 ≠ 0 ∧ x = w13.2)) ?_ (fun w18 h18 => ?_)
        · refine wl_if (fun y => by rw [w0] at y; exact absurd y (by decide)) (fun _ => ?_)
          refine wl_eq (fun _ => ?_) (fun y => by exfalso; omega)
          refine wl_bif (wl_letv (fun v21 e21 => ?_))
          have ev : v21.toInt = (r.2.2.2.1 : Int) := by rw [e21]; exact p13
          refine wl_eq (fun y => ?_) (fun y => wl_some (Or.inr ⟨by omega, rfl⟩))
          exact wl_bind (um_failK hS hB y1.1 R13.2.2.1 R13.2.1 l_0 (by decide) (by decide)) (fun q23 h23 => wl_some (Or.inl ⟨by omega, h23.2.1, h23.2.2⟩))
        rcases h18 with ⟨p0, e9, nz⟩ | ⟨p0, rfl⟩
        · exact fin w18 _ (more' (fun y => y.2 p0)) e9 (fun x => absurd x nz)
        · exact fin w13.2 r (end' ⟨k, p0⟩) (by rw [y3]; exact R13.2.2.1) (fun _ => ⟨m13, p13, c13⟩)
end RIT
