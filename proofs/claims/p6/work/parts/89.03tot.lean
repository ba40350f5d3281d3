/-! ===== every method of the class answers (by program) 3 ===== -/
theorem tc_X3_readPerson {P : Nat → Nat → Option Int} {p0 : Nat} {p1 : Nat} {S : cT} (hk_p0 : cK p0 = 8) (hk_p1 : cK p1 = 2) (hN : NP P p1) (hI : IC P S) : wp (fc_X3_readPerson p0 p1 S) (fun w => (IC P w) ∧ (w.2.2 = S.2.2)) := by
  unfold fc_X3_readPerson
  have l_0 : (0 : Int32).toInt = 0 := by decide
  have l_1 : (1 : Int32).toInt = 1 := by decide
  have l_8 : (8 : Int32).toInt = 8 := by decide
  refine wp_bind (tc_X2_lastFace hk_p1 hI) (fun q1 hq1 => ?_)
  refine wp_bind (tc_X10_takeNumber hk_p0 hI) (fun q2 hq2 => ?_)
  obtain ⟨h3, h4⟩ := hq2
  refine wp_bind (tc_X10_takeNumber hk_p0 h3) (fun q3 hq5 => ?_)
  obtain ⟨h6, h7⟩ := hq5
  refine wp_eqn (fun hc8 => ?_) ?_
  · skip
    have c9 := ic_2_9 h6 hk_p1
    refine wp_le (fun hc10 => ?_) (fun hc10 => ?_)
    · skip
      exact wp_some ⟨h6, (h7.trans h4)⟩
    · skip
      refine wp_bif (inb_of (by omega) (by omega)) ?_
      refine wp_letv (fun S7 eS7 => ?_)
      have hIS7 : IC P S7 := by rw [eS7]; exact (iw_b h6 (ko_2_1 hk_p1) (hN 1 _ (by decide)))
      have hpS7 : S7.2.2 = S.2.2 := by rw [eS7]; exact (h7.trans h4)
      have c11 := ic_2_9 hIS7 hk_p1
      have f12 : ((S7.1 p1 9)).toInt = ((q3.2.1 p1 9)).toInt := by rw [eS7]; exact congrArg Int32.toInt (ca_ne (Or.inl (k_ne hk_p1 (ko_2_1 hk_p1) (by decide))))
      refine wp_bif (inb_of (by omega) (by omega)) ?_
      refine wp_letv (fun S9 eS9 => ?_)
      have hIS9 : IC P S9 := by rw [eS9]; exact (iw_20 hIS7 (kw_2_2 hk_p1))
      have hpS9 : S9.2.2 = S.2.2 := by rw [eS9]; exact hpS7
      have c13 := ic_2_9 hIS9 hk_p1
      have f14 : ((S9.1 p1 9)).toInt = ((S7.1 p1 9)).toInt := by rw [eS9]; exact congrArg Int32.toInt (ca_ne (Or.inl (k_ne hk_p1 (ko_2_2 hk_p1) (by decide))))
      have t15 : ((S9.1 p1 9) + (1 : Int32) : Int32).toInt = ((S9.1 p1 9)).toInt + ((1 : Int32)).toInt := tA (by omega) (by omega)
      refine wp_letv (fun S10 eS10 => ?_)
      have hIS10 : IC P S10 := by rw [eS10]; exact (iw_2_9 hIS9 hk_p1 (by omega) (by omega) (hN 0 9 (by decide)))
      have hpS10 : S10.2.2 = S.2.2 := by rw [eS10]; exact hpS9
      exact wp_some ⟨hIS10, hpS10⟩
  · skip
    exact wp_some ⟨h6, (h7.trans h4)⟩
theorem tc_X3_takeOther {P : Nat → Nat → Option Int} {p0 : Nat} {p1 : Nat} {p2 : Int32} {S : cT} (hk_p0 : cK p0 = 8) (hk_p1 : cK p1 = 2) (hI : IC P S) : wp (fc_X3_takeOther p0 p1 p2 S) (fun w => (IC P w.2) ∧ (w.2.2.2 = S.2.2)) := by
  unfold fc_X3_takeOther
  have l_258 : (258 : Int32).toInt = 258 := by decide
  refine wp_bind (Q := fun w => (IC P w) ∧ (w.2.2 = S.2.2)) ?_ (fun w1 hq1 => ?_)
  · skip
    refine wp_eqn (fun hc2 => ?_) ?_
    · skip
      refine wp_eqn (fun hc3 => ?_) ?_
      · skip
        refine wp_bind (tc_X10_refuse hk_p0 hI) (fun q4 hq4 => ?_)
        obtain ⟨h5, h6⟩ := hq4
        exact wp_some ⟨h5, h6⟩
      · skip
        exact wp_some ⟨hI, rfl⟩
    · skip
      exact wp_some ⟨hI, rfl⟩
  · skip
    obtain ⟨h7, h8⟩ := hq1
    refine wp_bind (tc_X10_takeNumber hk_p0 h7) (fun q5 hq9 => ?_)
    obtain ⟨h10, h11⟩ := hq9
    exact wp_some ⟨h10, (h11.trans h8)⟩
theorem tc_X3_readTie {P : Nat → Nat → Option Int} {p0 : Nat} {p1 : Nat} {S : cT} (hk_p0 : cK p0 = 8) (hk_p1 : cK p1 = 2) (hN : NP P p1) (hI : IC P S) : wp (fc_X3_readTie p0 p1 S) (fun w => (IC P w) ∧ (w.2.2 = S.2.2)) := by
  unfold fc_X3_readTie
  have l_0 : (0 : Int32).toInt = 0 := by decide
  have l_8 : (8 : Int32).toInt = 8 := by decide
  refine wp_bind (tc_X10_takeNumber hk_p0 hI) (fun q1 hq1 => ?_)
  obtain ⟨h2, h3⟩ := hq1
  refine wp_bind (tc_X3_takeOther hk_p0 hk_p1 h2) (fun q2 hq4 => ?_)
  obtain ⟨h5, h6⟩ := hq4
  refine wp_bind (tc_X10_takeNumber hk_p0 h5) (fun q3 hq7 => ?_)
  obtain ⟨h8, h9⟩ := hq7
  refine wp_eqn (fun hc10 => ?_) ?_
  · skip
    refine wp_bind (tc_X2_hasTwo hk_p1 h8) (fun q5 hq11 => ?_)
    have h12 := hq11
    refine wp_b (fun hb13 => ?_) (fun hb13 => ?_)
    · skip
      exact wp_some ⟨h8, (h9.trans (h6.trans h3))⟩
    · skip
      obtain ⟨k14, k15, k16, k17⟩ := h12 hb13
      have t18 : (q1.1 * (8 : Int32) : Int32).toInt = (q1.1).toInt * 8 := tMR l_8 (by omega) (by omega)
      have t19 : ((q1.1 * (8 : Int32)) + q2.1 : Int32).toInt = ((q1.1 * (8 : Int32))).toInt + (q2.1).toInt := tA (by omega) (by omega)
      refine wp_bif (inb_of (by omega) (by omega)) ?_
      refine wp_letv (fun S8 eS8 => ?_)
      have hIS8 : IC P S8 := by rw [eS8]; exact (iw_b h8 (ko_2_5 hk_p1) (hN 5 _ (by decide)))
      have hpS8 : S8.2.2 = S.2.2 := by rw [eS8]; exact (h9.trans (h6.trans h3))
      exact wp_some ⟨hIS8, hpS8⟩
  · skip
    exact wp_some ⟨h8, (h9.trans (h6.trans h3))⟩
theorem tc_X3_readBoat {P : Nat → Nat → Option Int} {p0 : Nat} {p1 : Nat} {S : cT} (hk_p0 : cK p0 = 8) (hk_p1 : cK p1 = 2) (hN : NP P p1) (hI : IC P S) : wp (fc_X3_readBoat p0 p1 S) (fun w => (IC P w) ∧ (w.2.2 = S.2.2)) := by
  unfold fc_X3_readBoat
  have l_0 : (0 : Int32).toInt = 0 := by decide
  refine wp_bind (tc_X10_takeNumber hk_p0 hI) (fun q1 hq1 => ?_)
  obtain ⟨h2, h3⟩ := hq1
  refine wp_bind (tc_X3_takeOther hk_p0 hk_p1 h2) (fun q2 hq4 => ?_)
  obtain ⟨h5, h6⟩ := hq4
  refine wp_eqn (fun hc7 => ?_) ?_
  · skip
    refine wp_bind (tc_X2_hasTwo hk_p1 h5) (fun q4 hq8 => ?_)
    have h9 := hq8
    refine wp_b (fun hb10 => ?_) (fun hb10 => ?_)
    · skip
      exact wp_some ⟨h5, (h6.trans h3)⟩
    · skip
      obtain ⟨k11, k12, k13, k14⟩ := h9 hb10
      refine wp_bif (inb_of (by omega) (by omega)) ?_
      refine wp_letv (fun v6 ev6 => ?_)
      refine wp_bif (inb_of (by omega) (by omega)) ?_
      refine wp_letv (fun S8 eS8 => ?_)
      have hIS8 : IC P S8 := by rw [eS8]; exact (iw_b h5 (ko_2_4 hk_p1) (hN 4 _ (by decide)))
      have hpS8 : S8.2.2 = S.2.2 := by rw [eS8]; exact (h6.trans h3)
      refine wp_bif (inb_of (by omega) (by omega)) ?_
      refine wp_letv (fun v9 ev9 => ?_)
      refine wp_bif (inb_of (by omega) (by omega)) ?_
      refine wp_letv (fun S11 eS11 => ?_)
      have hIS11 : IC P S11 := by rw [eS11]; exact (iw_b hIS8 (ko_2_4 hk_p1) (hN 4 _ (by decide)))
      have hpS11 : S11.2.2 = S.2.2 := by rw [eS11]; exact hpS8
      exact wp_some ⟨hIS11, hpS11⟩
  · skip
    exact wp_some ⟨h5, (h6.trans h3)⟩
theorem tc_X3_readClause {P : Nat → Nat → Option Int} {p0 : Nat} {p1 : Nat} {p2 : Int32} {S : cT} (hk_p0 : cK p0 = 8) (hk_p1 : cK p1 = 2) (hN : NP P p1) (hI : IC P S) : wp (fc_X3_readClause p0 p1 p2 S) (fun w => (IC P w) ∧ (w.2.2 = S.2.2)) := by
  unfold fc_X3_readClause
  have l_0 : (0 : Int32).toInt = 0 := by decide
  have l_1 : (1 : Int32).toInt = 1 := by decide
  have l_305 : (305 : Int32).toInt = 305 := by decide
  have l_308 : (308 : Int32).toInt = 308 := by decide
  have l_309 : (309 : Int32).toInt = 309 := by decide
  have l_310 : (310 : Int32).toInt = 310 := by decide
  have l_311 : (311 : Int32).toInt = 311 := by decide
  have l_40 : (40 : Int32).toInt = 40 := by decide
  have l_8 : (8 : Int32).toInt = 8 := by decide
  refine wp_bind (Q := fun w => (0 ≤ (w).toInt) ∧ ((w).toInt ≤ 1)) ?_ (fun w1 hq1 => ?_)
  · skip
    refine wp_eqn (fun hc2 => ?_) ?_
    · skip
      exact wp_some ⟨(by first | omega | (dsimp only; omega)), (by first | omega | (dsimp only; omega))⟩
    · skip
      exact wp_some ⟨(by first | omega | (dsimp only; omega)), (by first | omega | (dsimp only; omega))⟩
  · skip
    obtain ⟨h3, h4⟩ := hq1
    refine wp_eq_lo (by omega) (fun hc5 => ?_) (fun hc5 => ?_)
    · skip
      refine wp_eqn (fun hc6 => ?_) ?_
      · skip
        refine wp_bind (Q := fun w => (0 ≤ (w).toInt) ∧ ((w).toInt ≤ 1)) ?_ (fun w30 hq7 => ?_)
        · skip
          refine wp_eq_hi (by omega) (fun hc8 => ?_) (fun hc8 => ?_)
          · skip
            have c9 := ic_2_9 hI hk_p1
            refine wp_lt (fun hc10 => ?_) (fun hc10 => ?_)
            · skip
              exact wp_some ⟨(by first | omega | (dsimp only; omega)), (by first | omega | (dsimp only; omega))⟩
            · skip
              exact wp_some ⟨(by first | omega | (dsimp only; omega)), (by first | omega | (dsimp only; omega))⟩
          · skip
            exact wp_some ⟨(by first | omega | (dsimp only; omega)), (by first | omega | (dsimp only; omega))⟩
        · skip
          obtain ⟨h11, h12⟩ := hq7
          refine wp_le (fun hc13 => ?_) (fun hc13 => ?_)
          · skip
            refine wp_bind (tc_X10_refuse hk_p0 hI) (fun q34 hq14 => ?_)
            obtain ⟨h15, h16⟩ := hq14
            exact wp_some ⟨h15, h16⟩
          · skip
            refine wp_bind (Q := fun w => (0 ≤ (w).toInt) ∧ ((w).toInt ≤ 1)) ?_ (fun w35 hq17 => ?_)
            · skip
              refine wp_eqn (fun hc18 => ?_) ?_
              · skip
                exact wp_some ⟨(by first | omega | (dsimp only; omega)), (by first | omega | (dsimp only; omega))⟩
              · skip
                exact wp_some ⟨(by first | omega | (dsimp only; omega)), (by first | omega | (dsimp only; omega))⟩
            · skip
              obtain ⟨h19, h20⟩ := hq17
              refine wp_eqn (fun hc21 => ?_) ?_
              · skip
                refine wp_eq_lo (by omega) (fun hc22 => ?_) (fun hc22 => ?_)
                · skip
                  refine wp_bind (tc_X10_step hk_p0 hI) (fun q40 hq23 => ?_)
                  obtain ⟨h24, h25⟩ := hq23
                  refine wp_eqn (fun hc26 => ?_) ?_
                  · skip
                    refine wp_bind (tc_X3_readTie hk_p0 hk_p1 hN h24) (fun q42 hq27 => ?_)
                    obtain ⟨h28, h29⟩ := hq27
                    exact wp_some ⟨h28, (h29.trans h25)⟩
                  · skip
                    refine wp_eqn (fun hc30 => ?_) ?_
                    · skip
                      refine wp_bind (tc_X10_takeNumber_m hk_p0 h24) (fun q44 hq31 => ?_)
                      obtain ⟨h32, h33, h34, h35⟩ := hq31
                      refine wp_letv (fun S45 eS45 => ?_)
                      have hIS45 : IC P S45 := by rw [eS45]; exact (iw_2_8 h34 hk_p1 (by omega) (by omega) (hN 0 8 (by decide)))
                      have hpS45 : S45.2.2 = S.2.2 := by rw [eS45]; exact (h35.trans h25)
                      exact wp_some ⟨hIS45, hpS45⟩
                    · skip
                      refine wp_eq_hi (by omega) (fun hc36 => ?_) (fun hc36 => ?_)
                      · skip
                        refine wp_bind (tc_X3_readPerson hk_p0 hk_p1 hN h24) (fun q47 hq37 => ?_)
                        obtain ⟨h38, h39⟩ := hq37
                        exact wp_some ⟨h38, (h39.trans h25)⟩
                      · skip
                        refine wp_eqn (fun hc40 => ?_) ?_
                        · skip
                          refine wp_bind (tc_X3_readBoat hk_p0 hk_p1 hN h24) (fun q49 hq41 => ?_)
                          obtain ⟨h42, h43⟩ := hq41
                          exact wp_some ⟨h42, (h43.trans h25)⟩
                        · skip
                          refine wp_bind (tc_X10_takeNumber hk_p0 h24) (fun q50 hq44 => ?_)
                          obtain ⟨h45, h46⟩ := hq44
                          refine wp_letv (fun S51 eS51 => ?_)
                          have hIS51 : IC P S51 := by rw [eS51]; exact (iw_2_10 h45 hk_p1)
                          have hpS51 : S51.2.2 = S.2.2 := by rw [eS51]; exact (h46.trans h25)
                          exact wp_some ⟨hIS51, hpS51⟩
                · skip
                  refine wp_bind (tc_X10_refuse hk_p0 hI) (fun q54 hq47 => ?_)
                  obtain ⟨h48, h49⟩ := hq47
                  exact wp_some ⟨h48, h49⟩
              · skip
                refine wp_bind (tc_X10_refuse hk_p0 hI) (fun q38 hq50 => ?_)
                obtain ⟨h51, h52⟩ := hq50
                exact wp_some ⟨h51, h52⟩
      · skip
        refine wp_eqn (fun hc53 => ?_) ?_
        · skip
          refine wp_bind (Q := fun w => (0 ≤ (w).toInt) ∧ ((w).toInt ≤ 1)) ?_ (fun w56 hq54 => ?_)
          · skip
            refine wp_eqn (fun hc55 => ?_) ?_
            · skip
              have c56 := ic_2_9 hI hk_p1
              refine wp_lt (fun hc57 => ?_) (fun hc57 => ?_)
              · skip
                exact wp_some ⟨(by first | omega | (dsimp only; omega)), (by first | omega | (dsimp only; omega))⟩
              · skip
                exact wp_some ⟨(by first | omega | (dsimp only; omega)), (by first | omega | (dsimp only; omega))⟩
            · skip
              exact wp_some ⟨(by first | omega | (dsimp only; omega)), (by first | omega | (dsimp only; omega))⟩
          · skip
            obtain ⟨h58, h59⟩ := hq54
            refine wp_le (fun hc60 => ?_) (fun hc60 => ?_)
            · skip
              refine wp_bind (tc_X10_refuse hk_p0 hI) (fun q60 hq61 => ?_)
              obtain ⟨h62, h63⟩ := hq61
              exact wp_some ⟨h62, h63⟩
            · skip
              refine wp_bind (Q := fun w => (0 ≤ (w).toInt) ∧ ((w).toInt ≤ 1)) ?_ (fun w61 hq64 => ?_)
              · skip
                refine wp_eqn (fun hc65 => ?_) ?_
                · skip
                  exact wp_some ⟨(by first | omega | (dsimp only; omega)), (by first | omega | (dsimp only; omega))⟩
                · skip
                  exact wp_some ⟨(by first | omega | (dsimp only; omega)), (by first | omega | (dsimp only; omega))⟩
              · skip
                obtain ⟨h66, h67⟩ := hq64
                refine wp_eqn (fun hc68 => ?_) ?_
                · skip
                  refine wp_eq_lo (by omega) (fun hc69 => ?_) (fun hc69 => ?_)
                  · skip
                    refine wp_bind (tc_X10_step hk_p0 hI) (fun q66 hq70 => ?_)
                    obtain ⟨h71, h72⟩ := hq70
                    refine wp_eq_hi (by omega) (fun hc73 => ?_) (fun hc73 => ?_)
                    · skip
                      refine wp_bind (tc_X3_readTie hk_p0 hk_p1 hN h71) (fun q68 hq74 => ?_)
                      obtain ⟨h75, h76⟩ := hq74
                      exact wp_some ⟨h75, (h76.trans h72)⟩
                    · skip
                      refine wp_eqn (fun hc77 => ?_) ?_
                      · skip
                        refine wp_bind (tc_X10_takeNumber_m hk_p0 h71) (fun q70 hq78 => ?_)
                        obtain ⟨h79, h80, h81, h82⟩ := hq78
                        refine wp_letv (fun S71 eS71 => ?_)
                        have hIS71 : IC P S71 := by rw [eS71]; exact (iw_2_8 h81 hk_p1 (by omega) (by omega) (hN 0 8 (by decide)))
                        have hpS71 : S71.2.2 = S.2.2 := by rw [eS71]; exact (h82.trans h72)
                        exact wp_some ⟨hIS71, hpS71⟩
                      · skip
                        refine wp_eqn (fun hc83 => ?_) ?_
                        · skip
                          refine wp_bind (tc_X3_readPerson hk_p0 hk_p1 hN h71) (fun q73 hq84 => ?_)
                          obtain ⟨h85, h86⟩ := hq84
                          exact wp_some ⟨h85, (h86.trans h72)⟩
                        · skip
                          refine wp_eqn (fun hc87 => ?_) ?_
                          · skip
                            refine wp_bind (tc_X3_readBoat hk_p0 hk_p1 hN h71) (fun q75 hq88 => ?_)
                            obtain ⟨h89, h90⟩ := hq88
                            exact wp_some ⟨h89, (h90.trans h72)⟩
                          · skip
                            refine wp_bind (tc_X10_takeNumber hk_p0 h71) (fun q76 hq91 => ?_)
                            obtain ⟨h92, h93⟩ := hq91
                            refine wp_letv (fun S77 eS77 => ?_)
                            have hIS77 : IC P S77 := by rw [eS77]; exact (iw_2_10 h92 hk_p1)
                            have hpS77 : S77.2.2 = S.2.2 := by rw [eS77]; exact (h93.trans h72)
                            exact wp_some ⟨hIS77, hpS77⟩
                  · skip
                    refine wp_bind (tc_X10_refuse hk_p0 hI) (fun q80 hq94 => ?_)
                    obtain ⟨h95, h96⟩ := hq94
                    exact wp_some ⟨h95, h96⟩
                · skip
                  refine wp_bind (tc_X10_refuse hk_p0 hI) (fun q64 hq97 => ?_)
                  obtain ⟨h98, h99⟩ := hq97
                  exact wp_some ⟨h98, h99⟩
        · skip
          refine wp_eqn (fun hc100 => ?_) ?_
          · skip
            refine wp_bind (Q := fun w => (0 ≤ (w).toInt) ∧ ((w).toInt ≤ 1)) ?_ (fun w82 hq101 => ?_)
            · skip
              refine wp_eqn (fun hc102 => ?_) ?_
              · skip
                have c103 := ic_2_9 hI hk_p1
                refine wp_lt (fun hc104 => ?_) (fun hc104 => ?_)
                · skip
                  exact wp_some ⟨(by first | omega | (dsimp only; omega)), (by first | omega | (dsimp only; omega))⟩
                · skip
                  exact wp_some ⟨(by first | omega | (dsimp only; omega)), (by first | omega | (dsimp only; omega))⟩
              · skip
                exact wp_some ⟨(by first | omega | (dsimp only; omega)), (by first | omega | (dsimp only; omega))⟩
            · skip
              obtain ⟨h105, h106⟩ := hq101
              refine wp_le (fun hc107 => ?_) (fun hc107 => ?_)
              · skip
                refine wp_bind (tc_X10_refuse hk_p0 hI) (fun q86 hq108 => ?_)
                obtain ⟨h109, h110⟩ := hq108
                exact wp_some ⟨h109, h110⟩
              · skip
                refine wp_bind (Q := fun w => (0 ≤ (w).toInt) ∧ ((w).toInt ≤ 1)) ?_ (fun w87 hq111 => ?_)
                · skip
                  refine wp_eqn (fun hc112 => ?_) ?_
                  · skip
                    exact wp_some ⟨(by first | omega | (dsimp only; omega)), (by first | omega | (dsimp only; omega))⟩
                  · skip
                    exact wp_some ⟨(by first | omega | (dsimp only; omega)), (by first | omega | (dsimp only; omega))⟩
                · skip
                  obtain ⟨h113, h114⟩ := hq111
                  refine wp_eqn (fun hc115 => ?_) ?_
                  · skip
                    refine wp_eq_lo (by omega) (fun hc116 => ?_) (fun hc116 => ?_)
                    · skip
                      refine wp_bind (tc_X10_step hk_p0 hI) (fun q92 hq117 => ?_)
                      obtain ⟨h118, h119⟩ := hq117
                      refine wp_eqn (fun hc120 => ?_) ?_
                      · skip
                        refine wp_bind (tc_X3_readTie hk_p0 hk_p1 hN h118) (fun q94 hq121 => ?_)
                        obtain ⟨h122, h123⟩ := hq121
                        exact wp_some ⟨h122, (h123.trans h119)⟩
                      · skip
                        refine wp_eqn (fun hc124 => ?_) ?_
                        · skip
                          refine wp_bind (tc_X10_takeNumber_m hk_p0 h118) (fun q96 hq125 => ?_)
                          obtain ⟨h126, h127, h128, h129⟩ := hq125
                          refine wp_letv (fun S97 eS97 => ?_)
                          have hIS97 : IC P S97 := by rw [eS97]; exact (iw_2_8 h128 hk_p1 (by omega) (by omega) (hN 0 8 (by decide)))
                          have hpS97 : S97.2.2 = S.2.2 := by rw [eS97]; exact (h129.trans h119)
                          exact wp_some ⟨hIS97, hpS97⟩
                        · skip
                          refine wp_eqn (fun hc130 => ?_) ?_
                          · skip
                            refine wp_bind (tc_X3_readPerson hk_p0 hk_p1 hN h118) (fun q99 hq131 => ?_)
                            obtain ⟨h132, h133⟩ := hq131
                            exact wp_some ⟨h132, (h133.trans h119)⟩
                          · skip
                            refine wp_eq_hi (by omega) (fun hc134 => ?_) (fun hc134 => ?_)
                            · skip
                              refine wp_bind (tc_X3_readBoat hk_p0 hk_p1 hN h118) (fun q101 hq135 => ?_)
                              obtain ⟨h136, h137⟩ := hq135
                              exact wp_some ⟨h136, (h137.trans h119)⟩
                            · skip
                              refine wp_bind (tc_X10_takeNumber hk_p0 h118) (fun q102 hq138 => ?_)
                              obtain ⟨h139, h140⟩ := hq138
                              refine wp_letv (fun S103 eS103 => ?_)
                              have hIS103 : IC P S103 := by rw [eS103]; exact (iw_2_10 h139 hk_p1)
                              have hpS103 : S103.2.2 = S.2.2 := by rw [eS103]; exact (h140.trans h119)
                              exact wp_some ⟨hIS103, hpS103⟩
                    · skip
                      refine wp_bind (tc_X10_refuse hk_p0 hI) (fun q106 hq141 => ?_)
                      obtain ⟨h142, h143⟩ := hq141
                      exact wp_some ⟨h142, h143⟩
                  · skip
                    refine wp_bind (tc_X10_refuse hk_p0 hI) (fun q90 hq144 => ?_)
                    obtain ⟨h145, h146⟩ := hq144
                    exact wp_some ⟨h145, h146⟩
          · skip
            refine wp_eqn (fun hc147 => ?_) ?_
            · skip
              refine wp_bind (Q := fun w => (0 ≤ (w).toInt) ∧ ((w).toInt ≤ 1)) ?_ (fun w108 hq148 => ?_)
              · skip
                refine wp_eqn (fun hc149 => ?_) ?_
                · skip
                  have c150 := ic_2_9 hI hk_p1
                  refine wp_lt (fun hc151 => ?_) (fun hc151 => ?_)
                  · skip
                    exact wp_some ⟨(by first | omega | (dsimp only; omega)), (by first | omega | (dsimp only; omega))⟩
                  · skip
                    exact wp_some ⟨(by first | omega | (dsimp only; omega)), (by first | omega | (dsimp only; omega))⟩
                · skip
                  exact wp_some ⟨(by first | omega | (dsimp only; omega)), (by first | omega | (dsimp only; omega))⟩
              · skip
                obtain ⟨h152, h153⟩ := hq148
                refine wp_le (fun hc154 => ?_) (fun hc154 => ?_)
                · skip
                  refine wp_bind (tc_X10_refuse hk_p0 hI) (fun q112 hq155 => ?_)
                  obtain ⟨h156, h157⟩ := hq155
                  exact wp_some ⟨h156, h157⟩
                · skip
                  refine wp_bind (Q := fun w => (0 ≤ (w).toInt) ∧ ((w).toInt ≤ 1)) ?_ (fun w113 hq158 => ?_)
                  · skip
                    refine wp_eqn (fun hc159 => ?_) ?_
                    · skip
                      exact wp_some ⟨(by first | omega | (dsimp only; omega)), (by first | omega | (dsimp only; omega))⟩
                    · skip
                      exact wp_some ⟨(by first | omega | (dsimp only; omega)), (by first | omega | (dsimp only; omega))⟩
                  · skip
                    obtain ⟨h160, h161⟩ := hq158
                    refine wp_eqn (fun hc162 => ?_) ?_
                    · skip
                      refine wp_eq_lo (by omega) (fun hc163 => ?_) (fun hc163 => ?_)
                      · skip
                        refine wp_bind (tc_X10_step hk_p0 hI) (fun q118 hq164 => ?_)
                        obtain ⟨h165, h166⟩ := hq164
                        refine wp_eqn (fun hc167 => ?_) ?_
                        · skip
                          refine wp_bind (tc_X3_readTie hk_p0 hk_p1 hN h165) (fun q120 hq168 => ?_)
                          obtain ⟨h169, h170⟩ := hq168
                          exact wp_some ⟨h169, (h170.trans h166)⟩
                        · skip
                          refine wp_eqn (fun hc171 => ?_) ?_
                          · skip
                            refine wp_bind (tc_X10_takeNumber_m hk_p0 h165) (fun q122 hq172 => ?_)
                            obtain ⟨h173, h174, h175, h176⟩ := hq172
                            refine wp_letv (fun S123 eS123 => ?_)
                            have hIS123 : IC P S123 := by rw [eS123]; exact (iw_2_8 h175 hk_p1 (by omega) (by omega) (hN 0 8 (by decide)))
                            have hpS123 : S123.2.2 = S.2.2 := by rw [eS123]; exact (h176.trans h166)
                            exact wp_some ⟨hIS123, hpS123⟩
                          · skip
                            refine wp_eqn (fun hc177 => ?_) ?_
                            · skip
                              refine wp_bind (tc_X3_readPerson hk_p0 hk_p1 hN h165) (fun q125 hq178 => ?_)
                              obtain ⟨h179, h180⟩ := hq178
                              exact wp_some ⟨h179, (h180.trans h166)⟩
                            · skip
                              refine wp_eqn (fun hc181 => ?_) ?_
                              · skip
                                refine wp_bind (tc_X3_readBoat hk_p0 hk_p1 hN h165) (fun q127 hq182 => ?_)
                                obtain ⟨h183, h184⟩ := hq182
                                exact wp_some ⟨h183, (h184.trans h166)⟩
                              · skip
                                refine wp_bind (tc_X10_takeNumber hk_p0 h165) (fun q128 hq185 => ?_)
                                obtain ⟨h186, h187⟩ := hq185
                                refine wp_letv (fun S129 eS129 => ?_)
                                have hIS129 : IC P S129 := by rw [eS129]; exact (iw_2_10 h186 hk_p1)
                                have hpS129 : S129.2.2 = S.2.2 := by rw [eS129]; exact (h187.trans h166)
                                exact wp_some ⟨hIS129, hpS129⟩
                      · skip
                        refine wp_bind (tc_X10_refuse hk_p0 hI) (fun q132 hq188 => ?_)
                        obtain ⟨h189, h190⟩ := hq188
                        exact wp_some ⟨h189, h190⟩
                    · skip
                      refine wp_bind (tc_X10_refuse hk_p0 hI) (fun q116 hq191 => ?_)
                      obtain ⟨h192, h193⟩ := hq191
                      exact wp_some ⟨h192, h193⟩
            · skip
              refine wp_bind (tc_X10_refuse hk_p0 hI) (fun q133 hq194 => ?_)
              obtain ⟨h195, h196⟩ := hq194
              exact wp_some ⟨h195, h196⟩
    · skip
      refine wp_bind (Q := fun w => (0 ≤ (w).toInt) ∧ ((w).toInt ≤ 1)) ?_ (fun w4 hq197 => ?_)
      · skip
        refine wp_eqn (fun hc198 => ?_) ?_
        · skip
          have c199 := ic_2_9 hI hk_p1
          refine wp_lt (fun hc200 => ?_) (fun hc200 => ?_)
          · skip
            exact wp_some ⟨(by first | omega | (dsimp only; omega)), (by first | omega | (dsimp only; omega))⟩
          · skip
            exact wp_some ⟨(by first | omega | (dsimp only; omega)), (by first | omega | (dsimp only; omega))⟩
        · skip
          exact wp_some ⟨(by first | omega | (dsimp only; omega)), (by first | omega | (dsimp only; omega))⟩
      · skip
        obtain ⟨h201, h202⟩ := hq197
        refine wp_le (fun hc203 => ?_) (fun hc203 => ?_)
        · skip
          refine wp_bind (tc_X10_refuse hk_p0 hI) (fun q8 hq204 => ?_)
          obtain ⟨h205, h206⟩ := hq204
          exact wp_some ⟨h205, h206⟩
        · skip
          refine wp_bind (Q := fun w => (0 ≤ (w).toInt) ∧ ((w).toInt ≤ 1)) ?_ (fun w9 hq207 => ?_)
          · skip
            refine wp_eqn (fun hc208 => ?_) ?_
            · skip
              exact wp_some ⟨(by first | omega | (dsimp only; omega)), (by first | omega | (dsimp only; omega))⟩
            · skip
              exact wp_some ⟨(by first | omega | (dsimp only; omega)), (by first | omega | (dsimp only; omega))⟩
          · skip
            obtain ⟨h209, h210⟩ := hq207
            refine wp_eqn (fun hc211 => ?_) ?_
            · skip
              refine wp_eq_lo (by omega) (fun hc212 => ?_) (fun hc212 => ?_)
              · skip
                refine wp_bind (tc_X10_step hk_p0 hI) (fun q14 hq213 => ?_)
                obtain ⟨h214, h215⟩ := hq213
                refine wp_eqn (fun hc216 => ?_) ?_
                · skip
                  refine wp_bind (tc_X3_readTie hk_p0 hk_p1 hN h214) (fun q16 hq217 => ?_)
                  obtain ⟨h218, h219⟩ := hq217
                  exact wp_some ⟨h218, (h219.trans h215)⟩
                · skip
                  refine wp_eqn (fun hc220 => ?_) ?_
                  · skip
                    refine wp_bind (tc_X10_takeNumber_m hk_p0 h214) (fun q18 hq221 => ?_)
                    obtain ⟨h222, h223, h224, h225⟩ := hq221
                    refine wp_letv (fun S19 eS19 => ?_)
                    have hIS19 : IC P S19 := by rw [eS19]; exact (iw_2_8 h224 hk_p1 (by omega) (by omega) (hN 0 8 (by decide)))
                    have hpS19 : S19.2.2 = S.2.2 := by rw [eS19]; exact (h225.trans h215)
                    exact wp_some ⟨hIS19, hpS19⟩
                  · skip
                    refine wp_eqn (fun hc226 => ?_) ?_
                    · skip
                      refine wp_bind (tc_X3_readPerson hk_p0 hk_p1 hN h214) (fun q21 hq227 => ?_)
                      obtain ⟨h228, h229⟩ := hq227
                      exact wp_some ⟨h228, (h229.trans h215)⟩
                    · skip
                      refine wp_eqn (fun hc230 => ?_) ?_
                      · skip
                        refine wp_bind (tc_X3_readBoat hk_p0 hk_p1 hN h214) (fun q23 hq231 => ?_)
                        obtain ⟨h232, h233⟩ := hq231
                        exact wp_some ⟨h232, (h233.trans h215)⟩
                      · skip
                        refine wp_bind (tc_X10_takeNumber hk_p0 h214) (fun q24 hq234 => ?_)
                        obtain ⟨h235, h236⟩ := hq234
                        refine wp_letv (fun S25 eS25 => ?_)
                        have hIS25 : IC P S25 := by rw [eS25]; exact (iw_2_10 h235 hk_p1)
                        have hpS25 : S25.2.2 = S.2.2 := by rw [eS25]; exact (h236.trans h215)
                        exact wp_some ⟨hIS25, hpS25⟩
              · skip
                refine wp_bind (tc_X10_refuse hk_p0 hI) (fun q28 hq237 => ?_)
                obtain ⟨h238, h239⟩ := hq237
                exact wp_some ⟨h238, h239⟩
            · skip
              refine wp_bind (tc_X10_refuse hk_p0 hI) (fun q12 hq240 => ?_)
              obtain ⟨h241, h242⟩ := hq240
              exact wp_some ⟨h241, h242⟩
theorem tc_X3_readAll_L10 {P : Nat → Nat → Option Int} {k0 : Nat} {k1 : Nat} (hk_k0 : cK k0 = 8) (hk_k1 : cK k1 = 2) (hN : NP P k1)  : ∀ (N : Nat) (a2 : Int32) (S : cT), 0 ≤ a2.toInt → a2.toInt ≤ 41 → IC P S → 41 - a2.toInt < (N : Int) → wp (fc_X3_readAll_L10 k0 k1 N a2 S) (fun w => (0 ≤ (w.1).toInt) ∧ ((w.1).toInt ≤ 41) ∧ (IC P w.2) ∧ (w.2.2.2 = S.2.2)) := by
  intro N
  induction N with
  | zero =>
    intro a2 S vl_a2 vu_a2 hI hm
    exfalso; omega
  | succ N ih =>
    intro a2 S vl_a2 vu_a2 hI hm
    rw [fc_X3_readAll_L10]
    have l_1 : (1 : Int32).toInt = 1 := by decide
    have l_40 : (40 : Int32).toInt = 40 := by decide
    have l_59 : (59 : Int32).toInt = 59 := by decide
    refine wp_lt (fun hc1 => ?_) (fun hc1 => ?_)
    · skip
      exact wp_some ⟨(by first | omega | (dsimp only; omega)), (by first | omega | (dsimp only; omega)), hI, rfl⟩
    · skip
      refine wp_bind (tc_X3_readClause hk_k0 hk_k1 hN hI) (fun q4 hq2 => ?_)
      obtain ⟨h3, h4⟩ := hq2
      refine wp_eqn (fun hc5 => ?_) ?_
      · skip
        refine wp_bind (tc_X10_step hk_k0 h3) (fun q6 hq6 => ?_)
        obtain ⟨h7, h8⟩ := hq6
        have t9 : (a2 + (1 : Int32) : Int32).toInt = (a2).toInt + ((1 : Int32)).toInt := tA (by omega) (by omega)
        have zz10 := (ih (a2 + (1 : Int32)) q6 (by omega) (by omega) h7 (by omega))
        exact wp_mono zz10 (fun w hw => ⟨hw.1, hw.2.1, hw.2.2.1, hw.2.2.2.trans (h8.trans h4)⟩)
      · skip
        exact wp_some ⟨(by first | omega | (dsimp only; omega)), (by first | omega | (dsimp only; omega)), h3, h4⟩
theorem tc_X3_readAll {P : Nat → Nat → Option Int} {p0 : Nat} {p1 : Nat} {S : cT} (hk_p0 : cK p0 = 8) (hk_p1 : cK p1 = 2) (hN : NP P p1) (hI : IC P S) : wp (fc_X3_readAll p0 p1 S) (fun w => (IC P w) ∧ (w.2.2 = S.2.2)) := by
  unfold fc_X3_readAll
  have l_0 : (0 : Int32).toInt = 0 := by decide
  have l_260 : (260 : Int32).toInt = 260 := by decide
  have fu : (FU : Int) = 1000000 := rfl
  refine wp_bind (tc_X2_clear hk_p1 hN hI) (fun q1 hq1 => ?_)
  obtain ⟨h2, h3⟩ := hq1
  refine wp_bind (tc_X10_scan hk_p0 h2) (fun q2 hq4 => ?_)
  obtain ⟨h5, h6⟩ := hq4
  refine wp_bind (tc_X3_readAll_L10 hk_p0 hk_p1 hN FU (0 : Int32) q2 (by omega) (by omega) h5 (by omega)) (fun w7 hq7 => ?_)
  obtain ⟨h8, h9, h10, h11⟩ := hq7
  refine wp_eqn (fun hc12 => ?_) ?_
  · skip
    have c13 := ic_2_9 h10 hk_p1
    refine wp_eq_lo (by omega) (fun hc14 => ?_) (fun hc14 => ?_)
    · skip
      refine wp_bind (tc_X10_refuse hk_p0 h10) (fun q11 hq15 => ?_)
      obtain ⟨h16, h17⟩ := hq15
      exact wp_some ⟨h16, (h17.trans (h11.trans (h6.trans h3)))⟩
    · skip
      exact wp_some ⟨h10, (h11.trans (h6.trans h3))⟩
  · skip
    refine wp_bind (tc_X10_refuse hk_p0 h10) (fun q9 hq18 => ?_)
    obtain ⟨h19, h20⟩ := hq18
    exact wp_some ⟨h19, (h20.trans (h11.trans (h6.trans h3)))⟩
theorem tc_X9_set {P : Nat → Nat → Option Int} {b : Nat} {p0 : Nat} {p1 : Int32} {p2 : Int32} {p3 : Int32} {p4 : Int32} {S : cT} (hk_b : cK b = 7) (hk_p0 : cK p0 = 2) (hI : IC P S) : wp (fc_X9_set b p0 p1 p2 p3 p4 S) (fun w => (IC P w) ∧ (w.2.2 = S.2.2)) := by
  unfold fc_X9_set
  have l_0 : (0 : Int32).toInt = 0 := by decide
  have l_1 : (1 : Int32).toInt = 1 := by decide
  have l_2 : (2 : Int32).toInt = 2 := by decide
  have l_3 : (3 : Int32).toInt = 3 := by decide
  have l_4 : (4 : Int32).toInt = 4 := by decide
  have l_5 : (5 : Int32).toInt = 5 := by decide
  have l_6 : (6 : Int32).toInt = 6 := by decide
  have l_7 : (7 : Int32).toInt = 7 := by decide
  refine wp_bif (inb_of (by omega) (by omega)) ?_
  refine wp_letv (fun S2 eS2 => ?_)
  have hIS2 : IC P S2 := by rw [eS2]; exact (iw_cb hI)
  have hpS2 : S2.2.2 = S.2.2 := by rw [eS2]; exact rfl
  refine wp_bif (inb_of (by omega) (by omega)) ?_
  refine wp_letv (fun S4 eS4 => ?_)
  have hIS4 : IC P S4 := by rw [eS4]; exact (iw_cb hIS2)
  have hpS4 : S4.2.2 = S.2.2 := by rw [eS4]; exact hpS2
  refine wp_bif (inb_of (by omega) (by omega)) ?_
  refine wp_letv (fun S6 eS6 => ?_)
  have hIS6 : IC P S6 := by rw [eS6]; exact (iw_cb hIS4)
  have hpS6 : S6.2.2 = S.2.2 := by rw [eS6]; exact hpS4
  refine wp_bif (inb_of (by omega) (by omega)) ?_
  refine wp_letv (fun S8 eS8 => ?_)
  have hIS8 : IC P S8 := by rw [eS8]; exact (iw_cb hIS6)
  have hpS8 : S8.2.2 = S.2.2 := by rw [eS8]; exact hpS6
  refine wp_bif (inb_of (by omega) (by omega)) ?_
  refine wp_letv (fun S10 eS10 => ?_)
  have hIS10 : IC P S10 := by rw [eS10]; exact (iw_cb hIS8)
  have hpS10 : S10.2.2 = S.2.2 := by rw [eS10]; exact hpS8
  refine wp_bind (tc_X2_heed hk_p0 hIS10) (fun q11 hq1 => ?_)
  refine wp_bif (inb_of (by omega) (by omega)) ?_
  refine wp_letv (fun S13 eS13 => ?_)
  have hIS13 : IC P S13 := by rw [eS13]; exact (iw_cb hIS10)
  have hpS13 : S13.2.2 = S.2.2 := by rw [eS13]; exact hpS10
  refine wp_bif (inb_of (by omega) (by omega)) ?_
  refine wp_letv (fun S15 eS15 => ?_)
  have hIS15 : IC P S15 := by rw [eS15]; exact (iw_cb hIS13)
  have hpS15 : S15.2.2 = S.2.2 := by rw [eS15]; exact hpS13
  refine wp_bif (inb_of (by omega) (by omega)) ?_
  refine wp_letv (fun S17 eS17 => ?_)
  have hIS17 : IC P S17 := by rw [eS17]; exact (iw_cb hIS15)
  have hpS17 : S17.2.2 = S.2.2 := by rw [eS17]; exact hpS15
  exact wp_some ⟨hIS17, hpS17⟩
theorem tc_X7_joined {p0 : Int32} {p1 : Int64} {p2 : Int64}   : wp (fc_X7_joined p0 p1 p2) (fun w => True) := by
  unfold fc_X7_joined
  have l_0 : (0 : Int32).toInt = 0 := by decide
  have l_256 : (256 : Int32).toInt = 256 := by decide
  have l_257 : (257 : Int32).toInt = 257 := by decide
  have l_316 : (316 : Int32).toInt = 316 := by decide
  have l_37 : (37 : Int32).toInt = 37 := by decide
  have l_42 : (42 : Int32).toInt = 42 := by decide
  have l_43 : (43 : Int32).toInt = 43 := by decide
  have l_45 : (45 : Int32).toInt = 45 := by decide
  have l_47 : (47 : Int32).toInt = 47 := by decide
  have l_60 : (60 : Int32).toInt = 60 := by decide
  have l_61 : (61 : Int32).toInt = 61 := by decide
  have l_62 : (62 : Int32).toInt = 62 := by decide
  refine wp_eqn (fun hc1 => ?_) ?_
  · skip
    refine wp_if (fun hc2 => ?_) (fun hc2 => ?_)
    · skip
      exact wp_some trivial
    · skip
      refine wp_dzl (fun e => hc2 (by rw [e]; decide)) ?_
      exact wp_some trivial
  · skip
    refine wp_eqn (fun hc3 => ?_) ?_
    · skip
      exact wp_some trivial
    · skip
      refine wp_eqn (fun hc4 => ?_) ?_
      · skip
        exact wp_some trivial
      · skip
        refine wp_eqn (fun hc5 => ?_) ?_
        · skip
          exact wp_some trivial
        · skip
          refine wp_eqn (fun hc6 => ?_) ?_
          · skip
            refine wp_if (fun hc7 => ?_) (fun hc7 => ?_)
            · skip
              exact wp_some trivial
            · skip
              refine wp_dzl (fun e => hc7 (by rw [e]; decide)) ?_
              exact wp_some trivial
          · skip
            refine wp_eqn (fun hc8 => ?_) ?_
            · skip
              refine wp_le (fun hc9 => ?_) (fun hc9 => ?_)
              · skip
                exact wp_some trivial
              · skip
                exact wp_some trivial
            · skip
              refine wp_eqn (fun hc10 => ?_) ?_
              · skip
                refine wp_if (fun hc11 => ?_) (fun hc11 => ?_)
                · skip
                  exact wp_some trivial
                · skip
                  exact wp_some trivial
              · skip
                refine wp_eqn (fun hc12 => ?_) ?_
                · skip
                  refine wp_if (fun hc13 => ?_) (fun hc13 => ?_)
                  · skip
                    exact wp_some trivial
                  · skip
                    exact wp_some trivial
                · skip
                  refine wp_eqn (fun hc14 => ?_) ?_
                  · skip
                    refine wp_lt (fun hc15 => ?_) (fun hc15 => ?_)
                    · skip
                      exact wp_some trivial
                    · skip
                      exact wp_some trivial
                  · skip
                    refine wp_eqn (fun hc16 => ?_) ?_
                    · skip
                      refine wp_if (fun hc17 => ?_) (fun hc17 => ?_)
                      · skip
                        exact wp_some trivial
                      · skip
                        exact wp_some trivial
                    · skip
                      refine wp_eqn (fun hc18 => ?_) ?_
                      · skip
                        exact wp_some trivial
                      · skip
                        exact wp_some trivial
theorem tc_X7_reckoned_L16 {P : Nat → Nat → Option Int} {k0 : Nat} {k2 : Int32} {k3 : Nat} {k4 : Nat} (hk_k0 : cK k0 = 6) (hk_k3 : cK k3 = 7) (hk_k4 : cK k4 = 21)  : ∀ (N : Nat) (a5 : Int32) (a6 : Int32) (S : cT), 0 ≤ a5.toInt → a5.toInt ≤ 64 → 0 ≤ a6.toInt → a6.toInt ≤ 400 → IC P S → 400 - a6.toInt < (N : Int) → wp (fc_X7_reckoned_L16 k0 k2 k3 k4 N a5 a6 S) (fun w => (0 ≤ (w.1).toInt) ∧ ((w.1).toInt ≤ 64) ∧ (0 ≤ (w.2.1).toInt) ∧ ((w.2.1).toInt ≤ 400) ∧ (IC P w.2.2) ∧ (w.2.2.2.2 = S.2.2)) := by
  intro N
  induction N with
  | zero =>
    intro a5 a6 S vl_a5 vu_a5 vl_a6 vu_a6 hI hm
    exfalso; omega
  | succ N ih =>
    intro a5 a6 S vl_a5 vu_a5 vl_a6 vu_a6 hI hm
    rw [fc_X7_reckoned_L16]
    obtain ⟨m_317, e_m317⟩ : ∃ x : Int32, x = (-317) := ⟨_, rfl⟩
    try rw [← e_m317]
    have l_m317 : m_317.toInt = -317 := by rw [e_m317]; decide
    obtain ⟨m_8, e_m8⟩ : ∃ x : Int32, x = (-8) := ⟨_, rfl⟩
    try rw [← e_m8]
    have l_m8 : m_8.toInt = -8 := by rw [e_m8]; decide
    obtain ⟨m_1, e_m1⟩ : ∃ x : Int32, x = (-1) := ⟨_, rfl⟩
    try rw [← e_m1]
    have l_m1 : m_1.toInt = -1 := by rw [e_m1]; decide
    have l_0 : (0 : Int32).toInt = 0 := by decide
    have l_1 : (1 : Int32).toInt = 1 := by decide
    have l_2 : (2 : Int32).toInt = 2 := by decide
    have l_400 : (400 : Int32).toInt = 400 := by decide
    have l_64 : (64 : Int32).toInt = 64 := by decide
    refine wp_le (fun hc1 => ?_) (fun hc1 => ?_)
    · skip
      exact wp_some ⟨(by first | omega | (dsimp only; omega)), (by first | omega | (dsimp only; omega)), (by first | omega | (dsimp only; omega)), (by first | omega | (dsimp only; omega)), hI, rfl⟩
    · skip
      refine wp_le (fun hc2 => ?_) (fun hc2 => ?_)
      · skip
        exact wp_some ⟨(by first | omega | (dsimp only; omega)), (by first | omega | (dsimp only; omega)), (by first | omega | (dsimp only; omega)), (by first | omega | (dsimp only; omega)), hI, rfl⟩
      · skip
        refine wp_bif (inb_of (by omega) (by omega)) ?_
        refine wp_letv (fun v3 ev3 => ?_)
        refine wp_lt (fun hc3 => ?_) (fun hc3 => ?_)
        · skip
          refine wp_eqn (fun hc4 => ?_) ?_
          · skip
            refine wp_lt (fun hc5 => ?_) (fun hc5 => ?_)
            · skip
              refine wp_lt (fun hc6 => ?_) (fun hc6 => ?_)
              · skip
                have t7 : (a6 + (1 : Int32) : Int32).toInt = (a6).toInt + ((1 : Int32)).toInt := tA (by omega) (by omega)
                exact (ih a5 (a6 + (1 : Int32)) S (by omega) (by omega) (by omega) (by omega) hI (by omega))
              · skip
                have t8 : (a5 + m_1 : Int32).toInt = (a5).toInt + (m_1).toInt := tA (by omega) (by omega)
                have t9 : ((a5 + m_1) - (1 : Int32) : Int32).toInt = ((a5 + m_1)).toInt - ((1 : Int32)).toInt := tS (by omega) (by omega)
                refine wp_bif (inb_of (by omega) (by omega)) ?_
                refine wp_letv (fun v14 ev14 => ?_)
                refine wp_bif (inb_of (by omega) (by omega)) ?_
                refine wp_letv (fun v15 ev15 => ?_)
                refine wp_bind (tc_X7_joined ) (fun q16 hq10 => ?_)
                refine wp_bif (inb_of (by omega) (by omega)) ?_
                refine wp_letv (fun S18 eS18 => ?_)
                have hIS18 : IC P S18 := by rw [eS18]; exact (iw_cb hI)
                have hpS18 : S18.2.2 = S.2.2 := by rw [eS18]; exact rfl
                have t11 : (a6 + (1 : Int32) : Int32).toInt = (a6).toInt + ((1 : Int32)).toInt := tA (by omega) (by omega)
                have zz12 := (ih (a5 + m_1) (a6 + (1 : Int32)) S18 (by omega) (by omega) (by omega) (by omega) hIS18 (by omega))
                exact wp_mono zz12 (fun w hw => ⟨hw.1, hw.2.1, hw.2.2.1, hw.2.2.2.1, hw.2.2.2.2.1, hw.2.2.2.2.2.trans hpS18⟩)
            · skip
              have t13 : (a5 - (1 : Int32) : Int32).toInt = (a5).toInt - ((1 : Int32)).toInt := tS (by omega) (by omega)
              refine wp_bif (inb_of (by omega) (by omega)) ?_
              refine wp_letv (fun v19 ev19 => ?_)
              refine wp_bif (inb_of (by omega) (by omega)) ?_
              refine wp_letv (fun S21 eS21 => ?_)
              have hIS21 : IC P S21 := by rw [eS21]; exact (iw_cb hI)
              have hpS21 : S21.2.2 = S.2.2 := by rw [eS21]; exact rfl
              have t14 : (a6 + (1 : Int32) : Int32).toInt = (a6).toInt + ((1 : Int32)).toInt := tA (by omega) (by omega)
              have zz15 := (ih a5 (a6 + (1 : Int32)) S21 (by omega) (by omega) (by omega) (by omega) hIS21 (by omega))
              exact wp_mono zz15 (fun w hw => ⟨hw.1, hw.2.1, hw.2.2.1, hw.2.2.2.1, hw.2.2.2.2.1, hw.2.2.2.2.2.trans hpS21⟩)
          · skip
            refine wp_lt (fun hc16 => ?_) (fun hc16 => ?_)
            · skip
              have t17 : (a6 + (1 : Int32) : Int32).toInt = (a6).toInt + ((1 : Int32)).toInt := tA (by omega) (by omega)
              exact (ih a5 (a6 + (1 : Int32)) S (by omega) (by omega) (by omega) (by omega) hI (by omega))
            · skip
              have t18 : (a5 + m_1 : Int32).toInt = (a5).toInt + (m_1).toInt := tA (by omega) (by omega)
              have t19 : ((a5 + m_1) - (1 : Int32) : Int32).toInt = ((a5 + m_1)).toInt - ((1 : Int32)).toInt := tS (by omega) (by omega)
              refine wp_bif (inb_of (by omega) (by omega)) ?_
              refine wp_letv (fun v7 ev7 => ?_)
              refine wp_bif (inb_of (by omega) (by omega)) ?_
              refine wp_letv (fun v8 ev8 => ?_)
              refine wp_bind (tc_X7_joined ) (fun q9 hq20 => ?_)
              refine wp_bif (inb_of (by omega) (by omega)) ?_
              refine wp_letv (fun S11 eS11 => ?_)
              have hIS11 : IC P S11 := by rw [eS11]; exact (iw_cb hI)
              have hpS11 : S11.2.2 = S.2.2 := by rw [eS11]; exact rfl
              have t21 : (a6 + (1 : Int32) : Int32).toInt = (a6).toInt + ((1 : Int32)).toInt := tA (by omega) (by omega)
              have zz22 := (ih (a5 + m_1) (a6 + (1 : Int32)) S11 (by omega) (by omega) (by omega) (by omega) hIS11 (by omega))
              exact wp_mono zz22 (fun w hw => ⟨hw.1, hw.2.1, hw.2.2.1, hw.2.2.2.1, hw.2.2.2.2.1, hw.2.2.2.2.2.trans hpS11⟩)
        · skip
          refine wp_le (fun hc23 => ?_) (fun hc23 => ?_)
          · skip
            refine wp_eqn (fun hc24 => ?_) ?_
            · skip
              refine wp_lt (fun hc25 => ?_) (fun hc25 => ?_)
              · skip
                refine wp_lt (fun hc26 => ?_) (fun hc26 => ?_)
                · skip
                  have t27 : (a6 + (1 : Int32) : Int32).toInt = (a6).toInt + ((1 : Int32)).toInt := tA (by omega) (by omega)
                  exact (ih a5 (a6 + (1 : Int32)) S (by omega) (by omega) (by omega) (by omega) hI (by omega))
                · skip
                  have t28 : (a5 + m_1 : Int32).toInt = (a5).toInt + (m_1).toInt := tA (by omega) (by omega)
                  have t29 : ((a5 + m_1) - (1 : Int32) : Int32).toInt = ((a5 + m_1)).toInt - ((1 : Int32)).toInt := tS (by omega) (by omega)
                  refine wp_bif (inb_of (by omega) (by omega)) ?_
                  refine wp_letv (fun v32 ev32 => ?_)
                  refine wp_bif (inb_of (by omega) (by omega)) ?_
                  refine wp_letv (fun v33 ev33 => ?_)
                  refine wp_bind (tc_X7_joined ) (fun q34 hq30 => ?_)
                  refine wp_bif (inb_of (by omega) (by omega)) ?_
                  refine wp_letv (fun S36 eS36 => ?_)
                  have hIS36 : IC P S36 := by rw [eS36]; exact (iw_cb hI)
                  have hpS36 : S36.2.2 = S.2.2 := by rw [eS36]; exact rfl
                  have t31 : (a6 + (1 : Int32) : Int32).toInt = (a6).toInt + ((1 : Int32)).toInt := tA (by omega) (by omega)
                  have zz32 := (ih (a5 + m_1) (a6 + (1 : Int32)) S36 (by omega) (by omega) (by omega) (by omega) hIS36 (by omega))
                  exact wp_mono zz32 (fun w hw => ⟨hw.1, hw.2.1, hw.2.2.1, hw.2.2.2.1, hw.2.2.2.2.1, hw.2.2.2.2.2.trans hpS36⟩)
              · skip
                have t33 : (a5 - (1 : Int32) : Int32).toInt = (a5).toInt - ((1 : Int32)).toInt := tS (by omega) (by omega)
                refine wp_bif (inb_of (by omega) (by omega)) ?_
                refine wp_letv (fun v37 ev37 => ?_)
                refine wp_bif (inb_of (by omega) (by omega)) ?_
                refine wp_letv (fun S39 eS39 => ?_)
                have hIS39 : IC P S39 := by rw [eS39]; exact (iw_cb hI)
                have hpS39 : S39.2.2 = S.2.2 := by rw [eS39]; exact rfl
                have t34 : (a6 + (1 : Int32) : Int32).toInt = (a6).toInt + ((1 : Int32)).toInt := tA (by omega) (by omega)
                have zz35 := (ih a5 (a6 + (1 : Int32)) S39 (by omega) (by omega) (by omega) (by omega) hIS39 (by omega))
                exact wp_mono zz35 (fun w hw => ⟨hw.1, hw.2.1, hw.2.2.1, hw.2.2.2.1, hw.2.2.2.2.1, hw.2.2.2.2.2.trans hpS39⟩)
            · skip
              refine wp_lt (fun hc36 => ?_) (fun hc36 => ?_)
              · skip
                have t37 : (a6 + (1 : Int32) : Int32).toInt = (a6).toInt + ((1 : Int32)).toInt := tA (by omega) (by omega)
                exact (ih a5 (a6 + (1 : Int32)) S (by omega) (by omega) (by omega) (by omega) hI (by omega))
              · skip
                have t38 : (a5 + m_1 : Int32).toInt = (a5).toInt + (m_1).toInt := tA (by omega) (by omega)
                have t39 : ((a5 + m_1) - (1 : Int32) : Int32).toInt = ((a5 + m_1)).toInt - ((1 : Int32)).toInt := tS (by omega) (by omega)
                refine wp_bif (inb_of (by omega) (by omega)) ?_
                refine wp_letv (fun v25 ev25 => ?_)
                refine wp_bif (inb_of (by omega) (by omega)) ?_
                refine wp_letv (fun v26 ev26 => ?_)
                refine wp_bind (tc_X7_joined ) (fun q27 hq40 => ?_)
                refine wp_bif (inb_of (by omega) (by omega)) ?_
                refine wp_letv (fun S29 eS29 => ?_)
                have hIS29 : IC P S29 := by rw [eS29]; exact (iw_cb hI)
                have hpS29 : S29.2.2 = S.2.2 := by rw [eS29]; exact rfl
                have t41 : (a6 + (1 : Int32) : Int32).toInt = (a6).toInt + ((1 : Int32)).toInt := tA (by omega) (by omega)
                have zz42 := (ih (a5 + m_1) (a6 + (1 : Int32)) S29 (by omega) (by omega) (by omega) (by omega) hIS29 (by omega))
                exact wp_mono zz42 (fun w hw => ⟨hw.1, hw.2.1, hw.2.2.1, hw.2.2.2.1, hw.2.2.2.2.1, hw.2.2.2.2.2.trans hpS29⟩)
          · skip
            refine wp_lt (fun hc43 => ?_) (fun hc43 => ?_)
            · skip
              have t44 : (m_1 - v3 : Int32).toInt = (m_1).toInt - (v3).toInt := tS (by omega) (by omega)
              refine wp_bif (inb_of (by omega) (by omega)) ?_
              refine wp_letv (fun v41 ev41 => ?_)
              refine wp_bif (inb_of (by omega) (by omega)) ?_
              refine wp_letv (fun S43 eS43 => ?_)
              have hIS43 : IC P S43 := by rw [eS43]; exact (iw_cb hI)
              have hpS43 : S43.2.2 = S.2.2 := by rw [eS43]; exact rfl
              have t45 : (a5 + (1 : Int32) : Int32).toInt = (a5).toInt + ((1 : Int32)).toInt := tA (by omega) (by omega)
              have t46 : (a6 + (1 : Int32) : Int32).toInt = (a6).toInt + ((1 : Int32)).toInt := tA (by omega) (by omega)
              have zz47 := (ih (a5 + (1 : Int32)) (a6 + (1 : Int32)) S43 (by omega) (by omega) (by omega) (by omega) hIS43 (by omega))
              exact wp_mono zz47 (fun w hw => ⟨hw.1, hw.2.1, hw.2.2.1, hw.2.2.2.1, hw.2.2.2.2.1, hw.2.2.2.2.2.trans hpS43⟩)
            · skip
              refine wp_bif (inb_of (by omega) (by omega)) ?_
              refine wp_letv (fun S45 eS45 => ?_)
              have hIS45 : IC P S45 := by rw [eS45]; exact (iw_cb hI)
              have hpS45 : S45.2.2 = S.2.2 := by rw [eS45]; exact rfl
              have t48 : (a5 + (1 : Int32) : Int32).toInt = (a5).toInt + ((1 : Int32)).toInt := tA (by omega) (by omega)
              have t49 : (a6 + (1 : Int32) : Int32).toInt = (a6).toInt + ((1 : Int32)).toInt := tA (by omega) (by omega)
              have zz50 := (ih (a5 + (1 : Int32)) (a6 + (1 : Int32)) S45 (by omega) (by omega) (by omega) (by omega) hIS45 (by omega))
              exact wp_mono zz50 (fun w hw => ⟨hw.1, hw.2.1, hw.2.2.1, hw.2.2.2.1, hw.2.2.2.2.1, hw.2.2.2.2.2.trans hpS45⟩)
