/-! ===== the step over the calls, and the start: J5 ===== -/
theorem s5 {S : cT} {T : mT} (h : J5 S T) (j : Nat) (hj : j ≤ 35) (a1 a2 a3 a4 a5 : Int32) : SStp J5 S T j a1 a2 a3 a4 a5 := by
  have hJ := h
  obtain ⟨hI, hA, R⟩ := h
  have hP : IC (PV noD S) S := IC_pv hI
  have hQ : Aft (QV noD T) T := IQ_qv hA
  have isp : (S.2.2.1 = 113 ∧ S.2.2.2 = 125) ∨ (S.2.2.1 = 125 ∧ S.2.2.2 = 113) := hI.2.2
  match j, hj with
  | 0, _ => exact st_weak _ (s_feed hJ)
  | 1, _ => exact st_weak _ (s_end hJ)
  | 2, _ => exact st_weak _ (s_island_t hJ)
  | 3, _ => exact st_weak _ (s_rule hJ)
  | 4, _ => exact st_weak _ (s_force hJ)
  | 5, _ => exact st5 hA R (kc_w (tc_X11_person rfl hP)) (km_s hA (tm_person hQ.1))
  | 6, _ => exact st5 hA R (kc_w (tc_X11_sum rfl hP)) (km_s hA (tm_sum hQ.1))
  | 7, _ => exact st_weak _ (s_tie hJ)
  | 8, _ => exact st5 hA R (kc_i hI (tc_X11_telling rfl hI)) (km_i hA (tm_telling hA.1))
  | 9, _ => exact st5 hA R (kc_w (tc_X11_tell rfl hP)) (km_w (tm_tell hQ))
  | 10, _ => exact st5 hA R (kc_w (tc_X11_retell rfl hP)) (km_w (tm_retell hQ))
  | 11, _ => exact st5 hA R (kc_w (tc_X11_look rfl hP)) (km_w (tm_look hQ))
  | 12, _ => exact st5 hA R (kc_w (tc_X11_give rfl hP)) (km_w (tm_give hQ))
  | 13, _ => exact st5 hA R (kc_w (tc_X11_save rfl hP)) (km_w (tm_save hQ))
  | 14, _ => exact st5 hA R (kc_w (tc_X11_sell rfl hP)) (km_w (tm_sell hQ))
  | 15, _ => exact st5 hA R (kc_w (tc_X11_spend rfl hP)) (km_w (tm_spend hQ))
  | 16, _ => exact st5 hA R (kc_b (tc_X11_keep rfl (kz_lo a1).1 (kz_lo a1).2 hP)) (km_b (tm_keep hQ))
  | 17, _ => exact st5 hA R (kc_w (tc_X11_rest rfl hP)) (km_w (tm_rest hQ))
  | 18, _ => exact st5 hA R (kc_w (tc_X11_undo rfl hP)) (km_w (tm_undo hQ.2 hQ.1))
  | 19, _ => exact st5 hA R (kc_w (tc_X11_run rfl hP)) (km_w (tm_run hQ))
  | 20, _ => exact st5 hA R (kc_i hI (tc_X11_lean rfl hI)) (km_i hA (tm_lean hA.1))
  | 21, _ => exact st5 hA R (kc_w (tc_X11_likeliest rfl hP)) (km_i hA (tm_likeliest hA.1))
  | 22, _ => exact st5 hA R (kc_i hI (tc_X11_flatters rfl hI)) (km_i hA (tm_flatters hA.1))
  | 23, _ => exact st5 hA R (kc_w (tc_X11_ask rfl hP)) (km_s hA (tm_ask hQ.1))
  | 24, _ => exact st5 hA R (kc_i hI (tc_X11_chain rfl hI)) (km_i hA (tm_chain hA.1))
  | 25, _ => exact st5 hA R (kc_i hI (tc_X11_slip rfl hI)) (km_i hA (tm_slip hA.1))
  | 26, _ => exact st_weak _ (s_wish hJ)
  | 27, _ => exact st5 hA R (kc_w (tc_X11_round rfl hP)) (km_r hA (tm_round hQ.1))
  | 28, _ => exact st_weak _ (s_view hJ)
  | 29, _ => exact st_weak _ (s_fits hJ)
  | 30, _ => exact st_weak _ (s_views hJ)
  | 31, _ => exact st5 hA R (kc_w (tc_seed5 (pv_no (Or.inl (by rcases isp with ⟨a, b⟩ | ⟨a, b⟩ <;> rw [a] <;> omega))) hP)) (km_w (tm_seed5 (qv_no (Or.inl (by omega))) hQ))
  | 32, _ => exact st5 hA R (kc_w (tc_X11_drawn rfl (np_spare hI) hP)) (km_w (tm_drawn hQ))
  | 33, _ => exact st5 hA R (kc_i hI (tc_X11_count rfl hI)) (km_i hA (tm_count hA.1))
  | 34, _ => exact s_image hJ
  | 35, _ => exact s_back hJ
  | j + 36, hj => omega
theorem start5 : J5 S0 T0 := by
  have l_0 : (0 : Int32).toInt = 0 := by decide
  refine ⟨IC_non start_C, IQ_non start_M, rfl, fun k hk => ?_, rfl, rfl, fun k hk => ⟨?_, fun z => ?_⟩, ⟨fun o j c m g => ?_, fun y => ?_, fun k hk => ?_⟩, fun k hk z => ?_⟩
  · rw [t0_0 0 1 (by decide)] at hk
    omega
  · rw [t0_0 18 k (Or.inl (by decide))]
    rfl
  · rw [t0_0 18 k (Or.inl (by decide))] at z
    exact absurd (by decide) z
  · rw [t0_0 10 (0 + 1) (Or.inl (by decide)), t0_0 10 (0 + 409) (Or.inl (by decide)), l_0] at g
    rw [t0_0 10 (0 + c) (Or.inl (by decide))]
    rcases m with ⟨rfl, rfl, -⟩ | ⟨rfl, rfl, -⟩ | ⟨rfl, rfl, -⟩ | ⟨rfl, rfl, -⟩ | ⟨rfl, -, -⟩ | ⟨rfl, -, -⟩ | ⟨rfl, -, -⟩
    · rfl
    · rfl
    · rfl
    · rfl
    · have := g.1 rfl
      omega
    · have := (g.2.1 rfl).1
      omega
    · have := g.2.2 rfl
      omega
  · rw [t0_0 10 (0 + 1) (Or.inl (by decide)), l_0] at y
    omega
  · rw [t0_0 10 (0 + 409) (Or.inl (by decide)), l_0] at hk
    omega
  · rw [t0_0 18 k (Or.inl (by decide))] at z
    exact absurd (by decide) z
