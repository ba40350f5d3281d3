/-! ===== what holds at the law's entry, over the pool ===== -/
theorem lt_in {w : Cond} (i : Nat) (h : tables_1[i]? = some w) : w ∈ lw_tbl := List.mem_append_right _ (List.mem_of_getElem? h)
section ENTER
variable {p : Program} {s : State} {m : MethodId} {meth : Method} {c : Code} {b L : Nat} {xs : Nat → Int32}
theorem en_cls (hw : ∀ w ∈ wG, w.before #[Value.ref b] s = true) : ∃ D : va_G, ∀ (k : Nat) (q : vw_C), classes[k]? = some q → u_Kn s q.1 q.2.1 q.2.2 (D.1 k) (D.2 k) := by
  have h0 : ∀ k : Nat, ∃ d : ClassId × (Nat → Nat), ∀ q : vw_C, classes[k]? = some q → u_Kn s q.1 q.2.1 q.2.2 d.1 d.2 := by
    intro k
    match k with
    | 0 =>
      obtain ⟨c0, i0, h⟩ := u_known (C := RX0) (T := TX0) (N := 2) (n := 2) hw ck_0 (hw _ (tb_in 294 (by decide +kernel) (by decide +kernel)))
      exact ⟨(c0, i0), fun q hq => by cases hq; exact h⟩
    | 1 =>
      obtain ⟨c0, i0, h⟩ := u_known (C := RX1) (T := TX1) (N := 3) (n := 3) hw ck_1 (hw _ (tb_in 222 (by decide +kernel) (by decide +kernel)))
      exact ⟨(c0, i0), fun q hq => by cases hq; exact h⟩
    | 2 =>
      obtain ⟨c0, i0, h⟩ := u_known (C := RX2) (T := TX2) (N := 15) (n := 15) hw ck_2 (hw _ (tb_in 110 (by decide +kernel) (by decide +kernel)))
      exact ⟨(c0, i0), fun q hq => by cases hq; exact h⟩
    | 3 =>
      obtain ⟨c0, i0, h⟩ := u_known (C := RX4) (T := TX4) (N := 2) (n := 2) hw ck_3 (hw _ (tb_in 240 (by decide +kernel) (by decide +kernel)))
      exact ⟨(c0, i0), fun q hq => by cases hq; exact h⟩
    | 4 =>
      obtain ⟨c0, i0, h⟩ := u_known (C := RX5) (T := TX5) (N := 5) (n := 5) hw ck_4 (hw _ (tb_in 270 (by decide +kernel) (by decide +kernel)))
      exact ⟨(c0, i0), fun q hq => by cases hq; exact h⟩
    | 5 =>
      obtain ⟨c0, i0, h⟩ := u_known (C := RX6) (T := TX6) (N := 4) (n := 4) hw ck_5 (hw _ (tb_in 116 (by decide +kernel) (by decide +kernel)))
      exact ⟨(c0, i0), fun q hq => by cases hq; exact h⟩
    | 6 =>
      obtain ⟨c0, i0, h⟩ := u_known (C := RX7) (T := TX7) (N := 8) (n := 8) hw ck_6 (hw _ (tb_in 76 (by decide +kernel) (by decide +kernel)))
      exact ⟨(c0, i0), fun q hq => by cases hq; exact h⟩
    | 7 =>
      obtain ⟨c0, i0, h⟩ := u_known (C := RX9) (T := TX9) (N := 2) (n := 2) hw ck_7 (hw _ (tb_in 246 (by decide +kernel) (by decide +kernel)))
      exact ⟨(c0, i0), fun q hq => by cases hq; exact h⟩
    | 8 =>
      obtain ⟨c0, i0, h⟩ := u_known (C := RX10) (T := TX10) (N := 10) (n := 10) hw ck_8 (hw _ (tb_in 30 (by decide +kernel) (by decide +kernel)))
      exact ⟨(c0, i0), fun q hq => by cases hq; exact h⟩
    | 9 =>
      obtain ⟨c0, i0, h⟩ := u_known (C := RX11) (T := TX11) (N := 12) (n := 12) hw ck_9 (hw _ (tb_in 22 (by decide +kernel) (by decide +kernel)))
      exact ⟨(c0, i0), fun q hq => by cases hq; exact h⟩
    | 10 =>
      obtain ⟨c0, i0, h⟩ := u_known (C := RX12) (T := TX12) (N := 34) (n := 34) hw ck_10 (hw _ (tb_in 1047 (by decide +kernel) (by decide +kernel)))
      exact ⟨(c0, i0), fun q hq => by cases hq; exact h⟩
    | k + 11 => exact ⟨(0, fun _ => 0), fun q hq => by simp [classes] at hq⟩
  obtain ⟨d, hd⟩ := Classical.axiomOfChoice h0
  exact ⟨(fun k => (d k).1, fun k => (d k).2), fun k q hq => hd k q hq⟩
def cAs (s : State) (ty : FieldType) : ClassId := (s.vm.findClass ("[" ++ ty.toString)).getD 0
theorem en_arr {ty : FieldType} (hp : ∀ C, ty ≠ .object C) (h : (Cond.arrayClass ty).before #[Value.ref b] s = true) : ArrOfT s (cAs s ty) ty ∧ va_RA s (cAs s ty) ty := by
  obtain ⟨c0, k, comp, h1, h2, h3⟩ := Cond.arrayClass_spec h
  have hc : cAs s ty = c0 := by unfold cAs; rw [h1]; rfl
  rw [hc]
  refine ⟨fun n z => ⟨fun k h => (by cases h), k, h2, comp, h3⟩, ?_⟩
  unfold va_RA
  cases ty with
  | object C => exact absurd rfl (hp C)
  | _ => exact h1
theorem en_ovr {C : String} (h : (Cond.arrayOver (.object C)).before #[Value.ref b] s = true) : ArrOfT s (cAs s (.object C)) (.object C) ∧ va_RA s (cAs s (.object C)) (.object C) := by
  obtain ⟨comp, c0, k, h1, -, h2, h3, h4⟩ := Cond.arrayOver_spec h
  have hc : cAs s (.object C) = c0 := by unfold cAs; rw [h4]; rfl
  rw [hc]
  exact ⟨fun n z => ⟨fun k h => (by cases h), k, h2, comp, h3⟩, k, comp, h2, h3, h1, h4⟩
theorem en_tys (hw : ∀ w ∈ lw_tbl, w.before #[Value.ref b] s = true) : ∀ (k : Nat) (q : ClassId × FieldType), (tyl (cAs s))[k]? = some q → ArrOfT s q.1 q.2 ∧ va_RA s q.1 q.2 := by
  intro k q hq
  match k, hq with
  | 0, hq => cases hq; exact en_arr (fun _ e => by cases e) (hw _ (lt_in 73 (by decide +kernel)))
  | 1, hq => cases hq; exact en_arr (fun _ e => by cases e) (hw _ (lt_in 260 (by decide +kernel)))
  | 2, hq => cases hq; exact en_arr (fun _ e => by cases e) (hw _ (lt_in 502 (by decide +kernel)))
  | 3, hq => cases hq; exact en_arr (fun _ e => by cases e) (hw _ (lt_in 238 (by decide +kernel)))
  | 4, hq => cases hq; exact en_ovr (hw _ (lt_in 75 (by decide +kernel)))
  | 5, hq => cases hq; exact en_ovr (hw _ (lt_in 109 (by decide +kernel)))
  | k + 6, hq => simp [tyl] at hq
theorem en_X (hw : ∀ w ∈ lw_tbl, w.before #[Value.ref b] s = true) (hgv : (Jvm.Cond.and given_1 narrow_1).before #[Value.ref b] s = true) : ∃ as : Nat → Nat, aw_X as (lwA s) s s.heap ∧ as kB = b := by
  have hs := flat_of_before _ hgv
  have hA : ∀ a : Nat, a < s.heap.size → ¬ lwA s a := fun a h => Nat.not_le.mpr h
  have he : ∀ j, j < 6 → Cond.eq (.elem (.static "OneMirror$Rounds" "WITHOUT" "[J") (.int (Int32.ofNat j))) (.long (wo j)) ∈ flatC (Jvm.Cond.and given_1 narrow_1) := by decide +kernel
  obtain ⟨t, ht, hT⟩ := va_Tof (tm := .static "OneMirror$Rounds" "WITHOUT" "[J") (ty := .long) (N := 6) (f := fun j => .long (wo j)) (A := lwA s) (by decide) (hs _ (by decide +kernel)) (va_eqt (hs _ (by decide +kernel))) (fun j hj => va_eqtl (hs _ (he j hj))) hA
  have hZ := va_Zof (C := RX5) (n := "WITHOUT") (d := "[J") (v := .ref t) (A := lwA s) (hw _ (lt_in 928 (by decide +kernel))) (hw _ (lt_in 9 (by decide +kernel))) ht hA
  have hb : ∀ j, j < 93 → Cond.eq (.elem (.field (.string "OneMirror$Tape" 69) "java/lang/String" "value" "[B") (.int (Int32.ofNat j))) (.int (wby.getD j 0)) ∈ flatC (Jvm.Cond.and given_1 narrow_1) := by decide +kernel
  obtain ⟨adK, adV, hSt, hE⟩ := vk_Sof (N := 1) (tm := fun _ => .string "OneMirror$Tape" 69) (len := [93]) (byt := [wby]) (A := lwA s)
    (fun i hi => by have : i = 0 := by omega
                    subst this; decide)
    (fun i hi => hs _ (by decide +kernel)) (fun i hi => hs _ (by decide +kernel)) (fun i hi => hs _ (by decide +kernel))
    (fun i hi => by have : i = 0 := by omega
                    subst this; exact hs _ (by decide +kernel))
    (fun i hi j hj => by have : i = 0 := by omega
                         subst this; exact hs _ (hb j hj))
    (fun i j hi hj hne => by omega) hA
  have hR : vk_R RX10 69 wtx (adK 0) s := vk_R.of (hw _ (lt_in 404 (by decide +kernel))) (hE 0 (by decide))
  have hC := va_Zof (C := "java/lang/String") (n := "COMPACT_STRINGS") (d := "Z") (v := .int 1) (A := lwA s) (hw _ (lt_in 414 (by decide +kernel))) (hw _ (lt_in 13 (by decide +kernel))) (va_eqt (hs _ (by decide +kernel))) hA
  have hF := va_Zqof (C := "jdk/internal/util/Preconditions") (n := "SIOOBE_FORMATTER") (d := "Ljava/util/function/BiFunction;") (A := lwA s) (hw _ (lt_in 430 (by decide +kernel))) (hw _ (lt_in 15 (by decide +kernel))) (hs _ (by decide +kernel)) hA
  have hF' : ∃ f : Nat, va_Z "jdk/internal/util/Preconditions" "SIOOBE_FORMATTER" "Ljava/util/function/BiFunction;" .null (lwA s) s s.heap ∨ va_Z "jdk/internal/util/Preconditions" "SIOOBE_FORMATTER" "Ljava/util/function/BiFunction;" (.ref f) (lwA s) s s.heap := by
    rcases hF with h | ⟨f, h⟩
    · exact ⟨0, Or.inl h⟩
    · exact ⟨f, Or.inr h⟩
  obtain ⟨f, hF'⟩ := hF'
  obtain ⟨as, w1, w2, w3, w4, w5⟩ : ∃ as : Nat → Nat, as kW = t ∧ as kS = adK 0 ∧ as kV = adV 0 ∧ as kF = f ∧ as kB = b :=
    ⟨fun k => if k = kW then t else if k = kS then adK 0 else if k = kV then adV 0 else if k = kF then f else if k = kB then b else 0, if_pos rfl, (if_neg (by decide)).trans (if_pos rfl), (if_neg (by decide)).trans ((if_neg (by decide)).trans (if_pos rfl)), (if_neg (by decide)).trans ((if_neg (by decide)).trans ((if_neg (by decide)).trans (if_pos rfl))), (if_neg (by decide)).trans ((if_neg (by decide)).trans ((if_neg (by decide)).trans ((if_neg (by decide)).trans (if_pos rfl))))⟩
  refine ⟨as, ⟨?_, ?_, ?_, ?_, hC, ?_⟩, w5⟩
  · rw [w1]; exact hZ
  · rw [w1]; exact hT
  · rw [w2]; exact hR
  · rw [w2, w3]
    refine ⟨fun i hi => ?_, fun i j hi hj _ => by omega⟩
    have : i = 0 := by omega
    subst this
    exact hSt.1 0 hi
  · rw [w4]; exact hF'
theorem en_N (hw : ∀ w ∈ lw_tbl, w.before #[Value.ref b] s = true) : ∀ w ∈ wN, va_Nw w s := by
  intro w hw0
  have h1 := hw w (List.mem_append_right _ (List.mem_filter.mp hw0).1)
  have h2 := (List.mem_filter.mp hw0).2
  unfold nestW at h2
  split at h2
  · exact va_Nw.of rfl h1
  · exact va_Nw.of rfl h1
  · exact va_AO.of h1
  · cases h2
/-- the law's entry -/
theorem law_enter (C0 : lw_At p s m meth c b L xs) (h : aH) : ∃ (D : va_G) (cA : FieldType → ClassId) (as0 : Nat → Nat), LE p s m meth c b L xs as0 ∧ aw_st D cA as0 0 h (lwA s) s s.heap [] := by
  obtain ⟨hx, hb, hr, hml, hown, hts, hX, hbl, hlocks, hgv⟩ := C0
  have hG : ∀ w ∈ wG, w.before #[Value.ref b] s = true := fun w hw => hts w (List.mem_filter.mp hw).1
  obtain ⟨D, hD⟩ := en_cls hG
  obtain ⟨as, hA, hbb⟩ := en_X hts hgv
  refine ⟨D, cAs s, as, ⟨⟨hx, hb, hr, hml, hown, hG, hlocks, en_N hts, rfl⟩, hX, hbl, hbb⟩, ⟨hD, en_tys hts⟩, ?_, ?_, va_S.rf, fun q hq => hq, hA⟩
  · intro k q hq
    obtain ⟨hk, -⟩ := wsOf_inv hq
    exact absurd hk (Nat.not_lt_zero k)
  · refine ⟨fun i j p q hp => ?_, fun k q hq => ?_⟩
    · obtain ⟨hk, -⟩ := wsOf_inv hp
      exact absurd hk (Nat.not_lt_zero i)
    · obtain ⟨hk, -⟩ := wsOf_inv hq
      exact absurd hk (Nat.not_lt_zero k)
end ENTER
