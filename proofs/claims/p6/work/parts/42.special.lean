/-! ===== what of the JDK the class calls besides ===== -/
section AWS
variable {l : Launch} {Y : aY} {R : Room} {Q : aQ} {cu su pc : Nat} {ls : List (Option Value)} {st : List Value} {n : Nat} {h : aH}
theorem AW.gst {idx : Nat} {v : Value} {C nm ds : String} (hx : ∀ (as : Nat → Nat) (A : Nat → Prop) (s : State), aw_X as A s s.heap → va_Z C nm ds (tv as v) A s s.heap) (hl : Cond.fieldLink Y.1.cls idx C nm ds ∈ wG) (hd : decode Y.2.1 pc = .ok (.getstatic idx, 3)) (k : AW l Y R Q cu su (pc + 3) ls (v :: st) n h) : AW l Y R Q cu su pc ls st n h := by
  intro p e s m args below meth c D cA as0 n0 A as H locs E S X lsA hl'
  exact va_gets E.1 E.2.1 (hx as A s S.2.2.2.2.2) S.2.2.2.1 E.2.2.2.2.1 (E.2.2.2.2.2.1 _ hl) (fun _ q => q) hd (k p e s m args below meth c D cA as0 n0 A as H locs E S X lsA hl')
/-- the static of two faces: null, or a reference -/
theorem AW.gstF {idx : Nat} (hl : Cond.fieldLink Y.1.cls idx "jdk/internal/util/Preconditions" "SIOOBE_FORMATTER" "Ljava/util/function/BiFunction;" ∈ wG) (hd : decode Y.2.1 pc = .ok (.getstatic idx, 3)) (k : ∀ v : Value, v.category = 1 → AW l Y R Q cu su (pc + 3) ls (v :: st) n h) : AW l Y R Q cu su pc ls st n h := by
  intro p e s m args below meth c D cA as0 n0 A as H locs E S X lsA hl'
  rcases S.2.2.2.2.2.2.2.2.2.2 with hz | hz
  · exact va_gets (v := .null) E.1 E.2.1 hz S.2.2.2.1 E.2.2.2.2.1 (E.2.2.2.2.2.1 _ hl) (fun _ q => q) hd (k .null rfl p e s m args below meth c D cA as0 n0 A as H locs E S X lsA hl')
  · exact va_gets (v := .ref (as kF)) E.1 E.2.1 hz S.2.2.2.1 E.2.2.2.2.1 (E.2.2.2.2.2.1 _ hl) (fun _ q => q) hd (k (.ref kF) rfl p e s m args below meth c D cA as0 n0 A as H locs E S X lsA hl')
theorem AW.lalW {i : Int32} (hd : decode Y.2.1 pc = .ok (.laload, 1)) (hi : vp_in i 6) (k : AW l Y R Q cu su (pc + 1) ls (.long (wo i.toNatClampNeg) :: st) n h) : AW l Y R Q cu su pc ls (.int i :: .ref kW :: st) n h := by
  intro p e s m args below meth c D cA as0 n0 A as H locs E S X lsA hl'
  exact va_tl E.1 E.2.1 S.2.2.2.2.2.2.1 S.2.2.2.1 hi rfl hd (k p e s m args below meth c D cA as0 n0 A as H locs E S X lsA hl')
theorem AW.ldcS (hY : Y.1.cls = RX10) (hd : decode Y.2.1 pc = .ok (.ldc 69, 2)) (k : AW l Y R Q cu su (pc + 2) ls (.ref kS :: st) n h) : AW l Y R Q cu su pc ls st n h := by
  intro p e s m args below meth c D cA as0 n0 A as H locs E S X lsA hl'
  exact va_ldcS E.1 E.2.1 E.2.2.2.2.1 (by rw [hY]; exact S.2.2.2.2.2.2.2.1) hd (k p e s m args below meth c D cA as0 n0 A as H locs E S X lsA hl')
theorem AW.getV {idx : Nat} (hl : Cond.fieldLink Y.1.cls idx "java/lang/String" "value" "[B" ∈ wG) (hd : decode Y.2.1 pc = .ok (.getfield idx, 3)) (k : AW l Y R Q cu su (pc + 3) ls (.ref kV :: st) n h) : AW l Y R Q cu su pc ls (.ref kS :: st) n h := by
  intro p e s m args below meth c D cA as0 n0 A as H locs E S X lsA hl'
  exact vk_getf E.1 E.2.1 ((S.2.2.2.2.2.2.2.2.1.1 0 (by decide)).2.2.1) S.2.2.2.1 E.2.2.2.2.1 (E.2.2.2.2.2.1 _ hl) (fun _ q => q) hd (k p e s m args below meth c D cA as0 n0 A as H locs E S X lsA hl')
theorem AW.getCo {idx : Nat} (hl : Cond.fieldLink Y.1.cls idx "java/lang/String" "coder" "B" ∈ wG) (hd : decode Y.2.1 pc = .ok (.getfield idx, 3)) (k : AW l Y R Q cu su (pc + 3) ls (.int 0 :: st) n h) : AW l Y R Q cu su pc ls (.ref kS :: st) n h := by
  intro p e s m args below meth c D cA as0 n0 A as H locs E S X lsA hl'
  exact vk_getf E.1 E.2.1 ((S.2.2.2.2.2.2.2.2.1.1 0 (by decide)).2.1) S.2.2.2.1 E.2.2.2.2.1 (E.2.2.2.2.2.1 _ hl) (fun _ q => q) hd (k p e s m args below meth c D cA as0 n0 A as H locs E S X lsA hl')
theorem AW.lenV (hd : decode Y.2.1 pc = .ok (.arraylength, 1)) (k : AW l Y R Q cu su (pc + 1) ls (.int 93 :: st) n h) : AW l Y R Q cu su pc ls (.ref kV :: st) n h := by
  intro p e s m args below meth c D cA as0 n0 A as H locs E S X lsA hl'
  exact va_tlen E.1 E.2.1 ((S.2.2.2.2.2.2.2.2.1.1 0 (by decide)).2.2.2) S.2.2.2.1 rfl hd (k p e s m args below meth c D cA as0 n0 A as H locs E S X lsA hl')
theorem AW.baldV {i : Int32} (hd : decode Y.2.1 pc = .ok (.baload, 1)) (hi : vp_in i 93) (k : AW l Y R Q cu su (pc + 1) ls (.int (wby.getD i.toNatClampNeg 0) :: st) n h) : AW l Y R Q cu su pc ls (.int i :: .ref kV :: st) n h := by
  intro p e s m args below meth c D cA as0 n0 A as H locs E S X lsA hl'
  exact va_tb E.1 E.2.1 ((S.2.2.2.2.2.2.2.2.1.1 0 (by decide)).2.2.2) S.2.2.2.1 hi rfl hd (k p e s m args below meth c D cA as0 n0 A as H locs E S X lsA hl')
theorem AW.i2c {x v : Int32} (hv : (x.toUInt32 % 65536).toInt32 = v) (hd : decode Y.2.1 pc = .ok (.i2c, 1)) (k : AW l Y R Q cu su (pc + 1) ls (.int v :: st) n h) : AW l Y R Q cu su pc ls (.int x :: st) n h := by
  intro p e s m args below meth c D cA as0 n0 A as H locs E S X lsA hl'
  exact lv_i2c E.1 E.2.1 hd hv (k p e s m args below meth c D cA as0 n0 A as H locs E S X lsA hl')
theorem AW.callVS {d d' idx np : Nat} {Y' : aY} {As st0 : List Value} {Q' : aQ} (hL : LV Y.1.cls idx Y' np) (hcl : Y'.1.cls = "java/lang/String") (hd : decode Y.2.1 pc = .ok (.invokevirtual idx, 3)) (hM : AOk l Y' (rmD d') Q' (.ref kS :: As) n h) (hdd : d' < d) (hml : Y'.2.2.1 ≤ 41) (hnp : As.length = np) (hsum : (st.map fun v => v.category).sum ≤ 8) (hst : st0 = As.reverse ++ .ref kS :: st)
    (hn : ∀ r n' h', Q' r n' h' → n' = n) (hcs : cu = 0 ∧ su = 0) (k : ∀ r h', Q' r n h' → AW l Y (rmD d) Q cu su (pc + 3) ls (r.toList ++ st) n h') : AW l Y (rmD d) Q cu su pc ls st0 n h := by
  intro p e s m args below meth c D cA as0 n0 A as H locs E S X lsA hl
  obtain ⟨hMK, hpar, hin, hse, hlk⟩ := hL
  have hG := wG_good hMK
  have hw := E.2.2.2.2.2.1
  have hstack : (F0 m pc lsA (st0.map (tv as))).stack = (As.map (tv as)).reverse ++ .ref (as kS) :: st.map (tv as) := by
    show st0.map (tv as) = _
    rw [hst]
    simp [tv_ref]
  have hrm : (rmD d').frames + 1 ≤ (rmD d).frames ∧ 8 + (Y'.2.2.1 + 11) + (rmD d').locals ≤ (rmD d).locals := by
    show d' + 1 ≤ d ∧ 8 + (Y'.2.2.1 + 11) + 60 * d' ≤ 60 * d
    omega
  have hrec := vk_recv (i := 0) S.2.2.2.2.2.2.2.2.1 (by decide) S.2.2.2.1
  rw [← hcl] at hrec
  have hpv : PreV s H Y'.1.cls (as kS) (aw_Pc D cA as n h H.size (.ref kS :: As)) (As.map (tv as)) := ⟨aw_blind, hrec, aw_pre (Y' := Y') (av := .ref kS :: As) E S X.2.1⟩
  have hf : cu + 0 ≤ (rmD d).cells ∧ su + 0 ≤ (rmD d).slots := by rw [hcs.1, hcs.2]; exact ⟨Nat.le_refl _, Nat.le_refl _⟩
  have hroom : 2 * (F0 m pc lsA (st0.map (tv as))).monitorRoom + ((st.map (tv as)).map fun v => v.category).sum ≤ 8 := lv_room (by rw [cat_map]; exact hsum)
  have hrun : va_Run p l e (rmD d) s m args below meth c H locs cu su 0 0 (F0 m pc lsA (st0.map (tv as))) (st.map (tv as)) (aw_Q D cA as n (va_A (wsOf cA as n h) H.size) Q' (Value.ref (as kS) :: As.map (tv as)).toArray) (va_A (wsOf cA as n h) H.size) := by
    rcases hlk with hlk | ⟨host, hlk⟩
    · exact va_runV (Ts := wG) ⟨E.1, E.2.1, E.2.2.2.1, E.2.2.2.2.1, hw⟩ (hM D cA as H.size) ⟨callB_of np hw hG rfl rfl rfl (hw _ hMK.2.1) (hw _ hlk) ⟨hMK.2.2.1, hMK.2.2.2, hpar⟩ hrm, hw _ hin, hw _ hse⟩ hpv rfl (by rw [List.length_map]; exact hnp) hl.2.1 hstack hroom hd hf
    · exact va_runVN (Ts := wG) ⟨E.1, E.2.1, E.2.2.2.1, E.2.2.2.2.1, hw⟩ (hM D cA as H.size) ⟨va_cnB np hw hG rfl rfl rfl (E.2.2.2.2.2.2.2.1 _ hlk) (hw _ hMK.2.1) ⟨hMK.2.2.1, hMK.2.2.2, hpar⟩ hrm, hw _ hin, hw _ hse⟩ hpv rfl (by rw [List.length_map]; exact hnp) hl.2.1 hstack hroom hd hf
  refine aw_cont S hrun hn (fun r h' H1 locs1 hq S1 => ?_)
  have k2 := k r h' hq p e s m args below meth c D cA as0 n0 A as H1 locs1 E S1 X lsA hl
  have he2 : (r.toList ++ st).map (tv as) = (r.map (tv as)).toList ++ st.map (tv as) := by cases r <;> simp
  rw [he2] at k2
  exact k2
end AWS
def qK (r : Option Value) (n : Nat) (h : aH) : aQ := fun r' n' h' => r' = r ∧ n' = n ∧ h' = h
theorem j_coder {l : Launch} (n : Nat) (h : aH) : AOk l yy_J0_coder_7d493 (rmD 0) (qK (some (.int 0)) n h) [.ref kS] n h := by
  refine AOk.of (ls := [some (.ref kS)]) (by decide +kernel) (Nat.le_of_ble_eq_true rfl) rfl ?_
  refine AW.gst (idx := 38) (v := .int 1) (fun as A s X => X.2.2.2.2.1) (tb_in 413 (by decide +kernel) (by decide +kernel)) (by decide +kernel) ?_
  refine AW.if_eq (off := 10) (tgt := 13) (by decide +kernel) (by decide) (fun c => absurd c (by decide)) (fun _ => ?_)
  refine AW.run [(.aload_n 0, 0)] (pc' := 7) (ls' := [some (.ref kS)]) (st' := [.ref kS]) (by decide +kernel) rfl ?_
  refine AW.getCo (idx := 15) (tb_in 1653 (by decide +kernel) (by decide +kernel)) (by decide +kernel) ?_
  refine AW.run [(.goto 4, 0)] (pc' := 14) (ls' := [some (.ref kS)]) (st' := [.int 0]) (by decide +kernel) rfl ?_
  exact AW.zret (ty := .byte) rfl rfl (by decide +kernel) (Nat.le_refl _) (Nat.le_refl _) ⟨rfl, rfl, rfl⟩
theorem j_isLatin1 {l : Launch} (n : Nat) (h : aH) : AOk l yy_J0_isLatin1_aae02 (rmD 0) (qK (some (.int 1)) n h) [.ref kS] n h := by
  refine AOk.of (ls := [some (.ref kS)]) (by decide +kernel) (Nat.le_of_ble_eq_true rfl) rfl ?_
  refine AW.gst (idx := 38) (v := .int 1) (fun as A s X => X.2.2.2.2.1) (tb_in 413 (by decide +kernel) (by decide +kernel)) (by decide +kernel) ?_
  refine AW.if_eq (off := 14) (tgt := 17) (by decide +kernel) (by decide) (fun c => absurd c (by decide)) (fun _ => ?_)
  refine AW.run [(.aload_n 0, 0)] (pc' := 7) (ls' := [some (.ref kS)]) (st' := [.ref kS]) (by decide +kernel) rfl ?_
  refine AW.getCo (idx := 15) (tb_in 1653 (by decide +kernel) (by decide +kernel)) (by decide +kernel) ?_
  refine AW.if_ne (off := 7) (tgt := 17) (by decide +kernel) (by decide) (fun c => absurd rfl c) (fun _ => ?_)
  refine AW.run [(.iconst 1, 1), (.goto 4, 0)] (pc' := 18) (ls' := [some (.ref kS)]) (st' := [.int 1]) (by decide +kernel) rfl ?_
  exact AW.zret (ty := .boolean) rfl rfl (by decide +kernel) (Nat.le_refl _) (Nat.le_refl _) ⟨rfl, rfl, rfl⟩
theorem j_length {l : Launch} (n : Nat) (h : aH) : AOk l yy_J0_length_8abf5 (rmD 1) (qK (some (.int 93)) n h) [.ref kS] n h := by
  refine AOk.of (ls := [some (.ref kS)]) (by decide +kernel) (Nat.le_of_ble_eq_true rfl) rfl ?_
  refine AW.run [(.aload_n 0, 0)] (pc' := 1) (ls' := [some (.ref kS)]) (st' := [.ref kS]) (by decide +kernel) rfl ?_
  refine AW.getV (idx := 9) (tb_in 1652 (by decide +kernel) (by decide +kernel)) (by decide +kernel) ?_
  refine AW.lenV (by decide +kernel) ?_
  refine AW.run [(.aload_n 0, 0)] (pc' := 6) (ls' := [some (.ref kS)]) (st' := [.ref kS, .int 93]) (by decide +kernel) rfl ?_
  refine AW.callVS (As := []) (st := [.int 93]) lv_RJ0_335 rfl (by decide +kernel) (j_coder n h) (by decide) (by decide) rfl (Nat.le_of_ble_eq_true rfl) rfl (fun r n' h' q => q.2.1) ⟨rfl, rfl⟩ (fun r h' q => ?_)
  obtain ⟨q1, -, q3⟩ := q
  subst q1
  subst q3
  refine AW.run [(.ishr, 0)] (pc' := 10) (ls' := [some (.ref kS)]) (st' := [.int ((93 : Int32) >>> ((0 : Int32) &&& 31))]) (by decide +kernel) rfl ?_
  rw [show (93 : Int32) >>> ((0 : Int32) &&& 31) = 93 by decide +kernel]
  exact AW.iret rfl (by decide +kernel) (Nat.le_refl _) (Nat.le_refl _) ⟨rfl, rfl, rfl⟩
theorem j_pre {l : Launch} {i k : Int32} {v : Value} (hv : v.category = 1) (h0 : ¬ i < 0) (h1 : i < k) (n : Nat) (h : aH) : AOk l yy_J3_checkIndex_8e157 (rmD 0) (qK (some (.int i)) n h) [.int i, .int k, v] n h := by
  have he : enL [.int i, .int k, v] = [some (.int i), some (.int k), some v] := by
    show some (Value.int i) :: some (Value.int k) :: (bif Nat.beq v.category 2 then some v :: none :: enL [] else some v :: enL []) = _
    rw [hv]
    rfl
  refine AOk.of (ls := [some (.int i), some (.int k), some v]) (by decide +kernel) (by rw [he]; exact Nat.le_refl 3) (by unfold padL; rw [he]; rfl) ?_
  refine AW.run [(.iload_n 0, 0)] (pc' := 1) (ls' := [some (.int i), some (.int k), some v]) (st' := [.int i]) (by decide +kernel) rfl ?_
  refine AW.if_lt (off := 8) (tgt := 9) (by decide +kernel) (by decide) (fun c => absurd c h0) (fun _ => ?_)
  refine AW.run [(.iload_n 0, 0), (.iload_n 1, 0)] (pc' := 6) (ls' := [some (.int i), some (.int k), some v]) (st' := [.int k, .int i]) (by decide +kernel) rfl ?_
  refine AW.icmp_lt (off := 10) (tgt := 16) (by decide +kernel) (by decide) (fun _ => ?_) (fun c => absurd h1 c)
  refine AW.run [(.iload_n 0, 0)] (pc' := 17) (ls' := [some (.int i), some (.int k), some v]) (st' := [.int i]) (by decide +kernel) rfl ?_
  exact AW.iret rfl (by decide +kernel) (Nat.le_refl _) (Nat.le_refl _) ⟨rfl, rfl, rfl⟩
theorem j_check {l : Launch} {i k : Int32} (h0 : ¬ i < 0) (h1 : i < k) (n : Nat) (h : aH) : AOk l yy_J0_checkIndex_df160 (rmD 1) (qK none n h) [.int i, .int k] n h := by
  refine AOk.of (ls := [some (.int i), some (.int k)]) (by decide +kernel) (Nat.le_of_ble_eq_true rfl) rfl ?_
  refine AW.run [(.iload_n 0, 0), (.iload_n 1, 0)] (pc' := 2) (ls' := [some (.int i), some (.int k)]) (st' := [.int k, .int i]) (by decide +kernel) rfl ?_
  refine AW.gstF (idx := 1053) (tb_in 429 (by decide +kernel) (by decide +kernel)) (by decide +kernel) (fun v hv => ?_)
  refine AW.callS (As := [.int i, .int k, v]) (st := []) lt_RJ0_1059 (by decide +kernel) (j_pre hv h0 h1 n h) (by decide) (by decide) rfl (Nat.le_of_ble_eq_true rfl) rfl (fun r n' h' q => q.2.1) ⟨rfl, rfl⟩ (fun r h' q => ?_)
  obtain ⟨q1, -, q3⟩ := q
  subst q1
  subst q3
  refine AW.run [(.pop, 0)] (pc' := 9) (ls' := [some (.int i), some (.int k)]) (st' := []) (by decide +kernel) rfl ?_
  exact AW.vret rfl (by decide +kernel) (Nat.le_refl _) (Nat.le_refl _) ⟨rfl, rfl, rfl⟩
theorem wby_c : ∀ j, j < 93 → ((wby.getD j 0 &&& 255).toUInt32 % 65536).toInt32 = wby.getD j 0 := by decide +kernel
theorem wby_n : ∀ j, j < 93 → narrow .char (.int (wby.getD j 0)) = .int (wby.getD j 0) := by decide +kernel
theorem in93 {i : Int32} (hi : vp_in i 93) : ¬ i < 0 ∧ i < 93 ∧ i.toNatClampNeg < 93 := by
  obtain ⟨j, hj, rfl⟩ := vp_in_of hi (by decide)
  refine ⟨nI_pos (by omega), (nI_ltI (by omega) (by decide)).mpr hj, ?_⟩
  rw [nI_clamp (by omega)]
  exact hj
theorem j_latin {l : Launch} {i : Int32} (hi : vp_in i 93) (n : Nat) (h : aH) : AOk l yy_J1_charAt_3b067 (rmD 2) (qK (some (.int (wby.getD i.toNatClampNeg 0))) n h) [.ref kV, .int i] n h := by
  obtain ⟨h0, h1, h2⟩ := in93 hi
  refine AOk.of (ls := [some (.ref kV), some (.int i)]) (by decide +kernel) (Nat.le_of_ble_eq_true rfl) rfl ?_
  refine AW.run [(.iload_n 1, 0), (.aload_n 0, 0)] (pc' := 2) (ls' := [some (.ref kV), some (.int i)]) (st' := [.ref kV, .int i]) (by decide +kernel) rfl ?_
  refine AW.lenV (by decide +kernel) ?_
  refine AW.callS (As := [.int i, .int 93]) (st := []) lt_RJ1_9 (by decide +kernel) (j_check h0 h1 n h) (by decide) (by decide) rfl (Nat.le_of_ble_eq_true rfl) rfl (fun r n' h' q => q.2.1) ⟨rfl, rfl⟩ (fun r h' q => ?_)
  obtain ⟨q1, -, q3⟩ := q
  subst q1
  subst q3
  refine AW.run [(.aload_n 0, 0), (.iload_n 1, 0)] (pc' := 8) (ls' := [some (.ref kV), some (.int i)]) (st' := [.int i, .ref kV]) (by decide +kernel) rfl ?_
  refine AW.baldV (by decide +kernel) hi ?_
  refine AW.run [(.sipush 255, 255), (.iand, 0)] (pc' := 13) (ls' := [some (.ref kV), some (.int i)]) (st' := [.int (wby.getD i.toNatClampNeg 0 &&& 255)]) (by decide +kernel) rfl ?_
  refine AW.i2c (wby_c _ h2) (by decide +kernel) ?_
  exact AW.zret (ty := .char) rfl (wby_n _ h2) (by decide +kernel) (Nat.le_refl _) (Nat.le_refl _) ⟨rfl, rfl, rfl⟩
theorem j_charAt {l : Launch} {i : Int32} (hi : vp_in i 93) (n : Nat) (h : aH) : AOk l yy_J0_charAt_5068e (rmD 3) (qK (some (.int (wby.getD i.toNatClampNeg 0))) n h) [.ref kS, .int i] n h := by
  obtain ⟨h0, h1, h2⟩ := in93 hi
  refine AOk.of (ls := [some (.ref kS), some (.int i)]) (by decide +kernel) (Nat.le_of_ble_eq_true rfl) rfl ?_
  refine AW.run [(.aload_n 0, 0)] (pc' := 1) (ls' := [some (.ref kS), some (.int i)]) (st' := [.ref kS]) (by decide +kernel) rfl ?_
  refine AW.callVS (As := []) (st := []) lv_RJ0_492 rfl (by decide +kernel) (j_isLatin1 n h) (by decide) (by decide) rfl (Nat.le_of_ble_eq_true rfl) rfl (fun r n' h' q => q.2.1) ⟨rfl, rfl⟩ (fun r h' q => ?_)
  obtain ⟨q1, -, q3⟩ := q
  subst q1
  subst q3
  refine AW.if_eq (off := 12) (tgt := 16) (by decide +kernel) (by decide) (fun c => absurd c (by decide)) (fun _ => ?_)
  refine AW.run [(.aload_n 0, 0)] (pc' := 8) (ls' := [some (.ref kS), some (.int i)]) (st' := [.ref kS]) (by decide +kernel) rfl ?_
  refine AW.getV (idx := 9) (tb_in 1652 (by decide +kernel) (by decide +kernel)) (by decide +kernel) ?_
  refine AW.run [(.iload_n 1, 0)] (pc' := 12) (ls' := [some (.ref kS), some (.int i)]) (st' := [.int i, .ref kV]) (by decide +kernel) rfl ?_
  refine AW.callS (As := [.ref kV, .int i]) (st := []) lt_RJ0_495 (by decide +kernel) (j_latin hi n h') (by decide) (by decide) rfl (Nat.le_of_ble_eq_true rfl) rfl (fun r n' h' q => q.2.1) ⟨rfl, rfl⟩ (fun r h' q => ?_)
  obtain ⟨q1, -, q3⟩ := q
  subst q1
  subst q3
  exact AW.zret (ty := .char) rfl (wby_n _ h2) (by decide +kernel) (Nat.le_refl _) (Nat.le_refl _) ⟨rfl, rfl, rfl⟩
section CWS
variable {l : Launch} {Y : aY} {d : Nat} {r : Option Value} {S' : cT} {pc : Nat} {ls : List (Option Value)} {st : List Value} {S : cT}
theorem CW.getW (hY : Y.1.cls = RX5) (hd : decode Y.2.1 pc = .ok (.getstatic 87, 3)) (k : CW l Y d r S' (pc + 3) ls (.ref kW :: st) S) : CW l Y d r S' pc ls st S := fun M => AW.gst (v := .ref kW) (fun as A s X => X.1) (by rw [hY]; exact tb_in 927 (by decide +kernel) (by decide +kernel)) hd (k M)
theorem CW.lalW {i : Int32} (hd : decode Y.2.1 pc = .ok (.laload, 1)) (hi : vp_in i 6) (k : CW l Y d r S' (pc + 1) ls (.long (wo i.toNatClampNeg) :: st) S) : CW l Y d r S' pc ls (.int i :: .ref kW :: st) S := fun M => AW.lalW hd hi (k M)
theorem CW.ldcS (hY : Y.1.cls = RX10) (hd : decode Y.2.1 pc = .ok (.ldc 69, 2)) (k : CW l Y d r S' (pc + 2) ls (.ref kS :: st) S) : CW l Y d r S' pc ls st S := fun M => AW.ldcS hY hd (k M)
theorem CW.strlen (hY : Y.1.cls = RX10) (hd : decode Y.2.1 pc = .ok (.invokevirtual 71, 3)) (hdd : 5 < d) (hsum : (st.map fun v => v.category).sum ≤ 8) (k : CW l Y d r S' (pc + 3) ls (.int 93 :: st) S) : CW l Y d r S' pc ls (.ref kS :: st) S := by
  intro M
  refine AW.callVS (As := []) (st := st) (by rw [hY]; exact lv_RX10_71) rfl hd (j_length _ _) (by omega) (by decide) rfl hsum rfl (fun r n' h' q => q.2.1) ⟨rfl, rfl⟩ (fun r h' q => ?_)
  obtain ⟨q1, -, q3⟩ := q
  subst q1
  subst q3
  exact k M
theorem CW.charAt {i : Int32} (hY : Y.1.cls = RX10) (hd : decode Y.2.1 pc = .ok (.invokevirtual 77, 3)) (hi : vp_in i 93) (hdd : 5 < d) (hsum : (st.map fun v => v.category).sum ≤ 8) (k : CW l Y d r S' (pc + 3) ls (.int (wby.getD i.toNatClampNeg 0) :: st) S) : CW l Y d r S' pc ls (.int i :: .ref kS :: st) S := by
  intro M
  refine AW.callVS (As := [.int i]) (st := st) (by rw [hY]; exact lv_RX10_77) rfl hd (j_charAt hi _ _) (by omega) (by decide) rfl hsum rfl (fun r n' h' q => q.2.1) ⟨rfl, rfl⟩ (fun r h' q => ?_)
  obtain ⟨q1, -, q3⟩ := q
  subst q1
  subst q3
  exact k M
end CWS
