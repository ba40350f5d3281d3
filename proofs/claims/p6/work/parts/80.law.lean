/-! ===== the law's own walk over the pool ===== -/
abbrev kB : Nat := 1000004
abbrev yLaw (nm : String) : aY := (⟨"OneMirrorLaw", nm, "([I)Z"⟩, code, 4, ret)
def lwA (s : State) : Nat → Prop := fun q => s.heap.size ≤ q
/-- what holds all along: the machine, the words, the script -/
def LE (p : Program) (s : State) (m : MethodId) (meth : Method) (c : Code) (b L : Nat) (xs : Nat → Int32) (as0 : Nat → Nat) : Prop :=
  aw_env p s m #[Value.ref b] meth c (yLaw meth.name) ∧ va_X b L xs s s.heap ∧ b < s.heap.size ∧ as0 kB = b
def LW (p : Program) (l : Launch) (e : Env) (s : State) (m : MethodId) (below : List Frame) (meth : Method) (c : Code) (b : Nat) (D : va_G) (cA : FieldType → ClassId) (as0 : Nat → Nat) (cu su pc : Nat) (ls : List (Option Value)) (st : List Value) (n : Nat) (h : aH) : Prop :=
  ∀ (as : Nat → Nat) (H : Heap) (locs : List Loc), aw_st D cA as n h (lwA s) s H locs → aw_ext as0 0 as n →
    Wst p l e room_1 s m #[Value.ref b] below meth c H locs cu su (lw_Z below #[Value.ref b] s) as 4 pc ls st
section LAW
variable {p : Program} {l : Launch} {e : Env} {s : State} {m : MethodId} {below : List Frame} {meth : Method} {c : Code} {b L : Nat} {xs : Nat → Int32} {D : va_G} {cA : FieldType → ClassId} {as0 : Nat → Nat}
variable {cu su pc : Nat} {ls : List (Option Value)} {st : List Value} {n : Nat} {h : aH}
theorem LW.run (E : LE p s m meth c b L xs as0) (blk : List (Instr × Int32)) {pc' : Nat} {ls' : List (Option Value)} {st' : List Value} (hd : dec code pc blk = some pc') (hp : pxs blk ls st = some (ls', st')) (k : LW p l e s m below meth c b D cA as0 cu su pc' ls' st' n h) : LW p l e s m below meth c b D cA as0 cu su pc ls st n h := by
  intro as H locs S X
  exact pxs_ok E.1.1 E.1.2.1 hd hp (k as H locs S X)
theorem LW.icmp_gt (E : LE p s m meth c b L xs as0) {x y : Int32} {off : Int} {tgt : Nat} (hd : decode code pc = .ok (.if_icmp .gt off, 3)) (ht : (pc : Int) + off = (tgt : Int)) (kt : y < x → LW p l e s m below meth c b D cA as0 cu su tgt ls st n h) (kf : ¬ y < x → LW p l e s m below meth c b D cA as0 cu su (pc + 3) ls st n h) : LW p l e s m below meth c b D cA as0 cu su pc ls (.int y :: .int x :: st) n h := by
  intro as H locs S X lsA hl
  exact lv_icmp_gt E.1.1 E.1.2.1 hd ht (fun q => kt q as H locs S X lsA hl) (fun q => kf q as H locs S X lsA hl)
theorem LW.icmp_eq (E : LE p s m meth c b L xs as0) {x y : Int32} {off : Int} {tgt : Nat} (hd : decode code pc = .ok (.if_icmp .eq off, 3)) (ht : (pc : Int) + off = (tgt : Int)) (kt : x = y → LW p l e s m below meth c b D cA as0 cu su tgt ls st n h) (kf : ¬ x = y → LW p l e s m below meth c b D cA as0 cu su (pc + 3) ls st n h) : LW p l e s m below meth c b D cA as0 cu su pc ls (.int y :: .int x :: st) n h := by
  intro as H locs S X lsA hl
  exact lv_icmp_eq E.1.1 E.1.2.1 hd ht (fun q => kt q as H locs S X lsA hl) (fun q => kf q as H locs S X lsA hl)
theorem LW.if_eq (E : LE p s m meth c b L xs as0) {x : Int32} {off : Int} {tgt : Nat} (hd : decode code pc = .ok (.ifCond .eq off, 3)) (ht : (pc : Int) + off = (tgt : Int)) (kt : x = 0 → LW p l e s m below meth c b D cA as0 cu su tgt ls st n h) (kf : ¬ x = 0 → LW p l e s m below meth c b D cA as0 cu su (pc + 3) ls st n h) : LW p l e s m below meth c b D cA as0 cu su pc ls (.int x :: st) n h := by
  intro as H locs S X lsA hl
  exact lv_if_eq E.1.1 E.1.2.1 hd ht (fun q => kt q as H locs S X lsA hl) (fun q => kf q as H locs S X lsA hl)
theorem LW.tableIn (E : LE p s m meth c b L xs as0) {dflt lo hi : Int} {offs : Array Int} {len : Nat} {x : Int32} {off : Int} {tgt : Nat} (hd : decode code pc = .ok (.tableswitch dflt lo hi offs, len)) (h1 : ¬ x.toInt < lo) (h2 : ¬ hi < x.toInt) (ho : offs[(x.toInt - lo).toNat]? = some off) (ht : (pc : Int) + off = (tgt : Int)) (k : LW p l e s m below meth c b D cA as0 cu su tgt ls st n h) : LW p l e s m below meth c b D cA as0 cu su pc ls (.int x :: st) n h := by
  intro as H locs S X lsA hl
  exact lv_tableIn E.1.1 E.1.2.1 hd h1 h2 ho ht (k as H locs S X lsA hl)
theorem LW.tableOut (E : LE p s m meth c b L xs as0) {dflt lo hi : Int} {offs : Array Int} {len : Nat} {x : Int32} {tgt : Nat} (hd : decode code pc = .ok (.tableswitch dflt lo hi offs, len)) (h0 : x.toInt < lo ∨ hi < x.toInt) (ht : (pc : Int) + dflt = (tgt : Int)) (k : LW p l e s m below meth c b D cA as0 cu su tgt ls st n h) : LW p l e s m below meth c b D cA as0 cu su pc ls (.int x :: st) n h := by
  intro as H locs S X lsA hl
  exact lv_tableOut E.1.1 E.1.2.1 hd h0 ht (k as H locs S X lsA hl)
theorem LE.at (E : LE p s m meth c b L xs as0) {as : Nat → Nat} (X : aw_ext as0 0 as n) : as kB = b := (X.2.2 kB (Or.inr (Nat.le_trans X.2.1 (Nat.le_of_ble_eq_true rfl)))).trans E.2.2.2
/-- an int of the script -/
theorem LW.sld (E : LE p s m meth c b L xs as0) {i : Int32} (hin : vp_in i L) (hd : decode code pc = .ok (.iaload, 1)) (k : LW p l e s m below meth c b D cA as0 cu su (pc + 1) ls (.int (xs i.toNatClampNeg) :: st) n h) : LW p l e s m below meth c b D cA as0 cu su pc ls (.int i :: .ref kB :: st) n h := by
  intro as H locs S X lsA hl
  have hk := k as H locs S X lsA hl
  show W p l e room_1 s m #[Value.ref b] below meth c H locs cu su _ (F0 m pc lsA (.int i :: .ref (as kB) :: st.map (tv as)))
  rw [E.at X]
  exact va_sld E.1.1 E.1.2.1 E.2.1 E.2.2.1 (Nat.not_le.mpr E.2.2.1) S.2.2.2.1 hin hd hk
theorem LW.slen (E : LE p s m meth c b L xs as0) (hd : decode code pc = .ok (.arraylength, 1)) (k : LW p l e s m below meth c b D cA as0 cu su (pc + 1) ls (.int (Int32.ofNat L) :: st) n h) : LW p l e s m below meth c b D cA as0 cu su pc ls (.ref kB :: st) n h := by
  intro as H locs S X lsA hl
  have hk := k as H locs S X lsA hl
  show W p l e room_1 s m #[Value.ref b] below meth c H locs cu su _ (F0 m pc lsA (.ref (as kB) :: st.map (tv as)))
  rw [E.at X]
  exact va_slen E.1.1 E.1.2.1 E.2.1 E.2.2.1 (Nat.not_le.mpr E.2.2.1) S.2.2.2.1 hd hk
theorem LW.ret (E : LE p s m meth c b L xs as0) (hd : decode code pc = .ok (.ireturn, 1)) (hcu : cu ≤ 600000) (hsu : su ≤ 7302250) : LW p l e s m below meth c b D cA as0 cu su pc ls [.int 1] n h := by
  intro as H locs S X lsA hl
  refine va_forget (fun q hq => S.2.2.2.1.2.2 q hq) ?_
  refine W.widen (k := 600000) (n := 7302250) hcu hsu ?_
  exact lw_ret E.1.1 E.1.2.1 E.1.2.2.1 E.1.2.2.2.2.2.2.1 hd
theorem LW.new (E : LE p s m meth c b L xs as0) {idx ci N : Nat} {C : String} {T : u_T} {ty : Nat → FieldType} {fs : List Value} (hcl : Cond.classLink "OneMirrorLaw" idx C ∈ wG) (hin : Cond.instantiable C N ∈ wG) (hini : Cond.initialized C ∈ wG) (hw : ∀ w ∈ u_ws C T N, w ∈ wG) (hty : ∀ k, k < N → parseFieldDescriptor (T k).2.2.1 = some (ty k)) (hc : classes[ci]? = some (C, T, N)) (hfs : ∀ j, j < N → defaultValue (ty j) = vp_V fs j) (hnr : ∀ as, fs.map (tv as) = fs) (hd : decode code pc = .ok (.new idx, 3)) (hn : n < kW) (wh : wfH n h) (wl : wfL n ls) (ws : wfS n st) (hcu : cu + 1 ≤ 600000) (hsu : su + N ≤ 7302250) (k : LW p l e s m below meth c b D cA as0 (cu + 1) (su + N) (pc + 3) ls (.ref n :: st) (n + 1) (va_up h n (.inr (ci, fs)))) : LW p l e s m below meth c b D cA as0 cu su pc ls st n h := by
  intro as H locs S X lsA hl
  have hg := E.1.2.2.2.2.2.1
  refine va_new (own := "OneMirrorLaw") E.1.1 E.1.2.1 hg hw ty hty E.1.2.2.2.2.1 (hg _ hcl) (hg _ hin) (hg _ hini) S.1 S.2.1 S.2.2.1 S.2.2.2.1 S.2.2.2.2.1 hc hfs hcu hsu hd (fun q H1 hP hD hS => ?_)
  have hx : tE cA (va_up as n q) (.inr (ci, fs)) = .inr (ci, fs) := by
    show (.inr (ci, fs.map (tv (va_up as n q))) : va_E) = _
    rw [hnr]
  rw [← ws_grow hn wh hx] at hP hD
  have hk := k (va_up as n q) H1 locs ⟨S.1, hP, hD, hS, S.2.2.2.2.1, S.2.2.2.2.2.as (fun k hk => up_as hn k (Or.inr hk))⟩ (ext_grow hn X) lsA (loc_wf (up_as hn) wl hl)
  have hst : (Value.ref n :: st).map (tv (va_up as n q)) = .ref q :: st.map (tv as) := by
    rw [List.map_cons, st_wf (up_as hn) ws, tv_ref, va_up_self]
  rw [hst] at hk
  exact hk
theorem LW.callI (E : LE p s m meth c b L xs as0) {idx np q0 : Nat} {Y' : aY} {rm' : Room} {As st0 : List Value} {Q' : aQ} (hL : LI "OneMirrorLaw" idx Y' np) (hd : decode code pc = .ok (.invokespecial idx, 3)) (hM : AOk l Y' rm' Q' (.ref q0 :: As) n h) (hfr : rm'.frames + 1 ≤ 2048) (hlo : 8 + (Y'.2.2.1 + 11) + rm'.locals ≤ 84000) (hnp : As.length = np) (hsum : (st.map fun v => v.category).sum ≤ 8) (hst : st0 = As.reverse ++ .ref q0 :: st)
    (hcu : cu + rm'.cells ≤ 600000) (hsu : su + rm'.slots ≤ 7302250) (wl : wfL n ls) (ws : wfS n st) (hr0 : ∀ r n' h', Q' r n' h' → r = none) (k : ∀ n' h', n ≤ n' → n' ≤ kW → Q' none n' h' → LW p l e s m below meth c b D cA as0 (cu + rm'.cells) (su + rm'.slots) (pc + 3) ls st n' h') : LW p l e s m below meth c b D cA as0 cu su pc ls st0 n h := by
  intro as H locs S X lsA hl
  obtain ⟨hMK, hpar, hin, hnm, hret, hlk⟩ := hL
  have hG := wG_good hMK
  have hw := E.1.2.2.2.2.2.1
  have hstack : (F0 m pc lsA (st0.map (tv as))).stack = (As.map (tv as)).reverse ++ .ref (as q0) :: st.map (tv as) := by
    show st0.map (tv as) = _
    rw [hst]
    simp [tv_ref]
  have hps : PreS s H (aw_Pc D cA as n h H.size (.ref q0 :: As)) (.ref (as q0) :: As.map (tv as)) := ⟨aw_blind, aw_pre (Y' := Y') (av := .ref q0 :: As) E.1 S X.2.1⟩
  have hroom : 2 * (F0 m pc lsA (st0.map (tv as))).monitorRoom + ((st.map (tv as)).map fun v => v.category).sum ≤ 8 := lv_room (by rw [cat_map]; exact hsum)
  have hM' := hM D cA as H.size
  have hws : Cond.code Y'.1 Y'.2.1 Y'.2.2.1 Y'.2.2.2 :: wG = Cond.code Y'.1 Y'.2.1 Y'.2.2.1 none :: wG := by rw [hret]
  have hrun : va_Run p l e room_1 s m #[Value.ref b] below meth c H locs cu su rm'.cells rm'.slots (F0 m pc lsA (st0.map (tv as))) (st.map (tv as)) (aw_Q D cA as n (va_A (wsOf cA as n h) H.size) Q' (Value.ref (as q0) :: As.map (tv as)).toArray) (va_A (wsOf cA as n h) H.size) := by
    rw [hws] at hM' hG
    rcases hlk with hlk | ⟨host, hlk⟩
    · exact va_runI (Ts := wG) ⟨E.1.1, E.1.2.1, E.1.2.2.2.1, E.1.2.2.2.2.1, hw⟩ hM' ⟨callB_of np hw hG rfl rfl rfl (hw _ hMK.2.1) (hw _ hlk) ⟨hMK.2.2.1, hMK.2.2.2, hpar⟩ ⟨hfr, hlo⟩, hnm, hw _ hin⟩ hps rfl (by rw [List.length_map]; exact hnp) hl.2.1 hstack hroom hd ⟨hcu, hsu⟩
    · exact va_runIN (Ts := wG) ⟨E.1.1, E.1.2.1, E.1.2.2.2.1, E.1.2.2.2.2.1, hw⟩ hM' ⟨va_cnB np hw hG rfl rfl rfl (E.1.2.2.2.2.2.2.2.1 _ hlk) (hw _ hMK.2.1) ⟨hMK.2.2.1, hMK.2.2.2, hpar⟩ ⟨hfr, hlo⟩, hnm, hw _ hin⟩ hps rfl (by rw [List.length_map]; exact hnp) hl.2.1 hstack hroom hd ⟨hcu, hsu⟩
  intro T hT XT
  obtain ⟨v, st₀, t, T', Lc, h0, X', hLq, e1, e2, ⟨⟨r, n', h', as', hv, hq, hx, hP, hK, hD⟩, hz, hkk⟩, stp⟩ := hrun T hT XT
  have hrn := hr0 _ _ _ hq
  subst hrn
  have hv : v = none := by cases hv; rfl
  subst hv
  rw [h0] at hz hkk
  have hAA := aw_AA S
  have hS := S.2.2.2.1
  have ha : ∀ k, wfK n k → as' k = as k := fun k hk => hx.2.2 k (hk.elim Or.inl (fun z => Or.inr (Nat.le_trans hx.2.1 z)))
  have hext : aw_ext as0 0 as' n' := ⟨Nat.zero_le _, hx.2.1, fun k hk => by
    have h1 := X.1
    have h2 := hx.1
    rw [hx.2.2 k (by omega)]
    exact X.2.2 k (by omega)⟩
  have k2 := k n' h' hx.1 hx.2.1 hq as' T'.heap (locs ++ Lc) ⟨S.1, by rw [e1]; exact hP, hD.weaken (fun _ q _ hq => hAA _ hq), ⟨Nat.le_trans hS.1 (by rw [e1]; exact hz), fun q h1 h2 => by rw [e1, hkk q (Nat.lt_of_lt_of_le h1 hS.1) (fun z => h2 (hAA q z))]; exact hS.2.1 q h1 h2, fun q hq => by
      rcases List.mem_append.mp hq with h | h
      · exact hS.2.2 q h
      · exact hAA _ (hLq q h)⟩, S.2.2.2.2.1, S.2.2.2.2.2.as (fun k hk => ha k (Or.inr hk))⟩ hext lsA (loc_wf ha wl hl)
  rw [st_wf ha ws] at k2
  obtain ⟨t2, a1, b1⟩ := k2 T' rfl X'
  exact ⟨t2, stp t2 a1, b1⟩
theorem LW.callV (E : LE p s m meth c b L xs as0) {d' idx q0 np ci : Nat} {Y' : aY} {As st0 fs : List Value} {Q' : aQ} {r0 : vw_C} (hL : LV "OneMirrorLaw" idx Y' np) (hd : decode code pc = .ok (.invokevirtual idx, 3)) (hM : AOk l Y' (rmD d') Q' (.ref q0 :: As) n h) (hdd : d' ≤ 1000) (hml : Y'.2.2.1 ≤ 41) (hnp : As.length = np) (hb : q0 < n) (he : h q0 = .inr (ci, fs)) (hc : classes[ci]? = some r0) (hcl : r0.1 = Y'.1.cls) (hsum : (st.map fun v => v.category).sum ≤ 8) (hst : st0 = As.reverse ++ .ref q0 :: st)
    (hn : ∀ r n' h', Q' r n' h' → n' = n) (hcu : cu ≤ 600000) (hsu : su ≤ 7302250) (k : ∀ r h', Q' r n h' → LW p l e s m below meth c b D cA as0 cu su (pc + 3) ls (r.toList ++ st) n h') : LW p l e s m below meth c b D cA as0 cu su pc ls st0 n h := by
  intro as H locs S X lsA hl
  obtain ⟨hMK, hpar, hin, hse, hlk⟩ := hL
  have hG := wG_good hMK
  have hw := E.1.2.2.2.2.2.1
  have hstack : (F0 m pc lsA (st0.map (tv as))).stack = (As.map (tv as)).reverse ++ .ref (as q0) :: st.map (tv as) := by
    show st0.map (tv as) = _
    rw [hst]
    simp [tv_ref]
  have hrm : (rmD d').frames + 1 ≤ room_1.frames ∧ 8 + (Y'.2.2.1 + 11) + (rmD d').locals ≤ room_1.locals := by
    show d' + 1 ≤ 2048 ∧ 8 + (Y'.2.2.1 + 11) + 60 * d' ≤ 84000
    omega
  have hrec := va_recv S.1 S.2.1 hc (ws_o hb he)
  rw [hcl] at hrec
  have hpv : PreV s H Y'.1.cls (as q0) (aw_Pc D cA as n h H.size (.ref q0 :: As)) (As.map (tv as)) := ⟨aw_blind, hrec, aw_pre (Y' := Y') (av := .ref q0 :: As) E.1 S X.2.1⟩
  have hf : cu + 0 ≤ room_1.cells ∧ su + 0 ≤ room_1.slots := ⟨hcu, hsu⟩
  have hroom : 2 * (F0 m pc lsA (st0.map (tv as))).monitorRoom + ((st.map (tv as)).map fun v => v.category).sum ≤ 8 := lv_room (by rw [cat_map]; exact hsum)
  have hrun : va_Run p l e room_1 s m #[Value.ref b] below meth c H locs cu su 0 0 (F0 m pc lsA (st0.map (tv as))) (st.map (tv as)) (aw_Q D cA as n (va_A (wsOf cA as n h) H.size) Q' (Value.ref (as q0) :: As.map (tv as)).toArray) (va_A (wsOf cA as n h) H.size) := by
    rcases hlk with hlk | ⟨host, hlk⟩
    · exact va_runV (Ts := wG) ⟨E.1.1, E.1.2.1, E.1.2.2.2.1, E.1.2.2.2.2.1, hw⟩ (hM D cA as H.size) ⟨callB_of np hw hG rfl rfl rfl (hw _ hMK.2.1) (hw _ hlk) ⟨hMK.2.2.1, hMK.2.2.2, hpar⟩ hrm, hw _ hin, hw _ hse⟩ hpv rfl (by rw [List.length_map]; exact hnp) hl.2.1 hstack hroom hd hf
    · exact va_runVN (Ts := wG) ⟨E.1.1, E.1.2.1, E.1.2.2.2.1, E.1.2.2.2.2.1, hw⟩ (hM D cA as H.size) ⟨va_cnB np hw hG rfl rfl rfl (E.1.2.2.2.2.2.2.2.1 _ hlk) (hw _ hMK.2.1) ⟨hMK.2.2.1, hMK.2.2.2, hpar⟩ hrm, hw _ hin, hw _ hse⟩ hpv rfl (by rw [List.length_map]; exact hnp) hl.2.1 hstack hroom hd hf
  refine aw_cont S hrun hn (fun r h' H1 locs1 hq S1 => ?_)
  have k2 := k r h' hq as H1 locs1 S1 X lsA hl
  have he2 : (r.toList ++ st).map (tv as) = (r.map (tv as)).toList ++ st.map (tv as) := by cases r <;> simp
  rw [he2] at k2
  exact k2
/-- two cells that hold the same as far as they go -/
def eqE (e e' : aE) : Prop := e = e' ∨ ∃ (C : String) (len : Nat) (f g : Nat → Option Nat), e = .inl (.object C, len, .inr (.inr (.inr (.inr f)))) ∧ e' = .inl (.object C, len, .inr (.inr (.inr (.inr g)))) ∧ ∀ j, j < len → f j = g j
theorem eqE_at {e e' : aE} (he : eqE e e') {as : Nat → Nat} {a : Nat} {H : Heap} (hq : va_at D classes (a, tE cA as e) H) : va_at D classes (a, tE cA as e') H := by
  rcases he with rfl | ⟨C, len, f, g, rfl, rfl, hj⟩
  · exact hq
  · have hv : vp_cell (cA (.object C)) (len, .inr (.inr (.inr (.inr (fun j => (f j).map as))))) = vp_cell (cA (.object C)) (len, .inr (.inr (.inr (.inr (fun j => (g j).map as))))) := by
      rw [vp_cell_q, vp_cell_q]
      unfold arrV
      congr 1
      apply Array.ext
      · simp
      · intro i h1 h2
        simp only [Array.size_ofFn] at h1
        simp [hj i h1]
    have h1 : H[a]? = some (vp_cell (cA (.object C)) (len, .inr (.inr (.inr (.inr (fun j => (f j).map as)))))) := hq
    rw [hv] at h1
    exact h1
theorem LW.hext {h' : aH} (hh : ∀ q, q < n → eqE (h q) (h' q)) (k : LW p l e s m below meth c b D cA as0 cu su pc ls st n h') : LW p l e s m below meth c b D cA as0 cu su pc ls st n h := by
  intro as H locs S X
  obtain ⟨s1, s2, s3, s4⟩ := S
  refine k as H locs ⟨s1, ?_, ?_, s4⟩ X
  · intro j q hq
    obtain ⟨hj, rfl⟩ := wsOf_inv hq
    exact eqE_at (hh j hj) (s2 j _ (wsOf_get hj))
  · refine ⟨fun i j p q hp hq hpq => ?_, fun j q hq => ?_⟩
    · obtain ⟨hi, rfl⟩ := wsOf_inv hp
      obtain ⟨hj, rfl⟩ := wsOf_inv hq
      exact s3.1 i j _ _ (wsOf_get hi) (wsOf_get hj) hpq
    · obtain ⟨hj, rfl⟩ := wsOf_inv hq
      exact s3.2 j (as j, tE cA as (h j)) (wsOf_get hj)
end LAW
