/-! ===== contracts over the pool, and calls ===== -/
def aw_Pc (D : va_G) (cA : FieldType → ClassId) (as : Nat → Nat) (n : Nat) (h : aH) (sz : Nat) (av : List Value) : Array Value → State → Prop := fun v U =>
  v = (av.map (tv as)).toArray ∧ U.heap.size = sz ∧ va_P D classes (wsOf cA as n h) U.heap ∧ va_K D classes (tyl cA) U ∧ va_D (fun _ => True) (wsOf cA as n h) ∧ (∀ w ∈ wN, va_Nw w U) ∧ aw_X as (va_A (wsOf cA as n h) sz) U U.heap ∧ n ≤ kW
/-- the method Y, called with av where the pool is h, returns r where the pool is h': what Q says of r and h' -/
def AOk (l : Launch) (Y : aY) (rm : Room) (Q : aQ) (av : List Value) (n : Nat) (h : aH) : Prop :=
  ∀ (D : va_G) (cA : FieldType → ClassId) (as : Nat → Nat) (sz : Nat), Met l Y.1 (Cond.code Y.1 Y.2.1 Y.2.2.1 Y.2.2.2 :: wG) rm (aw_Pc D cA as n h sz av) (aw_Q D cA as n (va_A (wsOf cA as n h) sz) Q) rm.cells rm.slots (va_A (wsOf cA as n h) sz)
theorem aw_blind {D : va_G} {cA : FieldType → ClassId} {as : Nat → Nat} {n : Nat} {h : aH} {sz : Nat} {av : List Value} : FrameBlind (aw_Pc D cA as n h sz av) := by
  intro a U g mk q
  obtain ⟨h1, h2, h3, h4, h5, h6, h7, h8⟩ := q
  exact ⟨h1, h2, h3, va_K.moved (u := U) (U := U.calling g mk a) (Vm.Alike.refl U.vm) h4, h5, wN_same (u := U) (U := U.calling g mk a) rfl h6, aw_X.same (s := U) (U := U.calling g mk a) rfl h7, h8⟩
/-- the locals at a method's entry -/
def enL : List Value → List (Option Value)
  | [] => []
  | v :: r => bif Nat.beq v.category 2 then some v :: none :: enL r else some v :: enL r
def padL (av : List Value) (nL : Nat) : List (Option Value) := enL av ++ List.replicate (nL - (enL av).length) none
theorem asc_none (as : Nat → Nat) : ∀ (k j : Nat), asc as j (List.replicate k none) = []
  | 0, _ => rfl
  | k + 1, j => by rw [List.replicate_succ]; exact asc_none as k (j + 1)
theorem asc_en (as : Nat → Nat) (k : Nat) : ∀ (av : List Value) (j : Nat), asc as j (enL av ++ List.replicate k none) = lv_args j (av.map (tv as))
  | [], j => by simp [enL, lv_args, asc_none]
  | v :: r, j => by
    by_cases hv : v.category = 2
    · have h1 : Nat.beq v.category 2 = true := by rw [hv]; rfl
      have h2 : (tv as v).category = 2 := by rw [tv_cat]; exact hv
      simp only [enL, h1, cond_true, List.cons_append, asc, List.map_cons, lv_args, h2, if_true]
      rw [asc_en as k r (j + 1 + 1)]
    · have h1 : Nat.beq v.category 2 = false := Bool.eq_false_iff.mpr (fun z => hv (Nat.eq_of_beq_eq_true z))
      have h2 : ¬ (tv as v).category = 2 := by rw [tv_cat]; exact hv
      simp only [enL, h1, cond_false, List.cons_append, asc, List.map_cons, lv_args, h2, if_false]
      rw [asc_en as k r (j + 1)]
theorem en_len (as : Nat → Nat) : ∀ (av : List Value), (lg_sl (av.map (tv as))).length = (enL av).length
  | [] => rfl
  | v :: r => by
    have ih := en_len as r
    by_cases hv : v.category = 2
    · have h1 : Nat.beq v.category 2 = true := by rw [hv]; rfl
      have h2 : (tv as v).category = 2 := by rw [tv_cat]; exact hv
      simp only [lg_sl, List.map_cons, List.flatMap_cons, h2, if_true, enL, h1, cond_true, List.length_append, List.length_cons, List.length_nil]
      unfold lg_sl at ih
      rw [ih]
      omega
    · have h1 : Nat.beq v.category 2 = false := Bool.eq_false_iff.mpr (fun z => hv (Nat.eq_of_beq_eq_true z))
      have h2 : ¬ (tv as v).category = 2 := by rw [tv_cat]; exact hv
      simp only [lg_sl, List.map_cons, List.flatMap_cons, h2, if_false, enL, h1, cond_false, List.length_append, List.length_cons, List.length_nil]
      unfold lg_sl at ih
      rw [ih]
      omega
/-- a contract out of a walk -/
theorem AOk.of {l : Launch} {Y : aY} {rm : Room} {Q : aQ} {av : List Value} {n : Nat} {h : aH} {ls : List (Option Value)} (hy : plainName Y.1.cls = true) (hl : (enL av).length ≤ Y.2.2.1) (hls : padL av Y.2.2.1 = ls) (k : AW l Y rm Q 0 0 0 ls [] n h) : AOk l Y rm Q av n h := by
  intro D cA as sz
  refine Met.ofW (cc := Y.2.1) (maxL := Y.2.2.1) (ret := Y.2.2.2) hy rfl ?_
  intro p e s m args below meth c s₁ B hml hv
  obtain ⟨rfl, hsz, hP, hK, hD0, hN, hX, hn⟩ := hv
  have hts := atoms_spec (ws := Cond.code Y.1 Y.2.1 Y.2.2.1 Y.2.2.2 :: wG) B.pre
  have hown : s.vm.findClass Y.1.cls = some m.cls := findClass_of_methodNamed B.named
  subst hsz
  have hE : aw_env p s m (av.map (tv as)).toArray meth c Y := ⟨B.exec, B.bytes, B.returns, hml, hown, fun w hw => hts w (List.mem_cons_of_mem _ hw), B.notSynchronized, hN, (name_of_methodNamed B.named B.method).1⟩
  have hl0 := lv_entry (av.map (tv as)) (n := Y.2.2.1) (by rw [en_len]; exact hl)
  rw [lg_entry_eq]
  have hloc : aw_loc as ls Y.2.2.1 ((lg_sl (av.map (tv as)) ++ List.replicate (Y.2.2.1 - (lg_sl (av.map (tv as))).length) Slot.unset).toArray) := by
    refine ⟨?_, ?_⟩
    · rw [← hls]
      simp [padL]
      omega
    · rw [← hls]
      unfold padL
      rw [asc_en]
      exact hl0
  exact k p e s m (av.map (tv as)).toArray below meth c D cA as n (va_A (wsOf cA as n h) s.heap.size) as s.heap [] hE ⟨hK, hP, hD0.self, va_S.rf, fun q hq => Or.inr hq, hX⟩ ⟨Nat.le_refl _, hn, fun _ _ => rfl⟩ _ hloc
/-- a method's code is among the words -/
def MK (Y : aY) : Prop := Cond.code Y.1 Y.2.1 Y.2.2.1 Y.2.2.2 ∈ wG ∧ Cond.initialized Y.1.cls ∈ wG ∧ Y.1.cls ≠ "java/lang/invoke/MethodHandle" ∧ Y.1.cls ≠ "java/lang/invoke/VarHandle"
def LV (own : String) (idx : Nat) (Y : aY) (np : Nat) : Prop := MK Y ∧ (parseMethodDescriptor Y.1.desc).map (fun d => d.parameters.length) = some np ∧ Cond.instanceMethod Y.1 ∈ wG ∧ Cond.selects Y.1.cls Y.1 Y.1 ∈ wG ∧ (Cond.methodLink own idx Y.1 ∈ wG ∨ ∃ host, Cond.methodLinkNest own idx Y.1 host ∈ wN)
def LT (own : String) (idx : Nat) (Y : aY) (np : Nat) : Prop := MK Y ∧ (parseMethodDescriptor Y.1.desc).map (fun d => d.parameters.length) = some np ∧ Cond.static Y.1 ∈ wG ∧ (Cond.methodLink own idx Y.1 ∈ wG ∨ ∃ host, Cond.methodLinkNest own idx Y.1 host ∈ wN)
def LI (own : String) (idx : Nat) (Y : aY) (np : Nat) : Prop := MK Y ∧ (parseMethodDescriptor Y.1.desc).map (fun d => d.parameters.length) = some np ∧ Cond.instanceMethod Y.1 ∈ wG ∧ Y.1.name = "<init>" ∧ Y.2.2.2 = none ∧ (Cond.methodLink own idx Y.1 ∈ wG ∨ ∃ host, Cond.methodLinkNest own idx Y.1 host ∈ wN)
theorem wG_good {Y : aY} (h : MK Y) : GoodIn wG (Cond.code Y.1 Y.2.1 Y.2.2.1 Y.2.2.2 :: wG) := by
  intro w hw
  have hw' : w ∈ wG := (List.mem_cons.mp hw).elim (fun e => e ▸ h.1) id
  exact ⟨hw', good_of_word (List.mem_filter.mp hw').2⟩
/-- the room of a method that makes nothing, by how deep its calls go -/
def rmD (d : Nat) : Room := { frames := d, cells := 0, slots := 0, locals := 60 * d }
section AWC
variable {l : Launch} {Y : aY} {Q : aQ} {cu su pc : Nat} {ls : List (Option Value)} {st : List Value} {n : Nat} {h : aH}
variable {p : Program} {e : Env} {s : State} {m : MethodId} {args : Array Value} {below : List Frame} {meth : Method} {c : Code} {D : va_G} {cA : FieldType → ClassId} {A : Nat → Prop} {as : Nat → Nat} {H : Heap} {locs : List Loc}
theorem aw_AA (S : aw_st D cA as n h A s H locs) : ∀ q, va_A (wsOf cA as n h) H.size q → A q := by
  intro q hq
  rcases hq with ⟨k, e, hk⟩ | hq
  · exact S.2.2.1.2 k _ hk
  · exact S.2.2.2.2.1 q (Nat.le_trans S.2.2.2.1.1 hq)
theorem aw_pre {Y' : aY} {av : List Value} (E : aw_env p s m args meth c Y) (S : aw_st D cA as n h A s H locs) (hn : n ≤ kW) : ∀ U : State, U.heap = H → s.WarmedH U.vm → aw_Pc D cA as n h H.size av (av.map (tv as)).toArray U := by
  intro U hU hW
  refine ⟨rfl, by rw [hU], by rw [hU]; exact S.2.1, va_K.moved hW.alike S.1, S.2.2.1.weaken (fun _ _ _ _ => trivial), wN_warm hW E.2.2.2.2.2.2.2.1, ?_, hn⟩
  rw [hU]
  exact ((S.2.2.2.2.2.kept S.2.2.2.1.2.1).narrow (aw_AA S)).warm hW
/-- behind a call that makes nothing -/
theorem aw_cont {R : Room} {Qf : State → Prop} {Q' : aQ} {a : Array Value} {lsA : Array Slot} {st0 rest : List Value} (S : aw_st D cA as n h A s H locs)
    (hr : va_Run p l e R s m args below meth c H locs cu su 0 0 (F0 m pc lsA st0) rest (aw_Q D cA as n (va_A (wsOf cA as n h) H.size) Q' a) (va_A (wsOf cA as n h) H.size))
    (hn : ∀ r n' h', Q' r n' h' → n' = n)
    (kk : ∀ (r : Option Value) (h' : aH) (H1 : Heap) (locs1 : List Loc), Q' r n h' → aw_st D cA as n h' A s H1 locs1 → W p l e R s m args below meth c H1 locs1 cu su Qf (F0 m (pc + 3) lsA ((r.map (tv as)).toList ++ rest))) :
    W p l e R s m args below meth c H locs cu su Qf (F0 m pc lsA st0) := by
  intro T hT X
  obtain ⟨v, st₀, t, T', L, h0, X', hL, e1, e2, ⟨⟨r, n', h', as', hv, hq, hx, hP, hK, hD⟩, hz, hk⟩, stp⟩ := hr T hT X
  have hn' := hn _ _ _ hq
  subst hn'
  have has : as' = as := funext (fun k => hx.2.2 k (by omega))
  subst has
  have hv : v = r.map (tv as') := by cases hv; rfl
  subst hv
  rw [h0] at hz hk
  have hAA := aw_AA S
  have hS := S.2.2.2.1
  obtain ⟨t2, a1, b1⟩ := kk r h' T'.heap (locs ++ L) hq ⟨S.1, by rw [e1]; exact hP, hD.weaken (fun _ q _ hq => hAA _ hq), ⟨Nat.le_trans hS.1 (by rw [e1]; exact hz), fun q h1 h2 => by rw [e1, hk q (Nat.lt_of_lt_of_le h1 hS.1) (fun z => h2 (hAA q z))]; exact hS.2.1 q h1 h2, fun q hq => by
      rcases List.mem_append.mp hq with h | h
      · exact hS.2.2 q h
      · exact hAA _ (hL q h)⟩, S.2.2.2.2⟩ T' rfl X'
  exact ⟨t2, stp t2 a1, b1⟩
theorem cat_map (as : Nat → Nat) (st : List Value) : ((st.map (tv as)).map fun v => v.category).sum = (st.map fun v => v.category).sum := by
  rw [List.map_map]
  congr 1
  apply List.map_congr_left
  intro v _
  exact tv_cat as v
theorem AW.callV {d d' idx b np ci : Nat} {Y' : aY} {As st0 fs : List Value} {Q' : aQ} {r0 : vw_C} (hL : LV Y.1.cls idx Y' np) (hd : decode Y.2.1 pc = .ok (.invokevirtual idx, 3)) (hM : AOk l Y' (rmD d') Q' (.ref b :: As) n h) (hdd : d' < d) (hml : Y'.2.2.1 ≤ 41) (hnp : As.length = np) (hb : b < n) (he : h b = .inr (ci, fs)) (hc : classes[ci]? = some r0) (hcl : r0.1 = Y'.1.cls) (hsum : (st.map fun v => v.category).sum ≤ 8) (hst : st0 = As.reverse ++ .ref b :: st)
    (hn : ∀ r n' h', Q' r n' h' → n' = n) (hcs : cu = 0 ∧ su = 0) (k : ∀ r h', Q' r n h' → AW l Y (rmD d) Q cu su (pc + 3) ls (r.toList ++ st) n h') : AW l Y (rmD d) Q cu su pc ls st0 n h := by
  intro p e s m args below meth c D cA as0 n0 A as H locs E S X lsA hl
  obtain ⟨hMK, hpar, hin, hse, hlk⟩ := hL
  have hG := wG_good hMK
  have hw := E.2.2.2.2.2.1
  have hstack : (F0 m pc lsA (st0.map (tv as))).stack = (As.map (tv as)).reverse ++ .ref (as b) :: st.map (tv as) := by
    show st0.map (tv as) = _
    rw [hst]
    simp [tv_ref]
  have hrm : (rmD d').frames + 1 ≤ (rmD d).frames ∧ 8 + (Y'.2.2.1 + 11) + (rmD d').locals ≤ (rmD d).locals := by
    show d' + 1 ≤ d ∧ 8 + (Y'.2.2.1 + 11) + 60 * d' ≤ 60 * d
    omega
  have hrec := va_recv S.1 S.2.1 hc (ws_o hb he)
  rw [hcl] at hrec
  have hpv : PreV s H Y'.1.cls (as b) (aw_Pc D cA as n h H.size (.ref b :: As)) (As.map (tv as)) := ⟨aw_blind, hrec, aw_pre (Y' := Y') (av := .ref b :: As) E S X.2.1⟩
  have hf : cu + 0 ≤ (rmD d).cells ∧ su + 0 ≤ (rmD d).slots := by rw [hcs.1, hcs.2]; exact ⟨Nat.le_refl _, Nat.le_refl _⟩
  have hroom : 2 * (F0 m pc lsA (st0.map (tv as))).monitorRoom + ((st.map (tv as)).map fun v => v.category).sum ≤ 8 := lv_room (by rw [cat_map]; exact hsum)
  have hrun : va_Run p l e (rmD d) s m args below meth c H locs cu su 0 0 (F0 m pc lsA (st0.map (tv as))) (st.map (tv as)) (aw_Q D cA as n (va_A (wsOf cA as n h) H.size) Q' (Value.ref (as b) :: As.map (tv as)).toArray) (va_A (wsOf cA as n h) H.size) := by
    rcases hlk with hlk | ⟨host, hlk⟩
    · exact va_runV (Ts := wG) ⟨E.1, E.2.1, E.2.2.2.1, E.2.2.2.2.1, hw⟩ (hM D cA as H.size) ⟨callB_of np hw hG rfl rfl rfl (hw _ hMK.2.1) (hw _ hlk) ⟨hMK.2.2.1, hMK.2.2.2, hpar⟩ hrm, hw _ hin, hw _ hse⟩ hpv rfl (by rw [List.length_map]; exact hnp) hl.2.1 hstack hroom hd hf
    · exact va_runVN (Ts := wG) ⟨E.1, E.2.1, E.2.2.2.1, E.2.2.2.2.1, hw⟩ (hM D cA as H.size) ⟨va_cnB np hw hG rfl rfl rfl (E.2.2.2.2.2.2.2.1 _ hlk) (hw _ hMK.2.1) ⟨hMK.2.2.1, hMK.2.2.2, hpar⟩ hrm, hw _ hin, hw _ hse⟩ hpv rfl (by rw [List.length_map]; exact hnp) hl.2.1 hstack hroom hd hf
  refine aw_cont S hrun hn (fun r h' H1 locs1 hq S1 => ?_)
  have k2 := k r h' hq p e s m args below meth c D cA as0 n0 A as H1 locs1 E S1 X lsA hl
  have he2 : (r.toList ++ st).map (tv as) = (r.map (tv as)).toList ++ st.map (tv as) := by cases r <;> simp
  rw [he2] at k2
  exact k2
theorem AW.callS {d d' idx np : Nat} {Y' : aY} {As st0 : List Value} {Q' : aQ} (hL : LT Y.1.cls idx Y' np) (hd : decode Y.2.1 pc = .ok (.invokestatic idx, 3)) (hM : AOk l Y' (rmD d') Q' As n h) (hdd : d' < d) (hml : Y'.2.2.1 ≤ 41) (hnp : As.length = np) (hsum : (st.map fun v => v.category).sum ≤ 8) (hst : st0 = As.reverse ++ st)
    (hn : ∀ r n' h', Q' r n' h' → n' = n) (hcs : cu = 0 ∧ su = 0) (k : ∀ r h', Q' r n h' → AW l Y (rmD d) Q cu su (pc + 3) ls (r.toList ++ st) n h') : AW l Y (rmD d) Q cu su pc ls st0 n h := by
  intro p e s m args below meth c D cA as0 n0 A as H locs E S X lsA hl
  obtain ⟨hMK, hpar, hin, hlk⟩ := hL
  have hG := wG_good hMK
  have hw := E.2.2.2.2.2.1
  have hstack : (F0 m pc lsA (st0.map (tv as))).stack = (As.map (tv as)).reverse ++ st.map (tv as) := by
    show st0.map (tv as) = _
    rw [hst]
    simp
  have hrm : (rmD d').frames + 1 ≤ (rmD d).frames ∧ 8 + (Y'.2.2.1 + 11) + (rmD d').locals ≤ (rmD d).locals := by
    show d' + 1 ≤ d ∧ 8 + (Y'.2.2.1 + 11) + 60 * d' ≤ 60 * d
    omega
  have hps : PreS s H (aw_Pc D cA as n h H.size As) (As.map (tv as)) := ⟨aw_blind, aw_pre (Y' := Y') (av := As) E S X.2.1⟩
  have hf : cu + 0 ≤ (rmD d).cells ∧ su + 0 ≤ (rmD d).slots := by rw [hcs.1, hcs.2]; exact ⟨Nat.le_refl _, Nat.le_refl _⟩
  have hroom : 2 * (F0 m pc lsA (st0.map (tv as))).monitorRoom + ((st.map (tv as)).map fun v => v.category).sum ≤ 8 := lv_room (by rw [cat_map]; exact hsum)
  have hrun : va_Run p l e (rmD d) s m args below meth c H locs cu su 0 0 (F0 m pc lsA (st0.map (tv as))) (st.map (tv as)) (aw_Q D cA as n (va_A (wsOf cA as n h) H.size) Q' (As.map (tv as)).toArray) (va_A (wsOf cA as n h) H.size) := by
    rcases hlk with hlk | ⟨host, hlk⟩
    · exact va_runS (Ts := wG) ⟨E.1, E.2.1, E.2.2.2.1, E.2.2.2.2.1, hw⟩ (hM D cA as H.size) ⟨callB_of np hw hG rfl rfl rfl (hw _ hMK.2.1) (hw _ hlk) ⟨hMK.2.2.1, hMK.2.2.2, hpar⟩ hrm, hw _ hin⟩ hps rfl (by rw [List.length_map]; exact hnp) hl.2.1 hstack hroom hd hf
    · exact va_runSN (Ts := wG) ⟨E.1, E.2.1, E.2.2.2.1, E.2.2.2.2.1, hw⟩ (hM D cA as H.size) ⟨va_cnB np hw hG rfl rfl rfl (E.2.2.2.2.2.2.2.1 _ hlk) (hw _ hMK.2.1) ⟨hMK.2.2.1, hMK.2.2.2, hpar⟩ hrm, hw _ hin, trivial⟩ hps rfl (by rw [List.length_map]; exact hnp) hl.2.1 hstack hroom hd hf
  refine aw_cont S hrun hn (fun r h' H1 locs1 hq S1 => ?_)
  have k2 := k r h' hq p e s m args below meth c D cA as0 n0 A as H1 locs1 E S1 X lsA hl
  have he2 : (r.toList ++ st).map (tv as) = (r.map (tv as)).toList ++ st.map (tv as) := by cases r <;> simp
  rw [he2] at k2
  exact k2
end AWC
