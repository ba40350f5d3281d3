/-! ===== making: new objects and rows, constructors ===== -/
def wfK (n k : Nat) : Prop := k < n ∨ kW ≤ k
def wfV (n : Nat) (v : Value) : Prop := ∀ k, v = .ref k → wfK n k
def wfE (n : Nat) (e : aE) : Prop := (∀ ty len f, e = .inl (ty, len, .inr (.inr (.inr (.inr f)))) → ∀ j k, f j = some k → wfK n k) ∧ ∀ ci fs, e = .inr (ci, fs) → ∀ v ∈ fs, wfV n v
def wfH (n : Nat) (h : aH) : Prop := ∀ k, k < n → wfE n (h k)
def wfL (n : Nat) (ls : List (Option Value)) : Prop := ∀ v, some v ∈ ls → wfV n v
def wfS (n : Nat) (st : List Value) : Prop := ∀ v ∈ st, wfV n v
section WF
variable {as as' : Nat → Nat} {n : Nat}
theorem tv_wf (ha : ∀ k, wfK n k → as' k = as k) {v : Value} (hv : wfV n v) : tv as' v = tv as v := by
  cases v with
  | ref k => simp only [tv_ref, ha k (hv k rfl)]
  | _ => rfl
theorem st_wf (ha : ∀ k, wfK n k → as' k = as k) {st : List Value} (hs : wfS n st) : st.map (tv as') = st.map (tv as) := List.map_congr_left (fun v hv => tv_wf ha (hs v hv))
theorem tE_wf (ha : ∀ k, wfK n k → as' k = as k) {cA : FieldType → ClassId} {e : aE} (he : wfE n e) : tE cA as' e = tE cA as e := by
  rcases e with ⟨ty, len, c⟩ | ⟨ci, fs⟩
  · show (.inl (cA ty, len, tC as' c) : va_E) = .inl (cA ty, len, tC as c)
    rcases c with f | f | f | f | f
    · rfl
    · rfl
    · rfl
    · rfl
    · have : (fun j => (f j).map as') = fun j => (f j).map as := by
        funext j
        cases hj : f j with
        | none => rfl
        | some k => simp [ha k (he.1 ty len f rfl j k hj)]
      show (.inl (cA ty, len, .inr (.inr (.inr (.inr (fun j => (f j).map as'))))) : va_E) = .inl (cA ty, len, .inr (.inr (.inr (.inr (fun j => (f j).map as)))))
      rw [this]
  · show (.inr (ci, fs.map (tv as')) : va_E) = .inr (ci, fs.map (tv as))
    rw [List.map_congr_left (fun v hv => tv_wf ha (he.2 ci fs rfl v hv))]
theorem asc_wf (ha : ∀ k, wfK n k → as' k = as k) : ∀ {ls : List (Option Value)} {j : Nat}, wfL n ls → asc as' j ls = asc as j ls
  | [], _, _ => rfl
  | none :: w, j, h => asc_wf ha (ls := w) (j := j + 1) (fun v hv => h v (List.mem_cons_of_mem _ hv))
  | some v :: w, j, h => by
    simp only [asc]
    rw [tv_wf ha (h v List.mem_cons_self), asc_wf ha (ls := w) (j := j + 1) (fun u hu => h u (List.mem_cons_of_mem _ hu))]
theorem ws_wf (ha : ∀ k, wfK n k → as' k = as k) {cA : FieldType → ClassId} {h : aH} (hw : wfH n h) : wsOf cA as' n h = wsOf cA as n h := by
  unfold wsOf
  apply List.map_congr_left
  intro k hk
  have hk' := List.mem_range.mp hk
  rw [ha k (Or.inl hk'), tE_wf ha (hw k hk')]
theorem up_as {q : Nat} (hn : n < kW) : ∀ k, wfK n k → va_up as n q k = as k := by
  intro k hk
  refine va_up_ne _ _ ?_
  rcases hk with hk | hk <;> omega
theorem ws_grow {q : Nat} (hn : n < kW) {cA : FieldType → ClassId} {h : aH} (hw : wfH n h) {e : aE} {x : va_E} (he : tE cA (va_up as n q) e = x) : wsOf cA (va_up as n q) (n + 1) (va_up h n e) = wsOf cA as n h ++ [(q, x)] := by
  have h1 : wsOf cA (va_up as n q) (n + 1) (va_up h n e) = wsOf cA (va_up as n q) n (va_up h n e) ++ [(q, x)] := by
    unfold wsOf
    rw [List.range_succ, List.map_append]
    simp only [List.map_cons, List.map_nil, va_up_self, he]
  rw [h1]
  congr 1
  have h2 : wsOf cA (va_up as n q) n (va_up h n e) = wsOf cA (va_up as n q) n h := by
    unfold wsOf
    apply List.map_congr_left
    intro k hk
    have hk' := List.mem_range.mp hk
    rw [va_up_ne h e (show k ≠ n by omega)]
  rw [h2]
  exact ws_wf (up_as hn) hw
theorem loc_wf (ha : ∀ k, wfK n k → as' k = as k) {ls : List (Option Value)} {nL : Nat} {lsA : Array Slot} (hw : wfL n ls) (hl : aw_loc as ls nL lsA) : aw_loc as' ls nL lsA := by
  refine ⟨hl.1, ?_⟩
  rw [asc_wf ha hw]
  exact hl.2
end WF
section AWN
variable {l : Launch} {Y : aY} {R : Room} {Q : aQ} {cu su pc : Nat} {ls : List (Option Value)} {st : List Value} {n : Nat} {h : aH}
theorem ext_grow {as0 as : Nat → Nat} {n0 q : Nat} (hn : n < kW) (X : aw_ext as0 n0 as n) : aw_ext as0 n0 (va_up as n q) (n + 1) := by
  refine ⟨Nat.le_succ_of_le X.1, hn, fun k hk => ?_⟩
  have hne : k ≠ n := by
    have := X.1
    omega
  rw [va_up_ne _ _ hne]
  exact X.2.2 k (by omega)
/-- an object is made: its fields are as they are at first -/
theorem AW.new {idx ci N : Nat} {C : String} {T : u_T} {ty : Nat → FieldType} {fs : List Value} (hcl : Cond.classLink Y.1.cls idx C ∈ wG) (hin : Cond.instantiable C N ∈ wG) (hini : Cond.initialized C ∈ wG) (hw : ∀ w ∈ u_ws C T N, w ∈ wG) (hty : ∀ k, k < N → parseFieldDescriptor (T k).2.2.1 = some (ty k)) (hc : classes[ci]? = some (C, T, N)) (hfs : ∀ j, j < N → defaultValue (ty j) = vp_V fs j) (hnr : ∀ as, fs.map (tv as) = fs) (hd : decode Y.2.1 pc = .ok (.new idx, 3)) (hn : n < kW) (wh : wfH n h) (wl : wfL n ls) (ws : wfS n st) (hcu : cu + 1 ≤ R.cells) (hsu : su + N ≤ R.slots) (k : AW l Y R Q (cu + 1) (su + N) (pc + 3) ls (.ref n :: st) (n + 1) (va_up h n (.inr (ci, fs)))) : AW l Y R Q cu su pc ls st n h := by
  intro p e s m args below meth c D cA as0 n0 A as H locs E S X lsA hl
  have hg := E.2.2.2.2.2.1
  refine va_new E.1 E.2.1 hg hw ty hty E.2.2.2.2.1 (hg _ hcl) (hg _ hin) (hg _ hini) S.1 S.2.1 S.2.2.1 S.2.2.2.1 S.2.2.2.2.1 hc hfs hcu hsu hd (fun q H1 hP hD hS => ?_)
  have hx : tE cA (va_up as n q) (.inr (ci, fs)) = .inr (ci, fs) := by
    show (.inr (ci, fs.map (tv (va_up as n q))) : va_E) = _
    rw [hnr]
  rw [← ws_grow hn wh hx] at hP hD
  have hk := k p e s m args below meth c D cA as0 n0 A (va_up as n q) H1 locs E ⟨S.1, hP, hD, hS, S.2.2.2.2.1, S.2.2.2.2.2.as (fun k hk => up_as hn k (Or.inr hk))⟩ (ext_grow hn X) lsA (loc_wf (up_as hn) wl hl)
  have hst : (Value.ref n :: st).map (tv (va_up as n q)) = .ref q :: st.map (tv as) := by
    rw [List.map_cons, st_wf (up_as hn) ws, tv_ref, va_up_self]
  rw [hst] at hk
  exact hk
/-- what an array's type is called: one class -/
theorem ra_int {cA : FieldType → ClassId} {D : va_G} {s : State} {c1 : ClassId} {ty : FieldType} (t0 : Nat) (ht : (tyl cA)[t0]? = some (cA ty, ty)) (hp : ∀ C, ty ≠ .object C) (hK : va_K D classes (tyl cA ++ [(c1, ty)]) s) : c1 = cA ty := by
  have hl : t0 < 6 := by
    have := (List.getElem?_eq_some_iff.mp ht).1
    simpa [tyl] using this
  have h1 := (hK.2 t0 _ (by rw [List.getElem?_append_left (by simpa [tyl] using hl)]; exact ht)).2
  have h2 := (hK.2 6 (c1, ty) (by simp [tyl])).2
  unfold va_RA at h1 h2
  cases ty with
  | object C => exact absurd rfl (hp C)
  | _ => exact Option.some.inj (h2.symm.trans h1)
theorem ra_obj {cA : FieldType → ClassId} {D : va_G} {s : State} {c1 : ClassId} {C : String} (t0 : Nat) (ht : (tyl cA)[t0]? = some (cA (.object C), .object C)) (hK : va_K D classes (tyl cA ++ [(c1, .object C)]) s) : c1 = cA (.object C) := by
  have hl : t0 < 6 := by
    have := (List.getElem?_eq_some_iff.mp ht).1
    simpa [tyl] using this
  obtain ⟨_, _, _, _, _, h1⟩ := (hK.2 t0 _ (by rw [List.getElem?_append_left (by simpa [tyl] using hl)]; exact ht)).2
  obtain ⟨_, _, _, _, _, h2⟩ := (hK.2 6 (c1, .object C) (by simp [tyl])).2
  exact Option.some.inj (h2.symm.trans h1)
/-- a row of numbers is made: all 0 -/
theorem AW.newa {atype : ArrayType} {ty : FieldType} {i : Int32} {N' : Nat} {c0 : aC} (t0 : Nat) (ht : ∀ cA, (tyl cA)[t0]? = some (cA ty, ty)) (hp : ∀ C, ty ≠ .object C) (harr : Cond.arrayClass (newarray.typeOf atype) ∈ wG) (hty : newarray.typeOf atype = ty) (hc0 : ∀ cA : ClassId, vp_cell cA (N', c0) = arrV cA N' (fun _ => defaultValue ty)) (hnr : ∀ as, tC as c0 = c0) (hi : ¬ i < 0) (hN : i.toNatClampNeg = N') (hb : N' * componentBytes ty ≤ 536870912) (hd : decode Y.2.1 pc = .ok (.newarray atype, 2)) (hn : n < kW) (wh : wfH n h) (wl : wfL n ls) (ws : wfS n st) (hcu : cu + 1 ≤ R.cells) (hsu : su + N' ≤ R.slots) (k : AW l Y R Q (cu + 1) (su + N') (pc + 2) ls (.ref n :: st) (n + 1) (va_up h n (.inl (ty, N', c0)))) : AW l Y R Q cu su pc ls (.int i :: st) n h := by
  intro p e s m args below meth c D cA as0 n0 A as H locs E S X lsA hl
  have hg := E.2.2.2.2.2.1
  refine va_newa (atype := atype) E.1 E.2.1 (hg _ harr) hty S.1 S.2.1 S.2.2.1 S.2.2.2.1 S.2.2.2.2.1 hc0 hi hN hb hcu hsu hd (fun q c1 H1 hK hP hD hS => ?_)
  have hc1 := ra_int t0 (ht cA) hp hK
  subst hc1
  have hx : tE cA (va_up as n q) (.inl (ty, N', c0)) = .inl (cA ty, N', c0) := by
    show (.inl (cA ty, N', tC (va_up as n q) c0) : va_E) = _
    rw [hnr]
  rw [← ws_grow hn wh hx] at hP hD
  have hk := k p e s m args below meth c D cA as0 n0 A (va_up as n q) H1 locs E ⟨S.1, hP, hD, hS, S.2.2.2.2.1, S.2.2.2.2.2.as (fun k hk => up_as hn k (Or.inr hk))⟩ (ext_grow hn X) lsA (loc_wf (up_as hn) wl hl)
  have hst : (Value.ref n :: st).map (tv (va_up as n q)) = .ref q :: st.map (tv as) := by
    rw [List.map_cons, st_wf (up_as hn) ws, tv_ref, va_up_self]
  rw [hst] at hk
  exact hk
/-- a row of objects is made: all null -/
theorem AW.newq {idx t0 : Nat} {C : String} {i : Int32} {N' : Nat} (ht : ∀ cA, (tyl cA)[t0]? = some (cA (.object C), .object C)) (hcl : Cond.classLink Y.1.cls idx C ∈ wG) (hov : Cond.arrayOver (.object C) ∈ wN) (hi : ¬ i < 0) (hN : i.toNatClampNeg = N') (hb : N' * 4 ≤ 536870912) (hd : decode Y.2.1 pc = .ok (.anewarray idx, 3)) (hn : n < kW) (wh : wfH n h) (wl : wfL n ls) (ws : wfS n st) (hcu : cu + 1 ≤ R.cells) (hsu : su + N' ≤ R.slots) (k : AW l Y R Q (cu + 1) (su + N') (pc + 3) ls (.ref n :: st) (n + 1) (va_up h n (.inl (.object C, N', .inr (.inr (.inr (.inr (fun _ => none)))))))) : AW l Y R Q cu su pc ls (.int i :: st) n h := by
  intro p e s m args below meth c D cA as0 n0 A as H locs E S X lsA hl
  have hg := E.2.2.2.2.2.1
  refine va_newq E.1 E.2.1 E.2.2.2.2.1 (hg _ hcl) (E.2.2.2.2.2.2.2.1 _ hov) S.1 S.2.1 S.2.2.1 S.2.2.2.1 S.2.2.2.2.1 hi hN hb hcu hsu hd (fun q c1 H1 hK hP hD hS => ?_)
  have hc1 := ra_obj t0 (ht cA) hK
  subst hc1
  have hx : tE cA (va_up as n q) (.inl (.object C, N', .inr (.inr (.inr (.inr (fun _ => none)))))) = .inl (cA (.object C), N', .inr (.inr (.inr (.inr (fun _ => none))))) := rfl
  rw [← ws_grow hn wh hx] at hP hD
  have hk := k p e s m args below meth c D cA as0 n0 A (va_up as n q) H1 locs E ⟨S.1, hP, hD, hS, S.2.2.2.2.1, S.2.2.2.2.2.as (fun k hk => up_as hn k (Or.inr hk))⟩ (ext_grow hn X) lsA (loc_wf (up_as hn) wl hl)
  have hst : (Value.ref n :: st).map (tv (va_up as n q)) = .ref q :: st.map (tv as) := by
    rw [List.map_cons, st_wf (up_as hn) ws, tv_ref, va_up_self]
  rw [hst] at hk
  exact hk
/-- Object's own constructor -/
theorem AW.objInit {idx b : Nat} (hl : Cond.methodLink Y.1.cls idx objectInit ∈ wG) (hd : decode Y.2.1 pc = .ok (.invokespecial idx, 3)) (hf : 1 ≤ R.frames) (hlo : (st.map fun v => v.category).sum + 12 ≤ R.locals) (k : AW l Y R Q cu su (pc + 3) ls st n h) : AW l Y R Q cu su pc ls (.ref b :: st) n h := by
  intro p e s m args below meth c D cA as0 n0 A as H locs E S X lsA hls
  have hg := E.2.2.2.2.2.1
  exact W.objInit E.1 E.2.1 E.2.2.2.2.1 (hg _ hl) (hg _ (tb_in 27 (by decide +kernel) (by decide +kernel))) (hg _ (tb_in 28 (by decide +kernel) (by decide +kernel))) (g := F0 m pc lsA ((Value.ref b :: st).map (tv as))) (a := as b) (rest := st.map (tv as)) rfl (hls.2.1.trans E.2.2.2.1.symm) rfl hd hf (by show 2 * 0 + _ + 12 ≤ _; rw [cat_map]; omega) (k p e s m args below meth c D cA as0 n0 A as H locs E S X lsA hls)
/-- only the cells that there are matter -/
theorem AW.hext {h' : aH} (hh : ∀ q, q < n → h q = h' q) (k : AW l Y R Q cu su pc ls st n h') : AW l Y R Q cu su pc ls st n h := by
  intro p e s m args below meth c D cA as0 n0 A as H locs E S X lsA hls
  have hw : wsOf cA as n h = wsOf cA as n h' := by
    unfold wsOf
    apply List.map_congr_left
    intro k hk
    rw [hh k (List.mem_range.mp hk)]
  obtain ⟨s1, s2, s3, s4⟩ := S
  rw [hw] at s2 s3
  exact k p e s m args below meth c D cA as0 n0 A as H locs E ⟨s1, s2, s3, s4⟩ X lsA hls
end AWN
