/-! ===== calls of constructors ===== -/
section AWI
variable {l : Launch} {Y : aY} {R : Room} {Q : aQ} {cu su pc : Nat} {ls : List (Option Value)} {st : List Value} {n : Nat} {h : aH}
theorem AW.callI {idx np b : Nat} {Y' : aY} {rm' : Room} {As st0 : List Value} {Q' : aQ} (hL : LI Y.1.cls idx Y' np) (hd : decode Y.2.1 pc = .ok (.invokespecial idx, 3)) (hM : AOk l Y' rm' Q' (.ref b :: As) n h) (hfr : rm'.frames + 1 ≤ R.frames) (hlo : 8 + (Y'.2.2.1 + 11) + rm'.locals ≤ R.locals) (hnp : As.length = np) (hsum : (st.map fun v => v.category).sum ≤ 8) (hst : st0 = As.reverse ++ .ref b :: st)
    (hcu : cu + rm'.cells ≤ R.cells) (hsu : su + rm'.slots ≤ R.slots) (wl : wfL n ls) (ws : wfS n st) (hr0 : ∀ r n' h', Q' r n' h' → r = none) (k : ∀ n' h', n ≤ n' → n' ≤ kW → Q' none n' h' → AW l Y R Q (cu + rm'.cells) (su + rm'.slots) (pc + 3) ls st n' h') : AW l Y R Q cu su pc ls st0 n h := by
  intro p e s m args below meth c D cA as0 n0 A as H locs E S X lsA hl
  obtain ⟨hMK, hpar, hin, hnm, hret, hlk⟩ := hL
  have hG := wG_good hMK
  have hw := E.2.2.2.2.2.1
  have hstack : (F0 m pc lsA (st0.map (tv as))).stack = (As.map (tv as)).reverse ++ .ref (as b) :: st.map (tv as) := by
    show st0.map (tv as) = _
    rw [hst]
    simp [tv_ref]
  have hps : PreS s H (aw_Pc D cA as n h H.size (.ref b :: As)) (.ref (as b) :: As.map (tv as)) := ⟨aw_blind, aw_pre (Y' := Y') (av := .ref b :: As) E S X.2.1⟩
  have hroom : 2 * (F0 m pc lsA (st0.map (tv as))).monitorRoom + ((st.map (tv as)).map fun v => v.category).sum ≤ 8 := lv_room (by rw [cat_map]; exact hsum)
  have hM' := hM D cA as H.size
  have hws : Cond.code Y'.1 Y'.2.1 Y'.2.2.1 Y'.2.2.2 :: wG = Cond.code Y'.1 Y'.2.1 Y'.2.2.1 none :: wG := by rw [hret]
  have hrun : va_Run p l e R s m args below meth c H locs cu su rm'.cells rm'.slots (F0 m pc lsA (st0.map (tv as))) (st.map (tv as)) (aw_Q D cA as n (va_A (wsOf cA as n h) H.size) Q' (Value.ref (as b) :: As.map (tv as)).toArray) (va_A (wsOf cA as n h) H.size) := by
    rw [hws] at hM' hG
    rcases hlk with hlk | ⟨host, hlk⟩
    · exact va_runI (Ts := wG) ⟨E.1, E.2.1, E.2.2.2.1, E.2.2.2.2.1, hw⟩ hM' ⟨callB_of np hw hG rfl rfl rfl (hw _ hMK.2.1) (hw _ hlk) ⟨hMK.2.2.1, hMK.2.2.2, hpar⟩ ⟨hfr, hlo⟩, hnm, hw _ hin⟩ hps rfl (by rw [List.length_map]; exact hnp) hl.2.1 hstack hroom hd ⟨hcu, hsu⟩
    · exact va_runIN (Ts := wG) ⟨E.1, E.2.1, E.2.2.2.1, E.2.2.2.2.1, hw⟩ hM' ⟨va_cnB np hw hG rfl rfl rfl (E.2.2.2.2.2.2.2.1 _ hlk) (hw _ hMK.2.1) ⟨hMK.2.2.1, hMK.2.2.2, hpar⟩ ⟨hfr, hlo⟩, hnm, hw _ hin⟩ hps rfl (by rw [List.length_map]; exact hnp) hl.2.1 hstack hroom hd ⟨hcu, hsu⟩
  intro T hT XT
  obtain ⟨v, st₀, t, T', L, h0, X', hLq, e1, e2, ⟨⟨r, n', h', as', hv, hq, hx, hP, hK, hD⟩, hz, hkk⟩, stp⟩ := hrun T hT XT
  have hrn := hr0 _ _ _ hq
  subst hrn
  have hv : v = none := by cases hv; rfl
  subst hv
  rw [h0] at hz hkk
  have hAA := aw_AA S
  have hS := S.2.2.2.1
  have ha : ∀ k, wfK n k → as' k = as k := fun k hk => hx.2.2 k (hk.elim Or.inl (fun z => Or.inr (Nat.le_trans hx.2.1 z)))
  have hext : aw_ext as0 n0 as' n' := ⟨Nat.le_trans X.1 hx.1, hx.2.1, fun k hk => by
    have h1 := X.1
    have h2 := hx.1
    rw [hx.2.2 k (by omega)]
    exact X.2.2 k (by omega)⟩
  have k2 := k n' h' hx.1 hx.2.1 hq p e s m args below meth c D cA as0 n0 A as' T'.heap (locs ++ L) E ⟨S.1, by rw [e1]; exact hP, hD.weaken (fun _ q _ hq => hAA _ hq), ⟨Nat.le_trans hS.1 (by rw [e1]; exact hz), fun q h1 h2 => by rw [e1, hkk q (Nat.lt_of_lt_of_le h1 hS.1) (fun z => h2 (hAA q z))]; exact hS.2.1 q h1 h2, fun q hq => by
      rcases List.mem_append.mp hq with h | h
      · exact hS.2.2 q h
      · exact hAA _ (hLq q h)⟩, S.2.2.2.2.1, S.2.2.2.2.2.as (fun k hk => ha k (Or.inr hk))⟩ hext lsA (loc_wf ha wl hl)
  rw [st_wf ha ws] at k2
  obtain ⟨t2, a1, b1⟩ := k2 T' rfl X'
  exact ⟨t2, stp t2 a1, b1⟩
end AWI
/-- a room that bears making -/
def rmA (d mc ms : Nat) : Room := { frames := d, cells := mc, slots := ms, locals := 60 * d }
/-- cells from a place on, over a pool -/
def blk (h : aH) (b : Nat) (cs : List aE) : aH := fun q => if b ≤ q ∧ q < b + cs.length then cs.getD (q - b) (.inl (.int, 0, .inl (fun _ => 0))) else h q
theorem blk_push {h : aH} {b n : Nat} {cs : List aE} {e : aE} (hn : n = b + cs.length) : va_up (blk h b cs) n e = blk h b (cs ++ [e]) := by
  subst hn
  funext q
  unfold va_up blk
  by_cases a : q = b + cs.length
  · subst a
    simp
  · rw [if_neg a]
    by_cases c : b ≤ q ∧ q < b + cs.length
    · rw [if_pos c, if_pos ⟨c.1, by simp; omega⟩]
      simp only [List.getD_eq_getElem?_getD]
      rw [List.getElem?_append_left (by omega)]
    · rw [if_neg c, if_neg (by simp; omega)]
theorem blk_set {h : aH} {b j n : Nat} {cs : List aE} {e : aE} (hn : n = b + j) (hj : j < cs.length) : va_up (blk h b cs) n e = blk h b (cs.set j e) := by
  subst hn
  funext q
  unfold va_up blk
  rw [List.length_set]
  by_cases a : q = b + j
  · subst a
    rw [if_pos rfl, if_pos ⟨by omega, by omega⟩]
    simp [List.getD_eq_getElem?_getD, hj]
  · rw [if_neg a]
    by_cases c : b ≤ q ∧ q < b + cs.length
    · rw [if_pos c, if_pos c]
      simp only [List.getD_eq_getElem?_getD]
      rw [List.getElem?_set_ne (by omega)]
    · rw [if_neg c, if_neg c]
theorem blk_get {h : aH} {b j : Nat} {cs : List aE} {e : aE} (he : cs[j]? = some e) : blk h b cs (b + j) = e := by
  have hj := (List.getElem?_eq_some_iff.mp he).1
  unfold blk
  rw [if_pos ⟨by omega, by omega⟩, Nat.add_sub_cancel_left, List.getD_eq_getElem?_getD, he]
  rfl
theorem blk_app {h : aH} {b : Nat} {cs ds : List aE} : blk h b (cs ++ ds) = blk (blk h b cs) (b + cs.length) ds := by
  funext q
  unfold blk
  rw [List.length_append]
  by_cases a : b ≤ q ∧ q < b + (cs.length + ds.length)
  · rw [if_pos a]
    by_cases c : q < b + cs.length
    · rw [if_neg (by omega), if_pos ⟨a.1, c⟩]
      simp only [List.getD_eq_getElem?_getD]
      rw [List.getElem?_append_left (by omega)]
    · rw [if_pos ⟨by omega, by omega⟩]
      simp only [List.getD_eq_getElem?_getD]
      rw [List.getElem?_append_right (by omega)]
      congr 2
      omega
  · rw [if_neg a, if_neg (by omega), if_neg (by omega)]
theorem blk_wf {h : aH} {b m : Nat} {cs : List aE} (hb : wfH b h) (hm : m = b + cs.length) (hc : ∀ e ∈ cs, wfE m e) : wfH m (blk h b cs) := by
  intro k hk
  unfold blk
  by_cases c : b ≤ k ∧ k < b + cs.length
  · rw [if_pos c]
    have hlt : k - b < cs.length := by omega
    rw [List.getD_eq_getElem?_getD, List.getElem?_eq_getElem hlt]
    exact hc _ (List.getElem_mem hlt)
  · rw [if_neg c]
    have hkb : k < b := by omega
    obtain ⟨h1, h2⟩ := hb k hkb
    have up : ∀ q, wfK b q → wfK m q := fun q hq => hq.elim (fun z => Or.inl (by omega)) Or.inr
    exact ⟨fun ty len f e j q hj => up q (h1 ty len f e j q hj), fun ci fs e v hv q hq => up q (h2 ci fs e v hv q hq)⟩
