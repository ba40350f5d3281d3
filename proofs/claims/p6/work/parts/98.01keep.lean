/-! ===== what class and reference hold alike: the tape, how many rules, the rule in force ===== -/
def nonP : Nat → Nat → Option Int := fun _ _ => none
abbrev TrI (b q j : Nat) : Prop := (q = b ∧ (j = 8 ∨ j = 9 ∨ j = 13)) ∨ (q = b + 8 ∧ j = 3) ∨ (q = b + 10 ∧ j = 3) ∨ q = b + 1 ∨ q = b + 5 ∨ q = b + 11
abbrev TrC (i q j : Nat) : Prop := (q = 1 ∧ j = 4) ∨ q = 2 ∨ (q = 0 ∧ j = 11) ∨ (q = 98 ∧ j < 4) ∨ TrI i q j ∨ TrI 50 q j ∨ TrI 62 q j ∨ TrI 74 q j ∨ TrI 86 q j
abbrev TrM (r j : Nat) : Prop := (r = 0 ∧ (j = 1 ∨ j = 2 ∨ j = 22)) ∨ r = 1 ∨ r = 16 ∨ r = 18 ∨ r = 15 ∨ (r = 10 ∧ stJ j = true)
theorem pinI {b q j : Nat} (hb : b = 113 ∨ b = 125 ∨ b = 50 ∨ b = 62 ∨ b = 74 ∨ b = 86) (h : TrI b q j) : pinO q j = true := by
  rcases hb with rfl | rfl | rfl | rfl | rfl | rfl <;> rcases h with ⟨rfl, rfl | rfl | rfl⟩ | ⟨rfl, rfl⟩ | ⟨rfl, rfl⟩ | rfl | rfl | rfl <;> rfl
/-- pins at what is held, but where D lets go -/
def PV (D : Nat → Nat → Prop) [∀ q j, Decidable (D q j)] (S : cT) (q j : Nat) : Option Int := if TrC S.2.2.1 q j ∧ ¬ D q j then some (S.1 q j).toInt else none
def QV (D : Nat → Nat → Prop) [∀ q j, Decidable (D q j)] (T : mT) (r j : Nat) : Option Int := if TrM r j ∧ ¬ D r j then some (T.1 r j).toInt else none
abbrev noD (_ _ : Nat) : Prop := False
theorem pin13 {q : Nat} (h : cK q = 2) : pinO q 13 = true := by unfold pinO; rw [h]; rfl
theorem IC_non {P : Nat → Nat → Option Int} {S : cT} (h : IC P S) : IC nonP S := IC_free h (fun q j v hv => by cases hv)
theorem IC_pv {D : Nat → Nat → Prop} [∀ q j, Decidable (D q j)] {S : cT} (h : IC nonP S) : IC (PV D S) S := by
  refine ⟨h.1, fun q j v hv => ?_, h.2.2⟩
  unfold PV at hv
  by_cases e : TrC S.2.2.1 q j ∧ ¬ D q j
  · rw [if_pos e] at hv
    refine ⟨?_, Option.some.inj hv⟩
    have hb : S.2.2.1 = 113 ∨ S.2.2.1 = 125 := by rcases h.2.2 with ⟨a, -⟩ | ⟨a, -⟩; exact Or.inl a; exact Or.inr a
    rcases e.1 with ⟨rfl, rfl⟩ | rfl | ⟨rfl, rfl⟩ | ⟨rfl, a⟩ | a | a | a | a | a
    · rfl
    · rfl
    · rfl
    · rfl
    · exact pinI (by omega) a
    · exact pinI (by omega) a
    · exact pinI (by omega) a
    · exact pinI (by omega) a
    · exact pinI (by omega) a
  · rw [if_neg e] at hv
    cases hv
theorem IQ_non {P : Nat → Nat → Option Int} {T : mT} (h : Aft P T) : Aft nonP T := ⟨IQ_free h.1 (fun q j v hv => by cases hv), h.2⟩
theorem IQ_qv {D : Nat → Nat → Prop} [∀ q j, Decidable (D q j)] {T : mT} (h : Aft nonP T) : Aft (QV D T) T := by
  refine ⟨⟨⟨h.1.1.1, fun r j v hv => ?_⟩, h.1.2⟩, h.2⟩
  unfold QV at hv
  by_cases e : TrM r j ∧ ¬ D r j
  · rw [if_pos e] at hv
    refine ⟨?_, Option.some.inj hv⟩
    rcases e.1 with ⟨rfl, a⟩ | rfl | rfl | rfl | rfl | ⟨rfl, a⟩
    · rcases a with rfl | rfl | rfl <;> rfl
    · rfl
    · rfl
    · rfl
    · rfl
    · exact a
  · rw [if_neg e] at hv
    cases hv
def KpC (D : Nat → Nat → Prop) (S S' : cT) : Prop := S'.2.2 = S.2.2 ∧ ∀ q j, TrC S.2.2.1 q j → ¬ D q j → (S'.1 q j).toInt = (S.1 q j).toInt
def KpM (D : Nat → Nat → Prop) (T T' : mT) : Prop := ∀ r j, TrM r j → ¬ D r j → (T'.1 r j).toInt = (T.1 r j).toInt
theorem pv_at {D : Nat → Nat → Prop} [∀ q j, Decidable (D q j)] {S S' : cT} (h : IC (PV D S) S') {q j : Nat} (t : TrC S.2.2.1 q j) (d : ¬ D q j) : (S'.1 q j).toInt = (S.1 q j).toInt := (h.2.1 q j _ (by unfold PV; rw [if_pos ⟨t, d⟩])).2
theorem qv_at {D : Nat → Nat → Prop} [∀ q j, Decidable (D q j)] {T T' : mT} (h : IQ (QV D T) T') {r j : Nat} (t : TrM r j) (d : ¬ D r j) : (T'.1 r j).toInt = (T.1 r j).toInt := (h.1.2 r j _ (by unfold QV; rw [if_pos ⟨t, d⟩])).2
theorem pv_no {D : Nat → Nat → Prop} [∀ q j, Decidable (D q j)] {S : cT} {q j : Nat} (h : ¬ TrC S.2.2.1 q j ∨ D q j) : PV D S q j = none := by
  unfold PV
  rw [if_neg (fun z => h.elim (fun y => y z.1) (fun y => z.2 y))]
theorem qv_no {D : Nat → Nat → Prop} [∀ q j, Decidable (D q j)] {T : mT} {r j : Nat} (h : ¬ TrM r j ∨ D r j) : QV D T r j = none := by
  unfold QV
  rw [if_neg (fun z => h.elim (fun y => y z.1) (fun y => z.2 y))]
theorem kc_w {D : Nat → Nat → Prop} [∀ q j, Decidable (D q j)] {S : cT} {f : Option (Int32 × cT)} (h : wp f (fun w => IC (PV D S) w.2 ∧ w.2.2.2 = S.2.2)) : wp f (fun w => IC nonP w.2 ∧ KpC D S w.2) := wp_mono h (fun _ hw => ⟨IC_non hw.1, hw.2, fun _ _ t d => pv_at hw.1 t d⟩)
theorem kc_i {S : cT} {f : Option Int32} (hI : IC nonP S) (h : wp f (fun _ => True)) : wp (wiS f S) (fun w => IC nonP w.2 ∧ KpC noD S w.2) := by
  obtain ⟨a, e, _⟩ := h
  exact ⟨(a, S), by rw [e]; rfl, hI, rfl, fun _ _ _ _ => rfl⟩
theorem kc_b {S : cT} {f : Option (Bool × cT)} (h : wp f (fun w => IC (PV noD S) w.2 ∧ w.2.2.2 = S.2.2)) : wp (wbS f) (fun w => IC nonP w.2 ∧ KpC noD S w.2) := by
  obtain ⟨a, e, ha⟩ := h
  exact ⟨(b2i a.1, a.2), by rw [e]; rfl, IC_non ha.1, ha.2, fun _ _ t d => pv_at ha.1 t d⟩
theorem km_w {D : Nat → Nat → Prop} [∀ q j, Decidable (D q j)] {T : mT} {f : Option (Int32 × mT)} (h : wp f (fun w => Aft (QV D T) w.2)) : wp f (fun w => Aft nonP w.2 ∧ KpM D T w.2) := wp_mono h (fun _ hw => ⟨IQ_non hw, fun _ _ t d => qv_at hw.1 t d⟩)
theorem km_i {T : mT} {f : Option Int32} (hA : Aft nonP T) (h : wp f (fun _ => True)) : wp (wiT f T) (fun w => Aft nonP w.2 ∧ KpM noD T w.2) := by
  obtain ⟨a, e, _⟩ := h
  exact ⟨(a, T), by rw [e]; rfl, hA, fun _ _ _ _ => rfl⟩
theorem km_b {T : mT} {f : Option (Bool × mT)} (h : wp f (fun w => Aft (QV noD T) w.2)) : wp (wbT f) (fun w => Aft nonP w.2 ∧ KpM noD T w.2) := by
  obtain ⟨a, e, ha⟩ := h
  exact ⟨(b2i a.1, a.2), by rw [e]; rfl, IQ_non ha, fun _ _ t d => qv_at ha.1 t d⟩
theorem km_r {T : mT} {f : Option (Int32 × mT)} (hA : Aft nonP T) (h : wp f (fun w => IQ (QV noD T) w.2 ∧ w.2.1 10 = T.1 10)) : wp f (fun w => Aft nonP w.2 ∧ KpM noD T w.2) := km_w (wp_mono h (fun w hw => ⟨hw.1, by unfold HrOk; rw [hw.2]; exact hA.2⟩))
theorem km_s {T : mT} {f : Option (Int32 × mT)} (hA : Aft nonP T) (h : wp f (fun w => IQ (QV noD T) w.2 ∧ Sm T w.2)) : wp f (fun w => Aft nonP w.2 ∧ KpM noD T w.2) := km_r hA (wp_mono h (fun _ hw => ⟨hw.1, hw.2.row (by decide)⟩))
/-- cells of an isle and of what is said that are the same: marks, people, how many wishes and views, faces, ties, views -/
abbrev Mp (o j c : Nat) : Prop := (o = 0 ∧ j = 8 ∧ c = 0) ∨ (o = 0 ∧ j = 9 ∧ c = 1) ∨ (o = 8 ∧ j = 3 ∧ c = 408) ∨ (o = 10 ∧ j = 3 ∧ c = 409) ∨ (o = 1 ∧ j < 8 ∧ c = 8 + 4 * j) ∨ (o = 5 ∧ j < 64 ∧ c = 40 + j) ∨ (o = 11 ∧ j < 16 ∧ c = 392 + j)
/-- of those who are there, of the views that are there -/
def Gd (pe vi : Int) (o j : Nat) : Prop := (o = 1 → (j : Int) < pe) ∧ (o = 5 → ((j / 8 : Nat) : Int) < pe ∧ ((j % 8 : Nat) : Int) < pe) ∧ (o = 11 → (j : Int) < 2 * vi)
/-- people have marks; each view can be of a face -/
def VOK (T : mT) (r a : Nat) : Prop := (0 < (T.1 r (a + 1)).toInt → 0 < (T.1 r (a + 0)).toInt) ∧ ∀ k : Nat, (k : Int) < (T.1 r (a + 409)).toInt → 0 ≤ (T.1 r (a + (392 + (2 * k + 1)))).toInt ∧ (T.1 r (a + (392 + (2 * k + 1)))).toInt ≤ (((1 : Int32) <<< (T.1 r (a + 0) &&& 31)) - 1).toInt ∧ T.1 r (a + (392 + (2 * k + 1))) &&& T.1 r (a + (392 + 2 * k)) = T.1 r (a + (392 + (2 * k + 1)))
def EQI (S : cT) (b : Nat) (T : mT) (r a : Nat) : Prop := (∀ o j c, Mp o j c → Gd (T.1 r (a + 1)).toInt (T.1 r (a + 409)).toInt o j → (S.1 (b + o) j).toInt = (T.1 r (a + c)).toInt) ∧ VOK T r a
theorem Mp_st {o j c : Nat} (h : Mp o j c) : stJ c = true ∧ c < 410 := by
  refine ⟨decide_eq_true ?_, ?_⟩ <;> omega
theorem Mp_tr {o j c b : Nat} (h : Mp o j c) : TrI b (b + o) j := by omega
theorem VOK_tr {T T' : mT} {r r' a a' : Nat} (h : VOK T r a) (hv : (T.1 r (a + 409)).toInt ≤ 8) (hm : ∀ c, c < 410 → c ≠ 408 → stJ c = true → (T'.1 r' (a' + c)).toInt = (T.1 r (a + c)).toInt) : VOK T' r' a' := by
  have e0 := hm 0 (by decide) (by decide) (by decide)
  have e1 := hm 1 (by decide) (by decide) (by decide)
  have e9 := hm 409 (by decide) (by decide) (by decide)
  refine ⟨by rw [e0, e1]; exact h.1, fun k hk => ?_⟩
  rw [e9] at hk
  have w := h.2 k hk
  have x0 : T'.1 r' (a' + 0) = T.1 r (a + 0) := Int32.toInt_inj.mp e0
  have x1 : T'.1 r' (a' + (392 + (2 * k + 1))) = T.1 r (a + (392 + (2 * k + 1))) := Int32.toInt_inj.mp (hm _ (by omega) (by omega) (decide_eq_true (by omega)))
  have x2 : T'.1 r' (a' + (392 + 2 * k)) = T.1 r (a + (392 + 2 * k)) := Int32.toInt_inj.mp (hm _ (by omega) (by omega) (decide_eq_true (by omega)))
  rw [x0, x1, x2]
  exact w
theorem EQI_tr {S S' : cT} {b b' : Nat} {T T' : mT} {r r' a a' : Nat} (h : EQI S b T r a) (hv : (T.1 r (a + 409)).toInt ≤ 8) (hc : ∀ o j c, Mp o j c → Gd (T.1 r (a + 1)).toInt (T.1 r (a + 409)).toInt o j → (S'.1 (b' + o) j).toInt = (S.1 (b + o) j).toInt) (hm : ∀ c, c < 410 → stJ c = true → (T'.1 r' (a' + c)).toInt = (T.1 r (a + c)).toInt) : EQI S' b' T' r' a' := by
  refine ⟨fun o j c m g => ?_, VOK_tr h.2 hv (fun c h1 _ h3 => hm c h1 h3)⟩
  rw [hm 1 (by decide) (by decide), hm 409 (by decide) (by decide)] at g
  have st := Mp_st m
  rw [hc o j c m g, hm c st.2 st.1]
  exact h.1 o j c m g
def RLk (S : cT) (T : mT) : Prop := (S.1 1 4).toInt = (T.1 0 1).toInt ∧ (∀ k : Nat, (k : Int) < (T.1 0 1).toInt → (S.1 2 k).toInt = (T.1 1 k).toInt % 256 ∧ -128 ≤ (T.1 1 k).toInt ∧ (T.1 1 k).toInt ≤ 127) ∧ (S.1 0 11).toInt = (T.1 0 2).toInt ∧ (S.1 S.2.2.1 13).toInt = (T.1 0 22).toInt ∧ (∀ k, k < 4 → (S.1 98 k).toInt = (T.1 18 k).toInt ∧ ((T.1 18 k).toInt ≠ 0 → (S.1 (50 + 12 * k) 13).toInt = (T.1 16 k).toInt)) ∧ EQI S S.2.2.1 T 10 0 ∧ ∀ k, k < 4 → (T.1 18 k).toInt ≠ 0 → EQI S (50 + 12 * k) T 15 (410 * k)
def J5 (S : cT) (T : mT) : Prop := IC nonP S ∧ Aft nonP T ∧ RLk S T
theorem tr_i {i q j : Nat} (h : TrI i q j) : TrC i q j := Or.inr (Or.inr (Or.inr (Or.inr (Or.inl h))))
theorem tr_isle {i : Nat} : TrC i i 13 := tr_i (Or.inl ⟨rfl, Or.inr (Or.inr rfl)⟩)
theorem tr_m {i k q j : Nat} (hk : k < 4) (h : TrI (50 + 12 * k) q j) : TrC i q j := by
  rcases (show k = 0 ∨ k = 1 ∨ k = 2 ∨ k = 3 by omega) with rfl | rfl | rfl | rfl
  · exact Or.inr (Or.inr (Or.inr (Or.inr (Or.inr (Or.inl h)))))
  · exact Or.inr (Or.inr (Or.inr (Or.inr (Or.inr (Or.inr (Or.inl h))))))
  · exact Or.inr (Or.inr (Or.inr (Or.inr (Or.inr (Or.inr (Or.inr (Or.inl h)))))))
  · exact Or.inr (Or.inr (Or.inr (Or.inr (Or.inr (Or.inr (Or.inr (Or.inr h)))))))
theorem tr_img {i k : Nat} (h : k < 4) : TrC i (50 + 12 * k) 13 := tr_m h (Or.inl ⟨rfl, Or.inr (Or.inr rfl)⟩)
theorem tr_14 {i : Nat} : TrC i 1 4 := Or.inl ⟨rfl, rfl⟩
theorem tr_2 {i j : Nat} : TrC i 2 j := Or.inr (Or.inl rfl)
theorem tr_011 {i : Nat} : TrC i 0 11 := Or.inr (Or.inr (Or.inl ⟨rfl, rfl⟩))
theorem tr_98 {i j : Nat} (h : j < 4) : TrC i 98 j := Or.inr (Or.inr (Or.inr (Or.inl ⟨rfl, h⟩)))
theorem i_409 {T : mT} (h : IQ nonP T) : (T.1 10 (0 + 409)).toInt ≤ 8 := (h.1.1 10 409).2
theorem i_409m {T : mT} (h : IQ nonP T) {k : Nat} (hk : k < 4) : (T.1 15 (410 * k + 409)).toInt ≤ 8 := by
  rcases (show k = 0 ∨ k = 1 ∨ k = 2 ∨ k = 3 by omega) with rfl | rfl | rfl | rfl
  · exact (h.1.1 15 409).2
  · exact (h.1.1 15 819).2
  · exact (h.1.1 15 1229).2
  · exact (h.1.1 15 1639).2
theorem ei_k {D D' : Nat → Nat → Prop} {S S' : cT} {T T' : mT} (hA : Aft nonP T) (R : RLk S T) (c : KpC D S S') (m : KpM D' T T') (hd : ∀ q j, TrI S.2.2.1 q j → ¬ D q j) (hm : ∀ j, ¬ D' 10 j) : EQI S' S'.2.2.1 T' 10 0 := by
  rw [c.1]
  refine EQI_tr R.2.2.2.2.2.1 (i_409 hA.1) (fun o j x mp _ => c.2 _ _ (tr_i (Mp_tr mp)) (hd _ _ (Mp_tr mp))) (fun x hx st => ?_)
  rw [Nat.zero_add]
  exact m 10 x (Or.inr (Or.inr (Or.inr (Or.inr (Or.inr ⟨rfl, st⟩))))) (hm x)
theorem em_k {D D' : Nat → Nat → Prop} {S S' : cT} {T T' : mT} (hA : Aft nonP T) (R : RLk S T) (c : KpC D S S') (m : KpM D' T T') {k : Nat} (hk : k < 4) (hd : ∀ q j, TrI (50 + 12 * k) q j → ¬ D q j) (hm : ∀ j, 410 * k ≤ j → j < 410 * k + 410 → ¬ D' 15 j) (h18 : ¬ D' 18 k) (z : (T'.1 18 k).toInt ≠ 0) : EQI S' (50 + 12 * k) T' 15 (410 * k) := by
  rw [m 18 k (Or.inr (Or.inr (Or.inr (Or.inl rfl)))) h18] at z
  refine EQI_tr (R.2.2.2.2.2.2 k hk z) (i_409m hA.1 hk) (fun o j x mp _ => c.2 _ _ (tr_m hk (Mp_tr mp)) (hd _ _ (Mp_tr mp))) (fun x hx st => ?_)
  exact m 15 _ (Or.inr (Or.inr (Or.inr (Or.inr (Or.inl rfl))))) (hm _ (by omega) (by omega))
/-- the tape's part, and the rest, of what is held -/
theorem RLk_keep {S S' : cT} {T T' : mT} (hA : Aft nonP T) (h : RLk S T) (c : KpC noD S S') (m : KpM noD T T') : RLk S' T' := by
  have R := h
  obtain ⟨h1, h2, h3, h4, h5, h6, h7⟩ := h
  have c' : ∀ q j, TrC S.2.2.1 q j → (S'.1 q j).toInt = (S.1 q j).toInt := fun q j t => c.2 q j t (fun z => z)
  have m' : ∀ r j, TrM r j → (T'.1 r j).toInt = (T.1 r j).toInt := fun r j t => m r j t (fun z => z)
  refine ⟨?_, fun k hk => ?_, ?_, ?_, fun k hk => ?_, ei_k hA R c m (fun _ _ _ z => z) (fun _ z => z), fun k hk z => em_k hA R c m hk (fun _ _ _ z => z) (fun _ _ _ z => z) (fun z => z) z⟩
  · rw [c' 1 4 tr_14, m' 0 1 (by omega)]; exact h1
  · rw [m' 0 1 (by omega)] at hk
    rw [c' 2 k tr_2, m' 1 k (by omega)]
    exact h2 k hk
  · rw [c' 0 11 tr_011, m' 0 2 (by omega)]; exact h3
  · rw [c.1, c' S.2.2.1 13 tr_isle, m' 0 22 (by omega)]; exact h4
  · rw [c' 98 k (tr_98 hk), m' 18 k (by omega), m' 16 k (by omega), c' (50 + 12 * k) 13 (tr_img hk)]
    exact h5 k hk
theorem st5 {S : cT} {T : mT} {f : Option (Int32 × cT)} {g : Option (Int32 × mT)} (hA : Aft nonP T) (R : RLk S T) (hf : wp f (fun w => IC nonP w.2 ∧ KpC noD S w.2)) (hg : wp g (fun w => Aft nonP w.2 ∧ KpM noD T w.2)) : St false J5 f g := st_of hf hg (fun _ _ a b => ⟨a.1, b.1, RLk_keep hA R a.2 b.2⟩)
theorem st_weak {I : cT → mT → Prop} {f : Option (Int32 × cT)} {g : Option (Int32 × mT)} (b : Bool) (h : St true I f g) : St b I f g := by
  obtain ⟨q, w, e1, e2, e3, e4⟩ := h
  exact ⟨q, w, e1, e2, fun _ => e3 rfl, e4⟩
theorem tc_seed5 {P : Nat → Nat → Option Int} {p0 : Int32} {S : cT} (hp : P S.2.2.1 14 = none) (h : IC P S) : wp (fc_X11_seed 0 p0 S) (fun w => IC P w.2 ∧ w.2.2.2 = S.2.2) := by
  unfold fc_X11_seed
  refine wp_le (fun h0 => ?_) (fun h0 => wp_some ⟨h, rfl⟩)
  refine wp_bif (beq_k (IC_isle h)) ?_
  refine wp_letv (fun S3 e3 => wp_some ⟨?_, ?_⟩)
  · rw [e3]; exact iw_2_14 h (IC_isle h) hp
  · rw [e3]; rfl
theorem tm_seed5 {P : Nat → Nat → Option Int} {p0 : Int32} {T : mT} (hp : P 0 23 = none) (h : Aft P T) : wp (fm_seed p0 T) (fun w => Aft P w.2) := by
  unfold fm_seed
  have l_0 : (0 : Int32).toInt = 0 := by decide
  refine wp_le (fun h0 => ?_) (fun h0 => wp_some h)
  refine wp_letv (fun T2 e2 => wp_some ⟨?_, ?_⟩)
  · rw [e2]
    have := (bnd p0).2
    exact IQ_mz h.1 (show (0 : Int) ≤ p0.toInt ∧ p0.toInt ≤ 2147483647 from ⟨by omega, this⟩) hp (by decide) (by decide)
  · unfold HrOk
    dsimp only
    rw [e2, mz_no _ _ _ (by decide)]
    exact h.2
/-- force -/
theorem s_force {S : cT} {T : mT} {a1 : Int32} (h : J5 S T) : St true J5 (fc_X11_force 0 a1 S) (fm_force a1 T) := by
  obtain ⟨hI, hA, R⟩ := h
  have R' := R
  obtain ⟨h1, h2, h3, h4, h5, h6, h7⟩ := R'
  have l_0 : (0 : Int32).toInt = 0 := by decide
  have l_m1 : ((-1) : Int32).toInt = -1 := by decide
  have k2 := IC_isle hI
  have ne2 : S.2.2.1 = 113 ∨ S.2.2.1 = 125 := by rcases hI.2.2 with ⟨a, -⟩ | ⟨a, -⟩; exact Or.inl a; exact Or.inr a
  have set : -1 ≤ a1.toInt → a1.toInt < (T.1 0 2).toInt → J5 (ca S S.2.2.1 13 a1) (mz T 22 a1) := by
    intro b1 b2
    refine ⟨iw_2_13 hI k2 rfl, ⟨IQ_22 hA.1 rfl b1 b2, ?_⟩, ?_, ?_, ?_, ?_, fun k hk => ?_, EQI_tr h6 (i_409 hA.1) (fun o j c m _ => ?_) (fun c _ _ => ?_), fun k hk z => EQI_tr (h7 k hk (by rw [mz_ne (Or.inl (by decide))] at z; exact z)) (i_409m hA.1 hk) (fun o j c m _ => ?_) (fun c _ _ => ?_)⟩
    · unfold HrOk
      rw [mz_no _ _ _ (by decide)]
      exact hA.2
    · rw [ca_ne (Or.inl (by omega)), mz_ne (by decide)]; exact h1
    · intro k hk
      rw [mz_ne (by decide)] at hk
      rw [ca_ne (Or.inl (by omega)), mz_ne (Or.inl (by decide))]
      exact h2 k hk
    · rw [ca_ne (Or.inl (by omega)), mz_ne (by decide)]; exact h3
    · show ((ca S S.2.2.1 13 a1).1 S.2.2.1 13).toInt = _
      rw [ca_at, mz_at]
    · rw [ca_ne (Or.inl (by omega)), mz_ne (Or.inl (by decide)), mz_ne (Or.inl (by decide)), ca_ne (Or.inl (by omega))]
      exact h5 k hk
    · show ((ca S S.2.2.1 13 a1).1 (S.2.2.1 + o) j).toInt = _
      rw [ca_ne (by omega)]
    · rw [mz_ne (Or.inl (by decide))]
    · rw [ca_ne (Or.inl (by omega))]
    · rw [mz_ne (Or.inl (by decide))]
  have c2 := im_0_2 hA.1
  by_cases e : a1 = -1
  · subst e
    refine ⟨(S.1 S.2.2.1 13, ca S S.2.2.1 13 (-1)), (T.1 0 22, mz T 22 (-1)), ?_, ?_, fun _ => Int32.toInt_inj.mp h4, set (by omega) (by omega)⟩
    · unfold fc_X11_force fc_X11_isRuleOrNone
      rw [if_pos rfl]
      show (bif Nat.beq (cK S.2.2.1) 2 then _ else none) = _
      rw [beq_k k2]
      rfl
    · unfold fm_force
      rw [if_pos rfl]
      rfl
  · by_cases e0 : a1 < 0
    · refine ⟨(-2, S), (-2, T), ?_, ?_, fun _ => rfl, hI, hA, R⟩
      · unfold fc_X11_force fc_X11_isRuleOrNone fc_X11_isRule
        rw [if_neg e, if_pos e0]
        rfl
      · unfold fm_force fm_isRule
        rw [if_neg e, if_pos e0]
        rfl
    · have n0 : 0 ≤ a1.toInt := by
        by_cases z : a1.toInt < 0
        · exact absurd (Int32.lt_iff_toInt_lt.mpr (by rw [l_0]; exact z)) e0
        · omega
      by_cases e1 : T.1 0 2 ≤ a1
      · have e1' : S.1 0 11 ≤ a1 := Int32.le_iff_toInt_le.mpr (by rw [h3]; exact Int32.le_iff_toInt_le.mp e1)
        refine ⟨(-2, S), (-2, T), ?_, ?_, fun _ => rfl, hI, hA, R⟩
        · unfold fc_X11_force fc_X11_isRuleOrNone fc_X11_isRule
          rw [if_neg e, if_neg e0, if_pos e1']
          rfl
        · unfold fm_force fm_isRule
          rw [if_neg e, if_neg e0, if_pos e1]
          rfl
      · have e1' : ¬ S.1 0 11 ≤ a1 := fun z => e1 (Int32.le_iff_toInt_le.mpr (by rw [← h3]; exact Int32.le_iff_toInt_le.mp z))
        have lt : a1.toInt < (T.1 0 2).toInt := by
          by_cases z : (T.1 0 2).toInt ≤ a1.toInt
          · exact absurd (Int32.le_iff_toInt_le.mpr z) e1
          · omega
        have e6 : ¬ (6 : Int32) ≤ a1 := fun z => by
          have z' := Int32.le_iff_toInt_le.mp z
          have l_6 : (6 : Int32).toInt = 6 := by decide
          omega
        refine ⟨(S.1 S.2.2.1 13, ca S S.2.2.1 13 a1), (T.1 0 22, mz T 22 a1), ?_, ?_, fun _ => Int32.toInt_inj.mp h4, set (by omega) lt⟩
        · unfold fc_X11_force fc_X11_isRuleOrNone fc_X11_isRule
          rw [if_neg e, if_neg e0, if_neg e1', if_neg e6]
          show (bif Nat.beq (cK S.2.2.1) 2 then _ else none) = _
          rw [beq_k k2]
          rfl
        · unfold fm_force fm_isRule
          rw [if_neg e, if_neg e0, if_neg e1]
          rfl
/-- end -/
theorem s_end {S : cT} {T : mT} {a1 : Int32} (h : J5 S T) : St true J5 (fc_X11_end 0 a1 S) (fm_end a1 T) := by
  obtain ⟨hI, hA, R⟩ := h
  have R' := R
  obtain ⟨h1, h2, h3, h4, h5, h6, h7⟩ := R'
  have l_0 : (0 : Int32).toInt = 0 := by decide
  have c1 := im_0_1 hA.1
  have ne2 : S.2.2.1 = 113 ∨ S.2.2.1 = 125 := by rcases hI.2.2 with ⟨a, -⟩ | ⟨a, -⟩; exact Or.inl a; exact Or.inr a
  by_cases e0 : a1 < 0
  · refine ⟨(-1, S), (-1, T), ?_, ?_, fun _ => rfl, hI, hA, R⟩
    · unfold fc_X11_end; rw [if_pos e0]
    · unfold fm_end; rw [if_pos e0]
  · have n0 : 0 ≤ a1.toInt := by
      by_cases z : a1.toInt < 0
      · exact absurd (Int32.lt_iff_toInt_lt.mpr (by rw [l_0]; exact z)) e0
      · omega
    by_cases e1 : a1 ≤ T.1 0 1
    · have e1i := Int32.le_iff_toInt_le.mp e1
      have e1' : a1 ≤ S.1 (0 + 1) 4 := Int32.le_iff_toInt_le.mpr (show a1.toInt ≤ (S.1 1 4).toInt by rw [h1]; exact e1i)
      refine ⟨(a1, ca S (0 + 1) 4 a1), (a1, mz T 1 a1), ?_, ?_, fun _ => rfl, iw_8_4 (b := 1) hI rfl n0 (by omega) rfl, ⟨IQ_mz hA.1 (show (0 : Int) ≤ a1.toInt ∧ a1.toInt ≤ 400 from ⟨n0, by omega⟩) rfl (by decide) (by decide), ?_⟩, ?_, ?_, ?_, ?_, fun k hk => ?_, EQI_tr h6 (i_409 hA.1) (fun o j c m _ => ?_) (fun c _ _ => ?_), fun k hk z => EQI_tr (h7 k hk (by rw [mz_ne (Or.inl (by decide))] at z; exact z)) (i_409m hA.1 hk) (fun o j c m _ => ?_) (fun c _ _ => ?_)⟩
      · unfold fc_X11_end; rw [if_neg e0, if_pos e1']; rfl
      · unfold fm_end; rw [if_neg e0, if_pos e1]; rfl
      · unfold HrOk
        dsimp only
        rw [mz_no _ _ _ (by decide)]
        exact hA.2
      · show ((ca S 1 4 a1).1 1 4).toInt = _
        rw [ca_at, mz_at]
      · intro k hk
        rw [mz_at] at hk
        show ((ca S 1 4 a1).1 2 k).toInt = _ ∧ _
        rw [ca_ne (Or.inl (by decide)), mz_ne (Or.inl (by decide))]
        exact h2 k (by omega)
      · show ((ca S 1 4 a1).1 0 11).toInt = _
        rw [ca_ne (Or.inl (by decide)), mz_ne (by decide)]; exact h3
      · show ((ca S 1 4 a1).1 S.2.2.1 13).toInt = _
        rw [ca_ne (Or.inr (by decide)), mz_ne (by decide)]; exact h4
      · show ((ca S 1 4 a1).1 98 k).toInt = _ ∧ (_ → ((ca S 1 4 a1).1 (50 + 12 * k) 13).toInt = _)
        rw [ca_ne (Or.inl (by omega)), mz_ne (Or.inl (by decide)), mz_ne (Or.inl (by decide)), ca_ne (Or.inr (by decide))]
        exact h5 k hk
      · show ((ca S 1 4 a1).1 (S.2.2.1 + o) j).toInt = _
        rw [ca_ne (Or.inl (by omega))]
      · rw [mz_ne (Or.inl (by decide))]
      · show ((ca S 1 4 a1).1 (50 + 12 * k + o) j).toInt = _
        rw [ca_ne (Or.inl (by omega))]
      · rw [mz_ne (Or.inl (by decide))]
    · have e1' : ¬ a1 ≤ S.1 (0 + 1) 4 := fun z => e1 (Int32.le_iff_toInt_le.mpr (by rw [← h1]; exact Int32.le_iff_toInt_le.mp z))
      refine ⟨(-1, S), (-1, T), ?_, ?_, fun _ => rfl, hI, hA, R⟩
      · unfold fc_X11_end; rw [if_neg e0, if_neg e1']
      · unfold fm_end; rw [if_neg e0, if_neg e1]
