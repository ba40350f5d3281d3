/-! ===== tie, fits: what is asked, and nothing changes ===== -/
theorem wl_iS {f : Option Int32} {S : cT} {A : Int32 → Prop} (h : wl f A) : wl (wiS f S) (fun w => A w.1) := by
  intro a e
  unfold wiS at e
  cases hf : f with
  | none => rw [hf] at e; cases e
  | some x =>
    rw [hf] at e
    have e' : some (x, S) = some a := e
    rw [← Option.some.inj e']
    exact h x hf
theorem wl_iT {f : Option Int32} {T : mT} {A : Int32 → Prop} (h : wl f A) : wl (wiT f T) (fun w => A w.1) := by
  intro a e
  unfold wiT at e
  cases hf : f with
  | none => rw [hf] at e; cases e
  | some x =>
    rw [hf] at e
    have e' : some (x, T) = some a := e
    rw [← Option.some.inj e']
    exact h x hf
theorem st_ans {S : cT} {T : mT} {f : Option (Int32 × cT)} {g : Option (Int32 × mT)} {A B : Int32 → Prop} (hA : Aft nonP T) (R : RLk S T) (hf : wp f (fun w => IC nonP w.2 ∧ KpC noD S w.2)) (hg : wp g (fun w => Aft nonP w.2 ∧ KpM noD T w.2)) (hc : wl f (fun w => A w.1)) (hm : wl g (fun w => B w.1)) (u : ∀ x y, A x → B y → x = y) : St true J5 f g := by
  obtain ⟨q, eq, ⟨iq, kq⟩, fq⟩ := wp_wl hf hc
  obtain ⟨w, ew, ⟨iw, kw⟩, fw⟩ := wp_wl hg hm
  exact ⟨q, w, eq, ew, fun _ => u _ _ fq fw, iq, iw, RLk_keep hA R kq kw⟩
theorem i32_of {x : Int32} {k : Nat} (h : x.toInt = (k : Int)) : x = Int32.ofNat k := by
  have b := (bnd x).2
  refine Int32.toInt_inj.mp ?_
  rw [Int32.toInt_ofNat_of_lt (by omega)]
  exact h
/-- what an isle and what is said have alike: people, faces, views -/
def Vw (S : cT) (i : Nat) (g : Nat → Int32) (m n : Nat) : Prop := (S.1 i 9).toInt = (m : Int) ∧ m ≤ 8 ∧ (S.1 (i + 10) 1).toInt = 2 ∧ (S.1 (i + 10) 2).toInt = 8 ∧ (S.1 (i + 10) 3).toInt = (n : Int) ∧ n ≤ 8 ∧ (∀ k, k < m → S.1 (i + 1) k = g (8 + 4 * k)) ∧ (∀ j, j < 2 * n → S.1 (i + 11) j = g (392 + j)) ∧ (g 1).toInt = (m : Int) ∧ (g 409).toInt = (n : Int) ∧ S.1 i 8 = g 0 ∧ 0 ≤ (g 0).toInt ∧ (g 0).toInt ≤ 6
theorem vw_of {S : cT} {T : mT} (h : J5 S T) : ∃ m n : Nat, Vw S S.2.2.1 (T.1 10) m n := by
  obtain ⟨hI, hA, R⟩ := h
  have h6 := R.2.2.2.2.2.1
  have k5 := ic_5 hI (ko_2_10 (IC_isle hI))
  have r10 := rr_2_10 (IC_isle hI)
  have pe := h6.pe
  have vi := h6.vi
  have mk' := h6.mk'
  rw [Nat.zero_add] at pe vi mk'
  have c0 : 0 ≤ (T.1 10 0).toInt ∧ (T.1 10 0).toInt ≤ 6 := hA.1.1.1 10 0
  have c1 : 0 ≤ (T.1 10 1).toInt ∧ (T.1 10 1).toInt ≤ 8 := hA.1.1.1 10 1
  have c9 : 0 ≤ (T.1 10 409).toInt ∧ (T.1 10 409).toInt ≤ 8 := hA.1.1.1 10 409
  refine ⟨(T.1 10 1).toInt.toNat, (T.1 10 409).toInt.toNat, by omega, by omega, by omega, by omega, by omega, by omega, fun k hk => ?_, fun j hj => ?_, by omega, by omega, Int32.toInt_inj.mp mk', c0.1, c0.2⟩
  · have e := h6.1 1 k (8 + 4 * k) (by omega) ⟨fun _ => by rw [Nat.zero_add]; omega, fun z => absurd z (by decide), fun z => absurd z (by decide)⟩
    rw [Nat.zero_add] at e
    exact Int32.toInt_inj.mp e
  · have e := h6.1 11 j (392 + j) (by omega) ⟨fun z => absurd z (by decide), fun z => absurd z (by decide), fun _ => by rw [Nat.zero_add]; omega⟩
    rw [Nat.zero_add] at e
    exact Int32.toInt_inj.mp e
theorem has_w {b : Nat} {p0 : Int32} {S : cT} (h8 : (S.1 b 9).toInt ≤ 8) : wl (fc_X2_has b p0 S) (fun r => r = true ↔ 0 ≤ p0.toInt ∧ p0.toInt < (S.1 b 9).toInt) := by
  have l_0 : (0 : Int32).toInt = 0 := by decide
  have l_8 : (8 : Int32).toInt = 8 := by decide
  unfold fc_X2_has
  refine wl_lt (fun y => wl_some ⟨fun x => (by cases x), fun x => by exfalso; omega⟩) (fun _ => ?_)
  refine wl_le (fun y => wl_some ⟨fun x => (by cases x), fun x => by exfalso; omega⟩) (fun _ => ?_)
  exact wl_le (fun y => by exfalso; omega) (fun _ => wl_some ⟨fun _ => by omega, fun _ => rfl⟩)
theorem isp_w {p0 : Int32} {T : mT} : wl (fm_isPerson p0 T) (fun r => r = true ↔ 0 ≤ p0.toInt ∧ p0.toInt < (T.1 10 1).toInt) := by
  have l_0 : (0 : Int32).toInt = 0 := by decide
  unfold fm_isPerson
  refine wl_lt (fun y => wl_some ⟨fun x => (by cases x), fun x => by exfalso; omega⟩) (fun _ => ?_)
  refine wl_bif (wl_letv (fun v2 e2 => ?_))
  have e2' : v2 = T.1 10 1 := e2
  rw [e2']
  exact wl_le (fun y => wl_some ⟨fun x => (by cases x), fun x => by exfalso; omega⟩) (fun y => wl_some ⟨fun _ => by omega, fun _ => rfl⟩)
abbrev tieC (T : mT) (p0 p1 : Int32) : Prop := (0 ≤ p0.toInt ∧ p0.toInt < (T.1 10 1).toInt) ∧ (0 ≤ p1.toInt ∧ p1.toInt < (T.1 10 1).toInt) ∧ p0 ≠ p1
def tieA (T : mT) (p0 p1 x : Int32) : Prop := (tieC T p0 p1 → x.toInt = (T.1 10 (40 + (8 * p0.toInt.toNat + p1.toInt.toNat))).toInt) ∧ (¬ tieC T p0 p1 → x = -1)
theorem s_tie {S : cT} {T : mT} {p0 p1 : Int32} (h : J5 S T) : St true J5 (wiS (fc_X11_tie 0 p0 p1 S) S) (wiT (fm_tie p0 p1 T) T) := by
  obtain ⟨hI, hA, R⟩ := h
  have h6 := R.2.2.2.2.2.1
  have l_0 : (0 : Int32).toInt = 0 := by decide
  have l_8 : (8 : Int32).toInt = 8 := by decide
  have l_40 : (40 : Int32).toInt = 40 := by decide
  have pe := h6.pe
  rw [Nat.zero_add] at pe
  have c9 : (T.1 10 1).toInt ≤ 8 := (hA.1.1.1 10 1).2
  refine st_ans (A := tieA T p0 p1) (B := tieA T p0 p1) hA R (kc_i hI (tc_X11_tie rfl hI)) (km_i hA (tm_tie hA.1)) (wl_iS ?_) (wl_iT ?_) (fun x y a b => ?_)
  · unfold fc_X11_tie
    refine wl_bif ?_
    refine wl_bind (R := fun r => r = true ↔ tieC T p0 p1) ?_ (fun q2 g2 => ?_)
    · unfold fc_X2_hasTwo
      refine wl_bind (has_w (by omega)) (fun q1 g1 => ?_)
      rw [pe] at g1
      refine wl_b (fun b => wl_some ⟨fun x => (by cases x), fun c => ?_⟩) (fun b => ?_)
      · rw [g1.mpr c.1] at b; cases b
      refine wl_bind (has_w (by omega)) (fun q3 g3 => ?_)
      rw [pe] at g3
      refine wl_b (fun b3 => wl_some ⟨fun x => (by cases x), fun c => ?_⟩) (fun b3 => ?_)
      · rw [g3.mpr c.2.1] at b3; cases b3
      exact wl_if (fun e => wl_some ⟨fun x => (by cases x), fun c => absurd e c.2.2⟩) (fun e => wl_some ⟨fun _ => ⟨g1.mp b, g3.mp b3, e⟩, fun _ => rfl⟩)
    refine wl_b (fun b => wl_some ⟨fun c => ?_, fun _ => rfl⟩) (fun b => ?_)
    · rw [g2.mpr c] at b; cases b
    have c := g2.mp b
    have c' := c
    obtain ⟨⟨a1, a2⟩, ⟨b1, b2⟩, ne⟩ := c'
    obtain ⟨u, hu⟩ : ∃ u : Nat, p0.toInt = (u : Int) := ⟨p0.toInt.toNat, by omega⟩
    obtain ⟨v, hv⟩ : ∃ v : Nat, p1.toInt = (v : Int) := ⟨p1.toInt.toNat, by omega⟩
    refine wl_bind (R := fun x : Int32 => x = T.1 10 (40 + (8 * u + v))) ?_ (fun q4 g4 => wl_some ⟨fun _ => ?_, fun z => absurd c z⟩)
    · unfold fc_X2_heed
      refine wl_bind (R := fun w : Int32 => w = 1) ?_ (fun w1 e1 => ?_)
      · refine wl_lt (fun y => by exfalso; omega) (fun _ => ?_)
        refine wl_le (fun y => by exfalso; omega) (fun _ => ?_)
        refine wl_lt (fun y => by exfalso; omega) (fun _ => ?_)
        exact wl_le (fun y => by exfalso; omega) (fun _ => wl_some rfl)
      · rw [e1]
        refine wl_if (fun z => absurd z (by decide)) (fun _ => wl_bif (wl_letv (fun v7 e7 => wl_some ?_)))
        have m := tMR (a := p0) (b := 8) l_8 (by omega) (by omega)
        have a := tA (a := p0 * 8) (b := p1) (by omega) (by omega)
        rw [e7, cl_idx (n := 8 * u + v) (by omega)]
        have e := h6.1 5 (8 * u + v) (40 + (8 * u + v)) (by omega) ⟨fun z => absurd z (by decide), fun _ => by rw [Nat.zero_add]; omega, fun z => absurd z (by decide)⟩
        rw [Nat.zero_add] at e
        exact Int32.toInt_inj.mp e
    · rw [g4, show p0.toInt.toNat = u by omega, show p1.toInt.toNat = v by omega]
  · unfold fm_tie
    refine wl_bind isp_w (fun q1 g1 => wl_b (fun b => wl_some ⟨fun c => ?_, fun _ => rfl⟩) (fun b => ?_))
    · rw [g1.mpr c.1] at b; cases b
    refine wl_bind isp_w (fun q3 g3 => wl_b (fun b3 => wl_some ⟨fun c => ?_, fun _ => rfl⟩) (fun b3 => ?_))
    · rw [g3.mpr c.2.1] at b3; cases b3
    refine wl_if (fun e => wl_some ⟨fun c => absurd e c.2.2, fun _ => rfl⟩) (fun e => ?_)
    have c : tieC T p0 p1 := ⟨g1.mp b, g3.mp b3, e⟩
    have c' := c
    obtain ⟨⟨a1, a2⟩, ⟨b1, b2⟩, ne⟩ := c'
    obtain ⟨u, hu⟩ : ∃ u : Nat, p0.toInt = (u : Int) := ⟨p0.toInt.toNat, by omega⟩
    obtain ⟨v, hv⟩ : ∃ v : Nat, p1.toInt = (v : Int) := ⟨p1.toInt.toNat, by omega⟩
    refine wl_bind (R := fun x : Int32 => x = T.1 10 (40 + (8 * u + v))) ?_ (fun q4 g4 => wl_some ⟨fun _ => ?_, fun z => absurd c z⟩)
    · unfold fm_tieOf
      refine wl_bif (wl_letv (fun v1 e1 => wl_some ?_))
      have m := tML (a := 8) (b := p0) (n := 8) l_8 (by omega) (by omega)
      have a0 := tA (a := 40) (b := 8 * p0) (by omega) (by omega)
      have a := tA (a := 40 + 8 * p0) (b := p1) (by omega) (by omega)
      rw [e1, cl_idx (n := 40 + (8 * u + v)) (by omega)]
    · rw [g4, show p0.toInt.toNat = u by omega, show p1.toInt.toNat = v by omega]
  · by_cases c : tieC T p0 p1
    · exact Int32.toInt_inj.mp (by rw [a.1 c, b.1 c])
    · rw [a.2 c, b.2 c]
/-! ===== the views that can be of a face ===== -/
def cvR (g : Nat → Int32) (f : Int32) : Nat → Int32
  | 0 => 0
  | k + 1 => if (f &&& g (392 + 2 * k)) = g (392 + (2 * k + 1)) then cvR g f k ||| ((1 : Int32) <<< (Int32.ofNat k &&& 31)) else cvR g f k
theorem cvR_s (g : Nat → Int32) (f : Int32) (k : Nat) : cvR g f (k + 1) = if (f &&& g (392 + 2 * k)) = g (392 + (2 * k + 1)) then cvR g f k ||| ((1 : Int32) <<< (Int32.ofNat k &&& 31)) else cvR g f k := rfl
theorem at_w {b : Nat} {p0 p1 : Int32} {S : cT} {k i : Nat} (h1 : (S.1 b 1).toInt = 2) (h2 : (S.1 b 2).toInt = 8) (hp : p0.toInt = (k : Int)) (hk : (k : Int) < (S.1 b 3).toInt) (hk8 : k < 8) (hq : p1.toInt = (i : Int)) (hi : i < 2) : wl (fc_X6_at b p0 p1 S) (fun v => v = S.1 (b + 1) (2 * k + i)) := by
  have l_0 : (0 : Int32).toInt = 0 := by decide
  unfold fc_X6_at
  refine wl_bind (R := fun r => r = true) ?_ (fun q1 g1 => ?_)
  · unfold fc_X6_has
    refine wl_lt (fun y => by exfalso; omega) (fun _ => ?_)
    refine wl_le (fun y => by exfalso; omega) (fun _ => ?_)
    exact wl_le (fun y => by exfalso; omega) (fun _ => wl_some rfl)
  refine wl_b (fun b => by rw [g1] at b; cases b) (fun _ => ?_)
  refine wl_lt (fun y => by exfalso; omega) (fun _ => ?_)
  refine wl_le (fun y => by exfalso; omega) (fun _ => ?_)
  refine wl_bif (wl_letv (fun v5 e5 => wl_some ?_))
  have m := tMR (a := p0) (b := S.1 b 1) h1 (by omega) (by omega)
  have a := tA (a := p0 * S.1 b 1) (b := p1) (by omega) (by omega)
  rw [e5, cl_idx (n := 2 * k + i) (by omega)]
theorem can_w {S : cT} {i : Nat} {g : Nat → Int32} {m n : Nat} (hv : Vw S i g m n) {p0 f : Int32} {k : Nat} (hp : p0.toInt = (k : Int)) (hk : k < n) : wl (fc_X2_canBeOf i p0 f S) (fun r => r = true ↔ (f &&& g (392 + 2 * k)) = g (392 + (2 * k + 1))) := by
  obtain ⟨_, _, v1, v2, v3, v4, _, v6, _⟩ := hv
  unfold fc_X2_canBeOf
  refine wl_bind (at_w (k := k) (i := 0) v1 v2 hp (by omega) (by omega) (by decide) (by decide)) (fun q1 e1 => ?_)
  refine wl_bind (at_w (k := k) (i := 1) v1 v2 hp (by omega) (by omega) (by decide) (by decide)) (fun q2 e2 => ?_)
  have e1' : q1 = g (392 + 2 * k) := by rw [e1]; exact v6 (2 * k + 0) (by omega)
  have e2' : q2 = g (392 + (2 * k + 1)) := by rw [e2]; exact v6 (2 * k + 1) (by omega)
  rw [e1', e2']
  exact wl_if (fun e => wl_some ⟨fun _ => e, fun _ => rfl⟩) (fun e => wl_some ⟨fun x => (by cases x), fun x => absurd x e⟩)
theorem vo_c {S : cT} {i : Nat} {g : Nat → Int32} {m n : Nat} (hv : Vw S i g m n) {f : Int32} : ∀ (N : Nat) (a2 a3 : Int32) (k : Nat), a3.toInt = (k : Int) → k ≤ n → a2 = cvR g f k → wl (fc_X2_viewsOf_L4 i f S N a2 a3) (fun w => w.1 = cvR g f n) := by
  have l_1 : (1 : Int32).toInt = 1 := by decide
  intro N
  induction N with
  | zero => intro a2 a3 k _ _ _; exact wl_none
  | succ N ih =>
    intro a2 a3 k h3 hk h2
    have v3 := hv.2.2.2.2.1
    have v4 := hv.2.2.2.2.2.1
    unfold fc_X2_viewsOf_L4
    refine wl_le (fun y => wl_some ?_) (fun y => ?_)
    · rw [h2, show k = n by omega]
    have a := tA (a := a3) (b := 1) (by omega) (by omega)
    refine wl_bind (can_w hv h3 (by omega)) (fun q2 g2 => wl_b (fun b => ?_) (fun b => ?_))
    · refine ih _ _ (k + 1) (by omega) (by omega) ?_
      rw [cvR_s]
      rw [if_neg (fun z => by rw [g2.mpr z] at b; cases b)]
      exact h2
    · refine ih _ _ (k + 1) (by omega) (by omega) ?_
      rw [cvR_s]
      rw [if_pos (g2.mp b), h2, i32_of h3]
theorem vo_cw {S : cT} {i : Nat} {g : Nat → Int32} {m n : Nat} (hv : Vw S i g m n) {f : Int32} : wl (fc_X2_viewsOf i f S) (fun w => w = cvR g f n) := by
  unfold fc_X2_viewsOf
  exact wl_bind (vo_c hv FU 0 0 0 (by decide) (by omega) rfl) (fun w e => wl_some e)
theorem vo_m {T : mT} {g : Nat → Int32} {n : Nat} (hg : T.1 10 = g) (h9 : (g 409).toInt = (n : Int)) (h8 : n ≤ 8) {f : Int32} : ∀ (N : Nat) (a2 a3 : Int32) (k : Nat), a3.toInt = (k : Int) → k ≤ n → a2 = cvR g f k → wl (fm_viewsOf_L4 f T N a2 a3) (fun w => w.1 = cvR g f n) := by
  have l_1 : (1 : Int32).toInt = 1 := by decide
  have l_2 : (2 : Int32).toInt = 2 := by decide
  have l_392 : (392 : Int32).toInt = 392 := by decide
  have i409 : (409 : Int32).toNatClampNeg = 409 := by decide
  intro N
  induction N with
  | zero => intro a2 a3 k _ _ _; exact wl_none
  | succ N ih =>
    intro a2 a3 k h3 hk h2
    unfold fm_viewsOf_L4
    rw [hg, i409]
    refine wl_bif (wl_letv (fun v1 e1 => ?_))
    rw [e1]
    refine wl_le (fun y => wl_some ?_) (fun y => ?_)
    · rw [h2, show k = n by omega]
    have a := tA (a := a3) (b := 1) (by omega) (by omega)
    have m := tML (a := 2) (b := a3) (n := 2) l_2 (by omega) (by omega)
    have a0 := tA (a := 392) (b := 2 * a3) (by omega) (by omega)
    have a1 := tA (a := 392 + 2 * a3) (b := 1) (by omega) (by omega)
    refine wl_bif (wl_letv (fun v3 e3 => wl_bif (wl_letv (fun v4 e4 => ?_))))
    rw [cl_idx (n := 392 + 2 * k) (by omega)] at e3
    rw [cl_idx (n := 392 + (2 * k + 1)) (by omega)] at e4
    rw [e3, e4]
    refine wl_if (fun c => ?_) (fun c => ?_)
    · refine ih _ _ (k + 1) (by omega) (by omega) ?_
      rw [cvR_s]
      rw [if_pos c, h2, i32_of h3]
    · refine ih _ _ (k + 1) (by omega) (by omega) ?_
      rw [cvR_s]
      rw [if_neg c, Int32.or_zero]
      exact h2
theorem vo_mw {T : mT} {g : Nat → Int32} {n : Nat} (hg : T.1 10 = g) (h9 : (g 409).toInt = (n : Int)) (h8 : n ≤ 8) {f : Int32} : wl (fm_viewsOf f T) (fun w => w = cvR g f n) := by
  unfold fm_viewsOf
  exact wl_bind (vo_m hg h9 h8 FU 0 0 0 (by decide) (by omega) rfl) (fun w e => wl_some e)
theorem sh_bit {k j : Nat} (h : k < 8) : ((1 : Int32) <<< (Int32.ofNat k &&& 31)).toBitVec.getLsbD j = decide (j = k) := by
  have e : ∀ k : Fin 8, ((1 : Int32) <<< (Int32.ofNat k.val &&& 31)).toBitVec = BitVec.twoPow 32 k.val := by decide +kernel
  have ek : ((1 : Int32) <<< (Int32.ofNat k &&& 31)).toBitVec = BitVec.twoPow 32 k := e ⟨k, h⟩
  rw [ek, BitVec.getLsbD_twoPow, decide_eq_true (show k < 32 by omega), Bool.true_and]
  exact decide_eq_decide.mpr ⟨Eq.symm, Eq.symm⟩
theorem cv_bit (g : Nat → Int32) (f : Int32) (j : Nat) : ∀ k, k ≤ 8 → ((cvR g f k).toBitVec.getLsbD j = true ↔ j < k ∧ (f &&& g (392 + 2 * j)) = g (392 + (2 * j + 1))) := by
  intro k
  induction k with
  | zero =>
    intro _
    refine ⟨fun z => ?_, fun z => absurd z.1 (by omega)⟩
    have : (cvR g f 0).toBitVec.getLsbD j = false := by
      show ((0 : Int32).toBitVec).getLsbD j = false
      exact BitVec.getLsbD_zero
    rw [this] at z
    cases z
  | succ k ih =>
    intro hk
    have i := ih (by omega)
    rw [cvR_s]
    by_cases c : (f &&& g (392 + 2 * k)) = g (392 + (2 * k + 1))
    · rw [if_pos c]
      have e : (cvR g f k ||| ((1 : Int32) <<< (Int32.ofNat k &&& 31))).toBitVec.getLsbD j = ((cvR g f k).toBitVec.getLsbD j || decide (j = k)) := by
        show ((cvR g f k).toBitVec ||| ((1 : Int32) <<< (Int32.ofNat k &&& 31)).toBitVec).getLsbD j = _
        rw [BitVec.getLsbD_or, sh_bit (by omega)]
      rw [e, Bool.or_eq_true, i, decide_eq_true_iff]
      refine ⟨fun z => ?_, fun z => ?_⟩
      · rcases z with z | z
        · exact ⟨by omega, z.2⟩
        · rw [z]; exact ⟨by omega, c⟩
      · by_cases y : j = k
        · exact Or.inr y
        · exact Or.inl ⟨by omega, z.2⟩
    · rw [if_neg c, i]
      refine ⟨fun z => ⟨by omega, z.2⟩, fun z => ⟨?_, z.2⟩⟩
      by_cases y : j = k
      · rw [y] at z; exact absurd z.2 c
      · omega
theorem and1 {x : BitVec 32} : (x &&& 1#32) = 1#32 ↔ x.getLsbD 0 = true := by
  refine ⟨fun h => ?_, fun h => BitVec.eq_of_getLsbD_eq (fun i hi => ?_)⟩
  · have e := congrArg (fun b => BitVec.getLsbD b 0) h
    rw [BitVec.getLsbD_and, BitVec.getLsbD_one] at e
    cases y : x.getLsbD 0 with
    | true => rfl
    | false => rw [y] at e; exact absurd e (by decide)
  · rw [BitVec.getLsbD_and, BitVec.getLsbD_one]
    by_cases y : i = 0
    · rw [y, h]; rfl
    · rw [decide_eq_false y, Bool.and_false, Bool.and_false]
theorem isof_w {x v : Int32} {k : Nat} (hk : k < 8) (hv : v.toInt = (k : Int)) : wl (fm_isOf x v) (fun r => r = true ↔ x.toBitVec.getLsbD k = true) := by
  have e : ∀ k : Fin 8, (((Int32.ofNat k.val) &&& 31).toBitVec.smod 32).toNat = k.val := by decide +kernel
  have ek : (((Int32.ofNat k) &&& 31).toBitVec.smod 32).toNat = k := e ⟨k, hk⟩
  have b : ((x >>> (v &&& 31)) &&& 1) = 1 ↔ x.toBitVec.getLsbD k = true := by
    rw [i32_of hv]
    have s : ((x >>> (Int32.ofNat k &&& 31)) &&& 1).toBitVec = (x.toBitVec.sshiftRight' (((Int32.ofNat k) &&& 31).toBitVec.smod 32)) &&& 1#32 := rfl
    have z : (x.toBitVec.sshiftRight' (((Int32.ofNat k) &&& 31).toBitVec.smod 32)).getLsbD 0 = x.toBitVec.getLsbD k := by
      rw [BitVec.getLsbD_sshiftRight', ek]
      show (true && if k + 0 < 32 then x.toBitVec.getLsbD (k + 0) else x.toBitVec.msb) = _
      rw [if_pos (by omega)]
      rfl
    rw [← Int32.toBitVec_inj, s, ← z]
    exact and1
  unfold fm_isOf
  exact wl_if (fun c => wl_some ⟨fun _ => b.mp c, fun _ => rfl⟩) (fun c => wl_some ⟨fun y => (by cases y), fun y => absurd (b.mpr y) c⟩)
/-- the people whose face a view can be of -/
def pfR (g : Nat → Int32) (v : Nat) : Nat → Int32
  | 0 => 0
  | k + 1 => if (g (8 + 4 * k) &&& g (392 + 2 * v)) = g (392 + (2 * v + 1)) then pfR g v k ||| ((1 : Int32) <<< (Int32.ofNat k &&& 31)) else pfR g v k
theorem pfR_s (g : Nat → Int32) (v k : Nat) : pfR g v (k + 1) = if (g (8 + 4 * k) &&& g (392 + 2 * v)) = g (392 + (2 * v + 1)) then pfR g v k ||| ((1 : Int32) <<< (Int32.ofNat k &&& 31)) else pfR g v k := rfl
theorem face_w {S : cT} {i : Nat} {g : Nat → Int32} {m n : Nat} (hv : Vw S i g m n) {p0 : Int32} {k : Nat} (hp : p0.toInt = (k : Int)) (hk : k < m) : wl (fc_X2_faceOf i p0 S) (fun v => v = g (8 + 4 * k)) := by
  have h9 := hv.1
  have h8 := hv.2.1
  unfold fc_X2_faceOf
  refine wl_bind (has_w (by omega)) (fun q1 g1 => wl_b (fun b => ?_) (fun _ => ?_))
  · rw [g1.mpr (by omega)] at b; cases b
  refine wl_bif (wl_letv (fun v3 e3 => wl_some ?_))
  rw [e3, cl_idx hp]
  exact hv.2.2.2.2.2.2.1 k hk
theorem pf_c {S : cT} {i : Nat} {g : Nat → Int32} {m n : Nat} (hv : Vw S i g m n) {p : Int32} {v : Nat} (hp : p.toInt = (v : Int)) (hvn : v < n) : ∀ (N : Nat) (a2 a3 : Int32) (k : Nat), a3.toInt = (k : Int) → k ≤ m → a2 = pfR g v k → wl (fc_X2_peopleFitting_L4 i p S N a2 a3) (fun w => w.1 = pfR g v m) := by
  have l_1 : (1 : Int32).toInt = 1 := by decide
  intro N
  induction N with
  | zero => intro a2 a3 k _ _ _; exact wl_none
  | succ N ih =>
    intro a2 a3 k h3 hk h2
    have v1 := hv.1
    have v2 := hv.2.1
    unfold fc_X2_peopleFitting_L4
    refine wl_le (fun y => wl_some ?_) (fun y => ?_)
    · rw [h2, show k = m by omega]
    have a := tA (a := a3) (b := 1) (by omega) (by omega)
    refine wl_bind (face_w hv h3 (by omega)) (fun q2 e2 => ?_)
    rw [e2]
    refine wl_bind (can_w hv hp hvn) (fun q3 g3 => wl_b (fun b => ?_) (fun b => ?_))
    · refine ih _ _ (k + 1) (by omega) (by omega) ?_
      rw [pfR_s]
      rw [if_neg (fun z => by rw [g3.mpr z] at b; cases b)]
      exact h2
    · refine ih _ _ (k + 1) (by omega) (by omega) ?_
      rw [pfR_s]
      rw [if_pos (g3.mp b), h2, i32_of h3]
theorem per_w {T : mT} {g : Nat → Int32} (hg : T.1 10 = g) {p0 : Int32} {k : Nat} (hp : p0.toInt = (k : Int)) (hk : k < 8) : wl (fm_personOf p0 0 T) (fun v => v = g (8 + 4 * k)) := by
  have l_0 : (0 : Int32).toInt = 0 := by decide
  have l_4 : (4 : Int32).toInt = 4 := by decide
  have l_8 : (8 : Int32).toInt = 8 := by decide
  unfold fm_personOf
  refine wl_bif (wl_letv (fun v1 e1 => wl_some ?_))
  have m := tML (a := 4) (b := p0) (n := 4) l_4 (by omega) (by omega)
  have a0 := tA (a := 8) (b := 4 * p0) (by omega) (by omega)
  have a1 := tA (a := 8 + 4 * p0) (b := 0) (by omega) (by omega)
  rw [e1, cl_idx (n := 8 + 4 * k) (by omega), hg]
theorem pf_m {T : mT} {g : Nat → Int32} {m n : Nat} (hg : T.1 10 = g) (h1 : (g 1).toInt = (m : Int)) (hm : m ≤ 8) (h9 : (g 409).toInt = (n : Int)) (h8 : n ≤ 8) {p : Int32} {v : Nat} (hp : p.toInt = (v : Int)) (hvn : v < n) : ∀ (N : Nat) (a2 a3 : Int32) (k : Nat), a3.toInt = (k : Int) → k ≤ m → a2 = pfR g v k → wl (fm_fits_L26 p T N a2 a3) (fun w => w.1 = pfR g v m) := by
  have l_1 : (1 : Int32).toInt = 1 := by decide
  intro N
  induction N with
  | zero => intro a2 a3 k _ _ _; exact wl_none
  | succ N ih =>
    intro a2 a3 k h3 hk h2
    unfold fm_fits_L26
    refine wl_bif (wl_letv (fun v4 e4 => ?_))
    have e4' : v4 = g 1 := by rw [e4, hg]; rfl
    rw [e4']
    refine wl_le (fun y => wl_some ?_) (fun y => ?_)
    · rw [h2, show k = m by omega]
    have a := tA (a := a3) (b := 1) (by omega) (by omega)
    refine wl_bind (per_w hg h3 (by omega)) (fun q6 e6 => ?_)
    refine wl_bind (vo_mw hg h9 h8) (fun q7 e7 => ?_)
    refine wl_bind (isof_w (by omega) hp) (fun q8 g8 => ?_)
    rw [e7, e6, cv_bit g _ v n h8] at g8
    refine wl_b (fun b => ?_) (fun b => ?_)
    · refine ih _ _ (k + 1) (by omega) (by omega) ?_
      rw [pfR_s]
      rw [if_neg (fun z => by rw [g8.mpr ⟨hvn, z⟩] at b; cases b), Int32.or_zero]
      exact h2
    · refine ih _ _ (k + 1) (by omega) (by omega) ?_
      rw [pfR_s]
      rw [if_pos (g8.mp b).2, h2, i32_of h3]
def fitA (g : Nat → Int32) (m n : Nat) (p0 x : Int32) : Prop := (0 ≤ p0.toInt ∧ p0.toInt < (n : Int) → x = pfR g p0.toInt.toNat m) ∧ (¬ (0 ≤ p0.toInt ∧ p0.toInt < (n : Int)) → x = -1)
theorem s_fits {S : cT} {T : mT} {p0 : Int32} (h : J5 S T) : St true J5 (wiS (fc_X11_fits 0 p0 S) S) (wiT (fm_fits p0 T) T) := by
  obtain ⟨m, n, hv⟩ := vw_of h
  obtain ⟨hI, hA, R⟩ := h
  have l_0 : (0 : Int32).toInt = 0 := by decide
  have l_1 : (1 : Int32).toInt = 1 := by decide
  have k0 : (0 : Int64).toInt = 0 := by decide
  obtain ⟨v1, v2, v3, v4, v5, v6, v7, v8, v9, v10, -⟩ := id hv
  refine st_ans (A := fitA (T.1 10) m n p0) (B := fitA (T.1 10) m n p0) hA R (kc_i hI (tc_X11_fits rfl hI)) (km_i hA (tm_fits hA.1)) (wl_iS ?_) (wl_iT ?_) (fun x y a b => ?_)
  · unfold fc_X11_fits
    refine wl_bif ?_
    refine wl_bind (R := fun r => r = true ↔ 0 ≤ p0.toInt ∧ p0.toInt < (n : Int)) ?_ (fun q2 g2 => ?_)
    · unfold fc_X6_has
      refine wl_lt (fun y => wl_some ⟨fun x => (by cases x), fun x => by exfalso; omega⟩) (fun _ => ?_)
      refine wl_le (fun y => wl_some ⟨fun x => (by cases x), fun x => by exfalso; omega⟩) (fun _ => ?_)
      exact wl_le (fun y => by exfalso; omega) (fun _ => wl_some ⟨fun _ => by omega, fun _ => rfl⟩)
    refine wl_b (fun b => wl_some ⟨fun c => ?_, fun _ => rfl⟩) (fun b => ?_)
    · rw [g2.mpr c] at b; cases b
    have c := g2.mp b
    unfold fc_X2_peopleFitting
    refine wl_bind (R := fun w : Int32 => w = pfR (T.1 10) p0.toInt.toNat m) ?_ (fun q4 e4 => wl_some ⟨fun _ => e4, fun z => absurd c z⟩)
    exact wl_bind (pf_c hv (v := p0.toInt.toNat) (by omega) (by omega) FU 0 0 0 (by decide) (by omega) rfl) (fun w e => wl_some e)
  · unfold fm_fits
    refine wl_bif (wl_letv (fun u1 e1 => ?_))
    have e1' : u1 = T.1 10 409 := e1
    have s := tS (a := T.1 10 409) (b := 1) (by omega) (by omega)
    have y0 := Int32.toInt_toInt64 p0
    have y1 := Int32.toInt_toInt64 (T.1 10 409 - 1)
    rw [e1']
    refine wl_bind (wl_of tm_inq) (fun q2 g2 => wl_b (fun b => wl_some ⟨fun c => absurd ?_ (g2.2 b), fun _ => rfl⟩) (fun b => ?_))
    · omega
    have c := g2.1 b
    refine wl_bind (pf_m rfl v9 v2 v10 v6 (v := p0.toInt.toNat) (by omega) (by omega) FU 0 0 0 (by decide) (by omega) rfl) (fun w e => wl_some ⟨fun _ => e, fun z => absurd ?_ z⟩)
    omega
  · by_cases c : 0 ≤ p0.toInt ∧ p0.toInt < (n : Int)
    · rw [a.1 c, b.1 c]
    · rw [a.2 c, b.2 c]
