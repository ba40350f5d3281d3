/-! ===== the class reads a rule ===== -/
def Frr (b : Nat) (S S' : cT) : Prop := (∀ q j, q ≠ 1 → (q < b ∨ b + 5 < q) → S'.1 q j = S.1 q j) ∧ ∀ j, (j < 6 ∨ 9 < j) → S'.1 1 j = S.1 1 j
def CTp (K : KS) (m : Nat) (S : cT) : Prop := (S.1 1 5).toInt = (m : Int) + 1 ∧ m ≤ 400 ∧ (∀ c, c ≤ m → (S.1 3 c).toInt = K.1 c ∧ (S.1 5 c).toInt = K.2.1 c ∧ (S.1 4 c).toInt = K.2.2 c ∧ 0 ≤ K.2.2 c ∧ K.2.2 c ≤ 400 ∧ 0 ≤ K.1 c ∧ K.1 c ≤ 400) ∧ K.1 m = 260
def CS (K : KS) (m b : Nat) (S0' : cT) (c p : Nat) (S : cT) : Prop := Frr b S0' S ∧ c ≤ m ∧ p ≤ 60 ∧ (S.1 1 7).toInt = 0 ∧ (S.1 1 6).toInt = (c : Int) ∧ (S.1 1 8).toInt = K.1 c ∧ (S.1 1 9).toInt = K.2.1 c ∧ (S.1 b 7).toInt = (p : Int)
def CB (b : Nat) (S0' : cT) (w : Int) (S : cT) : Prop := Frr b S0' S ∧ w ≠ 0 ∧ (S.1 1 7).toInt = w ∧ (S.1 1 8).toInt = 259
def CO (K : KS) (m b : Nat) (S0' : cT) (r : RS3) (S : cT) : Prop := (r.1 ≠ 0 ∧ CB b S0' r.1 S) ∨ (r.1 = 0 ∧ CS K m b S0' r.2.1 r.2.2 S)
section CRD
variable {K : KS} {m b : Nat} {S0' : cT}
theorem Frr.w1 {S : cT} {j : Nat} {v : Int32} (h : Frr b S0' S) (hj : 6 ≤ j ∧ j ≤ 9) : Frr b S0' (ca S 1 j v) := ⟨fun q i h1 h2 => by rw [ca_ne (Or.inl h1)]; exact h.1 q i h1 h2, fun i hi => by rw [ca_ne (Or.inr (by omega))]; exact h.2 i hi⟩
theorem us_step {c p : Nat} {S : cT} (hb : 7 ≤ b) (hT : CTp K m S0') (h : CS K m b S0' c p S) (hc : c < m) : wl (fc_X10_step 1 S) (fun S' => CS K m b S0' (c + 1) p S') := by
  obtain ⟨f, c1, p1, e7, e6, e8, e9, eb⟩ := h
  obtain ⟨t5, tm, ta, tz⟩ := hT
  unfold fc_X10_step
  have l_0 : (0 : Int32).toInt = 0 := by decide
  have l_1 : (1 : Int32).toInt = 1 := by decide
  have l_400 : (400 : Int32).toInt = 400 := by decide
  have x5 : (S.1 1 5).toInt = (m : Int) + 1 := by rw [f.2 5 (by decide)]; exact t5
  have u := tA (a := S.1 1 6) (b := 1) (by omega) (by omega)
  refine wl_eq (fun _ => ?_) (fun z => by exfalso; omega)
  refine wl_lt (fun z => by exfalso; omega) (fun _ => ?_)
  refine wl_le (fun z => by exfalso; omega) (fun _ => ?_)
  refine wl_le (fun z => by exfalso; omega) (fun _ => ?_)
  refine wl_letv (fun S5 e5 => ?_)
  have y6 : (S5.1 1 6).toInt = ((c + 1 : Nat) : Int) := by rw [e5, ca_at]; omega
  refine wl_bif (wl_letv (fun v6 ev6 => ?_))
  rw [cl_idx y6] at ev6
  refine wl_letv (fun S7 e7' => ?_)
  have z6 : (S7.1 1 6).toInt = ((c + 1 : Nat) : Int) := by rw [e7', ca_ne (by decide)]; exact y6
  refine wl_bif (wl_letv (fun v8 ev8 => ?_))
  rw [cl_idx z6] at ev8
  refine wl_letv (fun S9 e9' => wl_some ?_)
  have f5 : Frr b S0' S5 := by rw [e5]; exact f.w1 (by decide)
  have f7 : Frr b S0' S7 := by rw [e7']; exact f5.w1 (by decide)
  have f9 : Frr b S0' S9 := by rw [e9']; exact f7.w1 (by decide)
  have a := ta (c + 1) (by omega)
  refine ⟨f9, by omega, p1, ?_, ?_, ?_, ?_, ?_⟩
  · rw [e9', ca_ne (by decide), e7', ca_ne (by decide), e5, ca_ne (by decide)]; exact e7
  · rw [e9', ca_ne (by decide)]; exact z6
  · rw [e9', ca_ne (by decide), e7', ca_at, ev6]
    show (S5.1 3 (c + 1)).toInt = _
    rw [f5.1 3 _ (by decide) (by omega)]
    exact a.1
  · rw [e9', ca_at, ev8]
    show (S7.1 5 (c + 1)).toInt = _
    rw [f7.1 5 _ (by decide) (by omega)]
    exact a.2.1
  · rw [e9', ca_ne (Or.inl (by omega)), e7', ca_ne (Or.inl (by omega)), e5, ca_ne (Or.inl (by omega))]; exact eb
theorem us_step_b {w : Int} {S : cT} (h : CB b S0' w S) : wl (fc_X10_step 1 S) (fun S' => CB b S0' w S') := by
  unfold fc_X10_step
  have l_0 : (0 : Int32).toInt = 0 := by decide
  exact wl_eq (fun z => absurd h.2.1 (by have := h.2.2.1; omega)) (fun _ => wl_some h)
theorem us_refuse {c p : Nat} {y : Int32} {why : Int} {S : cT} (hT : CTp K m S0') (hb : 7 ≤ b) (h : CS K m b S0' c p S) (hy : y.toInt = why) (h0 : 0 ≤ why) (h7 : why ≤ 7) : wl (fc_X10_refuse 1 y S) (fun S' => CB b S0' (bdc K c why).1 S') := by
  obtain ⟨f, c1, p1, e7, e6, e8, e9, eb⟩ := h
  obtain ⟨t5, tm, ta, tz⟩ := hT
  unfold fc_X10_refuse
  have l_0 : (0 : Int32).toInt = 0 := by decide
  have l_1 : (1 : Int32).toInt = 1 := by decide
  have l_400 : (400 : Int32).toInt = 400 := by decide
  refine wl_eq (fun _ => ?_) (fun z => by exfalso; omega)
  refine wl_lt (fun z => by exfalso; omega) (fun _ => ?_)
  refine wl_lt (fun z => by exfalso; omega) (fun _ => ?_)
  refine wl_bif (wl_letv (fun v4 e4 => ?_))
  rw [cl_idx e6] at e4
  have a := ta c c1
  have e4' : v4.toInt = K.2.2 c := by
    rw [e4]
    show (S.1 4 c).toInt = _
    rw [f.1 4 c (by decide) (by omega)]
    exact a.2.2.1
  have m8 := tML (a := 8) (b := v4) (n := 8) (by decide) (by omega) (by omega)
  have t1 := tA (a := 1) (b := 8 * v4) (by omega) (by omega)
  have t2 := tA (a := 1 + 8 * v4) (b := y) (by omega) (by omega)
  refine wl_letv (fun S5 e5 => ?_)
  refine wl_letv (fun S6 e6' => wl_some ?_)
  refine ⟨by rw [e6', e5]; exact (f.w1 (by decide)).w1 (by decide), ?_, ?_, ?_⟩
  · show 1 + 8 * K.2.2 c + why ≠ 0
    omega
  · rw [e6', ca_ne (by decide), e5, ca_at]
    show _ = 1 + 8 * K.2.2 c + why
    omega
  · rw [e6', ca_at]; decide
theorem us_refuse_b {w : Int} {y : Int32} {S : cT} (h : CB b S0' w S) : wl (fc_X10_refuse 1 y S) (fun S' => CB b S0' w S') := by
  unfold fc_X10_refuse
  have l_0 : (0 : Int32).toInt = 0 := by decide
  exact wl_eq (fun z => absurd h.2.1 (by have := h.2.2.1; omega)) (fun _ => wl_some h)
/-- the rule's own cells alone are written, its parts not -/
def Own (b : Nat) (S S' : cT) : Prop := S'.1 b 7 = S.1 b 7 ∧ ∀ q j, (q < b ∨ b + 5 < q) → S'.1 q j = S.1 q j
theorem Own.rfl' {S : cT} : Own b S S := ⟨rfl, fun _ _ _ => rfl⟩
theorem Own.frr {S S' : cT} (hb : 7 ≤ b) (h : Frr b S0' S) (o : Own b S S') : Frr b S0' S' := ⟨fun q j h1 h2 => by rw [o.2 q j h2]; exact h.1 q j h1 h2, fun j hj => by rw [o.2 1 j (by omega)]; exact h.2 j hj⟩
theorem Own.cs {c p : Nat} {S S' : cT} (hb : 7 ≤ b) (o : Own b S S') (h : CS K m b S0' c p S) : CS K m b S0' c p S' := by
  obtain ⟨f, c1, p1, e7, e6, e8, e9, eb⟩ := h
  refine ⟨o.frr hb f, c1, p1, ?_, ?_, ?_, ?_, ?_⟩
  · rw [o.2 1 7 (by omega)]; exact e7
  · rw [o.2 1 6 (by omega)]; exact e6
  · rw [o.2 1 8 (by omega)]; exact e8
  · rw [o.2 1 9 (by omega)]; exact e9
  · rw [o.1]; exact eb
theorem Own.cb {w : Int} {S S' : cT} (hb : 7 ≤ b) (o : Own b S S') (h : CB b S0' w S) : CB b S0' w S' := by
  obtain ⟨f, w0, e7, e8⟩ := h
  refine ⟨o.frr hb f, w0, ?_, ?_⟩
  · rw [o.2 1 7 (by omega)]; exact e7
  · rw [o.2 1 8 (by omega)]; exact e8
theorem Own.co {r : RS3} {S S' : cT} (hb : 7 ≤ b) (o : Own b S S') (h : CO K m b S0' r S) : CO K m b S0' r S' := by
  rcases h with ⟨a, h⟩ | ⟨a, h⟩
  · exact Or.inl ⟨a, o.cb hb h⟩
  · exact Or.inr ⟨a, o.cs hb h⟩
theorem us_addCode {v : Int32} {S : cT} : wl (fc_X7_addCode b v S) (fun S' => Own b S S') := by
  unfold fc_X7_addCode
  refine wl_if (fun _ => wl_some Own.rfl') (fun _ => ?_)
  refine wl_if (fun _ => wl_some Own.rfl') (fun _ => ?_)
  refine wl_bif (wl_letv (fun S4 e4 => ?_))
  refine wl_letv (fun S5 e5 => wl_some ⟨?_, fun q j hq => ?_⟩)
  · rw [e5, ca_ne (Or.inr (by decide)), e4, ca_ne (Or.inl (by omega))]
  · rw [e5, ca_ne (Or.inl (by omega)), e4, ca_ne (Or.inl (by omega))]
theorem us_addClause {v0 v1 v2 : Int32} {S : cT} : wl (fc_X7_addClause b v0 v1 v2 S) (fun S' => Own b S S') := by
  unfold fc_X7_addClause
  refine wl_if (fun _ => wl_some Own.rfl') (fun _ => ?_)
  refine wl_if (fun _ => wl_some Own.rfl') (fun _ => ?_)
  refine wl_bif (wl_letv (fun S4 e4 => ?_))
  refine wl_bif (wl_letv (fun S6 e6 => ?_))
  refine wl_bif (wl_letv (fun S8 e8 => ?_))
  refine wl_bif (wl_letv (fun S10 e10 => ?_))
  refine wl_letv (fun S11 e11 => wl_some ⟨?_, fun q j hq => ?_⟩)
  · rw [e11, ca_ne (Or.inr (by decide)), e10, ca_ne (Or.inl (by omega)), e8, ca_ne (Or.inl (by omega)), e6, ca_ne (Or.inl (by omega)), e4, ca_ne (Or.inl (by omega))]
  · rw [e11, ca_ne (Or.inl (by omega)), e10, ca_ne (Or.inl (by omega)), e8, ca_ne (Or.inl (by omega)), e6, ca_ne (Or.inl (by omega)), e4, ca_ne (Or.inl (by omega))]
/-- one part more -/
theorem cs_part {c p : Nat} {S : cT} (hb : 7 ≤ b) (h : CS K m b S0' c p S) (hp : p < 60) : CS K m b S0' c (p + 1) (ca S b 7 ((S.1 b 7) + 1)) := by
  obtain ⟨f, c1, p1, e7, e6, e8, e9, eb⟩ := h
  have l_1 : (1 : Int32).toInt = 1 := by decide
  have u := tA (a := S.1 b 7) (b := 1) (by omega) (by omega)
  refine ⟨⟨fun q j h1 h2 => by rw [ca_ne (Or.inl (by omega))]; exact f.1 q j h1 h2, fun j hj => by rw [ca_ne (Or.inl (by omega))]; exact f.2 j hj⟩, c1, by omega, ?_, ?_, ?_, ?_, ?_⟩
  · rw [ca_ne (Or.inl (by omega))]; exact e7
  · rw [ca_ne (Or.inl (by omega))]; exact e6
  · rw [ca_ne (Or.inl (by omega))]; exact e8
  · rw [ca_ne (Or.inl (by omega))]; exact e9
  · rw [ca_at]; omega
theorem us_readValue {c p : Nat} {S : cT} (hb : 7 ≤ b) (hT : CTp K m S0') (h : CS K m b S0' c p S) : wl (fc_X8_readValue 1 b S) (fun S' => CO K m b S0' (VALf K c p) S') := by
  have h' := h
  obtain ⟨f, c1, p1, e7, e6, e8, e9, eb⟩ := h'
  unfold fc_X8_readValue
  have l_0 : (0 : Int32).toInt = 0 := by decide
  have l_1 : (1 : Int32).toInt = 1 := by decide
  have l_8 : (8 : Int32).toInt = 8 := by decide
  have l_60 : (60 : Int32).toInt = 60 := by decide
  have l_258 : (258 : Int32).toInt = 258 := by decide
  have l_300 : (300 : Int32).toInt = 300 := by decide
  have l_m1 : ((-1) : Int32).toInt = -1 := by decide
  have bad : ∀ (y : Int32) (why : Int), y.toInt = why → 0 ≤ why → why ≤ 7 → VALf K c p = bdc K c why → wl ((fc_X10_refuse 1 y S).bind fun q24 => some q24) (fun S' => CO K m b S0' (VALf K c p) S') := fun y why a1 a2 a3 a4 =>
    wl_bind (us_refuse hT hb h a1 a2 a3) (fun q hq => wl_some (Or.inl ⟨by rw [a4]; exact hq.2.1, by rw [a4]; exact hq⟩))
  have good : ∀ v : Int32, p < 60 → K.1 c ≠ 260 → VALf K c p = (0, c + 1, p + 1) → wl ((fc_X7_addCode b v (ca S b 7 ((S.1 b 7) + 1))).bind fun q30 => (fc_X10_step 1 q30).bind fun q31 => some q31) (fun S' => CO K m b S0' (VALf K c p) S') := fun v a1 a2 a4 =>
    wl_bind us_addCode (fun q30 o => wl_bind (us_step hb hT (o.cs hb (cs_part hb h a1)) (by by_cases z : c = m; rw [z] at a2; exact absurd hT.2.2.2 a2; omega)) (fun q31 h31 => wl_some (Or.inr ⟨by rw [a4], by rw [a4]; exact h31⟩)))
  refine wl_bind (R := fun w1 : Int32 => (w1 = 1 ∧ K.1 c = 258) ∨ (w1 = 0 ∧ K.1 c ≠ 258)) ?_ (fun w1 h1 => ?_)
  · exact wl_eq (fun z => wl_some (Or.inl ⟨rfl, by omega⟩)) (fun z => wl_some (Or.inr ⟨rfl, by omega⟩))
  rcases h1 with ⟨rfl, k⟩ | ⟨rfl, k⟩
  · refine wl_if (fun z => absurd z (by decide)) (fun _ => ?_)
    refine wl_if (fun z => absurd z (by decide)) (fun _ => ?_)
    refine wl_eq (fun z => bad 1 1 l_1 (by decide) (by decide) (by unfold VALf; rw [if_pos k, if_pos (by omega)])) (fun z => ?_)
    refine wl_lt (fun y => ?_) (fun y => bad 3 3 (by decide) (by decide) (by decide) (by unfold VALf; rw [if_pos k, if_neg (by omega), if_pos (by omega)]))
    refine wl_letv (fun S15 e15 => ?_)
    rw [e15]
    refine wl_if (fun z => absurd z (by decide)) (fun _ => ?_)
    exact good _ (by omega) (by omega) (by unfold VALf; rw [if_pos k, if_neg (by omega), if_neg (by omega)])
  · refine wl_if (fun _ => ?_) (fun z => absurd rfl z)
    have kr := (hT.2.2.1 c c1).2.2.2.2.2
    have t := tS (a := S.1 1 8) (b := 300) (by omega) (by omega)
    refine wl_lt (fun z => bad 0 0 l_0 (by decide) (by decide) (by unfold VALf; rw [if_neg k, if_neg (by omega)])) (fun z => ?_)
    refine wl_lt (fun y => ?_) (fun y => bad 0 0 l_0 (by decide) (by decide) (by unfold VALf; rw [if_neg k, if_neg (by omega)]))
    refine wl_if (fun _ => ?_) (fun z => absurd rfl z)
    refine wl_lt (fun x => ?_) (fun x => bad 3 3 (by decide) (by decide) (by decide) (by unfold VALf; rw [if_neg k, if_pos (by omega), if_pos (by omega)]))
    refine wl_letv (fun S15 e15 => ?_)
    rw [e15]
    refine wl_if (fun _ => ?_) (fun z => absurd rfl z)
    exact good _ (by omega) (by omega) (by unfold VALf; rw [if_neg k, if_pos (by omega), if_neg (by omega)])
theorem us_readValue_b {w : Int} {S : cT} (h : CB b S0' w S) : wl (fc_X8_readValue 1 b S) (fun S' => CB b S0' w S') := by
  have e8 := h.2.2.2
  unfold fc_X8_readValue
  have l_0 : (0 : Int32).toInt = 0 := by decide
  have l_258 : (258 : Int32).toInt = 258 := by decide
  have l_300 : (300 : Int32).toInt = 300 := by decide
  refine wl_bind (R := fun w1 : Int32 => w1 = 0) ?_ (fun w1 h1 => ?_)
  · exact wl_eq (fun z => by exfalso; omega) (fun z => wl_some rfl)
  subst h1
  refine wl_if (fun _ => ?_) (fun z => absurd rfl z)
  have t := tS (a := S.1 1 8) (b := 300) (by omega) (by omega)
  exact wl_lt (fun z => wl_bind (us_refuse_b h) (fun q hq => wl_some hq)) (fun z => by exfalso; omega)
theorem VALf_ok {c p : Nat} (h0 : 0 ≤ K.2.2 c) (h : (VALf K c p).1 = 0) : VALf K c p = (0, c + 1, p + 1) := by
  have nb : ∀ why : Int, 0 ≤ why → VALf K c p ≠ bdc K c why := fun why hw z => by
    rw [z] at h
    have : 1 + 8 * K.2.2 c + why = 0 := h
    omega
  have e : VALf K c p = if K.1 c = 258 then (if K.2.1 c = -1 then bdc K c 1 else if 60 ≤ p then bdc K c 3 else (0, c + 1, p + 1)) else if 300 ≤ K.1 c ∧ K.1 c < 308 then (if 60 ≤ p then bdc K c 3 else (0, c + 1, p + 1)) else bdc K c 0 := rfl
  by_cases a : K.1 c = 258
  · rw [if_pos a] at e
    by_cases d : K.2.1 c = -1
    · rw [if_pos d] at e; exact absurd e (nb 1 (by decide))
    · rw [if_neg d] at e
      by_cases g : 60 ≤ p
      · rw [if_pos g] at e; exact absurd e (nb 3 (by decide))
      · rw [if_neg g] at e; exact e
  · rw [if_neg a] at e
    by_cases d : 300 ≤ K.1 c ∧ K.1 c < 308
    · rw [if_pos d] at e
      by_cases g : 60 ≤ p
      · rw [if_pos g] at e; exact absurd e (nb 3 (by decide))
      · rw [if_neg g] at e; exact e
    · rw [if_neg d] at e; exact absurd e (nb 0 (by decide))
theorem us_sumL_b {w : Int} (hb : 7 ≤ b) {N : Nat} {a2 a3 : Int32} {S : cT} (h : CB b S0' w S) : wl (fc_X8_readSum_L9 1 b N a2 a3 S) (fun y => CB b S0' w y.2.2) := by
  have e8 := h.2.2.2
  cases N with
  | zero => exact wl_none
  | succ N =>
    rw [fc_X8_readSum_L9]
    have l_43 : (43 : Int32).toInt = 43 := by decide
    have l_45 : (45 : Int32).toInt = 45 := by decide
    have l_42 : (42 : Int32).toInt = 42 := by decide
    have l_47 : (47 : Int32).toInt = 47 := by decide
    have l_37 : (37 : Int32).toInt = 37 := by decide
    refine wl_if (fun _ => wl_some h) (fun _ => ?_)
    refine wl_bind (R := fun w1 : Int32 => w1 = 0) ?_ (fun w1 h1 => ?_)
    · refine wl_eq (fun z => by exfalso; omega) (fun z => ?_)
      exact wl_eq (fun z => by exfalso; omega) (fun z => wl_some rfl)
    subst h1
    refine wl_if (fun _ => ?_) (fun z => absurd rfl z)
    refine wl_eq (fun z => by exfalso; omega) (fun z => ?_)
    refine wl_eq (fun z => by exfalso; omega) (fun z => ?_)
    exact wl_eq (fun z => by exfalso; omega) (fun z => wl_some h)
theorem us_sumL (hb : 7 ≤ b) (hT : CTp K m S0') : ∀ (N : Nat) (a2 a3 : Int32) (S : cT) (c p i : Nat), CS K m b S0' c p S → a3.toInt = (i : Int) → i ≤ c → wl (fc_X8_readSum_L9 1 b N a2 a3 S) (fun y => ∃ r, OPS K c p r ∧ CO K m b S0' r y.2.2 ∧ (r.1 = 0 → c ≤ r.2.1)) := by
  have l_1 : (1 : Int32).toInt = 1 := by decide
  have l_43 : (43 : Int32).toInt = 43 := by decide
  have l_45 : (45 : Int32).toInt = 45 := by decide
  have l_42 : (42 : Int32).toInt = 42 := by decide
  have l_47 : (47 : Int32).toInt = 47 := by decide
  have l_37 : (37 : Int32).toInt = 37 := by decide
  have l_400 : (400 : Int32).toInt = 400 := by decide
  have tm := hT.2.1
  have tz := hT.2.2.2
  intro N
  induction N with
  | zero => intro a2 a3 S c p i _ _ _; exact wl_none
  | succ N ih =>
    intro a2 a3 S c p i h e3 hi
    rw [fc_X8_readSum_L9]
    have h' := h
    obtain ⟨f, c1, p1, e7, e6, e8, e9, eb⟩ := h'
    have stop : ¬ isOp (K.1 c) → wl (some (a2, a3, S)) (fun y => ∃ r, OPS K c p r ∧ CO K m b S0' r y.2.2 ∧ (r.1 = 0 → c ≤ r.2.1)) := fun z => wl_some ⟨(0, c, p), OPS_stop z, Or.inr ⟨rfl, h⟩, fun _ => Nat.le_refl _⟩
    have go : ∀ w3 : Int32, isOp (K.1 c) → i < 400 → wl ((fc_X10_step 1 S).bind fun q16 => Option.bind (if w3 = 0 then (some (q16)) else (if a2 = 0 then (some (q16)) else ((fc_X7_addCode b (-a2) q16).bind fun q20 => some (q20))) : Option (cT)) fun w17 => (fc_X8_readValue 1 b w17).bind fun q21 => if w3 = 0 then ((fc_X7_addCode b (-(S.1 1 8)) q21).bind fun q23 => fc_X8_readSum_L9 1 b N a2 (a3 + 1) q23) else (fc_X8_readSum_L9 1 b N (S.1 1 8) (a3 + 1) q21)) (fun y => ∃ r, OPS K c p r ∧ CO K m b S0' r y.2.2 ∧ (r.1 = 0 → c ≤ r.2.1)) := by
      intro w3 op i4
      have cm : c < m := by
        by_cases z : c = m
        · rw [z, tz] at op
          exact absurd op (by decide)
        · omega
      have u := tA (a := a3) (b := 1) (by omega) (by omega)
      refine wl_bind (us_step hb hT h cm) (fun q16 h16 => ?_)
      refine wl_bind (R := fun q => CS K m b S0' (c + 1) p q) ?_ (fun w17 h17 => ?_)
      · refine wl_if (fun _ => wl_some h16) (fun _ => ?_)
        refine wl_if (fun _ => wl_some h16) (fun _ => ?_)
        exact wl_bind us_addCode (fun q20 o => wl_some (o.cs hb h16))
      refine wl_bind (us_readValue hb hT h17) (fun q21 h21 => ?_)
      have lp : ∀ (x : Int32) (q : cT), CO K m b S0' (VALf K (c + 1) p) q → wl (fc_X8_readSum_L9 1 b N x (a3 + 1) q) (fun y => ∃ r, OPS K c p r ∧ CO K m b S0' r y.2.2 ∧ (r.1 = 0 → c ≤ r.2.1)) := by
        intro x q hq
        rcases hq with ⟨a, hq⟩ | ⟨a, hq⟩
        · exact wl_mono (us_sumL_b hb hq) (fun y hy => ⟨_, OPS_bad op a, Or.inl ⟨a, hy⟩, fun z => absurd z a⟩)
        · have v := VALf_ok (hT.2.2.1 (c + 1) (by omega)).2.2.2.1 a
          rw [v] at hq
          refine wl_mono (ih x (a3 + 1) q (c + 1 + 1) (p + 1) (i + 1) hq (by omega) (by omega)) (fun y hy => ?_)
          obtain ⟨r, o, k, l⟩ := hy
          exact ⟨r, OPS_go op a (by rw [v]; exact o), k, fun z => by have := l z; omega⟩
      refine wl_if (fun _ => ?_) (fun _ => lp _ _ h21)
      exact wl_bind us_addCode (fun q23 o => lp _ _ (o.co hb h21))
    refine wl_le (fun z => stop (fun op => ?_)) (fun z => ?_)
    · have : c = m := by omega
      rw [this, tz] at op
      exact absurd op (by decide)
    refine wl_bind (R := fun w1 : Int32 => (w1 = 1 ∧ isOp (K.1 c)) ∨ (w1 = 0 ∧ K.1 c ≠ 43 ∧ K.1 c ≠ 45)) ?_ (fun w3 h3 => ?_)
    · refine wl_eq (fun z => wl_some (Or.inl ⟨rfl, Or.inl (by omega)⟩)) (fun z => ?_)
      exact wl_eq (fun z => wl_some (Or.inl ⟨rfl, Or.inr (Or.inl (by omega))⟩)) (fun y => wl_some (Or.inr ⟨rfl, by omega, by omega⟩))
    rcases h3 with ⟨rfl, op⟩ | ⟨rfl, n1, n2⟩
    · refine wl_if (fun z => absurd z (by decide)) (fun _ => ?_)
      exact go 1 op (by omega)
    · refine wl_if (fun _ => ?_) (fun z => absurd rfl z)
      refine wl_eq (fun y => go 0 (by omega) (by omega)) (fun y1 => ?_)
      refine wl_eq (fun y => go 0 (by omega) (by omega)) (fun y2 => ?_)
      exact wl_eq (fun y => go 0 (by omega) (by omega)) (fun y3 => stop (by omega))
theorem us_readSum {c p : Nat} {S : cT} (hb : 7 ≤ b) (hT : CTp K m S0') (h : CS K m b S0' c p S) : wl (fc_X8_readSum 1 b S) (fun S' => ∃ r, SUM K c p r ∧ CO K m b S0' r S' ∧ (r.1 = 0 → c ≤ r.2.1)) := by
  unfold fc_X8_readSum
  refine wl_bind (us_readValue hb hT h) (fun q1 h1 => ?_)
  refine wl_bind (R := fun w : Int32 × Int32 × cT => ∃ r, SUM K c p r ∧ CO K m b S0' r w.2.2 ∧ (r.1 = 0 → c ≤ r.2.1)) ?_ (fun w42 h42 => ?_)
  · rcases h1 with ⟨a, h1⟩ | ⟨a, h1⟩
    · exact wl_mono (us_sumL_b hb h1) (fun y hy => ⟨_, Or.inl ⟨a, rfl⟩, Or.inl ⟨a, hy⟩, fun z => absurd z a⟩)
    · have v := VALf_ok (hT.2.2.1 c h.2.1).2.2.2.1 a
      rw [v] at h1
      refine wl_mono (us_sumL hb hT FU 0 0 q1 (c + 1) (p + 1) 0 h1 (by decide) (Nat.zero_le _)) (fun y hy => ?_)
      obtain ⟨r, o, k, l⟩ := hy
      exact ⟨r, Or.inr ⟨a, by rw [v]; exact o⟩, k, fun z => by have := l z; omega⟩
  obtain ⟨r, o, k, l⟩ := h42
  refine wl_if (fun _ => wl_some ⟨r, o, k, l⟩) (fun _ => ?_)
  exact wl_bind us_addCode (fun q44 ow => wl_some ⟨r, o, ow.co hb k, l⟩)
theorem us_readSum_b {w : Int} {S : cT} (hb : 7 ≤ b) (h : CB b S0' w S) : wl (fc_X8_readSum 1 b S) (fun S' => CB b S0' w S') := by
  unfold fc_X8_readSum
  refine wl_bind (us_readValue_b h) (fun q1 h1 => ?_)
  refine wl_bind (us_sumL_b hb h1) (fun w42 h42 => ?_)
  refine wl_if (fun _ => wl_some h42) (fun _ => ?_)
  exact wl_bind us_addCode (fun q44 ow => wl_some (ow.cb hb h42))
theorem us_isComparing {v : Int32} : wl (fc_X8_isComparing v) (fun q => (q = true → isCm v.toInt) ∧ (q = false → ¬ isCm v.toInt)) := by
  unfold fc_X8_isComparing
  have l_60 : (60 : Int32).toInt = 60 := by decide
  have l_61 : (61 : Int32).toInt = 61 := by decide
  have l_62 : (62 : Int32).toInt = 62 := by decide
  have l_256 : (256 : Int32).toInt = 256 := by decide
  have l_257 : (257 : Int32).toInt = 257 := by decide
  refine wl_eq (fun z => wl_some ⟨fun _ => (by omega), fun y => by cases y⟩) (fun z1 => ?_)
  refine wl_eq (fun z => wl_some ⟨fun _ => (by omega), fun y => by cases y⟩) (fun z2 => ?_)
  refine wl_eq (fun z => wl_some ⟨fun _ => (by omega), fun y => by cases y⟩) (fun z3 => ?_)
  refine wl_eq (fun z => wl_some ⟨fun _ => (by omega), fun y => by cases y⟩) (fun z4 => ?_)
  exact wl_eq (fun z => wl_some ⟨fun _ => (by omega), fun y => by cases y⟩) (fun z5 => wl_some ⟨fun y => (by cases y), fun _ => by omega⟩)
def FO (K : KS) (m b : Nat) (S0' : cT) (l : List Bool) (c p : Nat) (S : cT) : Prop := (∃ r, r.1 ≠ 0 ∧ CB b S0' r.1 S ∧ MR K true l c p r) ∨ (∃ c' p', CS K m b S0' c' p' S ∧ c ≤ c' ∧ ∀ r, MR K false l c' p' r → MR K true l c p r)
def TO (K : KS) (m b : Nat) (S0' : cT) (d : Bool) (l : List Bool) (c p : Nat) (S : cT) : Prop := (∃ r, r.1 ≠ 0 ∧ CB b S0' r.1 S ∧ MR K d l c p r) ∨ (∃ c' p', CS K m b S0' c' p' S ∧ c ≤ c' ∧ K.1 c' ≠ 315 ∧ K.1 c' ≠ 316 ∧ ∀ r, MR K false l c' p' r → MR K d l c p r)
theorem Own.fo {l : List Bool} {c p : Nat} {S S' : cT} (hb : 7 ≤ b) (o : Own b S S') (h : FO K m b S0' l c p S) : FO K m b S0' l c p S' := by
  rcases h with ⟨r, a, k, x⟩ | ⟨c', p', k, x⟩
  · exact Or.inl ⟨r, a, o.cb hb k, x⟩
  · exact Or.inr ⟨c', p', o.cs hb k, x⟩
theorem Own.to {d : Bool} {l : List Bool} {c p : Nat} {S S' : cT} (hb : 7 ≤ b) (o : Own b S S') (h : TO K m b S0' d l c p S) : TO K m b S0' d l c p S' := by
  rcases h with ⟨r, a, k, x⟩ | ⟨c', p', k, x⟩
  · exact Or.inl ⟨r, a, o.cb hb k, x⟩
  · exact Or.inr ⟨c', p', o.cs hb k, x⟩
def RdF (K : KS) (m b : Nat) (S0' : cT) (rd : RD) : Prop := (∀ (l : List Bool) (c p : Nat) (p2 : Int32) (S : cT), CS K m b S0' c p S → p2.toInt = (l.length : Int) → l.length ≤ 10 → wl (rd 1 1 b p2 S) (fun S' => FO K m b S0' l c p S')) ∧ (∀ (l : List Bool) (c p : Nat) (p2 : Int32) (S : cT), CS K m b S0' c p S → p2.toInt = (l.length : Int) → l.length ≤ 10 → dn l = l → wl (rd 0 1 b p2 S) (fun S' => TO K m b S0' true l c p S')) ∧ (∀ (l : List Bool) (c p : Nat) (p2 : Int32) (S : cT), CS K m b S0' c p S → (K.1 c = 317 ∨ K.1 c = 91) → p2.toInt = (l.length : Int) → l.length ≤ 10 → wl (rd 2 1 b p2 S) (fun S' => FO K m b S0' l c p S')) ∧ (∀ (i : Nat) (p2 : Int32) (w : Int) (S : cT), CB b S0' w S → wl (rd i 1 b p2 S) (fun S' => CB b S0' w S'))
theorem us_testL_b {rd : RD} {w : Int} {N : Nat} {k2 a3 a4 : Int32} {S : cT} (h : CB b S0' w S) : wl (fb_X8_readTest_L11 rd 1 b k2 N a3 a4 S) (fun y => CB b S0' w y.2.2) := by
  have e8 := h.2.2.2
  cases N with
  | zero => exact wl_none
  | succ N =>
    rw [fb_X8_readTest_L11]
    have l_316 : (316 : Int32).toInt = 316 := by decide
    have l_315 : (315 : Int32).toInt = 315 := by decide
    refine wl_if (fun _ => wl_some h) (fun _ => ?_)
    refine wl_eq (fun z => by exfalso; omega) (fun z => ?_)
    exact wl_eq (fun z => by exfalso; omega) (fun z => wl_some h)
theorem us_testL {rd : RD} (hb : 7 ≤ b) (hT : CTp K m S0') (hR : RdF K m b S0' rd) {l : List Bool} {k2 : Int32} (hl : k2.toInt = (l.length : Int)) (h10 : l.length ≤ 10) (hd : dn l = l) : ∀ (N : Nat) (a3 a4 : Int32) (S : cT) (c p i : Nat), CS K m b S0' c p S → a4.toInt = (i : Int) → i ≤ c → wl (fb_X8_readTest_L11 rd 1 b k2 N a3 a4 S) (fun y => TO K m b S0' false l c p y.2.2) := by
  have l_1 : (1 : Int32).toInt = 1 := by decide
  have l_316 : (316 : Int32).toInt = 316 := by decide
  have l_315 : (315 : Int32).toInt = 315 := by decide
  have l_400 : (400 : Int32).toInt = 400 := by decide
  have tm := hT.2.1
  have tz := hT.2.2.2
  intro N
  induction N with
  | zero => intro a3 a4 S c p i _ _ _; exact wl_none
  | succ N ih =>
    intro a3 a4 S c p i h e4 hi
    rw [fb_X8_readTest_L11]
    have h' := h
    obtain ⟨f, c1, p1, e7, e6, e8, e9, eb⟩ := h'
    have stop : K.1 c ≠ 315 → K.1 c ≠ 316 → wl (some (a3, a4, S)) (fun y => TO K m b S0' false l c p y.2.2) := fun z y => wl_some (Or.inr ⟨c, p, h, Nat.le_refl _, z, y, fun r k => k⟩)
    have lp : ∀ (x : Int32) (q : cT), (K.1 c = 315 ∨ K.1 c = 316) → i < 400 → FO K m b S0' l (c + 1) p q → wl (fb_X8_readTest_L11 rd 1 b k2 N x (a4 + 1) q) (fun y => TO K m b S0' false l c p y.2.2) := by
      intro x q op i4 hq
      have u := tA (a := a4) (b := 1) (by omega) (by omega)
      rcases hq with ⟨r, a, k, mr⟩ | ⟨c', p', k, le, mr⟩
      · exact wl_mono (us_testL_b k) (fun y hy => Or.inl ⟨r, a, hy, MR_jn op (by rw [hd]; exact mr)⟩)
      · refine wl_mono (ih x (a4 + 1) q c' p' (i + 1) k (by omega) (by omega)) (fun y hy => ?_)
        rcases hy with ⟨r, a, k2', mr2⟩ | ⟨c2, p2', k2', le2, n1, n2, mr2⟩
        · exact Or.inl ⟨r, a, k2', MR_jn op (by rw [hd]; exact mr r mr2)⟩
        · exact Or.inr ⟨c2, p2', k2', by omega, n1, n2, fun r z => MR_jn op (by rw [hd]; exact mr r (mr2 r z))⟩
    have go : (K.1 c = 315 ∨ K.1 c = 316) → i < 400 → wl ((fc_X10_step 1 S).bind fun q4 => Option.bind (if (S.1 1 8) = 315 then (if a3 = 0 then (some (q4)) else ((fc_X7_addCode b (-315) q4).bind fun q8 => some (q8))) else (some (q4)) : Option (cT)) fun w5 => Option.bind (if (S.1 1 8) = 315 then (some (1)) else (some (0)) : Option (Int32)) fun w9 => (rd 1 1 b k2 w5).bind fun q11 => if (S.1 1 8) = 316 then ((fc_X7_addCode b (-316) q11).bind fun q13 => fb_X8_readTest_L11 rd 1 b k2 N (a3 ||| w9) (a4 + 1) q13) else (fb_X8_readTest_L11 rd 1 b k2 N (a3 ||| w9) (a4 + 1) q11)) (fun y => TO K m b S0' false l c p y.2.2) := by
      intro op i4
      have cm : c < m := by
        by_cases z : c = m
        · rw [z, tz] at op
          exact absurd op (by decide)
        · omega
      refine wl_bind (us_step hb hT h cm) (fun q4 h4 => ?_)
      refine wl_bind (R := fun q => CS K m b S0' (c + 1) p q) ?_ (fun w5 h5 => ?_)
      · refine wl_if (fun _ => ?_) (fun _ => wl_some h4)
        refine wl_if (fun _ => wl_some h4) (fun _ => ?_)
        exact wl_bind us_addCode (fun q8 o => wl_some (o.cs hb h4))
      refine wl_bind wl_any (fun w9 _ => ?_)
      refine wl_bind (hR.1 l (c + 1) p k2 w5 h5 hl h10) (fun q11 h11 => ?_)
      refine wl_if (fun _ => ?_) (fun _ => lp _ _ op i4 h11)
      exact wl_bind us_addCode (fun q13 o => lp _ _ op i4 (o.fo hb h11))
    refine wl_le (fun z => ?_) (fun z => ?_)
    · have : c = m := by omega
      exact stop (by rw [this, tz]; decide) (by rw [this, tz]; decide)
    refine wl_eq (fun y => go (Or.inr (by omega)) (by omega)) (fun y1 => ?_)
    exact wl_eq (fun y => go (Or.inl (by omega)) (by omega)) (fun y2 => stop (by omega) (by omega))
theorem us_rd (hb : 7 ≤ b) (hT : CTp K m S0') : ∀ N : Nat, RdF K m b S0' (fc_rd N) := by
  have l_1 : (1 : Int32).toInt = 1 := by decide
  have l_10 : (10 : Int32).toInt = 10 := by decide
  have l_60 : (60 : Int32).toInt = 60 := by decide
  have l_91 : (91 : Int32).toInt = 91 := by decide
  have l_93 : (93 : Int32).toInt = 93 := by decide
  have l_317 : (317 : Int32).toInt = 317 := by decide
  have l_0 : (0 : Int32).toInt = 0 := by decide
  have tm := hT.2.1
  have tz := hT.2.2.2
  have lm : ∀ {c : Nat}, c ≤ m → K.1 c ≠ 260 → c < m := fun {c} h1 h2 => by
    by_cases z : c = m
    · rw [z] at h2; exact absurd tz h2
    · omega
  intro N
  induction N with
  | zero => exact ⟨fun _ _ _ _ _ _ _ _ => wl_none, fun _ _ _ _ _ _ _ _ _ => wl_none, fun _ _ _ _ _ _ _ _ _ => wl_none, fun _ _ _ _ _ => wl_none⟩
  | succ N ih =>
    refine ⟨fun l c p p2 S h hl h10 => ?_, fun l c p p2 S h hl h10 hd => ?_, fun l c p p2 S h ho hl h10 => ?_, fun i p2 w S h => ?_⟩
    · show wl (fb_X8_readFact (fc_rd N) 1 b p2 S) _
      unfold fb_X8_readFact
      have e8 := h.2.2.2.2.2.1
      refine wl_eq (fun z => wl_bind (ih.2.2.1 l c p p2 S h (Or.inl (by omega)) hl h10) (fun q hq => wl_some hq)) (fun z1 => ?_)
      refine wl_eq (fun z => wl_bind (ih.2.2.1 l c p p2 S h (Or.inr (by omega)) hl h10) (fun q hq => wl_some hq)) (fun z2 => ?_)
      have k1 : K.1 c ≠ 317 := by omega
      have k2 : K.1 c ≠ 91 := by omega
      refine wl_bind (us_readSum hb hT h) (fun q4 h4 => ?_)
      obtain ⟨s, sm, co, sl⟩ := h4
      refine wl_bind us_isComparing (fun q5 h5 => ?_)
      rcases co with ⟨a, cb⟩ | ⟨a, cs⟩
      · have e48 := cb.2.2.2
        refine wl_b (fun _ => wl_bind (us_refuse_b cb) (fun q hq => wl_some (Or.inl ⟨s, a, hq, MR_cb k1 k2 ⟨s, sm, Or.inl ⟨a, rfl⟩⟩ a⟩))) (fun b5 => ?_)
        have := h5.1 b5
        exfalso
        omega
      · have e48 := cs.2.2.2.2.2.1
        have e4b := cs.2.2.2.2.2.2.2
        refine wl_b (fun b5 => ?_) (fun b5 => ?_)
        · have nc := h5.2 b5
          rw [e48] at nc
          refine wl_bind (us_refuse hT hb cs l_0 (by decide) (by decide)) (fun q hq => wl_some (Or.inl ⟨bdc K s.2.1 0, hq.2.1, hq, MR_cb k1 k2 ⟨s, sm, Or.inr ⟨a, Or.inl ⟨nc, rfl⟩⟩⟩ hq.2.1⟩))
        · have yc := h5.1 b5
          rw [e48] at yc
          refine wl_lt (fun z => ?_) (fun z => ?_)
          · refine wl_letv (fun S8 e8' => ?_)
            have c8 : CS K m b S0' s.2.1 (s.2.2 + 1) S8 := by rw [e8']; exact cs_part hb cs (by omega)
            refine wl_bind (us_step hb hT c8 (lm c8.2.1 (by omega))) (fun q9 h9 => ?_)
            refine wl_bind (us_readSum hb hT h9) (fun q10 h10' => ?_)
            obtain ⟨r, sm2, co2, sl2⟩ := h10'
            have cp : CMP K c p r := ⟨s, sm, Or.inr ⟨a, Or.inr ⟨yc, Or.inr ⟨by omega, sm2⟩⟩⟩⟩
            refine wl_bind us_addCode (fun q11 o => wl_some ?_)
            rcases o.co hb co2 with ⟨a2, cb⟩ | ⟨a2, cs2⟩
            · exact Or.inl ⟨r, a2, cb, MR_cb k1 k2 cp a2⟩
            · exact Or.inr ⟨r.2.1, r.2.2, cs2, by have := sl a; have := sl2 a2; omega, fun y hy => MR_co k1 k2 cp a2 hy⟩
          · refine wl_bind (us_refuse hT hb cs (why := 3) (by decide) (by decide) (by decide)) (fun q hq => wl_some (Or.inl ⟨bdc K s.2.1 3, hq.2.1, hq, MR_cb k1 k2 ⟨s, sm, Or.inr ⟨a, Or.inr ⟨yc, Or.inl ⟨by omega, rfl⟩⟩⟩⟩ hq.2.1⟩))
    · show wl (fb_X8_readTest (fc_rd N) 1 b p2 S) _
      unfold fb_X8_readTest
      refine wl_bind (ih.1 l c p p2 S h hl h10) (fun q1 h1 => ?_)
      refine wl_bind (R := fun w : Int32 × Int32 × cT => TO K m b S0' true l c p w.2.2) ?_ (fun w25 h25 => ?_)
      · rcases h1 with ⟨r, a, k, mr⟩ | ⟨c', p', k, le, mr⟩
        · exact wl_mono (us_testL_b k) (fun y hy => Or.inl ⟨r, a, hy, mr⟩)
        · refine wl_mono (us_testL hb hT ih hl h10 hd FU 0 0 q1 c' p' 0 k l_0 (Nat.zero_le _)) (fun y hy => ?_)
          rcases hy with ⟨r, a, k2, mr2⟩ | ⟨c2, p2', k2, le2, n1, n2, mr2⟩
          · exact Or.inl ⟨r, a, k2, mr r mr2⟩
          · exact Or.inr ⟨c2, p2', k2, by omega, n1, n2, fun r z => mr r (mr2 r z)⟩
      · refine wl_if (fun _ => wl_some h25) (fun _ => ?_)
        exact wl_bind us_addCode (fun q27 o => wl_some (o.to hb h25))
    · show wl (fb_X8_readOpened (fc_rd N) 1 b p2 S) _
      unfold fb_X8_readOpened
      have e8 := h.2.2.2.2.2.1
      refine wl_lt (fun z => ?_) (fun z => ?_)
      · have u := tA (a := p2) (b := 1) (by omega) (by omega)
        refine wl_bind (R := fun w : Int32 => (w = 1 ∧ K.1 c = 317) ∨ (w = 0 ∧ K.1 c = 91)) ?_ (fun w2 h2 => ?_)
        · exact wl_eq (fun y => wl_some (Or.inl ⟨rfl, by omega⟩)) (fun y => wl_some (Or.inr ⟨rfl, by omega⟩))
        refine wl_bind (us_step hb hT h (lm h.2.1 (by omega))) (fun q4 h4 => ?_)
        rcases h2 with ⟨rfl, k⟩ | ⟨rfl, k⟩
        · refine wl_if (fun y => absurd y (by decide)) (fun _ => ?_)
          refine wl_bind (ih.1 (false :: l) (c + 1) p (p2 + 1) q4 h4 (by show _ = ((l.length + 1 : Nat) : Int); omega) (by show l.length + 1 ≤ 10; omega)) (fun q11 h11 => ?_)
          refine wl_bind us_addCode (fun q12 o => wl_some ?_)
          rcases o.fo hb h11 with ⟨r, a, kb, mr⟩ | ⟨c', p', kc, le, mr⟩
          · exact Or.inl ⟨r, a, kb, MR_not k (by omega) mr⟩
          · exact Or.inr ⟨c', p', kc, by omega, fun r y => MR_not k (by omega) (mr r (MR_eq (l := l) (l' := false :: l) rfl y))⟩
        · refine wl_if (fun _ => ?_) (fun y => absurd rfl y)
          refine wl_bind (ih.2.1 (true :: l) (c + 1) p (p2 + 1) q4 h4 (by show _ = ((l.length + 1 : Nat) : Int); omega) (by show l.length + 1 ≤ 10; omega) rfl) (fun q6 h6 => ?_)
          rcases h6 with ⟨r, a, kb, mr⟩ | ⟨c', p', kc, le, n1, n2, mr⟩
          · have e68 := kb.2.2.2
            refine wl_eq (fun y => by exfalso; omega) (fun _ => ?_)
            exact wl_bind (us_refuse_b kb) (fun q9 h9 => wl_bind (us_step_b h9) (fun q10 h10' => wl_some (Or.inl ⟨r, a, h10', MR_br k (by omega) mr⟩)))
          · have e68 := kc.2.2.2.2.2.1
            refine wl_eq (fun y => ?_) (fun y => ?_)
            · refine wl_bind (us_step hb hT kc (lm kc.2.1 (by omega))) (fun q8 h8 => wl_some (Or.inr ⟨c' + 1, p', h8, by omega, fun r x => MR_br k (by omega) (mr r (MR_cl (by omega) (by intro e; cases e) x))⟩))
            · refine wl_bind (us_refuse hT hb kc l_0 (by decide) (by decide)) (fun q9 h9 => ?_)
              exact wl_bind (us_step_b h9) (fun q10 h10' => wl_some (Or.inl ⟨bdc K c' 0, h10'.2.1, h10', MR_br k (by omega) (mr _ (MR_in (by omega) n1 n2 (by intro e; cases e)))⟩))
      · refine wl_bind (us_refuse hT hb h (why := 2) (by decide) (by decide) (by decide)) (fun q13 h13 => wl_some (Or.inl ⟨bdc K c 2, h13.2.1, h13, MR_deep ho (by omega)⟩))
    · have e8 := h.2.2.2
      have f0 : wl (fb_X8_readFact (fc_rd N) 1 b p2 S) (fun S' => CB b S0' w S') := by
        unfold fb_X8_readFact
        refine wl_eq (fun z => by exfalso; omega) (fun z1 => ?_)
        refine wl_eq (fun z => by exfalso; omega) (fun z2 => ?_)
        refine wl_bind (us_readSum_b hb h) (fun q4 h4 => ?_)
        have e48 := h4.2.2.2
        refine wl_bind us_isComparing (fun q5 h5 => ?_)
        refine wl_b (fun _ => wl_bind (us_refuse_b h4) (fun q hq => wl_some hq)) (fun b5 => ?_)
        have := h5.1 b5
        exfalso
        omega
      have t0 : wl (fb_X8_readTest (fc_rd N) 1 b p2 S) (fun S' => CB b S0' w S') := by
        unfold fb_X8_readTest
        refine wl_bind (ih.2.2.2 1 p2 w S h) (fun q1 h1 => ?_)
        refine wl_bind (us_testL_b h1) (fun w25 h25 => ?_)
        refine wl_if (fun _ => wl_some h25) (fun _ => ?_)
        exact wl_bind us_addCode (fun q27 o => wl_some (o.cb hb h25))
      have o0 : wl (fb_X8_readOpened (fc_rd N) 1 b p2 S) (fun S' => CB b S0' w S') := by
        unfold fb_X8_readOpened
        refine wl_if (fun _ => ?_) (fun _ => wl_bind (us_refuse_b h) (fun q hq => wl_some hq))
        refine wl_bind wl_any (fun w2 _ => ?_)
        refine wl_bind (us_step_b h) (fun q4 h4 => ?_)
        refine wl_if (fun _ => ?_) (fun _ => ?_)
        · refine wl_bind (ih.2.2.2 0 _ w q4 h4) (fun q6 h6 => ?_)
          refine wl_if (fun _ => wl_bind (us_step_b h6) (fun q hq => wl_some hq)) (fun _ => ?_)
          exact wl_bind (us_refuse_b h6) (fun q9 h9 => wl_bind (us_step_b h9) (fun q10 h10' => wl_some h10'))
        · refine wl_bind (ih.2.2.2 1 _ w q4 h4) (fun q11 h11 => ?_)
          exact wl_bind us_addCode (fun q12 o => wl_some (o.cb hb h11))
      match i with
      | 0 => exact t0
      | 1 => exact f0
      | i + 2 => exact o0
theorem us_readClause {c p i : Nat} {p2 : Int32} {S : cT} (hb : 7 ≤ b) (hT : CTp K m S0') (h : CS K m b S0' c p S) (hi : p2.toInt = (i : Int)) : wl (fc_X8_readClause 1 b p2 S) (fun S' => ∃ r, CLS K i c p r ∧ CO K m b S0' r S') := by
  unfold fc_X8_readClause
  have l_0 : (0 : Int32).toInt = 0 := by decide
  have l_12 : (12 : Int32).toInt = 12 := by decide
  have l_312 : (312 : Int32).toInt = 312 := by decide
  have l_313 : (313 : Int32).toInt = 313 := by decide
  have l_314 : (314 : Int32).toInt = 314 := by decide
  have tz := hT.2.2.2
  have lm : ∀ {c : Nat}, c ≤ m → K.1 c ≠ 260 → c < m := fun {c} h1 h2 => by
    by_cases z : c = m
    · rw [z] at h2; exact absurd tz h2
    · omega
  have e8 := h.2.2.2.2.2.1
  have go : ∀ x : Int32, (K.1 c = 312 ∨ K.1 c = 313) → wl (if p2 < 12 then ((fc_X10_step 1 S).bind fun q3 => (fc_X8_readSum 1 b q3).bind fun q4 => Option.bind (if (q4.1 1 8) = 314 then ((fc_X10_step 1 q4).bind fun q7 => (fc_rd 40 0 1 b 0 q7).bind fun q8 => some (q8)) else (some (q4)) : Option (cT)) fun w5 => (fc_X7_addClause b x (q3.1 b 5) (q4.1 b 5) w5).bind fun q9 => some q9) else ((fc_X10_refuse 1 4 S).bind fun q10 => some q10)) (fun S' => ∃ r, CLS K i c p r ∧ CO K m b S0' r S') := by
    intro x k
    refine wl_lt (fun z => ?_) (fun z => ?_)
    · refine wl_bind (us_step hb hT h (lm h.2.1 (by omega))) (fun q3 h3 => ?_)
      refine wl_bind (us_readSum hb hT h3) (fun q4 h4 => ?_)
      obtain ⟨s, sm, co, _⟩ := h4
      refine wl_bind (R := fun q => ∃ r, CLS K i c p r ∧ CO K m b S0' r q) ?_ (fun w5 h5 => ?_)
      · rcases co with ⟨a, cb⟩ | ⟨a, cs⟩
        · have e48 := cb.2.2.2
          exact wl_eq (fun y => by exfalso; omega) (fun _ => wl_some ⟨s, Or.inr ⟨k, Or.inr ⟨by omega, s, sm, Or.inl ⟨a, rfl⟩⟩⟩, Or.inl ⟨a, cb⟩⟩)
        · have e48 := cs.2.2.2.2.2.1
          refine wl_eq (fun y => ?_) (fun y => wl_some ⟨s, Or.inr ⟨k, Or.inr ⟨by omega, s, sm, Or.inr ⟨a, Or.inr ⟨by omega, rfl⟩⟩⟩⟩, Or.inr ⟨a, cs⟩⟩)
          refine wl_bind (us_step hb hT cs (lm cs.2.1 (by omega))) (fun q7 h7 => ?_)
          refine wl_bind ((us_rd hb hT 40).2.1 [] (s.2.1 + 1) s.2.2 0 q7 h7 l_0 (by decide) rfl) (fun q8 h8 => wl_some ?_)
          rcases h8 with ⟨r, a2, kb, mr⟩ | ⟨c', p', kc, le, n1, n2, mr⟩
          · exact ⟨r, Or.inr ⟨k, Or.inr ⟨by omega, s, sm, Or.inr ⟨a, Or.inl ⟨by omega, mr⟩⟩⟩⟩, Or.inl ⟨a2, kb⟩⟩
          · exact ⟨(0, c', p'), Or.inr ⟨k, Or.inr ⟨by omega, s, sm, Or.inr ⟨a, Or.inl ⟨by omega, mr _ (MR_dn n1 n2 rfl)⟩⟩⟩⟩, Or.inr ⟨rfl, kc⟩⟩
      · obtain ⟨r, cl, co⟩ := h5
        exact wl_bind us_addClause (fun q9 o => wl_some ⟨r, cl, o.co hb co⟩)
    · refine wl_bind (us_refuse hT hb h (why := 4) (by decide) (by decide) (by decide)) (fun q10 h10 => wl_some ⟨bdc K c 4, Or.inr ⟨k, Or.inl ⟨by omega, rfl⟩⟩, Or.inl ⟨h10.2.1, h10⟩⟩)
  refine wl_eq (fun z => go _ (Or.inl (by omega))) (fun z1 => ?_)
  refine wl_eq (fun z => go _ (Or.inr (by omega))) (fun z2 => ?_)
  refine wl_bind (us_refuse hT hb h l_0 (by decide) (by decide)) (fun q10 h10 => wl_some ⟨bdc K c 0, Or.inl ⟨by omega, rfl⟩, Or.inl ⟨h10.2.1, h10⟩⟩)
theorem us_readAllL (hb : 7 ≤ b) (hT : CTp K m S0') : ∀ (N : Nat) (a2 : Int32) (S : cT) (c p i : Nat), CS K m b S0' c p S → a2.toInt = (i : Int) → i ≤ 12 → wl (fc_X8_readAll_L10 1 b N a2 S) (fun w => (∃ r, r.1 ≠ 0 ∧ ALL K i c p r ∧ CB b S0' r.1 w.2) ∨ (∃ c' p', CS K m b S0' c' p' w.2 ∧ (K.1 c' = 260 → ALL K i c p (0, c', p')) ∧ (K.1 c' ≠ 260 → ALL K i c p (bdc K c' 0)))) := by
  have l_1 : (1 : Int32).toInt = 1 := by decide
  have l_12 : (12 : Int32).toInt = 12 := by decide
  have l_59 : (59 : Int32).toInt = 59 := by decide
  have tz := hT.2.2.2
  intro N
  induction N with
  | zero => intro a2 S c p i _ _ _; exact wl_none
  | succ N ih =>
    intro a2 S c p i h e2 hi
    rw [fc_X8_readAll_L10]
    refine wl_lt (fun z => by exfalso; omega) (fun _ => ?_)
    refine wl_bind (us_readClause hb hT h e2) (fun q4 h4 => ?_)
    obtain ⟨r, cl, co⟩ := h4
    rcases co with ⟨a, cb⟩ | ⟨a, cs⟩
    · have e48 := cb.2.2.2
      exact wl_eq (fun y => by exfalso; omega) (fun _ => wl_some (Or.inl ⟨r, a, ALL_bad cl a, cb⟩))
    · have e48 := cs.2.2.2.2.2.1
      refine wl_eq (fun y => ?_) (fun y => wl_some (Or.inr ⟨r.2.1, r.2.2, cs, fun z => ?_, fun z => ALL_more cl a (by omega) z⟩))
      · have i12 : i < 12 := by
          by_cases z : 12 ≤ i
          · exfalso
            rcases cl with ⟨_, rfl⟩ | ⟨_, ⟨_, rfl⟩ | ⟨q, _⟩⟩
            · have := (hT.2.2.1 c h.2.1).2.2.2.1
              have : 1 + 8 * K.2.2 c + 0 = 0 := a
              omega
            · have := (hT.2.2.1 c h.2.1).2.2.2.1
              have : 1 + 8 * K.2.2 c + 4 = 0 := a
              omega
            · omega
          · omega
        have u := tA (a := a2) (b := 1) (by omega) (by omega)
        have cm : r.2.1 < m := by
          by_cases z : r.2.1 = m
          · rw [z, tz] at e48
            omega
          · have := cs.2.1
            omega
        refine wl_bind (us_step hb hT cs cm) (fun q6 h6 => ?_)
        refine wl_mono (ih (a2 + 1) q6 (r.2.1 + 1) r.2.2 (i + 1) h6 (by omega) (by omega)) (fun w hw => ?_)
        rcases hw with ⟨s, b1, b2, b3⟩ | ⟨c', p', b1, b2, b3⟩
        · exact Or.inl ⟨s, b1, ALL_go cl a (by omega) b2, b3⟩
        · exact Or.inr ⟨c', p', b1, fun z => ALL_go cl a (by omega) (b2 z), fun z => ALL_go cl a (by omega) (b3 z)⟩
      · have e : r = (0, r.2.1, r.2.2) := by
          rw [← a]
        rw [← e]
        exact ALL_end cl a (by omega) z
end CRD
/-- the class's reader of rules: what it finds wrong is what ALL tells -/
theorem us_readAll {B : Nat → Int} {n b : Nat} {S : cT} (hb : 7 ≤ b) (hB : BY B n) (h : CTB B n S) : wl (fc_X8_readAll 1 b S) (fun S' => (∃ K m E po r, STR B n K m E po ∧ ALL K 0 0 0 r ∧ (S'.1 1 7).toInt = r.1) ∧ ∀ q j, q ≠ 1 → q ≠ 3 → q ≠ 4 → q ≠ 5 → (q < b ∨ b + 5 < q) → S'.1 q j = S.1 q j) := by
  unfold fc_X8_readAll
  have l_0 : (0 : Int32).toInt = 0 := by decide
  have l_260 : (260 : Int32).toInt = 260 := by decide
  have hn := hB.1
  refine wl_bind (R := fun q1 => CTB B n q1 ∧ (q1.1 b 7).toInt = 0 ∧ ∀ q j, (q < b ∨ b + 5 < q) → q1.1 q j = S.1 q j) ?_ (fun q1 h1 => ?_)
  · unfold fc_X7_clear
    refine wl_letv (fun S1 e1 => ?_)
    refine wl_letv (fun S2 e2 => ?_)
    refine wl_letv (fun S3 e3 => wl_some ?_)
    have z : ∀ q j, (q < b ∨ b + 5 < q) → S3.1 q j = S.1 q j := fun q j hq => by rw [e3, ca_ne (Or.inl (by omega)), e2, ca_ne (Or.inl (by omega)), e1, ca_ne (Or.inl (by omega))]
    refine ⟨⟨by rw [z 1 4 (by omega)]; exact h.1, fun k hk => by rw [z 2 k (by omega)]; exact h.2 k hk⟩, ?_, z⟩
    rw [e3, ca_at]
    exact l_0
  obtain ⟨C1, z7, f1⟩ := h1
  refine wl_bind (uc_scan hB C1) (fun q2 h2 => ?_)
  obtain ⟨⟨m, E, po, st, e5⟩, e6, e7, e8, e9, f2⟩ := h2
  have st' := st
  obtain ⟨s1, s2, s3, s4, s5, s6, s7⟩ := st'
  have hT : CTp (KC q2) m q2 := by
    refine ⟨e5, by omega, fun c hc => ⟨rfl, rfl, rfl, ?_⟩, s6⟩
    have pc := s7 c hc
    by_cases z : c = m
    · subst z
      rw [pc, s5, s6]
      omega
    · obtain ⟨_, tk⟩ := s3 c (by omega)
      have g := tk.gt hB
      have k0 : 0 ≤ (KC q2).1 c ∧ (KC q2).1 c ≤ 400 := by
        rcases tk.2.2 with ⟨_, _, k, _⟩ | ⟨_, _, k, _⟩ | ⟨_, _, _, ⟨_, _, k, _⟩ | ⟨_, k, _⟩⟩
        · omega
        · rcases k with ⟨i, i1, k, _⟩ | ⟨k, _⟩
          · omega
          · omega
        · by_cases y : B (po c) = 60
          · rw [if_pos y] at k; omega
          · rw [if_neg y] at k; omega
        · have := hB.2.1 (po c)
          omega
      have := tk.1
      rw [pc]
      omega
  have C : CS (KC q2) m b q2 0 0 q2 := ⟨⟨fun _ _ _ _ => rfl, fun _ _ => rfl⟩, Nat.zero_le _, Nat.zero_le _, e7, e6, by rw [e8]; rfl, by rw [e9]; rfl, by rw [f2 b 7 (by omega) (by omega) (by omega) (by omega)]; exact z7⟩
  have frame : ∀ q' : cT, Frr b q2 q' → ∀ q j, q ≠ 1 → q ≠ 3 → q ≠ 4 → q ≠ 5 → (q < b ∨ b + 5 < q) → q'.1 q j = S.1 q j := fun q' fr q j a1 a3 a4 a5 ab => by
    rw [fr.1 q j a1 ab, f2 q j a1 a3 a4 a5, f1 q j ab]
  refine wl_bind (us_readAllL hb hT FU 0 q2 0 0 0 C l_0 (by decide)) (fun w7 h7 => ?_)
  rcases h7 with ⟨r, a, al, cb⟩ | ⟨c', p', cs, y1, y2⟩
  · have e48 := cb.2.2.2
    refine wl_eq (fun y => by exfalso; omega) (fun _ => ?_)
    refine wl_bind (us_refuse_b cb) (fun q9 h9 => wl_some ⟨⟨_, m, E, po, r, st, al, h9.2.2.1⟩, frame _ h9.1⟩)
  · have e48 := cs.2.2.2.2.2.1
    refine wl_eq (fun y => wl_some ⟨⟨_, m, E, po, _, st, y1 (by omega), cs.2.2.2.1⟩, frame _ cs.1⟩) (fun y => ?_)
    refine wl_bind (us_refuse hT hb cs l_0 (by decide) (by decide)) (fun q9 h9 => wl_some ⟨⟨_, m, E, po, _, st, y2 (by omega), h9.2.2.1⟩, frame _ h9.1⟩)
