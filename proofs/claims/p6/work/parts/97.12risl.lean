/-! ===== islands: the reference reads all ===== -/
section RIS
variable {B : Nat → Int} {n : Nat} {K : KS} {m : Nat} {E po : Nat → Nat}
/-- all but what reading an island's line writes -/
def Lm (T T' : mT) : Prop := ∀ r j, r ≠ 6 → (r ≠ 0 ∨ (j ≠ 8 ∧ j ≠ 9 ∧ j ≠ 10 ∧ j ≠ 17)) → T'.1 r j = T.1 r j
theorem Lm.rfl' {T : mT} : Lm T T := fun _ _ _ _ => rfl
theorem Lm.trans {A B C : mT} (h : Lm A B) (g : Lm B C) : Lm A C := fun r j a b => (g r j a b).trans (h r j a b)
theorem Lm.nx {A B : mT} {q : Nat} (h : Nx A B q) : Lm A B := fun r j a b => h.2 r j (by omega)
/-- the reference's faces and ties of those who are there -/
def HRn (pp : Nat) (C : CR) (T : mT) : Prop := (∀ p, p < pp → (T.1 6 (8 + 4 * p)).toInt = C p) ∧ (∀ p q, p < pp → q < pp → (T.1 6 (40 + 8 * p + q)).toInt = C (8 + 8 * p + q)) ∧ ∀ p q, p < 8 → q < 8 → pp ≤ p ∨ pp ≤ q → C (8 + 8 * p + q) = 0
theorem HRn.fr {pp : Nat} {C : CR} {T T' : mT} (h : HRn pp C T) (h8 : pp ≤ 8) (f : ∀ j, 8 ≤ j → j < 104 → T'.1 6 j = T.1 6 j) : HRn pp C T' := ⟨fun p hp => by rw [f _ (by omega) (by omega)]; exact h.1 p hp, fun p q hp hq => by rw [f _ (by omega) (by omega)]; exact h.2.1 p q hp hq, h.2.2⟩
def IS (B : Nat → Int) (n : Nat) (po : Nat → Nat) (m c mq pp : Nat) (C : CR) (T : mT) : Prop := c ≤ m ∧ RSt B n po c 0 T ∧ (T.1 6 0).toInt = (mq : Int) ∧ mq ≤ 6 ∧ (T.1 6 1).toInt = (pp : Int) ∧ pp ≤ 8 ∧ HRn pp C T
def IO (B : Nat → Int) (n : Nat) (po : Nat → Nat) (m : Nat) (r : RI) (T : mT) (w : Bool × mT) : Prop := (r.1 ≠ 0 ∧ w.1 = false ∧ (w.2.1 0 9).toInt = r.1) ∨ (r.1 = 0 ∧ w.1 = true ∧ IS B n po m r.2.1 r.2.2.1 r.2.2.2.1 r.2.2.2.2 w.2 ∧ Lm T w.2)
theorem IS.q {c mq pp : Nat} {Cc : CR} {T T' : mT} {q : Nat} (h : IS B n po m c mq pp Cc T) (x : Nx T T' q) {c' : Nat} (hc : c' ≤ m) (R : RSt B n po c' 0 T') : IS B n po m c' mq pp Cc T' := ⟨hc, R, by rw [x.2 6 0 (Or.inl (by decide))]; exact h.2.2.1, h.2.2.2.1, by rw [x.2 6 1 (Or.inl (by decide))]; exact h.2.2.2.2.1, h.2.2.2.2.2.1, h.2.2.2.2.2.2.fr h.2.2.2.2.2.1 (fun j _ _ => x.2 6 j (Or.inl (by decide)))⟩
theorem uj_num {c : Nat} {lo hi : Int32} {T : mT} (hS : STR B n K m E po) (hB : BY B n) (hc : c ≤ m) (h : RSt B n po c 0 T) (h0 : 0 ≤ lo.toInt) : wl (fm_numberHere lo hi T) (fun w => (NUMf K c lo.toInt hi.toInt ≠ 0 ∧ w.1 = false ∧ (w.2.1 0 9).toInt = NUMf K c lo.toInt hi.toInt) ∨ (NUMf K c lo.toInt hi.toInt = 0 ∧ w.1 = true ∧ c + 1 ≤ m ∧ RSt B n po (c + 1) 0 w.2 ∧ (w.2.1 0 10).toInt = K.2.1 c ∧ lo.toInt ≤ K.2.1 c ∧ K.2.1 c ≤ hi.toInt ∧ ∀ r j, (r ≠ 0 ∨ (j ≠ 8 ∧ j ≠ 10)) → w.2.1 r j = T.1 r j)) := by
  refine wl_mono (um_num hS hB hc h h0) (fun w hw => ?_)
  rcases hw with ⟨k, f, e, nz⟩ | ⟨k, o, f, e, nz⟩ | ⟨k, o1, o2, t, R, v, x⟩
  · have nf : NUMf K c lo.toInt hi.toInt = (bdc K c 0).1 := by unfold NUMf; rw [if_pos k]; rfl
    rw [nf]
    exact Or.inl ⟨nz, f, e⟩
  · have nf : NUMf K c lo.toInt hi.toInt = (bdc K c 1).1 := by unfold NUMf; rw [if_neg (fun z => z k), if_pos o]; rfl
    rw [nf]
    exact Or.inl ⟨nz, f, e⟩
  · have nf : NUMf K c lo.toInt hi.toInt = 0 := by unfold NUMf; rw [if_neg (fun z => z k), if_neg (by omega)]
    have cm := hS.lt hc (by omega)
    exact Or.inr ⟨nf, t, by omega, R, v, o1, o2, x⟩
theorem uj_cell {c ix : Nat} {p0 lo hi : Int32} {T : mT} (hS : STR B n K m E po) (hB : BY B n) (hc : c ≤ m) (h : RSt B n po c 0 T) (h0 : 0 ≤ lo.toInt) (hx : p0.toInt = (ix : Int)) : wl (fm_cellHere p0 lo hi T) (fun w => (NUMf K c lo.toInt hi.toInt ≠ 0 ∧ w.1 = false ∧ (w.2.1 0 9).toInt = NUMf K c lo.toInt hi.toInt) ∨ (NUMf K c lo.toInt hi.toInt = 0 ∧ w.1 = true ∧ c + 1 ≤ m ∧ RSt B n po (c + 1) 0 w.2 ∧ (w.2.1 6 ix).toInt = K.2.1 c ∧ lo.toInt ≤ K.2.1 c ∧ K.2.1 c ≤ hi.toInt ∧ Lm T w.2 ∧ ∀ j, j ≠ ix → w.2.1 6 j = T.1 6 j)) := by
  unfold fm_cellHere
  refine wl_bind (uj_num hS hB hc h h0) (fun q1 h1 => ?_)
  rcases h1 with ⟨a, f, e⟩ | ⟨a, t, cm, R, v, o1, o2, x⟩
  · exact wl_b (fun _ => wl_some (Or.inl ⟨a, rfl, e⟩)) (fun b => by rw [f] at b; cases b)
  · refine wl_b (fun b => by rw [t] at b; cases b) (fun _ => ?_)
    refine wl_bif (wl_letv (fun T3 e3 => wl_some (Or.inr ⟨a, rfl, cm, ?_, ?_, o1, o2, ?_, ?_⟩)))
    · rw [cl_idx hx] at e3
      exact R.fr (fun r j hj => by dsimp only; rw [e3, ma_ne (Or.inl (by omega))])
    · dsimp only
      rw [e3, cl_idx hx, ma_at]; exact v
    · intro r j a b
      dsimp only
      rw [e3, ma_ne (Or.inl a), x r j (by omega)]
    · intro j hj
      dsimp only
      rw [e3, cl_idx hx, ma_ne (Or.inr hj), x 6 j (Or.inl (by decide))]
theorem uj_personL {k1 k2 : Int32} {pp : Nat} (hp : pp < 8) : ∀ (N : Nat) (a3 : Int32) (T : mT) (i : Nat), a3.toInt = (i : Int) → (T.1 6 1).toInt = (pp : Int) → (∀ k, k < i → k < 8 → (T.1 6 (40 + 8 * pp + k)).toInt = 0 ∧ (T.1 6 (40 + 8 * k + pp)).toInt = 0) → wl (fm_isPersonHere_L88 k1 k2 N a3 T) (fun w => (∀ j, j < 40 → w.2.1 6 j = T.1 6 j) ∧ (∀ p q, p < 8 → q < 8 → p ≠ pp → q ≠ pp → w.2.1 6 (40 + 8 * p + q) = T.1 6 (40 + 8 * p + q)) ∧ (∀ k, k < 8 → (w.2.1 6 (40 + 8 * pp + k)).toInt = 0 ∧ (w.2.1 6 (40 + 8 * k + pp)).toInt = 0) ∧ ∀ r j, r ≠ 6 → w.2.1 r j = T.1 r j) := by
  have l_0 : (0 : Int32).toInt = 0 := by decide
  have l_1 : (1 : Int32).toInt = 1 := by decide
  have l_8 : (8 : Int32).toInt = 8 := by decide
  have l_40 : (40 : Int32).toInt = 40 := by decide
  intro N
  induction N with
  | zero => intro a3 T i _ _ _; exact wl_none
  | succ N ih =>
    intro a3 T i e h1 hz
    rw [fm_isPersonHere_L88]
    refine wl_le (fun y => wl_some ⟨fun _ _ => rfl, fun _ _ _ _ _ _ => rfl, fun k hk => hz k (by omega) hk, fun _ _ _ => rfl⟩) (fun z => ?_)
    refine wl_bif (wl_letv (fun v13 e13 => ?_))
    have ev : v13.toInt = (pp : Int) := by rw [e13]; exact h1
    have m1 := tML (a := 8) (b := v13) (n := 8) (by decide) (by omega) (by omega)
    have t1 := tA (a := 40) (b := 8 * v13) (by omega) (by omega)
    have t2 := tA (a := 40 + 8 * v13) (b := a3) (by omega) (by omega)
    refine wl_bif (wl_letv (fun T14 e14 => ?_))
    rw [cl_idx (e := (40 + 8 * v13) + a3) (n := 40 + 8 * pp + i) (by omega)] at e14
    have h14 : T14.1 6 1 = T.1 6 1 := by rw [e14]; exact ma_ne (Or.inr (by omega))
    refine wl_bif (wl_letv (fun v15 e15 => ?_))
    have ev15 : v15.toInt = (pp : Int) := by rw [e15]; show (T14.1 6 1).toInt = _; rw [h14]; exact h1
    have m2 := tML (a := 8) (b := a3) (n := 8) (by decide) (by omega) (by omega)
    have t3 := tA (a := 40) (b := 8 * a3) (by omega) (by omega)
    have t4 := tA (a := 40 + 8 * a3) (b := v15) (by omega) (by omega)
    refine wl_bif (wl_letv (fun T16 e16 => ?_))
    rw [cl_idx (e := (40 + 8 * a3) + v15) (n := 40 + 8 * i + pp) (by omega)] at e16
    have u := tA (a := a3) (b := 1) (by omega) (by omega)
    have f : ∀ r j, (r ≠ 6 ∨ (j ≠ 40 + 8 * i + pp ∧ j ≠ 40 + 8 * pp + i)) → T16.1 r j = T.1 r j := fun r j hj => by rw [e16, ma_ne (by omega), e14, ma_ne (by omega)]
    have g0 : ∀ j, (T.1 6 j).toInt = 0 ∨ j = 40 + 8 * i + pp ∨ j = 40 + 8 * pp + i → (T16.1 6 j).toInt = 0 := fun j hj => by
      by_cases x : j = 40 + 8 * i + pp
      · rw [e16, x, ma_at]; exact l_0
      · rw [e16, ma_ne (Or.inr x), e14]
        by_cases y : j = 40 + 8 * pp + i
        · rw [y, ma_at]; exact l_0
        · rw [ma_ne (Or.inr y)]
          rcases hj with w | w | w
          · exact w
          · exact absurd w x
          · exact absurd w y
    refine wl_mono (ih (a3 + 1) T16 (i + 1) (by omega) (by rw [f 6 1 (by omega)]; exact h1) (fun k hk hk8 => ?_)) (fun w hw => ⟨fun j hj => (hw.1 j hj).trans (f 6 j (by omega)), fun p q p8 q8 pn qn => (hw.2.1 p q p8 q8 pn qn).trans (f 6 _ (Or.inr (by omega))), hw.2.2.1, fun r j hr => (hw.2.2.2 r j hr).trans (f r j (Or.inl hr))⟩)
    by_cases x : k = i
    · exact ⟨g0 _ (by omega), g0 _ (by omega)⟩
    · have := hz k (by omega) hk8
      exact ⟨g0 _ (Or.inl this.1), g0 _ (Or.inl this.2)⟩
theorem uj_person {c mq pp : Nat} {Cc : CR} {at' : Int32} {T : mT} (hS : STR B n K m E po) (hB : BY B n) (hk : K.1 c = 309) (hq : RQt B n po c 0 T) (ha : at'.toInt = (po c : Int)) (h : IS B n po m c mq pp Cc T) : wl (fm_isPersonHere at' T) (fun w => IO B n po m (if 8 ≤ pp then bdi K c 4 else ILf K 309 (c + 1) mq pp Cc) T w) := by
  unfold fm_isPersonHere
  obtain ⟨hc, hR, hm, m6, hp, p8, hr⟩ := h
  have l_0 : (0 : Int32).toInt = 0 := by decide
  have l_1 : (1 : Int32).toInt = 1 := by decide
  have l_2 : (2 : Int32).toInt = 2 := by decide
  have l_3 : (3 : Int32).toInt = 3 := by decide
  have l_8 : (8 : Int32).toInt = 8 := by decide
  have l_99 : (99 : Int32).toInt = 99 := by decide
  have l_104 : (104 : Int32).toInt = 104 := by decide
  refine wl_bif (wl_letv (fun v1 e1 => ?_))
  have ev1 : v1.toInt = (pp : Int) := by rw [e1]; exact hp
  refine wl_eq (fun z => ?_) (fun z => ?_)
  · rw [if_pos (by omega)]
    exact wl_bind (um_failK hS hB hc hR.2.2.1 ha (by decide) (by decide) (by decide)) (fun q hq' => wl_some (Or.inl ⟨hq'.2.2, hq'.1, hq'.2.1⟩))
  have pl : pp < 8 := by omega
  rw [if_neg (by omega)]
  have i0 : ILf K 309 (c + 1) mq pp Cc = (if NUMf K (c + 1) 0 (2 ^ mq - 1) = 0 then (if NUMf K (c + 1 + 1) 0 99 = 0 then (0, c + 1 + 2, mq, pp + 1, wR Cc pp (K.2.1 (c + 1))) else (NUMf K (c + 1 + 1) 0 99, 0, 0, 0, zR)) else (NUMf K (c + 1) 0 (2 ^ mq - 1), 0, 0, 0, zR)) := by unfold ILf; rw [if_neg (by decide), if_pos rfl]
  have cm := hS.lt hc (by omega)
  refine wl_bind (um_passK (i := 9) hS hB hc (by decide) hk hq) (fun q3 h3 => ?_)
  obtain ⟨R3, x3⟩ := h3
  refine wl_bif (wl_letv (fun v4 e4 => ?_))
  have ev4 : v4.toInt = (pp : Int) := by rw [e4]; show (q3.1 6 1).toInt = _; rw [x3.2 6 1 (Or.inl (by decide))]; exact hp
  refine wl_bif (wl_letv (fun v5 e5 => ?_))
  have ev5 : v5.toInt = (mq : Int) := by rw [e5]; show (q3.1 6 0).toInt = _; rw [x3.2 6 0 (Or.inl (by decide))]; exact hm
  have sf := shl_face ev5 m6
  have m4 := tML (a := 4) (b := v4) (n := 4) (by decide) (by omega) (by omega)
  have t1 := tA (a := 8) (b := 4 * v4) (by omega) (by omega)
  have ix : (8 + 4 * v4).toInt = ((8 + 4 * pp : Nat) : Int) := by omega
  have b1 := tA (a := 8 + 4 * v4) (b := 1) (by omega) (by omega)
  have b2 := tA (a := 8 + 4 * v4) (b := 2) (by omega) (by omega)
  have b3 := tA (a := 8 + 4 * v4) (b := 3) (by omega) (by omega)
  refine wl_bind (uj_cell (ix := 8 + 4 * pp) hS hB (by omega) R3 (by decide) ix) (fun q6 h6 => ?_)
  rw [l_0, sf] at h6
  rcases h6 with ⟨a, f, e⟩ | ⟨a, t, cm6, R6, v6, _, _, x6, y6⟩
  · refine wl_b (fun _ => wl_some (Or.inl ?_)) (fun b => by rw [f] at b; cases b)
    rw [i0, if_neg a]
    exact ⟨a, rfl, e⟩
  refine wl_b (fun b => by rw [t] at b; cases b) (fun _ => ?_)
  refine wl_bind (uj_cell (ix := 8 + 4 * pp + 1) hS hB cm6 R6 (by decide) (by omega)) (fun q8 h8 => ?_)
  rw [l_0, l_99] at h8
  rcases h8 with ⟨a8, f, e⟩ | ⟨a8, t, cm8, R8, _, _, _, x8, y8⟩
  · refine wl_b (fun _ => wl_some (Or.inl ?_)) (fun b => by rw [f] at b; cases b)
    rw [i0, if_pos a, if_neg a8]
    exact ⟨a8, rfl, e⟩
  refine wl_b (fun b => by rw [t] at b; cases b) (fun _ => ?_)
  refine wl_bif (wl_letv (fun T10 e10 => ?_))
  rw [cl_idx (n := 8 + 4 * pp + 2) (by omega)] at e10
  refine wl_bif (wl_letv (fun T11 e11 => ?_))
  rw [cl_idx (n := 8 + 4 * pp + 3) (by omega)] at e11
  have f11 : ∀ j, j < 8 → T11.1 6 j = T.1 6 j := fun j hj => by rw [e11, ma_ne (Or.inr (by omega)), e10, ma_ne (Or.inr (by omega)), y8 j (by omega), y6 j (by omega), x3.2 6 j (Or.inl (by decide))]
  have g11 : ∀ r j, r ≠ 6 → T11.1 r j = q8.2.1 r j := fun r j hr => by rw [e11, ma_ne (Or.inl hr), e10, ma_ne (Or.inl hr)]
  have f11' : ∀ j, (j < 8 + 4 * pp ∨ 8 + 4 * pp + 4 ≤ j) → T11.1 6 j = T.1 6 j := fun j hj => by rw [e11, ma_ne (Or.inr (by omega)), e10, ma_ne (Or.inr (by omega)), y8 j (by omega), y6 j (by omega), x3.2 6 j (Or.inl (by decide))]
  have v11 : (T11.1 6 (8 + 4 * pp)).toInt = K.2.1 (c + 1) := by rw [e11, ma_ne (Or.inr (by omega)), e10, ma_ne (Or.inr (by omega)), y8 _ (by omega)]; exact v6
  refine wl_bind (uj_personL pl FU 0 T11 0 l_0 (by rw [f11 1 (by decide)]; exact hp) (fun k hk => absurd hk (Nat.not_lt_zero _))) (fun w17 h17 => ?_)
  obtain ⟨zj, zpq, zz, z2⟩ := h17
  have z0 := zj 0 (by decide)
  have z1 := zj 1 (by decide)
  refine wl_bif (wl_letv (fun v18 e18 => ?_))
  have ev18 : v18.toInt = (pp : Int) := by rw [e18]; show (w17.2.1 6 1).toInt = _; rw [z1, f11 1 (by decide)]; exact hp
  have t18 := tA (a := 104) (b := v18) (by omega) (by omega)
  refine wl_bif (wl_letv (fun T19 e19 => ?_))
  rw [cl_idx (n := 104 + pp) (by omega)] at e19
  refine wl_bif (wl_letv (fun v20 e20 => ?_))
  have ev20 : v20.toInt = (pp : Int) := by rw [e20]; show (T19.1 6 1).toInt = _; rw [e19, ma_ne (Or.inr (by omega)), z1, f11 1 (by decide)]; exact hp
  have u := tA (a := v20) (b := 1) (by omega) (by omega)
  refine wl_bif (wl_letv (fun T21 e21 => wl_some (Or.inr ?_)))
  have e21' : T21 = ma T19 6 1 (v20 + 1) := e21
  have fr : ∀ r j, r ≠ 6 → T21.1 r j = q8.2.1 r j := fun r j hr => by rw [e21', ma_ne (Or.inl hr), e19, ma_ne (Or.inl hr), z2 r j hr, g11 r j hr]
  rw [i0, if_pos a, if_pos a8]
  have fj : ∀ j, 2 ≤ j → j < 104 → T21.1 6 j = w17.2.1 6 j := fun j a b => by rw [e21', ma_ne (Or.inr (by omega)), e19, ma_ne (Or.inr (by omega))]
  refine ⟨rfl, rfl, ⟨cm8, R8.fr (fun r j hj => fr r j (by omega)), ?_, m6, ?_, ?_, ?_, ?_, ?_⟩, ?_⟩
  · dsimp only
    rw [e21', ma_ne (Or.inr (by decide)), e19, ma_ne (Or.inr (by omega)), z0, f11 0 (by decide)]
    exact hm
  · dsimp only
    rw [e21', ma_at]
    show _ = ((pp + 1 : Nat) : Int)
    omega
  · show pp + 1 ≤ 8
    omega
  · intro p hp'
    have hp' : p < pp + 1 := hp'
    dsimp only
    rw [fj _ (by omega) (by omega), zj _ (by omega)]
    by_cases z : p = pp
    · rw [z, wR_at]; exact v11
    · rw [wR_ne z, f11' _ (by omega)]; exact hr.1 p (by omega)
  · intro p q hp' hq'
    have hp' : p < pp + 1 := hp'
    have hq' : q < pp + 1 := hq'
    dsimp only
    rw [fj _ (by omega) (by omega), wR_ne (by omega)]
    by_cases z : p = pp
    · rw [hr.2.2 p q (by omega) (by omega) (by omega), z]
      exact (zz q (by omega)).1
    · by_cases z' : q = pp
      · rw [hr.2.2 p q (by omega) (by omega) (by omega), z']
        exact (zz p (by omega)).2
      · rw [zpq p q (by omega) (by omega) z z', f11' _ (by omega)]
        exact hr.2.1 p q (by omega) (by omega)
  · intro p q p8' q8' ho
    have ho : pp + 1 ≤ p ∨ pp + 1 ≤ q := ho
    dsimp only
    rw [wR_ne (by omega)]
    exact hr.2.2 p q p8' q8' (by omega)
  · intro r j a b
    dsimp only
    rw [fr r j a, x8 r j a b, x6 r j a b, x3.2 r j (by omega)]
theorem uj_two {c mq pp i : Nat} {Cc : CR} {T : mT} (hS : STR B n K m E po) (hB : BY B n) (hi : i < 18) (hk : K.1 c = 300 + (i : Int)) (hq : RQt B n po c 0 T) (h : IS B n po m c mq pp Cc T) : wl (fm_twoHere T) (fun w => (NUMf K (c + 1) 0 ((pp : Int) - 1) ≠ 0 ∧ w.1 = false ∧ (w.2.1 0 9).toInt = NUMf K (c + 1) 0 ((pp : Int) - 1)) ∨ (NUMf K (c + 1) 0 ((pp : Int) - 1) = 0 ∧ OTHf K (c + 1) ((pp : Int) - 1) ≠ 0 ∧ w.1 = false ∧ (w.2.1 0 9).toInt = OTHf K (c + 1) ((pp : Int) - 1)) ∨ (NUMf K (c + 1) 0 ((pp : Int) - 1) = 0 ∧ OTHf K (c + 1) ((pp : Int) - 1) = 0 ∧ w.1 = true ∧ IS B n po m (c + 3) mq pp Cc w.2 ∧ Lm T w.2 ∧ 0 ≤ (w.2.1 0 10).toInt ∧ (w.2.1 0 10).toInt < (pp : Int) ∧ 0 ≤ (w.2.1 0 17).toInt ∧ (w.2.1 0 17).toInt < (pp : Int) ∧ (w.2.1 0 17).toInt = K.2.1 (c + 1) ∧ (w.2.1 0 10).toInt = K.2.1 (c + 1 + 1))) := by
  unfold fm_twoHere
  have h' := h
  obtain ⟨hc, hR, hm, m6, hp, p8, hr⟩ := h'
  have l_0 : (0 : Int32).toInt = 0 := by decide
  have l_1 : (1 : Int32).toInt = 1 := by decide
  have cm := hS.lt hc (by omega)
  refine wl_bind (um_passK hS hB hc hi hk hq) (fun q1 h1 => ?_)
  obtain ⟨R1, x1⟩ := h1
  refine wl_bif (wl_letv (fun v2 e2 => ?_))
  have ev2 : v2.toInt = (pp : Int) := by rw [e2]; show (q1.1 6 1).toInt = _; rw [x1.2 6 1 (Or.inl (by decide))]; exact hp
  have u2 := tS (a := v2) (b := 1) (by omega) (by omega)
  have hu2 : (v2 - 1).toInt = (pp : Int) - 1 := by omega
  refine wl_bind (uj_num (lo := 0) (hi := v2 - 1) hS hB (by omega) R1 (by decide)) (fun q3 h3 => ?_)
  rw [l_0, hu2] at h3
  rcases h3 with ⟨a, f, e⟩ | ⟨a, t, cm3, R3, v3, o1, o2, x3⟩
  · exact wl_b (fun _ => wl_some (Or.inl ⟨a, rfl, e⟩)) (fun b => by rw [f] at b; cases b)
  refine wl_b (fun b => by rw [t] at b; cases b) (fun _ => ?_)
  refine wl_letv (fun T5 e5 => ?_)
  have f5 : ∀ r j, (r ≠ 0 ∨ j ≠ 17) → T5.1 r j = q3.2.1 r j := fun r j hj => by rw [e5]; exact mz_ne hj
  have v17 : T5.1 0 17 = q3.2.1 0 10 := by rw [e5]; exact mz_at _ _ _
  have R5 : RSt B n po (c + 1 + 1) 0 T5 := R3.fr (fun r j hj => f5 r j (by omega))
  refine wl_bind (um_seeK hS hB cm3 R5) (fun q6 h6 => ?_)
  obtain ⟨R6, x6, _⟩ := h6
  have r61 : q6.2.1 6 1 = T.1 6 1 := by rw [x6.2 6 1 (Or.inl (by decide)), f5 6 1 (Or.inl (by decide)), x3 6 1 (Or.inl (by decide)), x1.2 6 1 (Or.inl (by decide))]
  have r60 : q6.2.1 6 0 = T.1 6 0 := by rw [x6.2 6 0 (Or.inl (by decide)), f5 6 0 (Or.inl (by decide)), x3 6 0 (Or.inl (by decide)), x1.2 6 0 (Or.inl (by decide))]
  have v617 : (q6.2.1 0 17).toInt = K.2.1 (c + 1) := by rw [x6.2 0 17 (by decide), v17]; exact v3
  refine wl_bif (wl_letv (fun v7 e7 => ?_))
  have ev7 : v7.toInt = (pp : Int) := by rw [e7]; show (q6.2.1 6 1).toInt = _; rw [r61]; exact hp
  have u7 := tS (a := v7) (b := 1) (by omega) (by omega)
  have hu7 : (v7 - 1).toInt = (pp : Int) - 1 := by omega
  have pl := hS.2.2.2.2.2.2 (c + 1 + 1) cm3
  refine wl_bind (uj_num (lo := 0) (hi := v7 - 1) hS hB cm3 (R6.s hS hB cm3) (by decide)) (fun q8 h8 => ?_)
  rw [l_0, hu7] at h8
  have ot : ¬ (K.1 (c + 1 + 1) = 258 ∧ K.2.1 (c + 1 + 1) = K.2.1 (c + 1)) → OTHf K (c + 1) ((pp : Int) - 1) = NUMf K (c + 1 + 1) 0 ((pp : Int) - 1) := fun z => by unfold OTHf; rw [if_neg z]
  have oy : (K.1 (c + 1 + 1) = 258 ∧ K.2.1 (c + 1 + 1) = K.2.1 (c + 1)) → OTHf K (c + 1) ((pp : Int) - 1) = (bdc K (c + 1 + 1) 1).1 := fun z => by unfold OTHf; rw [if_pos z]; rfl
  have nz1 : (bdc K (c + 1 + 1) 1).1 ≠ 0 := by show 1 + 8 * K.2.2 (c + 1 + 1) + 1 ≠ 0; rw [pl]; omega
  rcases h8 with ⟨a8, f, e⟩ | ⟨a8, t8, cm8, R8, v8, o81, o82, x8⟩
  · refine wl_b (fun _ => wl_some (Or.inr (Or.inl ?_))) (fun b => by rw [f] at b; cases b)
    by_cases z : K.1 (c + 1 + 1) = 258 ∧ K.2.1 (c + 1 + 1) = K.2.1 (c + 1)
    · exfalso
      refine a8 ?_
      unfold NUMf
      rw [if_neg (fun y => y z.1), if_neg (by omega)]
    · rw [ot z]
      exact ⟨a, a8, rfl, e⟩
  refine wl_b (fun b => by rw [t8] at b; cases b) (fun _ => ?_)
  have k258 : K.1 (c + 1 + 1) = 258 := by
    by_cases z : K.1 (c + 1 + 1) = 258
    · exact z
    · exfalso
      unfold NUMf at a8
      rw [if_pos z] at a8
      rw [pl] at a8
      omega
  have v817 : (q8.2.1 0 17).toInt = K.2.1 (c + 1) := by rw [x8 0 17 (by decide)]; exact v617
  refine wl_eq (fun z => ?_) (fun z => ?_)
  · have zz : K.1 (c + 1 + 1) = 258 ∧ K.2.1 (c + 1 + 1) = K.2.1 (c + 1) := ⟨k258, by omega⟩
    refine wl_bind (um_failK hS hB cm3 R8.2.2.1 R6.2.1 l_1 (by decide) (by decide)) (fun q11 h11 => ?_)
    refine wl_b (fun _ => wl_some (Or.inr (Or.inl ?_))) (fun b => by rw [h11.1] at b; cases b)
    rw [oy zz]
    exact ⟨a, nz1, rfl, h11.2.1⟩
  · have zz : ¬ (K.1 (c + 1 + 1) = 258 ∧ K.2.1 (c + 1 + 1) = K.2.1 (c + 1)) := fun y => z (by omega)
    refine wl_some (Or.inr (Or.inr ⟨a, by rw [ot zz]; exact a8, rfl, ⟨cm8, R8, ?_, m6, ?_, p8, hr.fr p8 (fun j _ _ => ?_)⟩, ?_, ?_, ?_, ?_, ?_, v817, v8⟩))
    · dsimp only
      rw [x8 6 0 (Or.inl (by decide)), r60]; exact hm
    · dsimp only
      rw [x8 6 1 (Or.inl (by decide)), r61]; exact hp
    · dsimp only
      rw [x8 6 j (Or.inl (by decide)), x6.2 6 j (Or.inl (by decide)), f5 6 j (Or.inl (by decide)), x3 6 j (Or.inl (by decide)), x1.2 6 j (Or.inl (by decide))]
    · intro r j b1 b2
      dsimp only
      rw [x8 r j (by omega), x6.2 r j (by omega), f5 r j (by omega), x3 r j (by omega), x1.2 r j (by omega)]
    · dsimp only; omega
    · dsimp only; omega
    · dsimp only; omega
    · dsimp only; omega
end RIS
