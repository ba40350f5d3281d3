/-! ===== the reference's reader over the same row of signs: tokens ===== -/
def RT (B : Nat → Int) (n : Nat) (T : mT) : Prop := (T.1 0 1).toInt = (n : Int) ∧ ∀ k, k < n → B k = (T.1 1 k).toInt % 256 ∧ -128 ≤ (T.1 1 k).toInt ∧ (T.1 1 k).toInt ≤ 127
/-- all but the place stands -/
def Nx (T T' : mT) (q : Nat) : Prop := (T'.1 0 8).toInt = (q : Int) ∧ ∀ r j, (r ≠ 0 ∨ j ≠ 8) → T'.1 r j = T.1 r j
theorem Nx.trans {A B C : mT} {q q' : Nat} (h : Nx A B q) (g : Nx B C q') : Nx A C q' := ⟨g.1, fun r j z => (g.2 r j z).trans (h.2 r j z)⟩
theorem Nx.rt {B : Nat → Int} {n q : Nat} {T T' : mT} (h : RT B n T) (x : Nx T T' q) : RT B n T' := ⟨by rw [x.2 0 1 (by decide)]; exact h.1, fun k hk => by rw [x.2 1 k (Or.inl (by decide))]; exact h.2 k hk⟩
theorem Nx.z {T : mT} {q : Nat} {v : Int32} (h : v.toInt = (q : Int)) : Nx T (mz T 8 v) q := ⟨by rw [mz_at]; exact h, fun r j z => mz_ne z⟩
theorem Nx.rfl' {T : mT} {q : Nat} (h : (T.1 0 8).toInt = (q : Int)) : Nx T T q := ⟨h, fun _ _ _ => rfl⟩
theorem and255 (v : Int32) : (v &&& 255).toInt = v.toInt % 256 := by
  have h1 : (v &&& 255).toBitVec.toNat = v.toBitVec.toNat % 256 := by
    show (v.toBitVec &&& 255).toNat = _
    rw [BitVec.toNat_and]
    show v.toBitVec.toNat &&& (2 ^ 8 - 1) = _
    rw [Nat.and_two_pow_sub_one_eq_mod]
  show (v &&& 255).toBitVec.toInt = v.toBitVec.toInt % 256
  have := v.toBitVec.isLt
  rw [BitVec.toInt_eq_toNat_cond, BitVec.toInt_eq_toNat_cond, h1]
  split <;> split <;> omega
section RTK
variable {B : Nat → Int} {n : Nat}
theorem um_see_L0 (hB : BY B n) : ∀ (N : Nat) (T : mT) (a q : Nat), RT B n T → (T.1 0 8).toInt = (a : Int) → RUN Bl B a q → wl (fm_see_L0 N T) (fun w => Nx T w q) := by
  have l_1 : (1 : Int32).toInt = 1 := by decide
  have l_32 : (32 : Int32).toInt = 32 := by decide
  have hn := hB.1
  intro N
  induction N with
  | zero => intro T a q _ _ _; exact wl_none
  | succ N ih =>
    intro T a q h e8 r
    rw [fm_see_L0]
    have h1 := h.1
    have fin : ¬ B a = 32 → wl (some T) (fun w => Nx T w q) := fun z => by
      have : a = q := by
        have := r.1
        by_cases y : a = q
        · exact y
        · exact absurd (r.2.1 a (Nat.le_refl _) (by omega)) z
      exact wl_some (Nx.rfl' (by rw [e8, this]))
    refine wl_le (fun z => fin (by rw [hB.2.2 a (by omega)]; decide)) (fun z => ?_)
    refine wl_bif (wl_letv (fun v2 e2 => ?_))
    rw [cl_idx e8] at e2
    have k := h.2 a (by omega)
    rw [← e2] at k
    refine wl_eq (fun y => ?_) (fun y => fin (by omega))
    have ne : a < q := by
      have := r.1
      by_cases w : a = q
      · rw [← w] at r
        exact absurd (show B a = 32 by omega) r.2.2
      · omega
    have u := tA (a := T.1 0 8) (b := 1) (by omega) (by omega)
    refine wl_letv (fun T4 e4 => ?_)
    have x : Nx T T4 (a + 1) := by rw [e4]; exact Nx.z (by omega)
    exact wl_mono (ih T4 (a + 1) q (x.rt h) x.1 ⟨by omega, fun i i1 i2 => r.2.1 i (by omega) i2, r.2.2⟩) (fun w hw => x.trans hw)
theorem um_see {T : mT} {a q : Nat} (hB : BY B n) (h : RT B n T) (e8 : (T.1 0 8).toInt = (a : Int)) (ha : a ≤ n) (r : RUN Bl B a q) : wl (fm_see T) (fun w => Nx T w.2 q ∧ (q < n → w.1.toInt = B q) ∧ (n ≤ q → w.1.toInt = -1)) := by
  unfold fm_see
  have hn := hB.1
  have qn := RUN_le r hB.2.2 (by decide) ha
  refine wl_bind (um_see_L0 hB FU T a q h e8 r) (fun w5 h5 => ?_)
  have h1 := (h5.rt h).1
  have h8 := h5.1
  refine wl_le (fun z => wl_some ⟨h5, fun y => (by omega), fun _ => by dsimp only; decide⟩) (fun z => ?_)
  refine wl_bif (wl_letv (fun v7 e7 => wl_some ⟨h5, fun _ => ?_, fun y => by omega⟩))
  rw [cl_idx h8] at e7
  dsimp only
  rw [and255, e7]
  exact (((h5.rt h).2 q (by omega)).1).symm
theorem um_isLetter {T : mT} {k : Nat} {p0 : Int32} (hB : BY B n) (h : RT B n T) (e : p0.toInt = (k : Int)) : wl (fm_isLetter p0 T) (fun w => (w = true → Lt (B k)) ∧ (w = false → ¬ Lt (B k))) := by
  unfold fm_isLetter
  have l_97 : (97 : Int32).toInt = 97 := by decide
  have l_122 : (122 : Int32).toInt = 122 := by decide
  have hn := hB.1
  have h1 := h.1
  refine wl_le (fun z => wl_some ⟨fun y => (by cases y), fun _ y => ?_⟩) (fun z => ?_)
  · rw [hB.2.2 k (by omega)] at y
    exact absurd y (by decide)
  have b := h.2 k (by omega)
  refine wl_bif (wl_letv (fun v2 e2 => ?_))
  rw [cl_idx e] at e2
  rw [← e2] at b
  refine wl_lt (fun y => wl_some ⟨fun x => (by cases x), fun _ x => by omega⟩) (fun y => ?_)
  refine wl_bif (wl_letv (fun v4 e4 => ?_))
  rw [cl_idx e, ← e2] at e4
  rw [e4]
  exact wl_lt (fun x => wl_some ⟨fun x => (by cases x), fun _ x => by omega⟩) (fun x => wl_some ⟨fun _ => ⟨by omega, by omega⟩, fun x => by cases x⟩)
theorem um_isDigit {T : mT} {k : Nat} {p0 : Int32} (hB : BY B n) (h : RT B n T) (e : p0.toInt = (k : Int)) : wl (fm_isDigit p0 T) (fun w => (w = true → Dg (B k)) ∧ (w = false → ¬ Dg (B k))) := by
  unfold fm_isDigit
  have l_48 : (48 : Int32).toInt = 48 := by decide
  have l_57 : (57 : Int32).toInt = 57 := by decide
  have hn := hB.1
  have h1 := h.1
  refine wl_le (fun z => wl_some ⟨fun y => (by cases y), fun _ y => ?_⟩) (fun z => ?_)
  · rw [hB.2.2 k (by omega)] at y
    exact absurd y (by decide)
  have b := h.2 k (by omega)
  refine wl_bif (wl_letv (fun v2 e2 => ?_))
  rw [cl_idx e] at e2
  rw [← e2] at b
  refine wl_lt (fun y => wl_some ⟨fun x => (by cases x), fun _ x => by omega⟩) (fun y => ?_)
  refine wl_bif (wl_letv (fun v4 e4 => ?_))
  rw [cl_idx e, ← e2] at e4
  rw [e4]
  exact wl_lt (fun x => wl_some ⟨fun x => (by cases x), fun _ x => by omega⟩) (fun x => wl_some ⟨fun _ => ⟨by omega, by omega⟩, fun x => by cases x⟩)
theorem um_passWord {T : mT} {q e : Nat} (hB : BY B n) (h : RT B n T) (e8 : (T.1 0 8).toInt = (q : Int)) (r : RUN Lt B q e) (hq : q ≤ n) : wl (fm_passWord T) (fun w => Nx T w e) := by
  have l_1 : (1 : Int32).toInt = 1 := by decide
  have hn := hB.1
  have lp : ∀ (N : Nat) (T : mT) (q : Nat), RT B n T → (T.1 0 8).toInt = (q : Int) → RUN Lt B q e → q ≤ n → wl (fm_passWord_L0 N T) (fun w => Nx T w e) := by
    intro N
    induction N with
    | zero => intro T q _ _ _ _; exact wl_none
    | succ N ih =>
      intro T q h e8 r hq
      rw [fm_passWord_L0]
      refine wl_bind (um_isLetter hB h e8) (fun q1 h1 => ?_)
      refine wl_b (fun b => ?_) (fun b => ?_)
      · have no := h1.2 b
        have : q = e := by
          have := r.1
          by_cases y : q = e
          · exact y
          · exact absurd (r.2.1 q (Nat.le_refl _) (by omega)) no
        exact wl_some (Nx.rfl' (by rw [e8, this]))
      · have yes := h1.1 b
        have ne : q < e := by
          have := r.1
          by_cases w : q = e
          · rw [← w] at r
            exact absurd yes r.2.2
          · omega
        have := RUN_le r hB.2.2 (by decide) hq
        have u := tA (a := T.1 0 8) (b := 1) (by omega) (by omega)
        refine wl_letv (fun T3 e3 => ?_)
        have x : Nx T T3 (q + 1) := by rw [e3]; exact Nx.z (by omega)
        exact wl_mono (ih T3 (q + 1) (x.rt h) x.1 ⟨by omega, fun i i1 i2 => r.2.1 i (by omega) i2, r.2.2⟩ (by omega)) (fun w hw => x.trans hw)
  unfold fm_passWord
  exact wl_bind (lp FU T q h e8 r hq) (fun w hw => wl_some hw)
/-- letters packed -/
def pk (g : Nat → Int) : Nat → Int
  | 0 => 0
  | m + 1 => pk g m * 256 + g m
theorem pk_bd {g : Nat → Int} : ∀ m : Nat, (∀ i, i < m → Lt (g i)) → 0 ≤ pk g m ∧ pk g m < 256 ^ m := by
  intro m
  induction m with
  | zero => intro _; exact ⟨Int.le_refl 0, show (0 : Int) < 256 ^ 0 by decide⟩
  | succ m ih =>
    intro h
    have a := ih (fun i hi => h i (by omega))
    have b := h m (by omega)
    rw [Int.pow_succ]
    show 0 ≤ pk g m * 256 + g m ∧ pk g m * 256 + g m < 256 ^ m * 256
    omega
theorem pk_half {g : Nat → Int} : ∀ m : Nat, (∀ i, i < m → Lt (g i)) → pk g m * 2 < 256 ^ m := by
  intro m
  induction m with
  | zero => intro _; show (0 : Int) * 2 < 256 ^ 0; decide
  | succ m ih =>
    intro h
    have a := ih (fun i hi => h i (by omega))
    have b := h m (by omega)
    rw [Int.pow_succ]
    show (pk g m * 256 + g m) * 2 < 256 ^ m * 256
    omega
theorem pk_inj {g g' : Nat → Int} : ∀ m m' : Nat, (∀ i, i < m → Lt (g i)) → (∀ i, i < m' → Lt (g' i)) → pk g m = pk g' m' → m = m' ∧ ∀ i, i < m → g i = g' i := by
  intro m
  induction m with
  | zero =>
    intro m' _ h' e
    cases m' with
    | zero => exact ⟨rfl, fun i hi => absurd hi (Nat.not_lt_zero _)⟩
    | succ k =>
      exfalso
      have a := (pk_bd (g := g') k (fun i hi => h' i (by omega))).1
      have b := h' k (by omega)
      have e' : (0 : Int) = pk g' k * 256 + g' k := e
      omega
  | succ m ih =>
    intro m' h h' e
    cases m' with
    | zero =>
      exfalso
      have a := (pk_bd (g := g) m (fun i hi => h i (by omega))).1
      have b := h m (by omega)
      have e' : pk g m * 256 + g m = (0 : Int) := e
      omega
    | succ k =>
      have b := h m (by omega)
      have b' := h' k (by omega)
      have e' : pk g m * 256 + g m = pk g' k * 256 + g' k := e
      obtain ⟨rfl, z⟩ := ih k (fun i hi => h i (by omega)) (fun i hi => h' i (by omega)) (by omega)
      refine ⟨rfl, fun i hi => ?_⟩
      by_cases y : i = m
      · rw [y]; omega
      · exact z i (by omega)
theorem shl_or {a : Int64} {v : Int32} (h0 : 0 ≤ a.toInt) (h1 : a.toInt < 36028797018963968) (v0 : 0 ≤ v.toInt) (v1 : v.toInt < 256) : ((a <<< ((8 : Int32).toInt64 &&& 63)) ||| v.toInt64).toInt = a.toInt * 256 + v.toInt := by
  have e8 : ((8 : Int32).toInt64 &&& 63) = 8 := by decide
  rw [e8]
  have va : v.toInt64.toInt = v.toInt := Int32.toInt_toInt64 v
  have an : a.toBitVec.toNat < 36028797018963968 ∧ (a.toBitVec.toNat : Int) = a.toInt := by
    have z : a.toInt = a.toBitVec.toInt := rfl
    have := a.toBitVec.isLt
    rw [BitVec.toInt_eq_toNat_cond] at z
    by_cases y : 2 * a.toBitVec.toNat < 2 ^ 64
    · rw [if_pos y] at z; omega
    · rw [if_neg y] at z; omega
  have vn : v.toInt64.toBitVec.toNat < 256 ∧ (v.toInt64.toBitVec.toNat : Int) = v.toInt := by
    have z : v.toInt64.toInt = v.toInt64.toBitVec.toInt := rfl
    have := v.toInt64.toBitVec.isLt
    rw [BitVec.toInt_eq_toNat_cond, va] at z
    by_cases y : 2 * v.toInt64.toBitVec.toNat < 2 ^ 64
    · rw [if_pos y] at z; omega
    · rw [if_neg y] at z; omega
  have sh : ((a <<< (8 : Int64)).toBitVec).toNat = a.toBitVec.toNat <<< 8 := by
    show (a.toBitVec <<< ((8 : Int64).toBitVec.smod 64)).toNat = _
    rw [show ((8 : Int64).toBitVec.smod 64) = (8 : BitVec 64) by decide]
    show (a.toBitVec <<< (8 : BitVec 64).toNat).toNat = _
    rw [BitVec.toNat_shiftLeft, show (8 : BitVec 64).toNat = 8 by decide, Nat.shiftLeft_eq, Nat.mod_eq_of_lt (by omega)]
  have on : ((a <<< (8 : Int64)) ||| v.toInt64).toBitVec.toNat = a.toBitVec.toNat * 256 + v.toInt64.toBitVec.toNat := by
    show ((a <<< (8 : Int64)).toBitVec ||| v.toInt64.toBitVec).toNat = _
    rw [BitVec.toNat_or, sh, ← Nat.shiftLeft_add_eq_or_of_lt (by omega), Nat.shiftLeft_eq]
  show ((a <<< (8 : Int64)) ||| v.toInt64).toBitVec.toInt = _
  rw [BitVec.toInt_eq_toNat_cond, on, if_pos (by omega)]
  omega
theorem um_isWord_L10 {T : mT} {k1 : Int64} {q : Nat} (hB : BY B n) (h : RT B n T) (e8 : (T.1 0 8).toInt = (q : Int)) (hq : q ≤ n) : ∀ (N : Nat) (a3 : Int64) (a5 : Int32) (i : Nat), a5.toInt = (i : Int) → q + i ≤ n → (∀ j, q ≤ j → j < q + i → Lt (B j)) → (i ≤ 8 → a3.toInt = pk (fun j => B (q + j)) i) → wl (fm_isWord_L10 k1 T N a3 a5) (fun w => ∃ e, RUN Lt B q e ∧ w.2.toInt = ((e - q : Nat) : Int) ∧ (e - q ≤ 8 → w.1.toInt = pk (fun j => B (q + j)) (e - q))) := by
  have l_1 : (1 : Int32).toInt = 1 := by decide
  have l_8 : (8 : Int32).toInt = 8 := by decide
  have hn := hB.1
  intro N
  induction N with
  | zero => intro a3 a5 i _ _ _ _; exact wl_none
  | succ N ih =>
    intro a3 a5 i e5 hi hl hv
    rw [fm_isWord_L10]
    have t := tA (a := T.1 0 8) (b := a5) (by omega) (by omega)
    refine wl_bind (um_isLetter (k := q + i) hB h (by omega)) (fun q2 h2 => ?_)
    refine wl_b (fun b => wl_some ⟨q + i, ⟨by omega, hl, h2.2 b⟩, by rw [e5]; congr 1; omega, fun z => by rw [show q + i - q = i by omega] at z ⊢; exact hv z⟩) (fun b => ?_)
    have L := h2.1 b
    have lt : q + i < n := by
      by_cases y : n ≤ q + i
      · rw [hB.2.2 _ y] at L
        exact absurd L (by decide)
      · omega
    have u := tA (a := a5) (b := 1) (by omega) (by omega)
    have hl' : ∀ j, q ≤ j → j < q + (i + 1) → Lt (B j) := fun j j1 j2 => by
      by_cases y : j = q + i
      · rw [y]; exact L
      · exact hl j j1 (by omega)
    refine wl_le (fun z => ih a3 (a5 + 1) (i + 1) (by omega) (by omega) hl' (fun y => by omega)) (fun z => ?_)
    refine wl_bif (wl_letv (fun v5 ev5 => ?_))
    rw [cl_idx (n := q + i) (by omega)] at ev5
    have bv := h.2 (q + i) lt
    rw [← ev5] at bv
    refine ih _ (a5 + 1) (i + 1) (by omega) (by omega) hl' (fun y => ?_)
    have a3v := hv (by omega)
    have bd := pk_bd (g := fun j => B (q + j)) i (fun j hj => hl (q + j) (by omega) (by omega))
    have p7 : (256 : Int) ^ i ≤ 72057594037927936 := by
      have all : ∀ j : Fin 8, (256 : Int) ^ j.1 ≤ 72057594037927936 := by decide +kernel
      exact all ⟨i, by omega⟩
    have hf := pk_half (g := fun j => B (q + j)) i (fun j hj => hl (q + j) (by omega) (by omega))
    have so := shl_or (a := a3) (v := v5) (by omega) (by omega) (by omega) (by omega)
    rw [so]
    show _ = pk (fun j => B (q + j)) i * 256 + B (q + i)
    omega
/-- letters at q make word i, or don't -/
theorem um_isWordB {T : mT} {W : Int64} {a q i : Nat} (hB : BY B n) (h : RT B n T) (e8 : (T.1 0 8).toInt = (a : Int)) (ha : a ≤ n) (r : RUN Bl B a q) (hi : i < 18) (hW : W.toInt = pk (wch i) (wn i)) : wl (fm_isWord W T) (fun w => Nx T w.2 q ∧ ∃ e, RUN Lt B q e ∧ (w.1 = true → MT B q e i) ∧ (w.1 = false → ¬ MT B q e i)) := by
  unfold fm_isWord
  have l_0 : (0 : Int32).toInt = 0 := by decide
  have l_8 : (8 : Int32).toInt = 8 := by decide
  have hn := hB.1
  have qn := RUN_le r hB.2.2 (by decide) ha
  have wl6 := w_len i hi
  refine wl_bind (um_see hB h e8 ha r) (fun q1 h1 => ?_)
  have x1 := h1.1
  refine wl_bind (um_isWord_L10 (q := q) hB (x1.rt h) x1.1 qn FU 0 0 0 l_0 (by omega) (fun j j1 j2 => by omega) (fun _ => show (0 : Int64).toInt = 0 by decide)) (fun w6 h6 => ?_)
  obtain ⟨e, rl, e2, ev⟩ := h6
  have rle := rl.1
  refine wl_le (fun z => wl_some ⟨x1, e, rl, fun y => (by cases y), fun _ y => by have := y.1; omega⟩) (fun z => ?_)
  refine wl_le (fun y => wl_some ⟨x1, e, rl, fun y => (by cases y), fun _ y => by have := y.1; omega⟩) (fun y => ?_)
  have v := ev (by omega)
  have ll : ∀ j, j < e - q → Lt ((fun j => B (q + j)) j) := fun j hj => rl.2.1 (q + j) (by omega) (by omega)
  refine wl_if (fun c => wl_some ⟨x1, e, rl, fun _ => ?_, fun y => by cases y⟩) (fun c => wl_some ⟨x1, e, rl, fun y => (by cases y), fun _ mt => c ?_⟩)
  · have c' : w6.1 = W := (lg_cmp_eq w6.1 W).mp c
    rw [c', hW] at v
    obtain ⟨z1, z2⟩ := pk_inj (g := wch i) (g' := fun j => B (q + j)) (wn i) (e - q) (fun j hj => w_let i j hi hj) ll v
    exact ⟨by omega, fun j hj => (z2 j hj).symm⟩
  · refine (lg_cmp_eq w6.1 W).mpr ?_
    have ex : pk (fun j => B (q + j)) (e - q) = pk (wch i) (wn i) := by
      have el : e - q = wn i := by have := mt.1; omega
      rw [el]
      have pc : ∀ m : Nat, m ≤ wn i → pk (fun j => B (q + j)) m = pk (wch i) m := by
        intro m
        induction m with
        | zero => intro _; rfl
        | succ m ihm =>
          intro hm
          show pk (fun j => B (q + j)) m * 256 + B (q + m) = pk (wch i) m * 256 + wch i m
          rw [ihm (by omega), mt.2 m (by omega)]
      exact pc (wn i) (Nat.le_refl _)
    exact Int64.toInt_inj.mp (by rw [v, ex, hW])
theorem um_numL {k1 k2 k3 : Int32} {q e : Nat} (hB : BY B n) (hk : k3.toInt = (q : Int)) (r : RUN Dg B q e) (hqn : q ≤ n) : ∀ (N : Nat) (a4 : Int32) (T : mT) (i : Nat), RT B n T → (T.1 0 8).toInt = ((q + i : Nat) : Int) → q + i ≤ e → a4.toInt = dv B q (min i 5) → wl (fm_numberHere_L34 k1 k2 k3 N a4 T) (fun w => Nx T w.2 e ∧ w.1.toInt = dv B q (min (e - q) 5)) := by
  have l_1 : (1 : Int32).toInt = 1 := by decide
  have l_5 : (5 : Int32).toInt = 5 := by decide
  have l_48 : (48 : Int32).toInt = 48 := by decide
  have hn := hB.1
  have en := RUN_le r hB.2.2 (by decide) hqn
  intro N
  induction N with
  | zero => intro a4 T i _ _ _ _; exact wl_none
  | succ N ih =>
    intro a4 T i h e8 hi e4
    rw [fm_numberHere_L34]
    refine wl_bind (um_isDigit hB h e8) (fun q4 h4 => ?_)
    refine wl_b (fun b => ?_) (fun b => ?_)
    · have no := h4.2 b
      have ee : q + i = e := by
        by_cases y : q + i = e
        · exact y
        · exact absurd (r.2.1 (q + i) (by omega) (by omega)) no
      exact wl_some ⟨Nx.rfl' (by rw [e8, ee]), by dsimp only; rw [e4, show e - q = i by omega]⟩
    · have yes := h4.1 b
      have lt : q + i < e := by
        by_cases y : q + i = e
        · rw [← y] at r
          exact absurd yes r.2.2
        · omega
      have t := tS (a := T.1 0 8) (b := k3) (by omega) (by omega)
      have u := tA (a := T.1 0 8) (b := 1) (by omega) (by omega)
      have bd := dv_bd (B := B) (q := q) i (fun j hj => r.2.1 (q + j) (by omega) (by omega))
      refine wl_bind (R := fun w : Int32 => w.toInt = dv B q (min (i + 1) 5)) ?_ (fun w6 h6 => ?_)
      · refine wl_le (fun z => wl_some (by rw [e4, show min (i + 1) 5 = min i 5 by omega])) (fun z => ?_)
        refine wl_bif (wl_letv (fun v8 e8' => wl_some ?_))
        rw [cl_idx e8] at e8'
        have bv := h.2 (q + i) (by omega)
        rw [← e8'] at bv
        have m5 := min5 i
        rw [show min i 5 = i by omega] at m5 e4
        have m := tML (a := 10) (b := a4) (n := 10) (by decide) (by omega) (by omega)
        have t1 := tA (a := 10 * a4) (b := v8) (by omega) (by omega)
        have t2 := tS (a := 10 * a4 + v8) (b := 48) (by omega) (by omega)
        rw [show min (i + 1) 5 = i + 1 by omega]
        show _ = dv B q i * 10 + B (q + i) - 48
        omega
      refine wl_letv (fun T9 e9 => ?_)
      have x : Nx T T9 (q + (i + 1)) := by rw [e9]; exact Nx.z (by omega)
      exact wl_mono (ih w6 T9 (i + 1) (x.rt h) x.1 (by omega) h6) (fun w hw => ⟨x.trans hw.1, hw.2⟩)
end RTK
