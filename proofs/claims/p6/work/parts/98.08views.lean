/-! ===== views: the fewest faces, who is sworn ===== -/
theorem m1_all : (-1 : Int32).toBitVec = BitVec.allOnes 32 := by decide
/-- a set is covered by so many faces -/
def Cv (c : Int32 → Int32) (L : Int) : Nat → Int32 → Prop
  | 0, s => s = 0
  | k + 1, s => ∃ f : Int32, 0 ≤ f.toInt ∧ f.toInt ≤ L ∧ Cv c L k (s &&& (c f ^^^ (-1)))
/-- so many, and no fewer -/
def Lst (c : Int32 → Int32) (L : Int) (k : Nat) (s : Int32) : Prop := Cv c L k s ∧ ∀ j, Cv c L j s → k ≤ j
theorem Lst_one {c : Int32 → Int32} {L : Int} {k j : Nat} {s : Int32} (h : Lst c L k s) (g : Lst c L j s) : k = j := Nat.le_antisymm (h.2 j g.1) (g.2 k h.1)
theorem sd_comm (s a b : Int32) : (s &&& a) &&& b = (s &&& b) &&& a := by rw [Int32.and_assoc, Int32.and_comm a b, ← Int32.and_assoc]
theorem sub_and (s x : Int32) : (s &&& x) &&& s = s &&& x := by rw [sd_comm, Int32.and_self]
theorem Cv_mono {c : Int32 → Int32} {L : Int} : ∀ (k : Nat) (s t : Int32), t &&& s = t → Cv c L k s → Cv c L k t := by
  intro k
  induction k with
  | zero =>
    intro s t h g
    have g' : s = 0 := g
    rw [g', Int32.and_zero] at h
    exact h.symm
  | succ k ih =>
    intro s t h g
    obtain ⟨f, h1, h2, h3⟩ := g
    refine ⟨f, h1, h2, ih _ _ ?_ h3⟩
    obtain ⟨x, hx⟩ : ∃ x, x = c f ^^^ (-1) := ⟨_, rfl⟩
    rw [← hx, ← Int32.and_assoc, sd_comm t x s, h, Int32.and_assoc, Int32.and_self]
theorem Cv_up {c : Int32 → Int32} {L : Int} (hL : 0 ≤ L) {k : Nat} {s : Int32} (h : Cv c L k s) : Cv c L (k + 1) s := by
  have l_0 : (0 : Int32).toInt = 0 := by decide
  exact ⟨0, by omega, by omega, Cv_mono k s _ (sub_and _ _) h⟩
theorem Cv_le {c : Int32 → Int32} {L : Int} (hL : 0 ≤ L) {k : Nat} {s : Int32} (h : Cv c L k s) : ∀ d, Cv c L (k + d) s := by
  intro d
  induction d with
  | zero => exact h
  | succ d ih => exact Cv_up hL ih
theorem sd_off {s c b : Int32} (h : c &&& b = 0) : (s &&& (c ^^^ (-1))) &&& b = s &&& b := by
  refine Int32.toBitVec_inj.mp ?_
  show (s.toBitVec &&& (c.toBitVec ^^^ (-1 : Int32).toBitVec)) &&& b.toBitVec = s.toBitVec &&& b.toBitVec
  have h' : c.toBitVec &&& b.toBitVec = 0 := congrArg Int32.toBitVec h
  refine BitVec.eq_of_getLsbD_eq (fun i hi => ?_)
  have e2 := congrArg (fun z => BitVec.getLsbD z i) h'
  have z0 : (0 : BitVec 32).getLsbD i = false := BitVec.getLsbD_zero
  rw [BitVec.getLsbD_and, z0] at e2
  simp only [BitVec.getLsbD_and, BitVec.getLsbD_xor, m1_all, BitVec.getLsbD_allOnes, decide_eq_true hi]
  revert e2
  cases c.toBitVec.getLsbD i <;> cases b.toBitVec.getLsbD i <;> cases s.toBitVec.getLsbD i <;> decide
theorem sd_self {s c : Int32} (h : s &&& (c ^^^ (-1)) = s) : c &&& s = 0 := by
  refine Int32.toBitVec_inj.mp ?_
  show c.toBitVec &&& s.toBitVec = 0
  have h' : s.toBitVec &&& (c.toBitVec ^^^ (-1 : Int32).toBitVec) = s.toBitVec := congrArg Int32.toBitVec h
  refine BitVec.eq_of_getLsbD_eq (fun i hi => ?_)
  have e2 := congrArg (fun z => BitVec.getLsbD z i) h'
  have z0 : (0 : BitVec 32).getLsbD i = false := BitVec.getLsbD_zero
  rw [BitVec.getLsbD_and, BitVec.getLsbD_xor, m1_all, BitVec.getLsbD_allOnes, decide_eq_true hi] at e2
  rw [BitVec.getLsbD_and, z0]
  revert e2
  cases c.toBitVec.getLsbD i <;> cases s.toBitVec.getLsbD i <;> decide
theorem Cv_swap {c : Int32 → Int32} {L : Int} {b : Int32} : ∀ (k : Nat) (s : Int32), s &&& b ≠ 0 → Cv c L (k + 1) s → ∃ f : Int32, 0 ≤ f.toInt ∧ f.toInt ≤ L ∧ c f &&& b ≠ 0 ∧ Cv c L k (s &&& (c f ^^^ (-1))) := by
  intro k
  induction k with
  | zero =>
    intro s hs h
    obtain ⟨f, h1, h2, h3⟩ := h
    refine ⟨f, h1, h2, fun e => ?_, h3⟩
    have h3' : s &&& (c f ^^^ (-1)) = 0 := h3
    have := sd_off (s := s) e
    rw [h3', Int32.zero_and] at this
    exact hs this.symm
  | succ k ih =>
    intro s hs h
    obtain ⟨f, h1, h2, h3⟩ := h
    by_cases e : c f &&& b = 0
    · obtain ⟨q, q1, q2, q3, q4⟩ := ih _ (by rw [sd_off e]; exact hs) h3
      exact ⟨q, q1, q2, q3, f, h1, h2, by rw [sd_comm]; exact q4⟩
    · exact ⟨f, h1, h2, e, h3⟩
def allV (k : Nat) : Int32 := Int32.ofNat (2 ^ k - 1)
theorem allV_bit {k i : Nat} (hi : i < 32) : (allV k).toBitVec.getLsbD i = decide (i < k) := by
  show (BitVec.ofNat 32 (2 ^ k - 1)).getLsbD i = _
  rw [BitVec.getLsbD_ofNat, Nat.testBit_two_pow_sub_one, decide_eq_true hi, Bool.true_and]
theorem Cv_all {c : Int32 → Int32} {L : Int} {n : Nat} (hc : ∀ v, v < n → ∃ f : Int32, 0 ≤ f.toInt ∧ f.toInt ≤ L ∧ (c f).toBitVec.getLsbD v = true) : ∀ k, k ≤ n → Cv c L k (allV k) := by
  intro k
  induction k with
  | zero =>
    intro _
    show allV 0 = 0
    decide +kernel
  | succ k ih =>
    intro hk
    obtain ⟨f, h1, h2, h3⟩ := hc k (by omega)
    refine ⟨f, h1, h2, Cv_mono k (allV k) _ ?_ (ih (by omega))⟩
    refine Int32.toBitVec_inj.mp ?_
    show ((allV (k + 1)).toBitVec &&& ((c f).toBitVec ^^^ (-1 : Int32).toBitVec)) &&& (allV k).toBitVec = (allV (k + 1)).toBitVec &&& ((c f).toBitVec ^^^ (-1 : Int32).toBitVec)
    refine BitVec.eq_of_getLsbD_eq (fun i hi => ?_)
    simp only [BitVec.getLsbD_and, BitVec.getLsbD_xor, m1_all, BitVec.getLsbD_allOnes, decide_eq_true hi, allV_bit hi]
    by_cases y : i = k
    · rw [y, h3]
      simp
    · by_cases z : i < k
      · rw [decide_eq_true z, Bool.and_true]
      · rw [decide_eq_false z, decide_eq_false (show ¬ i < k + 1 by omega)]
        rfl
theorem allV_sub {n : Nat} {s : Int32} (hn : n ≤ 8) (h0 : 0 ≤ s.toInt) (h : s.toInt ≤ (2 : Int) ^ n - 1) : s &&& allV n = s := by
  refine Int32.toBitVec_inj.mp ?_
  show s.toBitVec &&& BitVec.ofNat 32 (2 ^ n - 1) = s.toBitVec
  have e := i32_nat h0
  have p : (2 : Nat) ^ n ≤ 256 := by
    have := Nat.pow_le_pow_right (show 0 < 2 by decide) hn
    exact this
  have p1 : 0 < (2 : Nat) ^ n := Nat.pow_pos (by decide)
  have c : ((2 : Int) ^ n) = (((2 : Nat) ^ n : Nat) : Int) := (Int.natCast_pow 2 n).symm
  refine BitVec.eq_of_toNat_eq ?_
  rw [BitVec.toNat_and, BitVec.toNat_ofNat, Nat.mod_eq_of_lt (show 2 ^ n - 1 < 2 ^ 32 by omega), Nat.and_two_pow_sub_one_eq_mod]
  refine Nat.mod_eq_of_lt ?_
  have q : ((s.toBitVec.toNat : Nat) : Int) < (((2 : Nat) ^ n : Nat) : Int) := by
    rw [← c, ← e]
    omega
  exact Int.ofNat_lt.mp q
theorem and_le {s x : Int32} (h : 0 ≤ s.toInt) : 0 ≤ (s &&& x).toInt ∧ (s &&& x).toInt ≤ s.toInt := by
  have m : (s &&& x).toBitVec.msb = false := by
    show (s.toBitVec &&& x.toBitVec).msb = false
    rw [BitVec.msb_and, i32_nn h]
    rfl
  have h' : 0 ≤ (s &&& x).toInt := by
    rw [i32_msb] at m
    have := of_decide_eq_false m
    omega
  refine ⟨h', ?_⟩
  rw [i32_nat h', i32_nat h]
  have e : (s &&& x).toBitVec.toNat = s.toBitVec.toNat &&& x.toBitVec.toNat := rfl
  rw [e]
  have := @Nat.and_le_left s.toBitVec.toNat x.toBitVec.toNat
  omega
theorem sd_lt {s x : Int32} (h : 0 ≤ s.toInt) (ne : s &&& x ≠ s) : 0 ≤ (s &&& x).toInt ∧ (s &&& x).toInt < s.toInt := by
  have a := and_le (x := x) h
  refine ⟨a.1, ?_⟩
  by_cases e : (s &&& x).toInt = s.toInt
  · exact absurd (Int32.toInt_inj.mp e) ne
  · omega
theorem and_m255 {x : Int32} (h0 : 0 ≤ x.toInt) (h : x.toInt ≤ 255) : x &&& 255 = x := by
  have e : allV 8 = 255 := by decide +kernel
  rw [← e]
  have t : (2 : Int) ^ 8 - 1 = 255 := by decide
  exact allV_sub (by decide) h0 (by rw [t]; exact h)
theorem low_ne {s : Int32} (h0 : 0 < s.toInt) (h : s.toInt ≤ 255) : s &&& (s &&& (-s)) ≠ 0 := by
  have e : ∀ k : Fin 256, k.val ≠ 0 → Int32.ofNat k.val &&& (Int32.ofNat k.val &&& (-(Int32.ofNat k.val))) ≠ 0 := by decide +kernel
  obtain ⟨k, hk⟩ : ∃ k : Nat, s.toInt = (k : Int) := ⟨s.toInt.toNat, by omega⟩
  rw [i32_of hk]
  exact e ⟨k, by omega⟩ (show k ≠ 0 by omega)
theorem shl_views {v : Int32} {n : Nat} (h : v.toInt = (n : Int)) (h8 : n ≤ 8) : ((1 : Int32) <<< (v &&& 31)) - 1 = allV n := by
  have e : ∀ k : Fin 9, ((1 : Int32) <<< (Int32.ofNat k.val &&& 31)) - 1 = allV k.val := by decide +kernel
  rw [i32_of h]
  exact e ⟨n, by omega⟩
theorem allV_int {n : Nat} (h8 : n ≤ 8) : (allV n).toInt = (2 : Int) ^ n - 1 ∧ 0 ≤ (allV n).toInt ∧ (allV n).toInt ≤ 255 := by
  have e : ∀ k : Fin 9, (allV k.val).toInt = (2 : Int) ^ k.val - 1 ∧ 0 ≤ (allV k.val).toInt ∧ (allV k.val).toInt ≤ 255 := by decide +kernel
  exact e ⟨n, by omega⟩
/-- the table of the fewest for lesser sets -/
def Tb (c : Int32 → Int32) (L : Int) (t : Nat → Int32) (u : Int) : Prop := ∀ x : Int32, 0 ≤ x.toInt → x.toInt < u → ∃ k : Nat, (t x.toNatClampNeg).toInt = (k : Int) ∧ k ≤ 9 ∧ Lst c L k x
theorem idx_ne {x y : Int32} (hx : 0 ≤ x.toInt) (hy : 0 ≤ y.toInt) (h : x.toInt ≠ y.toInt) : x.toNatClampNeg ≠ y.toNatClampNeg := by
  rw [cl_idx (e := x) (n := x.toInt.toNat) (by omega), cl_idx (e := y) (n := y.toInt.toNat) (by omega)]
  omega
theorem fo_L {S : cT} {k0 : Nat} {c : Int32 → Int32} {L : Int} {s k2 k3 : Int32} (h0 : 0 < s.toInt) (h255 : s.toInt ≤ 255) (hL : L ≤ 63) (h2 : k2.toInt = L + 1) (h3 : k3 = s &&& (-s)) (hcv : ∀ f : Int32, 0 ≤ f.toInt → f.toInt ≤ L → S.1 (k0 + 1) f.toNatClampNeg = c f) (ht : Tb c L (S.1 (k0 + 2)) s.toInt) : ∀ (N : Nat) (a4 a5 : Int32) (best j : Nat), a4.toInt = (best : Int) → a5.toInt = (j : Int) → (j : Int) ≤ L + 1 → best ≤ 8 → Cv c L best s → (∀ f : Int32, 0 ≤ f.toInt → f.toInt < (j : Int) → c f &&& k3 ≠ 0 → ∀ k, Cv c L k (s &&& (c f ^^^ (-1))) → best ≤ k + 1) → wl (fc_X0_fewestOf_L12 k0 s k2 k3 S N a4 a5) (fun w => ∃ b : Nat, w.1.toInt = (b : Int) ∧ b ≤ 8 ∧ Cv c L b s ∧ ∀ f : Int32, 0 ≤ f.toInt → f.toInt ≤ L → c f &&& k3 ≠ 0 → ∀ k, Cv c L k (s &&& (c f ^^^ (-1))) → b ≤ k + 1) := by
  have l_1 : (1 : Int32).toInt = 1 := by decide
  have l_64 : (64 : Int32).toInt = 64 := by decide
  intro N
  induction N with
  | zero => intro a4 a5 best j _ _ _ _ _ _; exact wl_none
  | succ N ih =>
    intro a4 a5 best j h4 h5 hj hb hc hl
    unfold fc_X0_fewestOf_L12
    refine wl_le (fun y => wl_some ⟨best, h4, hb, hc, fun f f0 f1 => hl f f0 (by omega)⟩) (fun y => ?_)
    refine wl_le (fun y => by exfalso; omega) (fun _ => ?_)
    refine wl_bif (wl_letv (fun v3 e3 => ?_))
    have a := tA (a := a5) (b := 1) (by omega) (by omega)
    have e3' : v3 = c a5 := by rw [e3]; exact hcv a5 (by omega) (by omega)
    refine wl_if (fun z => ?_) (fun z => ?_)
    · refine ih _ _ best (j + 1) h4 (by omega) (by omega) hb hc (fun f f0 f1 g => ?_)
      by_cases y2 : f.toInt = (j : Int)
      · have : f = a5 := Int32.toInt_inj.mp (by omega)
        rw [this, ← e3'] at g
        exact absurd z g
      · exact hl f f0 (by omega) g
    · refine wl_bif (wl_letv (fun v5 e5 => ?_))
      have e5' : v5 = c a5 := by rw [e5]; exact hcv a5 (by omega) (by omega)
      rw [e3'] at z
      obtain ⟨x, hx⟩ : ∃ x, x = s &&& (c a5 ^^^ (-1)) := ⟨_, rfl⟩
      have ne : x ≠ s := fun q => by
        rw [hx] at q
        have w := sd_self q
        refine z ?_
        rw [h3, ← Int32.and_assoc, w, Int32.zero_and]
      have lt := sd_lt (s := s) (x := c a5 ^^^ (-1)) (by omega) (by rw [← hx]; exact ne)
      rw [← hx] at lt
      refine wl_bif (wl_letv (fun v6 e6 => ?_))
      rw [e5', ← hx, and_m255 lt.1 (by omega)] at e6
      obtain ⟨k, q1, q2, q3⟩ := ht x lt.1 lt.2
      rw [← e6] at q1
      have u := tA (a := v6) (b := 1) (by omega) (by omega)
      have cx : Cv c L (k + 1) s := ⟨a5, by omega, by omega, by rw [← hx]; exact q3.1⟩
      by_cases y3 : v6 + 1 < a4
      · have y3' := Int32.lt_iff_toInt_lt.mp y3
        rw [show mnI a4 (v6 + 1) = v6 + 1 from if_pos y3]
        refine ih _ _ (k + 1) (j + 1) (by omega) (by omega) (by omega) (by omega) cx (fun f f0 f1 g k' ck => ?_)
        by_cases y2 : f.toInt = (j : Int)
        · have : f = a5 := Int32.toInt_inj.mp (by omega)
          rw [this, ← hx] at ck
          have := q3.2 k' ck
          omega
        · have := hl f f0 (by omega) g k' ck
          omega
      · have y3' : ¬ (v6 + 1).toInt < a4.toInt := fun q => y3 (Int32.lt_iff_toInt_lt.mpr q)
        rw [show mnI a4 (v6 + 1) = a4 from if_neg y3]
        refine ih _ _ best (j + 1) h4 (by omega) (by omega) hb hc (fun f f0 f1 g k' ck => ?_)
        by_cases y2 : f.toInt = (j : Int)
        · have : f = a5 := Int32.toInt_inj.mp (by omega)
          rw [this, ← hx] at ck
          have := q3.2 k' ck
          omega
        · exact hl f f0 (by omega) g k' ck
theorem fo_w {S : cT} {k0 : Nat} {c : Int32 → Int32} {L : Int} {s k2 : Int32} (h0 : 0 < s.toInt) (h255 : s.toInt ≤ 255) (hL0 : 0 ≤ L) (hL : L ≤ 63) (h2 : k2.toInt = L + 1) (hcv : ∀ f : Int32, 0 ≤ f.toInt → f.toInt ≤ L → S.1 (k0 + 1) f.toNatClampNeg = c f) (ht : Tb c L (S.1 (k0 + 2)) s.toInt) (h8 : Cv c L 8 s) : wl (fc_X0_fewestOf k0 s k2 S) (fun w => ∃ b : Nat, w.toInt = (b : Int) ∧ b ≤ 9 ∧ Lst c L b s) := by
  unfold fc_X0_fewestOf
  refine wl_bind (fo_L h0 h255 hL h2 rfl hcv ht FU 8 0 8 0 (by decide) (by decide) (by omega) (by decide) h8 (fun f f0 f1 => by exfalso; omega)) (fun w hw => wl_some ?_)
  obtain ⟨b, b1, b2, b3, b4⟩ := hw
  refine ⟨b, b1, by omega, b3, fun j hj => ?_⟩
  cases j with
  | zero =>
    have : s = 0 := hj
    rw [this] at h0
    exact absurd h0 (by decide)
  | succ j =>
    obtain ⟨f, q1, q2, q3, q4⟩ := Cv_swap j s (low_ne h0 h255) hj
    exact b4 f q1 q2 q3 j q4
theorem Tb_put {c : Int32 → Int32} {L : Int} {t t' : Nat → Int32} {s : Int32} (h0 : 0 ≤ s.toInt) (ht : Tb c L t s.toInt) (hk : ∀ i, i ≠ s.toNatClampNeg → t' i = t i) (hv : ∃ b : Nat, (t' s.toNatClampNeg).toInt = (b : Int) ∧ b ≤ 9 ∧ Lst c L b s) : Tb c L t' (s.toInt + 1) := by
  intro x x0 x1
  by_cases e : x.toInt = s.toInt
  · rw [Int32.toInt_inj.mp e]
    exact hv
  · rw [hk _ (idx_ne x0 h0 e)]
    exact ht x x0 (by omega)
theorem ff_L58 {k0 : Nat} {c : Int32 → Int32} {L : Int} {k2 k3 : Int32} {n : Nat} (hn : n ≤ 8) (hL0 : 0 ≤ L) (hL : L ≤ 63) (h2 : k2.toInt = L + 1) (h3 : k3 = allV n) (hc : ∀ v, v < n → ∃ f : Int32, 0 ≤ f.toInt ∧ f.toInt ≤ L ∧ (c f).toBitVec.getLsbD v = true) : ∀ (N : Nat) (a4 : Int32) (S : cT), 1 ≤ a4.toInt → a4.toInt ≤ k3.toInt + 1 → (∀ f : Int32, 0 ≤ f.toInt → f.toInt ≤ L → S.1 (k0 + 1) f.toNatClampNeg = c f) → Tb c L (S.1 (k0 + 2)) a4.toInt → wl (fc_X0_fewestFor_L58 k0 k2 k3 N a4 S) (fun w => Tb c L (w.2.1 (k0 + 2)) (k3.toInt + 1)) := by
  have l_1 : (1 : Int32).toInt = 1 := by decide
  have l_256 : (256 : Int32).toInt = 256 := by decide
  have av := allV_int hn
  rw [← h3] at av
  intro N
  induction N with
  | zero => intro a4 S _ _ _ _; exact wl_none
  | succ N ih =>
    intro a4 S b1 b2 hcv ht
    unfold fc_X0_fewestFor_L58
    refine wl_lt (fun y => wl_some ?_) (fun y => ?_)
    · rw [show k3.toInt + 1 = a4.toInt by omega]
      exact ht
    refine wl_le (fun y => by exfalso; omega) (fun _ => ?_)
    have a := tA (a := a4) (b := 1) (by omega) (by omega)
    have c8 : Cv c L 8 a4 := by
      have w := Cv_mono n (allV n) a4 (allV_sub hn (by omega) (by omega)) (Cv_all hc n (by omega))
      have w8 := Cv_le hL0 w (8 - n)
      rw [show n + (8 - n) = 8 by omega] at w8
      exact w8
    refine wl_bind (fo_w (by omega) (by omega) hL0 hL h2 hcv ht c8) (fun q11 g11 => ?_)
    refine wl_bif (wl_letv (fun S13 e13 => ?_))
    refine ih _ _ (by omega) (by omega) (fun f f0 f1 => ?_) ?_
    · rw [e13, ca_ne (Or.inl (by omega))]
      exact hcv f f0 f1
    · rw [a, l_1]
      refine Tb_put (by omega) ht (fun i hi => ?_) ?_
      · rw [e13, ca_ne (Or.inr hi)]
      · rw [e13, ca_at]
        exact g11
theorem vw_ca {S : cT} {i : Nat} {g : Nat → Int32} {m n : Nat} (hi : i = 113 ∨ i = 125) (hv : Vw S i g m n) (q j : Nat) (x : Int32) (hq : q = 111 ∨ q = 112) : Vw (ca S q j x) i g m n := by
  obtain ⟨v1, v2, v3, v4, v5, v6, v7, v8, v9⟩ := hv
  refine ⟨?_, v2, ?_, ?_, ?_, v6, fun k hk => ?_, fun k hk => ?_, v9.1, v9.2.1, ?_, v9.2.2.2⟩
  · rw [ca_ne (Or.inl (by omega))]; exact v1
  · rw [ca_ne (Or.inl (by omega))]; exact v3
  · rw [ca_ne (Or.inl (by omega))]; exact v4
  · rw [ca_ne (Or.inl (by omega))]; exact v5
  · rw [ca_ne (Or.inl (by omega))]; exact v7 k hk
  · rw [ca_ne (Or.inl (by omega))]; exact v8 k hk
  · rw [ca_ne (Or.inl (by omega))]; exact v9.2.2.1
theorem ff_L14 {i : Nat} {g : Nat → Int32} {m n : Nat} (hi : i = 113 ∨ i = 125) {L : Int} {k2 : Int32} (hL : L ≤ 63) (h2 : k2.toInt = L + 1) : ∀ (N : Nat) (a3 : Int32) (S : cT), 0 ≤ a3.toInt → Vw S i g m n → (∀ f : Int32, 0 ≤ f.toInt → f.toInt < a3.toInt → S.1 111 f.toNatClampNeg = cvR g f n) → wl (fc_X0_fewestFor_L14 110 i k2 N a3 S) (fun w => Vw w.2 i g m n ∧ ∀ f : Int32, 0 ≤ f.toInt → f.toInt ≤ L → w.2.1 111 f.toNatClampNeg = cvR g f n) := by
  have l_1 : (1 : Int32).toInt = 1 := by decide
  intro N
  induction N with
  | zero => intro a3 S _ _ _; exact wl_none
  | succ N ih =>
    intro a3 S h0 hv hc
    unfold fc_X0_fewestFor_L14
    refine wl_le (fun y => wl_some ⟨hv, fun f f0 f1 => hc f f0 (by omega)⟩) (fun y => ?_)
    have a := tA (a := a3) (b := 1) (by omega) (by omega)
    refine wl_bind (vo_cw hv) (fun q3 e3 => ?_)
    refine wl_bif (wl_letv (fun S5 e5 => ?_))
    refine ih _ _ (by omega) (by rw [e5]; exact vw_ca hi hv _ _ _ (Or.inl rfl)) (fun f f0 f1 => ?_)
    rw [e5]
    by_cases y2 : f.toInt = a3.toInt
    · rw [Int32.toInt_inj.mp y2]
      show (ca S 111 a3.toNatClampNeg q3).1 111 a3.toNatClampNeg = _
      rw [ca_at, e3]
    · show (ca S 111 a3.toNatClampNeg q3).1 111 f.toNatClampNeg = _
      rw [ca_ne (Or.inr (idx_ne f0 h0 y2))]
      exact hc f f0 (by omega)
theorem ff_w {S : cT} {i : Nat} {g : Nat → Int32} {m n : Nat} (hi : i = 113 ∨ i = 125) (hv : Vw S i g m n) {L : Int} (hL : (((1 : Int32) <<< (g 0 &&& 31)) - 1).toInt = L) (hL0 : 0 ≤ L) (hL6 : L ≤ 63) (hc : ∀ v, v < n → ∃ f : Int32, 0 ≤ f.toInt ∧ f.toInt ≤ L ∧ (cvR g f n).toBitVec.getLsbD v = true) : wl (fc_X0_fewestFor 110 i S) (fun w => ∃ k : Nat, w.1.toInt = (k : Int) ∧ Lst (fun f => cvR g f n) L k (allV n)) := by
  have l_0 : (0 : Int32).toInt = 0 := by decide
  have l_1 : (1 : Int32).toInt = 1 := by decide
  have l_64 : (64 : Int32).toInt = 64 := by decide
  have i0 : (0 : Int32).toNatClampNeg = 0 := by decide
  unfold fc_X0_fewestFor fc_X2_lastFace
  refine wl_bind (R := fun q : Int32 => q.toInt = L) (wl_some ?_) (fun q1 g1 => ?_)
  · rw [hv.2.2.2.2.2.2.2.2.2.2.1]; exact hL
  have a := tA (a := q1) (b := 1) (by omega) (by omega)
  have m2 : (mnI (q1 + 1) 64).toInt = L + 1 := by
    by_cases z : (64 : Int32) < q1 + 1
    · have := Int32.lt_iff_toInt_lt.mp z
      omega
    · rw [show mnI (q1 + 1) 64 = q1 + 1 from if_neg z]
      omega
  obtain ⟨k2, hk2⟩ : ∃ k2, k2 = mnI (q1 + 1) 64 := ⟨_, rfl⟩
  rw [← hk2]
  rw [← hk2] at m2
  refine wl_bind (ff_L14 hi hL6 m2 FU 0 S (by omega) hv (fun f f0 f1 => by exfalso; omega)) (fun w6 h6 => ?_)
  obtain ⟨v6, c6⟩ := h6
  have al : ((1 : Int32) <<< ((w6.2.1 (i + 10) 3) &&& 31)) - 1 = allV n := shl_views v6.2.2.2.2.1 v6.2.2.2.2.2.1
  have n8 := v6.2.2.2.2.2.1
  have av := allV_int n8
  rw [al]
  refine wl_bif (wl_letv (fun S8 e8 => ?_))
  refine wl_bind (ff_L58 (c := fun f => cvR g f n) (L := L) n8 hL0 hL6 m2 rfl hc FU 1 S8 (by omega) (by omega) (fun f f0 f1 => ?_) ?_) (fun w14 h14 => ?_)
  · rw [e8, ca_ne (Or.inl (by omega))]
    exact c6 f f0 f1
  · intro x x0 x1
    have : x = 0 := Int32.toInt_inj.mp (by omega)
    rw [this]
    refine ⟨0, ?_, by decide, rfl, fun j _ => Nat.zero_le j⟩
    rw [e8, ca_at]
    exact l_0
  refine wl_bif (wl_letv (fun v15 e15 => wl_some ?_))
  rw [and_m255 av.2.1 av.2.2] at e15
  obtain ⟨k, q1, q2, q3⟩ := h14 (allV n) av.2.1 (by omega)
  exact ⟨k, by rw [e15]; exact q1, q3⟩
theorem fg_L37 {g : Nat → Int32} {n : Nat} (h9 : (g 409).toInt = (n : Int)) (h8 : n ≤ 8) {L : Int} (hL : (((1 : Int32) <<< (g 0 &&& 31)) - 1).toInt = L) (hL6 : L ≤ 63) {k1 s : Int32} (h0 : 0 < s.toInt) (h255 : s.toInt ≤ 255) : ∀ (N : Nat) (a3 : Int32) (T : mT) (best : Nat), T.1 10 = g → 0 ≤ a3.toInt → Tb (fun f => cvR g f n) L (T.1 13) s.toInt → (T.1 13 s.toNatClampNeg).toInt = (best : Int) → best ≤ 9 → Cv (fun f => cvR g f n) L best s → (∀ f : Int32, 0 ≤ f.toInt → f.toInt < a3.toInt → s &&& (cvR g f n ^^^ (-1)) ≠ s → ∀ k, Cv (fun f => cvR g f n) L k (s &&& (cvR g f n ^^^ (-1))) → best ≤ k + 1) → wl (fm_fewestFaces_L37 k1 s N a3 T) (fun w => w.2.1 10 = g ∧ Tb (fun f => cvR g f n) L (w.2.1 13) s.toInt ∧ ∃ b : Nat, (w.2.1 13 s.toNatClampNeg).toInt = (b : Int) ∧ b ≤ 9 ∧ Cv (fun f => cvR g f n) L b s ∧ ∀ f : Int32, 0 ≤ f.toInt → f.toInt ≤ L → s &&& (cvR g f n ^^^ (-1)) ≠ s → ∀ k, Cv (fun f => cvR g f n) L k (s &&& (cvR g f n ^^^ (-1))) → b ≤ k + 1) := by
  have l_1 : (1 : Int32).toInt = 1 := by decide
  intro N
  induction N with
  | zero => intro a3 T best _ _ _ _ _ _ _; exact wl_none
  | succ N ih =>
    intro a3 T best hg h3 ht hb hb9 hc hl
    unfold fm_fewestFaces_L37
    refine wl_bind (R := fun q : Int32 => q.toInt = L) ?_ (fun q5 e5 => ?_)
    · unfold fm_allMarks
      refine wl_bif (wl_letv (fun v1 e1 => wl_some ?_))
      rw [e1, hg]
      exact hL
    refine wl_lt (fun y => wl_some ⟨hg, ht, best, hb, hb9, hc, fun f f0 f1 => hl f f0 (by omega)⟩) (fun y => ?_)
    have a := tA (a := a3) (b := 1) (by omega) (by omega)
    refine wl_bind (vo_mw hg h9 h8) (fun q7 e7 => ?_)
    rw [e7]
    obtain ⟨x, hx⟩ : ∃ x, x = s &&& (cvR g a3 n ^^^ (-1)) := ⟨_, rfl⟩
    rw [← hx]
    have keep : (x ≠ s → ∀ k, Cv (fun f => cvR g f n) L k x → best ≤ k + 1) → ∀ f : Int32, 0 ≤ f.toInt → f.toInt < (a3 + 1).toInt → s &&& (cvR g f n ^^^ (-1)) ≠ s → ∀ k, Cv (fun f => cvR g f n) L k (s &&& (cvR g f n ^^^ (-1))) → best ≤ k + 1 := by
      intro hq f f0 f1 ne k ck
      by_cases y2 : f.toInt = a3.toInt
      · rw [Int32.toInt_inj.mp y2, ← hx] at ne ck
        exact hq ne k ck
      · exact hl f f0 (by omega) ne k ck
    refine wl_if (fun z => ?_) (fun z => ?_)
    · exact ih _ _ best hg (by omega) ht hb hb9 hc (keep (fun ne => absurd z ne))
    · have lt := sd_lt (s := s) (x := cvR g a3 n ^^^ (-1)) (by omega) (by rw [← hx]; exact z)
      rw [← hx] at lt
      obtain ⟨k, q1, q2, q3⟩ := ht x lt.1 lt.2
      refine wl_bif (wl_letv (fun v9 e9 => wl_bif (wl_letv (fun v10 e10 => ?_))))
      rw [← e9] at q1
      have u := tA (a := v9) (b := 1) (by omega) (by omega)
      have hb' : v10.toInt = (best : Int) := by rw [e10]; exact hb
      refine wl_le (fun y3 => ?_) (fun y3 => ?_)
      · refine ih _ _ best hg (by omega) ht hb hb9 hc (keep (fun _ k' ck => ?_))
        have := q3.2 k' ck
        omega
      · refine wl_bif (wl_letv (fun v12 e12 => wl_bif (wl_letv (fun T13 e13 => ?_))))
        have e12' : v12 = v9 := by rw [e12, e9]
        rw [e12'] at e13
        have cx : Cv (fun f => cvR g f n) L (k + 1) s := ⟨a3, by omega, by omega, by rw [hx] at q3; exact q3.1⟩
        refine ih _ _ (k + 1) ?_ (by omega) ?_ ?_ (by omega) cx (fun f f0 f1 ne k' ck => ?_)
        · rw [e13, ma_no _ _ _ (by decide)]; exact hg
        · intro x' x0 x1
          rw [e13, ma_ne (Or.inr (idx_ne x0 (by omega) (by omega)))]
          exact ht x' x0 x1
        · rw [e13, ma_at]
          omega
        · by_cases y2 : f.toInt = a3.toInt
          · rw [Int32.toInt_inj.mp y2, ← hx] at ck
            have := q3.2 k' ck
            omega
          · have := hl f f0 (by omega) ne k' ck
            omega
theorem fg_L22 {g : Nat → Int32} {n : Nat} (h9 : (g 409).toInt = (n : Int)) (h8 : n ≤ 8) {L : Int} (hL : (((1 : Int32) <<< (g 0 &&& 31)) - 1).toInt = L) (hL0 : 0 ≤ L) (hL6 : L ≤ 63) (hc : ∀ v, v < n → ∃ f : Int32, 0 ≤ f.toInt ∧ f.toInt ≤ L ∧ (cvR g f n).toBitVec.getLsbD v = true) {k1 : Int32} (h1 : k1 = allV n) : ∀ (N : Nat) (a2 : Int32) (T : mT), T.1 10 = g → 1 ≤ a2.toInt → a2.toInt ≤ k1.toInt + 1 → Tb (fun f => cvR g f n) L (T.1 13) a2.toInt → wl (fm_fewestFaces_L22 k1 N a2 T) (fun w => Tb (fun f => cvR g f n) L (w.2.1 13) (k1.toInt + 1)) := by
  have l_0 : (0 : Int32).toInt = 0 := by decide
  have l_1 : (1 : Int32).toInt = 1 := by decide
  have l_9 : (9 : Int32).toInt = 9 := by decide
  have av := allV_int h8
  rw [← h1] at av
  intro N
  induction N with
  | zero => intro a2 T _ _ _ _; exact wl_none
  | succ N ih =>
    intro a2 T hg b1 b2 ht
    unfold fm_fewestFaces_L22
    refine wl_lt (fun y => wl_some ?_) (fun y => ?_)
    · rw [show k1.toInt + 1 = a2.toInt by omega]
      exact ht
    have a := tA (a := a2) (b := 1) (by omega) (by omega)
    have c9 : Cv (fun f => cvR g f n) L 9 a2 := by
      have w := Cv_mono n (allV n) a2 (allV_sub h8 (by omega) (by omega)) (Cv_all hc n (by omega))
      have w8 := Cv_le hL0 w (9 - n)
      rw [show n + (9 - n) = 9 by omega] at w8
      exact w8
    refine wl_bif (wl_letv (fun T4 e4 => ?_))
    refine wl_bind (fg_L37 (k1 := k1) h9 h8 hL hL6 (by omega) (by omega) FU 0 T4 9 ?_ (by omega) ?_ ?_ (by decide) c9 (fun f f0 f1 => by exfalso; omega)) (fun w14 h14 => ?_)
    · rw [e4, ma_no _ _ _ (by decide)]; exact hg
    · intro x x0 x1
      rw [e4, ma_ne (Or.inr (idx_ne x0 (by omega) (by omega)))]
      exact ht x x0 x1
    · rw [e4, ma_at]; exact l_9
    obtain ⟨t1, t2, b, t3, t4, t5, t6⟩ := h14
    refine ih _ _ t1 (by omega) (by omega) ?_
    rw [a, l_1]
    refine Tb_put (by omega) t2 (fun _ _ => rfl) ⟨b, t3, t4, t5, fun j => ?_⟩
    induction j with
    | zero =>
      intro hj
      have : a2 = 0 := hj
      rw [this] at b1
      omega
    | succ j ihj =>
      intro hj
      obtain ⟨f, f0, f1, f2⟩ := hj
      by_cases e : a2 &&& (cvR g f n ^^^ (-1)) = a2
      · have f2' : Cv (fun f => cvR g f n) L j (a2 &&& (cvR g f n ^^^ (-1))) := f2
        rw [e] at f2'
        have := ihj f2'
        omega
      · exact t6 f f0 f1 e j f2
theorem fg_w {T : mT} {g : Nat → Int32} {n : Nat} (hg : T.1 10 = g) (h9 : (g 409).toInt = (n : Int)) (h8 : n ≤ 8) {L : Int} (hL : (((1 : Int32) <<< (g 0 &&& 31)) - 1).toInt = L) (hL0 : 0 ≤ L) (hL6 : L ≤ 63) (hc : ∀ v, v < n → ∃ f : Int32, 0 ≤ f.toInt ∧ f.toInt ≤ L ∧ (cvR g f n).toBitVec.getLsbD v = true) : wl (fm_fewestFaces T) (fun w => ∃ k : Nat, w.1.toInt = (k : Int) ∧ Lst (fun f => cvR g f n) L k (allV n)) := by
  have l_0 : (0 : Int32).toInt = 0 := by decide
  have l_1 : (1 : Int32).toInt = 1 := by decide
  have av := allV_int h8
  unfold fm_fewestFaces
  refine wl_bif (wl_letv (fun v1 e1 => ?_))
  have e1' : v1 = g 409 := by rw [e1, hg]; rfl
  have al : ((1 : Int32) <<< (v1 &&& 31)) - 1 = allV n := shl_views (by rw [e1']; exact h9) h8
  rw [al]
  refine wl_bif (wl_letv (fun T2 e2 => ?_))
  refine wl_bind (fg_L22 h9 h8 hL hL0 hL6 hc rfl FU 1 T2 ?_ (by omega) (by omega) ?_) (fun w15 h15 => ?_)
  · rw [e2, ma_no _ _ _ (by decide)]; exact hg
  · intro x x0 x1
    have : x = 0 := Int32.toInt_inj.mp (by omega)
    rw [this]
    refine ⟨0, ?_, by decide, rfl, fun j _ => Nat.zero_le j⟩
    rw [e2, ma_at]
    exact l_0
  refine wl_bif (wl_letv (fun v16 e16 => wl_some ?_))
  obtain ⟨k, q1, q2, q3⟩ := h15 (allV n) av.2.1 (by omega)
  exact ⟨k, by rw [e16]; exact q1, q3⟩
/-! ===== how many views are of one ===== -/
def bcI (x : Int32) : Int32 := (fc_J6_bitCount_0f7a4 x).getD 0
theorem bc_c (x : Int32) : fc_J6_bitCount_0f7a4 x = some (bcI x) := rfl
theorem bc_m {x : Int32} (h0 : 0 ≤ x.toInt) (h : x.toInt ≤ 255) : fm_bits x = some (bcI x) := by
  have e : ∀ k : Fin 256, fm_bits (Int32.ofNat k.val) = some (bcI (Int32.ofNat k.val)) := by decide +kernel
  obtain ⟨k, hk⟩ : ∃ k : Nat, x.toInt = (k : Int) := ⟨x.toInt.toNat, by omega⟩
  rw [i32_of hk]
  exact e ⟨k, by omega⟩
def mvR (g : Nat → Int32) (n : Nat) : Nat → Int32
  | 0 => 0
  | k + 1 => mxI (mvR g n k) (bcI (cvR g (g (8 + 4 * k)) n))
def swR (g : Nat → Int32) (n : Nat) (q : Int32) : Nat → Int32
  | 0 => 0
  | k + 1 => if bcI (cvR g (g (8 + 4 * k)) n) = q then swR g n q k ||| ((1 : Int32) <<< (Int32.ofNat k &&& 31)) else swR g n q k
theorem mvR_s (g : Nat → Int32) (n k : Nat) : mvR g n (k + 1) = mxI (mvR g n k) (bcI (cvR g (g (8 + 4 * k)) n)) := rfl
theorem swR_s (g : Nat → Int32) (n : Nat) (q : Int32) (k : Nat) : swR g n q (k + 1) = if bcI (cvR g (g (8 + 4 * k)) n) = q then swR g n q k ||| ((1 : Int32) <<< (Int32.ofNat k &&& 31)) else swR g n q k := rfl
theorem mx_ge2 {a b : Int32} : (a.toInt ≤ (mxI a b).toInt ∧ b.toInt ≤ (mxI a b).toInt) := by
  by_cases z : a < b
  · rw [show mxI a b = b from if_pos z]
    have := Int32.lt_iff_toInt_lt.mp z
    omega
  · rw [show mxI a b = a from if_neg z]
    have : ¬ a.toInt < b.toInt := fun q => z (Int32.lt_iff_toInt_lt.mpr q)
    omega
theorem mv_ge (g : Nat → Int32) (n : Nat) : ∀ k p, p < k → (bcI (cvR g (g (8 + 4 * p)) n)).toInt ≤ (mvR g n k).toInt := by
  intro k
  induction k with
  | zero => intro p hp; exfalso; omega
  | succ k ih =>
    intro p hp
    have m := mx_ge2 (a := mvR g n k) (b := bcI (cvR g (g (8 + 4 * k)) n))
    show _ ≤ (mxI (mvR g n k) (bcI (cvR g (g (8 + 4 * k)) n))).toInt
    by_cases e : p = k
    · rw [e]; exact m.2
    · exact Int.le_trans (ih p (by omega)) m.1
theorem sw_zero (g : Nat → Int32) (n : Nat) (q : Int32) : ∀ k, (∀ p, p < k → bcI (cvR g (g (8 + 4 * p)) n) ≠ q) → swR g n q k = 0 := by
  intro k
  induction k with
  | zero => intro _; rfl
  | succ k ih =>
    intro h
    rw [swR_s]
    rw [if_neg (h k (by omega))]
    exact ih (fun p hp => h p (by omega))
theorem mo_c {S : cT} {i : Nat} {g : Nat → Int32} {m n : Nat} (hv : Vw S i g m n) : ∀ (N : Nat) (a1 a2 : Int32) (k : Nat), a2.toInt = (k : Int) → k ≤ m → a1 = mvR g n k → wl (fc_X2_mostViewsOfOne_L4 i S N a1 a2) (fun w => w.1 = mvR g n m) := by
  have l_1 : (1 : Int32).toInt = 1 := by decide
  intro N
  induction N with
  | zero => intro a1 a2 k _ _ _; exact wl_none
  | succ N ih =>
    intro a1 a2 k h2 hk h1
    have v1 := hv.1
    have v2 := hv.2.1
    unfold fc_X2_mostViewsOfOne_L4
    refine wl_le (fun y => wl_some ?_) (fun y => ?_)
    · rw [h1, show k = m by omega]
    have a := tA (a := a2) (b := 1) (by omega) (by omega)
    refine wl_bind (face_w hv h2 (by omega)) (fun q2 e2 => ?_)
    refine wl_bind (vo_cw hv) (fun q3 e3 => ?_)
    rw [bc_c]
    refine wl_bind (R := fun q : Int32 => q = bcI q3) (wl_some rfl) (fun q4 e4 => ?_)
    refine ih _ _ (k + 1) (by omega) (by omega) ?_
    rw [mvR_s, e4, e3, e2, h1]
theorem sw_c {S : cT} {i : Nat} {g : Nat → Int32} {m n : Nat} (hv : Vw S i g m n) {q : Int32} : ∀ (N : Nat) (a2 a3 : Int32) (k : Nat), a3.toInt = (k : Int) → k ≤ m → a2 = swR g n q k → wl (fc_X2_sworn_L4 i q S N a2 a3) (fun w => w.1 = swR g n q m) := by
  have l_1 : (1 : Int32).toInt = 1 := by decide
  intro N
  induction N with
  | zero => intro a2 a3 k _ _ _; exact wl_none
  | succ N ih =>
    intro a2 a3 k h3 hk h2
    have v1 := hv.1
    have v2 := hv.2.1
    unfold fc_X2_sworn_L4
    refine wl_le (fun y => wl_some ?_) (fun y => ?_)
    · rw [h2, show k = m by omega]
    have a := tA (a := a3) (b := 1) (by omega) (by omega)
    refine wl_bind (face_w hv h3 (by omega)) (fun q2 e2 => ?_)
    refine wl_bind (vo_cw hv) (fun q3 e3 => ?_)
    rw [bc_c]
    refine wl_bind (R := fun z : Int32 => z = bcI q3) (wl_some rfl) (fun q4 e4 => ?_)
    rw [e4, e3, e2]
    refine wl_if (fun c => ?_) (fun c => ?_)
    · refine ih _ _ (k + 1) (by omega) (by omega) ?_
      rw [swR_s]
      rw [if_pos c, h2, i32_of h3]
    · refine ih _ _ (k + 1) (by omega) (by omega) ?_
      rw [swR_s]
      rw [if_neg c]
      exact h2
theorem vs_m {T : mT} {g : Nat → Int32} {m n : Nat} (hg : T.1 10 = g) (h1 : (g 1).toInt = (m : Int)) (hm : m ≤ 8) (h9 : (g 409).toInt = (n : Int)) (h8 : n ≤ 8) (hb : ∀ f, 0 ≤ (cvR g f n).toInt ∧ (cvR g f n).toInt ≤ 255) {k1 : Int32} : ∀ (N : Nat) (a2 a3 a4 : Int32) (k : Nat), a4.toInt = (k : Int) → k ≤ m → a2 = mvR g n k → a3 = swR g n (mvR g n k) k → wl (fm_views_L37 k1 T N a2 a3 a4) (fun w => w.1 = mvR g n m ∧ w.2.1 = swR g n (mvR g n m) m) := by
  have l_1 : (1 : Int32).toInt = 1 := by decide
  intro N
  induction N with
  | zero => intro a2 a3 a4 k _ _ _ _; exact wl_none
  | succ N ih =>
    intro a2 a3 a4 k h4 hk h2 h3
    unfold fm_views_L37
    refine wl_bif (wl_letv (fun v6 e6 => ?_))
    have e6' : v6 = g 1 := by rw [e6, hg]; rfl
    rw [e6']
    refine wl_le (fun y => wl_some ?_) (fun y => ?_)
    · have : k = m := by omega
      rw [h2, h3, this]
      exact ⟨rfl, rfl⟩
    have a := tA (a := a4) (b := 1) (by omega) (by omega)
    refine wl_bind (per_w hg h4 (by omega)) (fun q8 e8 => ?_)
    refine wl_bind (vo_mw hg h9 h8) (fun q9 e9 => ?_)
    rw [e9, e8]
    obtain ⟨z, hz⟩ : ∃ z, z = bcI (cvR g (g (8 + 4 * k)) n) := ⟨_, rfl⟩
    rw [bc_m (hb _).1 (hb _).2, ← hz]
    refine wl_bind (R := fun q : Int32 => q = z) (wl_some rfl) (fun q10 e10 => ?_)
    rw [e10]
    have mk1 : mvR g n (k + 1) = mxI a2 z := by rw [h2, hz, mvR_s]
    have sw1 : ∀ q, swR g n q (k + 1) = if z = q then swR g n q k ||| ((1 : Int32) <<< (Int32.ofNat k &&& 31)) else swR g n q k := fun q => by rw [hz, swR_s]
    have i4 := i32_of h4
    rcases Int.lt_trichotomy z.toInt a2.toInt with c | c | c
    · have mx : mxI a2 z = a2 := if_neg (fun q => by have := Int32.lt_iff_toInt_lt.mp q; omega)
      have lt : z < a2 := Int32.lt_iff_toInt_lt.mpr c
      have le : z ≤ a2 := Int32.le_iff_toInt_le.mpr (by omega)
      rw [if_pos le]
      refine wl_bind (R := fun q : Int32 => q = a3) (wl_some rfl) (fun w11 e11 => ?_)
      rw [if_pos lt]
      refine wl_bind (R := fun q : Int32 => q = a3) (wl_some e11) (fun w13 e13 => ?_)
      rw [if_pos le]
      refine ih _ _ _ (k + 1) (by omega) (by omega) (by rw [mk1, mx]) ?_
      rw [mk1, mx, sw1, if_neg (fun q => by rw [q] at c; omega), e13, h3, h2]
    · have ez : z = a2 := Int32.toInt_inj.mp c
      have mx : mxI a2 z = a2 := if_neg (fun q => by have := Int32.lt_iff_toInt_lt.mp q; omega)
      have lt : ¬ z < a2 := fun q => by have := Int32.lt_iff_toInt_lt.mp q; omega
      have le : z ≤ a2 := Int32.le_iff_toInt_le.mpr (by omega)
      rw [if_pos le]
      refine wl_bind (R := fun q : Int32 => q = a3) (wl_some rfl) (fun w11 e11 => ?_)
      rw [if_neg lt]
      refine wl_bind (R := fun q : Int32 => q = a3 ||| ((1 : Int32) <<< (a4 &&& 31))) (wl_some (by rw [e11])) (fun w13 e13 => ?_)
      rw [if_pos le]
      refine ih _ _ _ (k + 1) (by omega) (by omega) (by rw [mk1, mx]) ?_
      rw [mk1, mx, sw1, if_pos ez, e13, h3, h2, i4]
    · have lt' : a2 < z := Int32.lt_iff_toInt_lt.mpr c
      have mx : mxI a2 z = z := if_pos lt'
      have lt : ¬ z < a2 := fun q => by have := Int32.lt_iff_toInt_lt.mp q; omega
      have le : ¬ z ≤ a2 := fun q => by have := Int32.le_iff_toInt_le.mp q; omega
      rw [if_neg le]
      refine wl_bind (R := fun q : Int32 => q = 0) (wl_some rfl) (fun w11 e11 => ?_)
      rw [if_neg lt]
      refine wl_bind (R := fun q : Int32 => q = 0 ||| ((1 : Int32) <<< (a4 &&& 31))) (wl_some (by rw [e11])) (fun w13 e13 => ?_)
      rw [if_neg le]
      refine ih _ _ _ (k + 1) (by omega) (by omega) (by rw [mk1, mx]) ?_
      have zz : swR g n z k = 0 := sw_zero g n z k (fun p hp q => by
        have := mv_ge g n k p hp
        rw [q, ← h2] at this
        omega)
      rw [mk1, mx, sw1, if_pos rfl, e13, i4, zz]
def vieA (g : Nat → Int32) (m n : Nat) (L : Int) (p0 x : Int32) : Prop := (m = 0 → x = -1) ∧ (m ≠ 0 → (p0 = 0 → ∃ k : Nat, x.toInt = (k : Int) ∧ Lst (fun f => cvR g f n) L k (allV n)) ∧ (p0 = 1 → x = swR g n (mvR g n m) m) ∧ (p0 = 2 → x = mvR g n m) ∧ (p0 ≠ 0 → p0 ≠ 1 → p0 ≠ 2 → x = -1))
theorem vieA_one {g : Nat → Int32} {m n : Nat} {L : Int} {p0 x y : Int32} (a : vieA g m n L p0 x) (b : vieA g m n L p0 y) : x = y := by
  by_cases hm : m = 0
  · rw [a.1 hm, b.1 hm]
  · obtain ⟨a0, a1, a2, a3⟩ := a.2 hm
    obtain ⟨b0, b1, b2, b3⟩ := b.2 hm
    by_cases z0 : p0 = 0
    · obtain ⟨k, k1, k2⟩ := a0 z0
      obtain ⟨j, j1, j2⟩ := b0 z0
      have := Lst_one k2 j2
      exact Int32.toInt_inj.mp (by omega)
    · by_cases z1 : p0 = 1
      · rw [a1 z1, b1 z1]
      · by_cases z2 : p0 = 2
        · rw [a2 z2, b2 z2]
        · rw [a3 z0 z1 z2, b3 z0 z1 z2]
theorem s_views {S : cT} {T : mT} {p0 : Int32} (h : J5 S T) : St true J5 (fc_X11_views 0 p0 S) (fm_views p0 T) := by
  obtain ⟨m, n, hv⟩ := vw_of h
  obtain ⟨hI, hA, R⟩ := h
  have h6 := R.2.2.2.2.2.1
  have l_0 : (0 : Int32).toInt = 0 := by decide
  have l_1 : (1 : Int32).toInt = 1 := by decide
  have l_2 : (2 : Int32).toInt = 2 := by decide
  have k0 : (0 : Int64).toInt = 0 := by decide
  have k2 : (2 : Int64).toInt = 2 := by decide
  have hP : IC (PV noD S) S := IC_pv hI
  have hQ : Aft (QV noD T) T := IQ_qv hA
  obtain ⟨v1, v2, v3, v4, v5, v6, v7, v8, v9, v10, v11, v12, v13⟩ := id hv
  have ne2 : S.2.2.1 = 113 ∨ S.2.2.1 = 125 := by rcases hI.2.2 with ⟨a, -⟩ | ⟨a, -⟩; exact Or.inl a; exact Or.inr a
  obtain ⟨mq, hmq⟩ : ∃ mq : Nat, (T.1 10 0).toInt = (mq : Int) := ⟨(T.1 10 0).toInt.toNat, by omega⟩
  obtain ⟨L, hL⟩ : ∃ L : Int, (((1 : Int32) <<< (T.1 10 0 &&& 31)) - 1).toInt = L := ⟨_, rfl⟩
  have hL2 : L = (2 : Int) ^ mq - 1 := by rw [← hL]; exact shl_face hmq (by omega)
  have LL : ∀ k : Fin 7, 0 ≤ (2 : Int) ^ k.val - 1 ∧ (2 : Int) ^ k.val - 1 ≤ 63 := by decide
  have hL06 : 0 ≤ L ∧ L ≤ 63 := by rw [hL2]; exact LL ⟨mq, by omega⟩
  have hc : ∀ v, v < n → ∃ f : Int32, 0 ≤ f.toInt ∧ f.toInt ≤ L ∧ (cvR (T.1 10) f n).toBitVec.getLsbD v = true := by
    intro v hvn
    have w := h6.2.2 v (by rw [Nat.zero_add]; omega)
    rw [Nat.zero_add, Nat.zero_add, Nat.zero_add] at w
    refine ⟨T.1 10 (392 + (2 * v + 1)), w.1, by rw [← hL]; exact w.2.1, (cv_bit _ _ v n v6).mpr ⟨hvn, w.2.2⟩⟩
  have hb : ∀ f, 0 ≤ (cvR (T.1 10) f n).toInt ∧ (cvR (T.1 10) f n).toInt ≤ 255 := by
    intro f
    obtain ⟨a, ea, ha⟩ := tm_viewsOf (p0 := f) hA.1
    have e := vo_mw (T := T) (f := f) rfl v10 v6 a ea
    rw [← e]
    exact ha
  have mk0 : m = 0 ↔ ¬ 0 < (T.1 10 0).toInt := by
    have w1 := h6.2.1
    rw [Nat.zero_add, Nat.zero_add] at w1
    have w2 : 0 < (T.1 10 0).toInt → 0 < (T.1 10 (0 + 1)).toInt := hA.1.2.1.1.1
    rw [Nat.zero_add] at w2
    refine ⟨fun z y => ?_, fun z => ?_⟩
    · have := w2 y
      omega
    · by_cases y : m = 0
      · exact y
      · exact absurd (w1 (by omega)) z
  refine st_ans (A := vieA (T.1 10) m n L p0) (B := vieA (T.1 10) m n L p0) hA R (kc_w (tc_X11_views rfl hP)) (km_r hA (tm_views hQ.1)) ?_ ?_ (fun x y a b => vieA_one a b)
  · unfold fc_X11_views
    refine wl_bif (wl_eq (fun z => wl_some ⟨fun _ => rfl, fun z' => by exfalso; omega⟩) (fun z => ?_))
    have mn : m ≠ 0 := by omega
    refine wl_if (fun z0 => ?_) (fun z0 => ?_)
    · refine wl_bind (ff_w ne2 hv hL hL06.1 hL06.2 hc) (fun q4 h4 => wl_some ⟨fun y => absurd y mn, fun _ => ⟨fun _ => h4, fun y => ?_, fun y => ?_, fun y => absurd z0 y⟩⟩)
      · rw [z0] at y; exact absurd y (by decide)
      · rw [z0] at y; exact absurd y (by decide)
    refine wl_if (fun z1 => ?_) (fun z1 => ?_)
    · unfold fc_X2_mostViewsOfOne fc_X2_sworn
      refine wl_bind (R := fun q : Int32 => q = mvR (T.1 10) n m) (wl_bind (mo_c hv FU 0 0 0 (by decide) (by omega) rfl) (fun w e => wl_some e)) (fun q6 e6 => ?_)
      rw [e6]
      refine wl_bind (R := fun q : Int32 => q = swR (T.1 10) n (mvR (T.1 10) n m) m) (wl_bind (sw_c hv FU 0 0 0 (by decide) (by omega) rfl) (fun w e => wl_some e)) (fun q7 e7 => wl_some ⟨fun y => absurd y mn, fun _ => ⟨fun y => absurd y z0, fun _ => e7, fun y => ?_, fun _ y => absurd z1 y⟩⟩)
      rw [z1] at y; exact absurd y (by decide)
    refine wl_if (fun z2 => ?_) (fun z2 => ?_)
    · unfold fc_X2_mostViewsOfOne
      refine wl_bind (R := fun q : Int32 => q = mvR (T.1 10) n m) (wl_bind (mo_c hv FU 0 0 0 (by decide) (by omega) rfl) (fun w e => wl_some e)) (fun q6 e6 => wl_some ⟨fun y => absurd y mn, fun _ => ⟨fun y => absurd y z0, fun y => absurd y z1, fun _ => e6, fun _ _ y => absurd z2 y⟩⟩)
    · exact wl_some ⟨fun _ => rfl, fun _ => ⟨fun y => absurd y z0, fun y => absurd y z1, fun y => absurd y z2, fun _ _ _ => rfl⟩⟩
  · unfold fm_views
    refine wl_bind (R := fun r => r = true ↔ 0 < (T.1 10 0).toInt) ?_ (fun q1 g1 => ?_)
    · unfold fm_isIsland
      refine wl_bif (wl_letv (fun u1 e1 => ?_))
      have e1' : u1 = T.1 10 0 := e1
      rw [e1']
      exact wl_le (fun y => wl_some ⟨fun x => (by cases x), fun x => by exfalso; omega⟩) (fun y => wl_some ⟨fun _ => by omega, fun _ => rfl⟩)
    refine wl_b (fun b => wl_some ⟨fun _ => rfl, fun z => absurd (mk0.mpr (fun y => ?_)) z⟩) (fun b => ?_)
    · rw [g1.mpr y] at b; cases b
    have mn : m ≠ 0 := fun z => mk0.mp z (g1.mp b)
    have y0 := Int32.toInt_toInt64 p0
    refine wl_bind (wl_of tm_inq) (fun q3 g3 => wl_b (fun b3 => wl_some ⟨fun _ => rfl, fun _ => ⟨fun y => ?_, fun y => ?_, fun y => ?_, fun _ _ _ => rfl⟩⟩) (fun b3 => ?_))
    · exact absurd (by rw [y]; decide) (g3.2 b3)
    · exact absurd (by rw [y]; decide) (g3.2 b3)
    · exact absurd (by rw [y]; decide) (g3.2 b3)
    have c := g3.1 b3
    rw [y0, k0, k2] at c
    refine wl_if (fun z0 => ?_) (fun z0 => ?_)
    · refine wl_bind (fg_w rfl v10 v6 hL hL06.1 hL06.2 hc) (fun q4 h4 => wl_some ⟨fun y => absurd y mn, fun _ => ⟨fun _ => h4, fun y => ?_, fun y => ?_, fun y => absurd z0 y⟩⟩)
      · rw [z0] at y; exact absurd y (by decide)
      · rw [z0] at y; exact absurd y (by decide)
    have z0' : p0.toInt ≠ 0 := fun y => z0 (Int32.toInt_inj.mp (by omega))
    refine wl_bind (vs_m rfl v9 v2 v10 v6 hb FU 0 0 0 0 (by decide) (by omega) rfl rfl) (fun w16 e16 => ?_)
    refine wl_if (fun z1 => ?_) (fun z1 => ?_)
    · refine wl_some ⟨fun y => absurd y mn, fun _ => ⟨fun y => absurd y z0, fun _ => e16.2, fun y => ?_, fun _ y => absurd z1 y⟩⟩
      rw [z1] at y; exact absurd y (by decide)
    · have z1' : p0.toInt ≠ 1 := fun y => z1 (Int32.toInt_inj.mp (by omega))
      have z2 : p0 = 2 := Int32.toInt_inj.mp (by omega)
      exact wl_some ⟨fun y => absurd y mn, fun _ => ⟨fun y => absurd y z0, fun y => absurd y z1, fun _ => e16.1, fun _ _ y => absurd z2 y⟩⟩
