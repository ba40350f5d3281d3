/-! ===== what is asked of an answer; whole numbers out of Int32 ===== -/
def wp {α : Type} (x : Option α) (P : α → Prop) : Prop := ∃ a, x = some a ∧ P a
section WP
variable {α β γ : Type} {P : α → Prop}
theorem wp_some {a : α} (h : P a) : wp (some a) P := ⟨a, rfl, h⟩
theorem wp_bif {b : Bool} {x : Option α} (hb : b = true) (h : wp x P) : wp (bif b then x else none) P := by rw [hb]; exact h
theorem wp_letv {x : β} {f : β → Option α} (h : ∀ a, a = x → wp (f a) P) : wp (letv x f) P := h x rfl
theorem wp_bind {x : Option β} {f : β → Option α} {Q : β → Prop} (hx : wp x Q) (h : ∀ a, Q a → wp (f a) P) : wp (x.bind f) P := by
  obtain ⟨a, rfl, ha⟩ := hx
  exact h a ha
theorem wp_mono {x : Option α} {Q : α → Prop} (hx : wp x Q) (h : ∀ a, Q a → P a) : wp x P := by
  obtain ⟨a, e, ha⟩ := hx
  exact ⟨a, e, h a ha⟩
theorem wp_if {c : Prop} {D : Decidable c} {e f : Option α} (kt : c → wp e P) (kf : ¬ c → wp f P) : wp (@ite _ c D e f) P := by
  by_cases h : c
  · rw [if_pos h]; exact kt h
  · rw [if_neg h]; exact kf h
theorem wp_lt {a b : Int32} {D : Decidable (a < b)} {e f : Option α} (kt : a.toInt < b.toInt → wp e P) (kf : b.toInt ≤ a.toInt → wp f P) : wp (@ite _ (a < b) D e f) P :=
  wp_if (fun h => kt (Int32.lt_iff_toInt_lt.mp h)) (fun h => kf (Int.not_lt.mp (fun z => h (Int32.lt_iff_toInt_lt.mpr z))))
theorem wp_le {a b : Int32} {D : Decidable (a ≤ b)} {e f : Option α} (kt : a.toInt ≤ b.toInt → wp e P) (kf : b.toInt < a.toInt → wp f P) : wp (@ite _ (a ≤ b) D e f) P :=
  wp_if (fun h => kt (Int32.le_iff_toInt_le.mp h)) (fun h => kf (Int.not_le.mp (fun z => h (Int32.le_iff_toInt_le.mpr z))))
theorem wp_eq {a b : Int32} {D : Decidable (a = b)} {e f : Option α} (kt : a.toInt = b.toInt → wp e P) (kf : a.toInt ≠ b.toInt → wp f P) : wp (@ite _ (a = b) D e f) P :=
  wp_if (fun h => kt (congrArg Int32.toInt h)) (fun h => kf (fun z => h (Int32.toInt_inj.mp z)))
theorem wp_eqn {a b : Int32} {D : Decidable (a = b)} {e f : Option α} (kt : a.toInt = b.toInt → wp e P) (kf : wp f P) : wp (@ite _ (a = b) D e f) P := wp_eq kt (fun _ => kf)
theorem wp_eq_hi {a b : Int32} {D : Decidable (a = b)} {e f : Option α} (h : a.toInt ≤ b.toInt) (kt : a.toInt = b.toInt → wp e P) (kf : a.toInt < b.toInt → wp f P) : wp (@ite _ (a = b) D e f) P := wp_eq kt (fun q => kf (by omega))
theorem wp_eq_lo {a b : Int32} {D : Decidable (a = b)} {e f : Option α} (h : b.toInt ≤ a.toInt) (kt : a.toInt = b.toInt → wp e P) (kf : b.toInt < a.toInt → wp f P) : wp (@ite _ (a = b) D e f) P := wp_eq kt (fun q => kf (by omega))
theorem b2i_1 : ¬ (b2i true).toInt = (0 : Int32).toInt := by decide
theorem wp_b {b : Bool} {D : Decidable (b2i b = 0)} {e f : Option α} (kt : b = false → wp e P) (kf : b = true → wp f P) : wp (@ite _ (b2i b = 0) D e f) P :=
  wp_if (fun h => kt (by cases b; rfl; exact absurd (congrArg Int32.toInt h) b2i_1)) (fun h => kf (by cases b; exact absurd rfl h; rfl))
theorem wp_dz {y : Int32} {D : Decidable (y = 0)} {e : Option α} (hy : y.toInt ≠ 0) (h : wp e P) : wp (@ite _ (y = 0) D none e) P :=
  wp_if (fun z => absurd (by rw [z]; decide) hy) (fun _ => h)
theorem wp_dzl {y : Int64} {D : Decidable (y = 0)} {e : Option α} (hy : ¬ y = 0) (h : wp e P) : wp (@ite _ (y = 0) D none e) P :=
  wp_if (fun z => absurd z hy) (fun _ => h)
theorem wp_sum {w : β ⊕ γ} {f : β → Option α} {g : γ → Option α} {PL : β → Prop} {PR : γ → Prop} (h : Sum.elim PL PR w) (kl : ∀ a, PL a → wp (f a) P) (kr : ∀ a, PR a → wp (g a) P) : wp (Sum.elim f g w) P := by
  cases w with
  | inl a => exact kl a h
  | inr a => exact kr a h
theorem sum_mono {w : β ⊕ γ} {PL PL' : β → Prop} {PR PR' : γ → Prop} (h : Sum.elim PL PR w) (kl : ∀ a, PL a → PL' a) (kr : ∀ a, PR a → PR' a) : Sum.elim PL' PR' w := by
  cases w with
  | inl a => exact kl a h
  | inr a => exact kr a h
end WP
theorem bnd (x : Int32) : -2147483648 ≤ x.toInt ∧ x.toInt ≤ 2147483647 := ⟨Int32.le_toInt x, Int.le_of_lt_add_one (Int32.toInt_lt x)⟩
theorem tA {a b : Int32} (h1 : -2147483648 ≤ a.toInt + b.toInt) (h2 : a.toInt + b.toInt ≤ 2147483647) : (a + b).toInt = a.toInt + b.toInt := by
  rw [Int32.toInt_add]
  exact Int.bmod_eq_of_le (by omega) (by omega)
theorem tS {a b : Int32} (h1 : -2147483648 ≤ a.toInt - b.toInt) (h2 : a.toInt - b.toInt ≤ 2147483647) : (a - b).toInt = a.toInt - b.toInt := by
  rw [Int32.toInt_sub]
  exact Int.bmod_eq_of_le (by omega) (by omega)
theorem tML {a b : Int32} {n : Int} (ha : a.toInt = n) (h1 : -2147483648 ≤ n * b.toInt) (h2 : n * b.toInt ≤ 2147483647) : (a * b).toInt = n * b.toInt := by
  rw [Int32.toInt_mul, ha]
  exact Int.bmod_eq_of_le (by omega) (by omega)
theorem tMR {a b : Int32} {n : Int} (hb : b.toInt = n) (h1 : -2147483648 ≤ a.toInt * n) (h2 : a.toInt * n ≤ 2147483647) : (a * b).toInt = a.toInt * n := by
  rw [Int32.toInt_mul, hb]
  exact Int.bmod_eq_of_le (by omega) (by omega)
theorem mx_i (a b : Int32) : (mxI a b).toInt = max a.toInt b.toInt := by
  unfold mxI
  by_cases h : a < b
  · rw [if_pos h]
    have := Int32.lt_iff_toInt_lt.mp h
    omega
  · rw [if_neg h]
    have : ¬ a.toInt < b.toInt := fun z => h (Int32.lt_iff_toInt_lt.mpr z)
    omega
theorem mn_i (a b : Int32) : (mnI a b).toInt = min a.toInt b.toInt := by
  unfold mnI
  by_cases h : b < a
  · rw [if_pos h]
    have := Int32.lt_iff_toInt_lt.mp h
    omega
  · rw [if_neg h]
    have : ¬ b.toInt < a.toInt := fun z => h (Int32.lt_iff_toInt_lt.mpr z)
    omega
theorem inb_of {i : Int32} {n : Nat} (h0 : 0 ≤ i.toInt) (h1 : i.toInt < n) : inb i n = true := by
  unfold inb
  have hn : ¬ i < 0 := fun z => by
    have := Int32.lt_iff_toInt_lt.mp z
    have e : (0 : Int32).toInt = 0 := by decide
    omega
  rw [decide_eq_false hn, cond_false]
  have e : i.toNatClampNeg = i.toInt.toNat := rfl
  rw [e]
  exact Nat.ble_eq_true_of_le (by omega)
theorem isB_of {v : Int32} (h0 : 0 ≤ v.toInt) (h1 : v.toInt ≤ 1) : isB v = true := by
  have e0 : (0 : Int32).toInt = 0 := by decide
  have e1 : (1 : Int32).toInt = 1 := by decide
  rcases (show v.toInt = 0 ∨ v.toInt = 1 by omega) with h | h
  · have : v = 0 := Int32.toInt_inj.mp (h.trans e0.symm)
    subst this; rfl
  · have : v = 1 := Int32.toInt_inj.mp (h.trans e1.symm)
    subst this; rfl
theorem beq_k {q k : Nat} (h : cK q = k) : Nat.beq (cK q) k = true := by rw [h]; exact Nat.beq_refl k
theorem k_ne {a b k1 k2 : Nat} (h1 : cK a = k1) (h2 : cK b = k2) (h : k1 ≠ k2) : a ≠ b := fun e => h (by rw [← h1, ← h2, e])
theorem and_nat (a c : Nat) : a &&& c ≤ c := Nat.and_le_right
theorem and_i (a : Int32) {c : Int32} {n : Int} (hc : c.toInt = n) (hn : 0 ≤ n) : 0 ≤ (a &&& c).toInt ∧ (a &&& c).toInt ≤ n := by
  have hcm : c.toBitVec.msb = false := by
    rw [BitVec.msb_eq_toInt]
    have : c.toBitVec.toInt = n := hc
    rw [this]
    exact decide_eq_false (by omega)
  have ham : (a &&& c).toBitVec.msb = false := by
    show (a.toBitVec &&& c.toBitVec).msb = false
    rw [BitVec.msb_and, hcm, Bool.and_false]
  have h1 : (a &&& c).toInt = ((a &&& c).toBitVec.toNat : Int) := BitVec.toInt_eq_toNat_of_msb ham
  have h2 : c.toInt = (c.toBitVec.toNat : Int) := BitVec.toInt_eq_toNat_of_msb hcm
  have h3 : (a &&& c).toBitVec.toNat ≤ c.toBitVec.toNat := by
    show (a.toBitVec &&& c.toBitVec).toNat ≤ _
    rw [BitVec.toNat_and]
    exact Nat.and_le_right
  omega
theorem i32_ofN {e : Int32} (h : 0 ≤ e.toInt) : e = nI e.toInt.toNat := by
  apply Int32.toInt_inj.mp
  have := bnd e
  rw [nI_toInt (by omega)]
  omega
theorem shl_all : ∀ k, k < 31 → 1 ≤ ((1 : Int32) <<< (nI k &&& 31)).toInt ∧ ((1 : Int32) <<< (nI k &&& 31)).toInt = ((2 ^ k : Nat) : Int) := by decide +kernel
theorem shl_i {e : Int32} {n : Nat} (h0 : 0 ≤ e.toInt) (h1 : e.toInt ≤ n) (hn : n ≤ 30) : 1 ≤ ((1 : Int32) <<< (e &&& 31)).toInt ∧ ((1 : Int32) <<< (e &&& 31)).toInt ≤ ((2 ^ n : Nat) : Int) := by
  have hk := shl_all e.toInt.toNat (by omega)
  rw [← i32_ofN h0] at hk
  refine ⟨hk.1, ?_⟩
  rw [hk.2]
  exact Int.ofNat_le.mpr (Nat.pow_le_pow_right (by decide) (by omega))
theorem bv_nn {x : Int32} (h : 0 ≤ x.toInt) : x.toBitVec.msb = false ∧ x.toInt = (x.toBitVec.toNat : Int) := by
  have hm : x.toBitVec.msb = false := by
    rw [BitVec.msb_eq_toInt]
    exact decide_eq_false (show ¬ x.toInt < 0 by omega)
  exact ⟨hm, BitVec.toInt_eq_toNat_of_msb hm⟩
theorem andL_i (a b : Int32) (h : 0 ≤ a.toInt) : 0 ≤ (a &&& b).toInt ∧ (a &&& b).toInt ≤ a.toInt := by
  obtain ⟨m1, e1⟩ := bv_nn h
  have hm : (a &&& b).toBitVec.msb = false := by
    show (a.toBitVec &&& b.toBitVec).msb = false
    rw [BitVec.msb_and, m1, Bool.false_and]
  have h1 : (a &&& b).toInt = ((a &&& b).toBitVec.toNat : Int) := BitVec.toInt_eq_toNat_of_msb hm
  have h3 : (a &&& b).toBitVec.toNat ≤ a.toBitVec.toNat := by
    show (a.toBitVec &&& b.toBitVec).toNat ≤ _
    rw [BitVec.toNat_and]
    exact Nat.and_le_left
  omega
theorem or_i {a b : Int32} {n : Nat} {m : Int} (hn : n ≤ 30) (hm : m = ((2 ^ n : Nat) : Int) - 1) (a0 : 0 ≤ a.toInt) (a1 : a.toInt ≤ m) (b0 : 0 ≤ b.toInt) (b1 : b.toInt ≤ m) : 0 ≤ (a ||| b).toInt ∧ (a ||| b).toInt ≤ m := by
  obtain ⟨m1, e1⟩ := bv_nn a0
  obtain ⟨m2, e2⟩ := bv_nn b0
  have hmm : (a ||| b).toBitVec.msb = false := by
    show (a.toBitVec ||| b.toBitVec).msb = false
    rw [BitVec.msb_or, m1, m2, Bool.or_false]
  have h1 : (a ||| b).toInt = ((a ||| b).toBitVec.toNat : Int) := BitVec.toInt_eq_toNat_of_msb hmm
  have h3 : (a ||| b).toBitVec.toNat < 2 ^ n := by
    show (a.toBitVec ||| b.toBitVec).toNat < _
    rw [BitVec.toNat_or]
    exact Nat.or_lt_two_pow (by omega) (by omega)
  omega
theorem xor_i {a b : Int32} {n : Nat} {m : Int} (hn : n ≤ 30) (hm : m = ((2 ^ n : Nat) : Int) - 1) (a0 : 0 ≤ a.toInt) (a1 : a.toInt ≤ m) (b0 : 0 ≤ b.toInt) (b1 : b.toInt ≤ m) : 0 ≤ (a ^^^ b).toInt ∧ (a ^^^ b).toInt ≤ m := by
  obtain ⟨m1, e1⟩ := bv_nn a0
  obtain ⟨m2, e2⟩ := bv_nn b0
  have hmm : (a ^^^ b).toBitVec.msb = false := by
    show (a.toBitVec ^^^ b.toBitVec).msb = false
    rw [BitVec.msb_xor, m1, m2, Bool.xor_false]
  have h1 : (a ^^^ b).toInt = ((a ^^^ b).toBitVec.toNat : Int) := BitVec.toInt_eq_toNat_of_msb hmm
  have h3 : (a ^^^ b).toBitVec.toNat < 2 ^ n := by
    show (a.toBitVec ^^^ b.toBitVec).toNat < _
    rw [BitVec.toNat_xor]
    exact Nat.xor_lt_two_pow (by omega) (by omega)
  omega
theorem cpok_of {sp dp n : Int32} {n0 n1 : Nat} (h0 : 0 ≤ sp.toInt) (h1 : 0 ≤ dp.toInt) (h2 : 0 ≤ n.toInt) (h3 : sp.toInt + n.toInt ≤ n0) (h4 : dp.toInt + n.toInt ≤ n1) : cpok sp dp n n0 n1 = true := by
  have neg : ∀ x : Int32, 0 ≤ x.toInt → ¬ x < 0 := fun x hx z => by
    have := Int32.lt_iff_toInt_lt.mp z
    have e : (0 : Int32).toInt = 0 := by decide
    omega
  have cl : ∀ x : Int32, x.toNatClampNeg = x.toInt.toNat := fun _ => rfl
  unfold cpok
  rw [decide_eq_false (neg sp h0), decide_eq_false (neg dp h1), decide_eq_false (neg n h2), cl, cl, cl, cond_false, cond_false, cond_false]
  rw [Nat.ble_eq_true_of_le (show sp.toInt.toNat + n.toInt.toNat ≤ n0 by omega), cond_true]
  exact Nat.ble_eq_true_of_le (by omega)
