/-! ===== the class as a module: its cells by a picture S (ints, longs, where isle and spare are) ===== -/
abbrev cT : Type := (Nat → Nat → Int32) × (Nat → Nat → Int64) × Nat × Nat
def cKL : List Nat := [9, 8, 20, 20, 20, 20, 24, 6, 20, 20, 20, 20, 20, 6, 20, 20, 20, 20, 20, 6, 20, 20, 20, 20, 20, 6, 20, 20, 20, 20, 20, 6, 20, 20, 20, 20, 20, 6, 20, 20, 20, 20, 20, 6, 20, 20, 20, 20, 20, 25, 2, 20, 20, 20, 20, 20, 5, 20, 5, 20, 5, 20, 2, 20, 20, 20, 20, 20, 5, 20, 5, 20, 5, 20, 2, 20, 20, 20, 20, 20, 5, 20, 5, 20, 5, 20, 2, 20, 20, 20, 20, 20, 5, 20, 5, 20, 5, 20, 23, 1, 20, 3, 7, 21, 21, 20, 4, 21, 20, 20, 0, 20, 20, 2, 20, 20, 20, 20, 20, 5, 20, 5, 20, 5, 20, 2, 20, 20, 20, 20, 20, 5, 20, 5, 20, 5, 20]
def cNL : List Nat := [0, 0, 400, 401, 401, 401, 6, 0, 400, 12, 12, 12, 12, 0, 400, 12, 12, 12, 12, 0, 400, 12, 12, 12, 12, 0, 400, 12, 12, 12, 12, 0, 400, 12, 12, 12, 12, 0, 400, 12, 12, 12, 12, 0, 400, 12, 12, 12, 12, 4, 0, 8, 8, 8, 8, 64, 0, 280, 0, 40, 0, 16, 0, 8, 8, 8, 8, 64, 0, 280, 0, 40, 0, 16, 0, 8, 8, 8, 8, 64, 0, 280, 0, 40, 0, 16, 0, 8, 8, 8, 8, 64, 0, 280, 0, 40, 0, 16, 4, 0, 400, 0, 0, 8, 64, 6, 0, 2048, 1024, 16, 0, 64, 256, 0, 8, 8, 8, 8, 64, 0, 280, 0, 40, 0, 16, 0, 8, 8, 8, 8, 64, 0, 280, 0, 40, 0, 16]
def cK (q : Nat) : Nat := cKL.getD q 99
def cN (q : Nat) : Nat := cNL.getD q 0
def cObj (ci : Nat) (F : Nat → Int32) (q i s : Nat) : List Value := match ci with
  | 0 => [.ref (q + 1), .ref (q + 2)]
  | 1 => [.ref (q + 1), .int (F 1), .int (F 2)]
  | 2 => [.ref (q + 1), .ref (q + 2), .ref (q + 3), .ref (q + 4), .ref (q + 5), .ref (q + 6), .ref (q + 8), .ref (q + 10), .int (F 8), .int (F 9), .int (F 10), .int (F 11), .int (F 12), .int (F 13), .int (F 14)]
  | 3 => [.ref (q + 1), .ref (q + 4)]
  | 4 => [.ref (q + 1), .ref (q + 2), .ref (q + 3), .int (F 3), .int (F 4)]
  | 5 => [.ref (q + 1), .int (F 1), .int (F 2), .int (F 3)]
  | 6 => [.ref (q + 1), .ref (q + 2), .ref (q + 3), .ref (q + 4), .ref (q + 5), .int (F 5), .int (F 6), .int (F 7)]
  | 7 => [.ref (q + 1), .ref (q + 2)]
  | 8 => [.ref (q + 1), .ref (q + 2), .ref (q + 3), .ref (q + 4), .int (F 4), .int (F 5), .int (F 6), .int (F 7), .int (F 8), .int (F 9)]
  | 9 => [.ref (q + 1), .ref (q + 6), .ref (q + 43), .ref (q + 49), .ref (q + 98), .ref (q + 99), .ref (q + 101), .ref (q + 106), .ref (q + 110), .ref i, .ref s, .int (F 11)]
  | _ => []
def cArr (k len : Nat) (S : cT) (q : Nat) : aE := match k with
  | 20 => .inl (.int, len, .inl (S.1 q))
  | 21 => .inl (.long, len, .inr (.inl (S.2.1 q)))
  | 23 => .inl (.boolean, len, .inl (S.1 q))
  | 24 => .inl (.object RX7, len, .inr (.inr (.inr (.inr (fun j => some (7 + 6 * j))))))
  | 25 => .inl (.object RX2, len, .inr (.inr (.inr (.inr (fun j => some (50 + 12 * j))))))
  | _ => .inl (.int, 0, .inl (fun _ => 0))
def cC (S : cT) : aH := fun q => bif Nat.blt (cK q) 20 then .inr (cK q, cObj (cK q) (S.1 q) q S.2.2.1 S.2.2.2) else cArr (cK q) (cN q) S q
theorem cK_lt {q k : Nat} (h : cK q = k) (hk : k < 99) : q < 137 := by
  rcases Nat.lt_or_ge q 137 with a | a
  · exact a
  · have h1 : cK q = 99 := by
      unfold cK
      rw [List.getD_eq_getElem?_getD, List.getElem?_eq_none (by exact a)]
      rfl
    omega
theorem cK_all {P : Nat → Bool} (h : (List.range 137).all P = true) {q : Nat} (hq : q < 137) : P q = true := List.all_eq_true.mp h q (List.mem_range.mpr hq)
def ca (S : cT) (q i : Nat) (v : Int32) : cT := (va_up S.1 q (upd (S.1 q) i v), S.2)
def cb (S : cT) (q i : Nat) (v : Int64) : cT := (S.1, va_up S.2.1 q (vp_updL (S.2.1 q) i v), S.2.2)
def cf (S : cT) (q : Nat) (F : Nat → Int32) : cT := (va_up S.1 q F, S.2)
def cs (S : cT) (i s : Nat) : cT := (S.1, S.2.1, i, s)
theorem hC_lt {S : cT} {M : mT} {q : Nat} (h : q < 137) : hM (cC S) M q = cC S q := if_pos h
theorem hC_o {S : cT} {M : mT} {q ci : Nat} (h : cK q = ci) (hc : ci < 20) : hM (cC S) M q = .inr (ci, cObj ci (S.1 q) q S.2.2.1 S.2.2.2) := by
  rw [hC_lt (cK_lt h (by omega))]
  subst h
  unfold cC
  have : Nat.blt (cK q) 20 = true := Nat.ble_eq_true_of_le hc
  rw [this]
  rfl
theorem hC_a {S : cT} {M : mT} {q k : Nat} (h : cK q = k) (hc : 20 ≤ k ∧ k < 99) : hM (cC S) M q = cArr k (cN q) S q := by
  rw [hC_lt (cK_lt h (by omega))]
  subst h
  unfold cC
  have : Nat.blt (cK q) 20 = false := Bool.eq_false_iff.mpr (fun z => by have := Nat.le_of_ble_eq_true z; omega)
  rw [this]
  rfl
theorem hC_up {S S' : cT} {M : mT} {q : Nat} {e : aE} (hq : q < 137) (he : e = cC S' q) (ho : ∀ p, p ≠ q → cC S' p = cC S p) : va_up (hM (cC S) M) q e = hM (cC S') M := by
  funext p
  unfold va_up hM
  by_cases a : p = q
  · subst a
    rw [if_pos rfl, if_pos hq, he]
  · rw [if_neg a]
    by_cases b : p < 137
    · rw [if_pos b, if_pos b, ho p a]
    · rw [if_neg b, if_neg b]
theorem cC_congr {S S' : cT} {p : Nat} (h1 : S'.1 p = S.1 p) (h2 : S'.2.1 p = S.2.1 p) (h3 : S'.2.2 = S.2.2) : cC S' p = cC S p := by
  unfold cC
  rw [h1, h3]
  congr 1
  unfold cArr
  split <;> simp only [h1, h2]
theorem ca_o (S : cT) (q i : Nat) (v : Int32) (p : Nat) (h : p ≠ q) : cC (ca S q i v) p = cC S p := cC_congr (va_up_ne _ _ h) rfl rfl
theorem cb_o (S : cT) (q i : Nat) (v : Int64) (p : Nat) (h : p ≠ q) : cC (cb S q i v) p = cC S p := cC_congr rfl (va_up_ne _ _ h) rfl
theorem cf_o (S : cT) (q : Nat) (F : Nat → Int32) (p : Nat) (h : p ≠ q) : cC (cf S q F) p = cC S p := cC_congr (va_up_ne _ _ h) rfl rfl
theorem cC_o {S : cT} {q ci : Nat} (h : cK q = ci) (hc : ci < 20) : cC S q = .inr (ci, cObj ci (S.1 q) q S.2.2.1 S.2.2.2) := (hC_lt (M := (fun _ _ => 0, fun _ _ => 0)) (cK_lt h (by omega))).symm.trans (hC_o h hc)
theorem cC_a {S : cT} {q k : Nat} (h : cK q = k) (hc : 20 ≤ k ∧ k < 99) : cC S q = cArr k (cN q) S q := (hC_lt (M := (fun _ _ => 0, fun _ _ => 0)) (cK_lt h (by omega))).symm.trans (hC_a h hc)
theorem kk_0_0 {b : Nat} (h : cK b = 0) : cK (b + 1) = 20 := by
  have := cK_all (P := fun b => Nat.beq (cK b) 0 == false || Nat.beq (cK (b + 1)) 20) (by decide +kernel) (cK_lt h (by decide))
  simpa [h] using this
theorem kn_0_0 {b : Nat} (h : cK b = 0) : cN (b + 1) = 64 := by
  have := cK_all (P := fun b => Nat.beq (cK b) 0 == false || Nat.beq (cN (b + 1)) 64) (by decide +kernel) (cK_lt h (by decide))
  simpa [h] using this
theorem kk_0_1 {b : Nat} (h : cK b = 0) : cK (b + 2) = 20 := by
  have := cK_all (P := fun b => Nat.beq (cK b) 0 == false || Nat.beq (cK (b + 2)) 20) (by decide +kernel) (cK_lt h (by decide))
  simpa [h] using this
theorem kn_0_1 {b : Nat} (h : cK b = 0) : cN (b + 2) = 256 := by
  have := cK_all (P := fun b => Nat.beq (cK b) 0 == false || Nat.beq (cN (b + 2)) 256) (by decide +kernel) (cK_lt h (by decide))
  simpa [h] using this
theorem kk_1_0 {b : Nat} (h : cK b = 1) : cK (b + 1) = 20 := by
  have := cK_all (P := fun b => Nat.beq (cK b) 1 == false || Nat.beq (cK (b + 1)) 20) (by decide +kernel) (cK_lt h (by decide))
  simpa [h] using this
theorem kn_1_0 {b : Nat} (h : cK b = 1) : cN (b + 1) = 400 := by
  have := cK_all (P := fun b => Nat.beq (cK b) 1 == false || Nat.beq (cN (b + 1)) 400) (by decide +kernel) (cK_lt h (by decide))
  simpa [h] using this
theorem kk_2_0 {b : Nat} (h : cK b = 2) : cK (b + 1) = 20 := by
  have := cK_all (P := fun b => Nat.beq (cK b) 2 == false || Nat.beq (cK (b + 1)) 20) (by decide +kernel) (cK_lt h (by decide))
  simpa [h] using this
theorem kn_2_0 {b : Nat} (h : cK b = 2) : cN (b + 1) = 8 := by
  have := cK_all (P := fun b => Nat.beq (cK b) 2 == false || Nat.beq (cN (b + 1)) 8) (by decide +kernel) (cK_lt h (by decide))
  simpa [h] using this
theorem kk_2_1 {b : Nat} (h : cK b = 2) : cK (b + 2) = 20 := by
  have := cK_all (P := fun b => Nat.beq (cK b) 2 == false || Nat.beq (cK (b + 2)) 20) (by decide +kernel) (cK_lt h (by decide))
  simpa [h] using this
theorem kn_2_1 {b : Nat} (h : cK b = 2) : cN (b + 2) = 8 := by
  have := cK_all (P := fun b => Nat.beq (cK b) 2 == false || Nat.beq (cN (b + 2)) 8) (by decide +kernel) (cK_lt h (by decide))
  simpa [h] using this
theorem kk_2_2 {b : Nat} (h : cK b = 2) : cK (b + 3) = 20 := by
  have := cK_all (P := fun b => Nat.beq (cK b) 2 == false || Nat.beq (cK (b + 3)) 20) (by decide +kernel) (cK_lt h (by decide))
  simpa [h] using this
theorem kn_2_2 {b : Nat} (h : cK b = 2) : cN (b + 3) = 8 := by
  have := cK_all (P := fun b => Nat.beq (cK b) 2 == false || Nat.beq (cN (b + 3)) 8) (by decide +kernel) (cK_lt h (by decide))
  simpa [h] using this
theorem kk_2_3 {b : Nat} (h : cK b = 2) : cK (b + 4) = 20 := by
  have := cK_all (P := fun b => Nat.beq (cK b) 2 == false || Nat.beq (cK (b + 4)) 20) (by decide +kernel) (cK_lt h (by decide))
  simpa [h] using this
theorem kn_2_3 {b : Nat} (h : cK b = 2) : cN (b + 4) = 8 := by
  have := cK_all (P := fun b => Nat.beq (cK b) 2 == false || Nat.beq (cN (b + 4)) 8) (by decide +kernel) (cK_lt h (by decide))
  simpa [h] using this
theorem kk_2_4 {b : Nat} (h : cK b = 2) : cK (b + 5) = 20 := by
  have := cK_all (P := fun b => Nat.beq (cK b) 2 == false || Nat.beq (cK (b + 5)) 20) (by decide +kernel) (cK_lt h (by decide))
  simpa [h] using this
theorem kn_2_4 {b : Nat} (h : cK b = 2) : cN (b + 5) = 64 := by
  have := cK_all (P := fun b => Nat.beq (cK b) 2 == false || Nat.beq (cN (b + 5)) 64) (by decide +kernel) (cK_lt h (by decide))
  simpa [h] using this
theorem kk_2_5 {b : Nat} (h : cK b = 2) : cK (b + 6) = 5 := by
  have := cK_all (P := fun b => Nat.beq (cK b) 2 == false || Nat.beq (cK (b + 6)) 5) (by decide +kernel) (cK_lt h (by decide))
  simpa [h] using this
theorem kk_2_6 {b : Nat} (h : cK b = 2) : cK (b + 8) = 5 := by
  have := cK_all (P := fun b => Nat.beq (cK b) 2 == false || Nat.beq (cK (b + 8)) 5) (by decide +kernel) (cK_lt h (by decide))
  simpa [h] using this
theorem kk_2_7 {b : Nat} (h : cK b = 2) : cK (b + 10) = 5 := by
  have := cK_all (P := fun b => Nat.beq (cK b) 2 == false || Nat.beq (cK (b + 10)) 5) (by decide +kernel) (cK_lt h (by decide))
  simpa [h] using this
theorem kk_3_0 {b : Nat} (h : cK b = 3) : cK (b + 1) = 7 := by
  have := cK_all (P := fun b => Nat.beq (cK b) 3 == false || Nat.beq (cK (b + 1)) 7) (by decide +kernel) (cK_lt h (by decide))
  simpa [h] using this
theorem kk_3_1 {b : Nat} (h : cK b = 3) : cK (b + 4) = 20 := by
  have := cK_all (P := fun b => Nat.beq (cK b) 3 == false || Nat.beq (cK (b + 4)) 20) (by decide +kernel) (cK_lt h (by decide))
  simpa [h] using this
theorem kn_3_1 {b : Nat} (h : cK b = 3) : cN (b + 4) = 6 := by
  have := cK_all (P := fun b => Nat.beq (cK b) 3 == false || Nat.beq (cN (b + 4)) 6) (by decide +kernel) (cK_lt h (by decide))
  simpa [h] using this
theorem kk_4_0 {b : Nat} (h : cK b = 4) : cK (b + 1) = 21 := by
  have := cK_all (P := fun b => Nat.beq (cK b) 4 == false || Nat.beq (cK (b + 1)) 21) (by decide +kernel) (cK_lt h (by decide))
  simpa [h] using this
theorem kn_4_0 {b : Nat} (h : cK b = 4) : cN (b + 1) = 2048 := by
  have := cK_all (P := fun b => Nat.beq (cK b) 4 == false || Nat.beq (cN (b + 1)) 2048) (by decide +kernel) (cK_lt h (by decide))
  simpa [h] using this
theorem kk_4_1 {b : Nat} (h : cK b = 4) : cK (b + 2) = 20 := by
  have := cK_all (P := fun b => Nat.beq (cK b) 4 == false || Nat.beq (cK (b + 2)) 20) (by decide +kernel) (cK_lt h (by decide))
  simpa [h] using this
theorem kn_4_1 {b : Nat} (h : cK b = 4) : cN (b + 2) = 1024 := by
  have := cK_all (P := fun b => Nat.beq (cK b) 4 == false || Nat.beq (cN (b + 2)) 1024) (by decide +kernel) (cK_lt h (by decide))
  simpa [h] using this
theorem kk_4_2 {b : Nat} (h : cK b = 4) : cK (b + 3) = 20 := by
  have := cK_all (P := fun b => Nat.beq (cK b) 4 == false || Nat.beq (cK (b + 3)) 20) (by decide +kernel) (cK_lt h (by decide))
  simpa [h] using this
theorem kn_4_2 {b : Nat} (h : cK b = 4) : cN (b + 3) = 16 := by
  have := cK_all (P := fun b => Nat.beq (cK b) 4 == false || Nat.beq (cN (b + 3)) 16) (by decide +kernel) (cK_lt h (by decide))
  simpa [h] using this
theorem kk_5_0 {b : Nat} (h : cK b = 5) : cK (b + 1) = 20 := by
  have := cK_all (P := fun b => Nat.beq (cK b) 5 == false || Nat.beq (cK (b + 1)) 20) (by decide +kernel) (cK_lt h (by decide))
  simpa [h] using this
theorem kk_6_0 {b : Nat} (h : cK b = 6) : cK (b + 1) = 20 := by
  have := cK_all (P := fun b => Nat.beq (cK b) 6 == false || Nat.beq (cK (b + 1)) 20) (by decide +kernel) (cK_lt h (by decide))
  simpa [h] using this
theorem kn_6_0 {b : Nat} (h : cK b = 6) : cN (b + 1) = 400 := by
  have := cK_all (P := fun b => Nat.beq (cK b) 6 == false || Nat.beq (cN (b + 1)) 400) (by decide +kernel) (cK_lt h (by decide))
  simpa [h] using this
theorem kk_6_1 {b : Nat} (h : cK b = 6) : cK (b + 2) = 20 := by
  have := cK_all (P := fun b => Nat.beq (cK b) 6 == false || Nat.beq (cK (b + 2)) 20) (by decide +kernel) (cK_lt h (by decide))
  simpa [h] using this
theorem kn_6_1 {b : Nat} (h : cK b = 6) : cN (b + 2) = 12 := by
  have := cK_all (P := fun b => Nat.beq (cK b) 6 == false || Nat.beq (cN (b + 2)) 12) (by decide +kernel) (cK_lt h (by decide))
  simpa [h] using this
theorem kk_6_2 {b : Nat} (h : cK b = 6) : cK (b + 3) = 20 := by
  have := cK_all (P := fun b => Nat.beq (cK b) 6 == false || Nat.beq (cK (b + 3)) 20) (by decide +kernel) (cK_lt h (by decide))
  simpa [h] using this
theorem kn_6_2 {b : Nat} (h : cK b = 6) : cN (b + 3) = 12 := by
  have := cK_all (P := fun b => Nat.beq (cK b) 6 == false || Nat.beq (cN (b + 3)) 12) (by decide +kernel) (cK_lt h (by decide))
  simpa [h] using this
theorem kk_6_3 {b : Nat} (h : cK b = 6) : cK (b + 4) = 20 := by
  have := cK_all (P := fun b => Nat.beq (cK b) 6 == false || Nat.beq (cK (b + 4)) 20) (by decide +kernel) (cK_lt h (by decide))
  simpa [h] using this
theorem kn_6_3 {b : Nat} (h : cK b = 6) : cN (b + 4) = 12 := by
  have := cK_all (P := fun b => Nat.beq (cK b) 6 == false || Nat.beq (cN (b + 4)) 12) (by decide +kernel) (cK_lt h (by decide))
  simpa [h] using this
theorem kk_6_4 {b : Nat} (h : cK b = 6) : cK (b + 5) = 20 := by
  have := cK_all (P := fun b => Nat.beq (cK b) 6 == false || Nat.beq (cK (b + 5)) 20) (by decide +kernel) (cK_lt h (by decide))
  simpa [h] using this
theorem kn_6_4 {b : Nat} (h : cK b = 6) : cN (b + 5) = 12 := by
  have := cK_all (P := fun b => Nat.beq (cK b) 6 == false || Nat.beq (cN (b + 5)) 12) (by decide +kernel) (cK_lt h (by decide))
  simpa [h] using this
theorem kk_7_0 {b : Nat} (h : cK b = 7) : cK (b + 1) = 21 := by
  have := cK_all (P := fun b => Nat.beq (cK b) 7 == false || Nat.beq (cK (b + 1)) 21) (by decide +kernel) (cK_lt h (by decide))
  simpa [h] using this
theorem kn_7_0 {b : Nat} (h : cK b = 7) : cN (b + 1) = 8 := by
  have := cK_all (P := fun b => Nat.beq (cK b) 7 == false || Nat.beq (cN (b + 1)) 8) (by decide +kernel) (cK_lt h (by decide))
  simpa [h] using this
theorem kk_7_1 {b : Nat} (h : cK b = 7) : cK (b + 2) = 21 := by
  have := cK_all (P := fun b => Nat.beq (cK b) 7 == false || Nat.beq (cK (b + 2)) 21) (by decide +kernel) (cK_lt h (by decide))
  simpa [h] using this
theorem kn_7_1 {b : Nat} (h : cK b = 7) : cN (b + 2) = 64 := by
  have := cK_all (P := fun b => Nat.beq (cK b) 7 == false || Nat.beq (cN (b + 2)) 64) (by decide +kernel) (cK_lt h (by decide))
  simpa [h] using this
theorem kk_8_0 {b : Nat} (h : cK b = 8) : cK (b + 1) = 20 := by
  have := cK_all (P := fun b => Nat.beq (cK b) 8 == false || Nat.beq (cK (b + 1)) 20) (by decide +kernel) (cK_lt h (by decide))
  simpa [h] using this
theorem kn_8_0 {b : Nat} (h : cK b = 8) : cN (b + 1) = 400 := by
  have := cK_all (P := fun b => Nat.beq (cK b) 8 == false || Nat.beq (cN (b + 1)) 400) (by decide +kernel) (cK_lt h (by decide))
  simpa [h] using this
theorem kk_8_1 {b : Nat} (h : cK b = 8) : cK (b + 2) = 20 := by
  have := cK_all (P := fun b => Nat.beq (cK b) 8 == false || Nat.beq (cK (b + 2)) 20) (by decide +kernel) (cK_lt h (by decide))
  simpa [h] using this
theorem kn_8_1 {b : Nat} (h : cK b = 8) : cN (b + 2) = 401 := by
  have := cK_all (P := fun b => Nat.beq (cK b) 8 == false || Nat.beq (cN (b + 2)) 401) (by decide +kernel) (cK_lt h (by decide))
  simpa [h] using this
theorem kk_8_2 {b : Nat} (h : cK b = 8) : cK (b + 3) = 20 := by
  have := cK_all (P := fun b => Nat.beq (cK b) 8 == false || Nat.beq (cK (b + 3)) 20) (by decide +kernel) (cK_lt h (by decide))
  simpa [h] using this
theorem kn_8_2 {b : Nat} (h : cK b = 8) : cN (b + 3) = 401 := by
  have := cK_all (P := fun b => Nat.beq (cK b) 8 == false || Nat.beq (cN (b + 3)) 401) (by decide +kernel) (cK_lt h (by decide))
  simpa [h] using this
theorem kk_8_3 {b : Nat} (h : cK b = 8) : cK (b + 4) = 20 := by
  have := cK_all (P := fun b => Nat.beq (cK b) 8 == false || Nat.beq (cK (b + 4)) 20) (by decide +kernel) (cK_lt h (by decide))
  simpa [h] using this
theorem kn_8_3 {b : Nat} (h : cK b = 8) : cN (b + 4) = 401 := by
  have := cK_all (P := fun b => Nat.beq (cK b) 8 == false || Nat.beq (cN (b + 4)) 401) (by decide +kernel) (cK_lt h (by decide))
  simpa [h] using this
theorem kk_9_0 {b : Nat} (h : cK b = 9) : cK (b + 1) = 8 := by
  have := cK_all (P := fun b => Nat.beq (cK b) 9 == false || Nat.beq (cK (b + 1)) 8) (by decide +kernel) (cK_lt h (by decide))
  simpa [h] using this
theorem kk_9_1 {b : Nat} (h : cK b = 9) : cK (b + 6) = 24 := by
  have := cK_all (P := fun b => Nat.beq (cK b) 9 == false || Nat.beq (cK (b + 6)) 24) (by decide +kernel) (cK_lt h (by decide))
  simpa [h] using this
theorem kn_9_1 {b : Nat} (h : cK b = 9) : cN (b + 6) = 6 := by
  have := cK_all (P := fun b => Nat.beq (cK b) 9 == false || Nat.beq (cN (b + 6)) 6) (by decide +kernel) (cK_lt h (by decide))
  simpa [h] using this
theorem kk_9_2 {b : Nat} (h : cK b = 9) : cK (b + 43) = 6 := by
  have := cK_all (P := fun b => Nat.beq (cK b) 9 == false || Nat.beq (cK (b + 43)) 6) (by decide +kernel) (cK_lt h (by decide))
  simpa [h] using this
theorem kk_9_3 {b : Nat} (h : cK b = 9) : cK (b + 49) = 25 := by
  have := cK_all (P := fun b => Nat.beq (cK b) 9 == false || Nat.beq (cK (b + 49)) 25) (by decide +kernel) (cK_lt h (by decide))
  simpa [h] using this
theorem kn_9_3 {b : Nat} (h : cK b = 9) : cN (b + 49) = 4 := by
  have := cK_all (P := fun b => Nat.beq (cK b) 9 == false || Nat.beq (cN (b + 49)) 4) (by decide +kernel) (cK_lt h (by decide))
  simpa [h] using this
theorem kk_9_4 {b : Nat} (h : cK b = 9) : cK (b + 98) = 23 := by
  have := cK_all (P := fun b => Nat.beq (cK b) 9 == false || Nat.beq (cK (b + 98)) 23) (by decide +kernel) (cK_lt h (by decide))
  simpa [h] using this
theorem kn_9_4 {b : Nat} (h : cK b = 9) : cN (b + 98) = 4 := by
  have := cK_all (P := fun b => Nat.beq (cK b) 9 == false || Nat.beq (cN (b + 98)) 4) (by decide +kernel) (cK_lt h (by decide))
  simpa [h] using this
theorem kk_9_5 {b : Nat} (h : cK b = 9) : cK (b + 99) = 1 := by
  have := cK_all (P := fun b => Nat.beq (cK b) 9 == false || Nat.beq (cK (b + 99)) 1) (by decide +kernel) (cK_lt h (by decide))
  simpa [h] using this
theorem kk_9_6 {b : Nat} (h : cK b = 9) : cK (b + 101) = 3 := by
  have := cK_all (P := fun b => Nat.beq (cK b) 9 == false || Nat.beq (cK (b + 101)) 3) (by decide +kernel) (cK_lt h (by decide))
  simpa [h] using this
theorem kk_9_7 {b : Nat} (h : cK b = 9) : cK (b + 106) = 4 := by
  have := cK_all (P := fun b => Nat.beq (cK b) 9 == false || Nat.beq (cK (b + 106)) 4) (by decide +kernel) (cK_lt h (by decide))
  simpa [h] using this
theorem kk_9_8 {b : Nat} (h : cK b = 9) : cK (b + 110) = 0 := by
  have := cK_all (P := fun b => Nat.beq (cK b) 9 == false || Nat.beq (cK (b + 110)) 0) (by decide +kernel) (cK_lt h (by decide))
  simpa [h] using this
theorem ke_24 : ∀ j, j < 6 → cK (7 + 6 * j) = 6 := by decide +kernel
theorem ke_25 : ∀ j, j < 4 → cK (50 + 12 * j) = 2 := by decide +kernel
