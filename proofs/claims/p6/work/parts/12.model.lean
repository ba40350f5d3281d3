/-! ===== the reference as a module: its cells by a picture T (ints, longs), its steps over T ===== -/
abbrev mT : Type := (Nat → Nat → Int32) × (Nat → Nat → Int64)
def mObj (T : mT) : List Value := [.ref 138, .int (T.1 0 1), .int (T.1 0 2), .ref 139, .ref 140, .ref 141, .ref 142, .ref 143, .int (T.1 0 8), .int (T.1 0 9), .int (T.1 0 10), .int (T.1 0 11), .int (T.1 0 12), .int (T.1 0 13), .int (T.1 0 14), .ref 144, .int (T.1 0 16), .int (T.1 0 17), .ref 145, .int (T.1 0 19), .ref 146, .ref 147, .int (T.1 0 22), .int (T.1 0 23), .ref 148, .int (T.1 0 25), .ref 149, .ref 150, .ref 151, .long (T.2 0 29), .ref 152, .ref 153, .ref 154, .ref 155]
def mArr (T : mT) (j : Nat) : aE := match j with
  | 1 => .inl (.byte, 400, .inl (T.1 1))
  | 2 => .inl (.int, 2400, .inl (T.1 2))
  | 3 => .inl (.int, 7, .inl (T.1 3))
  | 4 => .inl (.int, 360, .inl (T.1 4))
  | 5 => .inl (.int, 6, .inl (T.1 5))
  | 6 => .inl (.int, 112, .inl (T.1 6))
  | 7 => .inl (.int, 400, .inl (T.1 7))
  | 8 => .inl (.long, 64, .inr (.inl (T.2 8)))
  | 9 => .inl (.long, 8, .inr (.inl (T.2 9)))
  | 10 => .inl (.int, 410, .inl (T.1 10))
  | 11 => .inl (.int, 7040, .inl (T.1 11))
  | 12 => .inl (.int, 131072, .inl (T.1 12))
  | 13 => .inl (.int, 256, .inl (T.1 13))
  | 14 => .inl (.int, 352, .inl (T.1 14))
  | 15 => .inl (.int, 1640, .inl (T.1 15))
  | 16 => .inl (.int, 4, .inl (T.1 16))
  | 17 => .inl (.int, 4, .inl (T.1 17))
  | 18 => .inl (.boolean, 4, .inl (T.1 18))
  | _ => .inl (.int, 0, .inl (fun _ => 0))
def hM (C : aH) (T : mT) : aH := fun q => if q < 137 then C q else if q = 137 then .inr (10, mObj T) else mArr T (q - 137)
def mz (T : mT) (f : Nat) (v : Int32) : mT := (va_up T.1 0 (upd (T.1 0) f v), T.2)
def mw (T : mT) (f : Nat) (v : Int64) : mT := (T.1, va_up T.2 0 (vp_updL (T.2 0) f v))
/-- a cell of an int row, of a long row -/
def ma (T : mT) (j i : Nat) (v : Int32) : mT := (va_up T.1 j (upd (T.1 j) i v), T.2)
def mb (T : mT) (j i : Nat) (v : Int64) : mT := (T.1, va_up T.2 j (vp_updL (T.2 j) i v))
theorem hM_o (C : aH) (T : mT) : hM C T 137 = .inr (10, mObj T) := rfl
theorem hM_a (C : aH) (T : mT) (j : Nat) (h : 0 < j) : hM C T (137 + j) = mArr T j := by
  unfold hM
  rw [if_neg (by omega), if_neg (by omega), Nat.add_sub_cancel_left]
theorem hM_put {C : aH} {T T' : mT} {e : aE} (h1 : e = .inr (10, mObj T')) (h2 : ∀ j, 0 < j → mArr T' j = mArr T j) : va_up (hM C T) 137 e = hM C T' := by
  funext q
  unfold va_up hM
  by_cases a : q = 137
  · subst a
    rw [if_pos rfl, if_neg (by decide), if_pos rfl, h1]
  · rw [if_neg a]
    by_cases b : q < 137
    · rw [if_pos b, if_pos b]
    · rw [if_neg b, if_neg b, if_neg a, if_neg a, h2 _ (by omega)]
theorem hM_arr {C : aH} {T T' : mT} {e : aE} {j : Nat} (hj : 0 < j) (h0 : mObj T' = mObj T) (h1 : e = mArr T' j) (h2 : ∀ k, k ≠ j → 0 < k → mArr T' k = mArr T k) : va_up (hM C T) (137 + j) e = hM C T' := by
  funext q
  unfold va_up hM
  by_cases a : q = 137 + j
  · subst a
    rw [if_pos rfl, if_neg (by omega), if_neg (by omega), h1, Nat.add_sub_cancel_left]
  · rw [if_neg a]
    by_cases b : q < 137
    · rw [if_pos b, if_pos b]
    · by_cases c : q = 137
      · rw [if_neg b, if_neg b, if_pos c, if_pos c, h0]
      · rw [if_neg b, if_neg b, if_neg c, if_neg c, h2 _ (by omega) (by omega)]
theorem mArr_congr {T T' : mT} {j : Nat} (h1 : T'.1 j = T.1 j) (h2 : T'.2 j = T.2 j) : mArr T' j = mArr T j := by
  unfold mArr
  split <;> simp only [h1, h2]
theorem mz_arr (T : mT) (f : Nat) (v : Int32) (j : Nat) (h : 0 < j) : mArr (mz T f v) j = mArr T j := mArr_congr (va_up_ne _ _ (by omega)) rfl
theorem mw_arr (T : mT) (f : Nat) (v : Int64) (j : Nat) (h : 0 < j) : mArr (mw T f v) j = mArr T j := mArr_congr rfl (va_up_ne _ _ (by omega))
theorem mObj_congr {T T' : mT} (h1 : T'.1 0 = T.1 0) (h2 : T'.2 0 = T.2 0) : mObj T' = mObj T := by
  unfold mObj
  rw [h1, h2]
theorem ma_obj (T : mT) (j i : Nat) (v : Int32) (h : 0 < j) : mObj (ma T j i v) = mObj T := mObj_congr (va_up_ne _ _ (by omega)) rfl
theorem mb_obj (T : mT) (j i : Nat) (v : Int64) (h : 0 < j) : mObj (mb T j i v) = mObj T := mObj_congr rfl (va_up_ne _ _ (by omega))
theorem ma_arr (T : mT) (j i : Nat) (v : Int32) (k : Nat) (h : k ≠ j) : mArr (ma T j i v) k = mArr T k := mArr_congr (va_up_ne _ _ h) rfl
theorem mb_arr (T : mT) (j i : Nat) (v : Int64) (k : Nat) (h : k ≠ j) : mArr (mb T j i v) k = mArr T k := mArr_congr rfl (va_up_ne _ _ h)

def lk (l : List (Nat × Nat)) (k : Nat) : Option Nat := match l with
  | [] => none
  | q :: r => bif Nat.beq q.1 k then some q.2 else lk r k
theorem lk_mem : ∀ {l : List (Nat × Nat)} {k v : Nat}, lk l k = some v → (k, v) ∈ l
  | [], k, v, h => by cases h
  | q :: r, k, v, h => by
    unfold lk at h
    cases hb : Nat.beq q.1 k with
    | true =>
      rw [hb] at h
      have h1 : q.1 = k := Nat.eq_of_beq_eq_true hb
      have h2 : q.2 = v := Option.some.inj h
      subst h1; subst h2
      exact List.mem_cons_self
    | false =>
      rw [hb] at h
      exact List.mem_cons_of_mem _ (lk_mem h)
def mFI : List (Nat × Nat) := [(7, 0), (13, 3), (17, 4), (20, 5), (23, 6), (26, 7), (29, 15), (32, 18), (36, 20), (39, 21), (42, 22), (46, 24), (50, 26), (53, 27), (56, 28), (59, 30), (62, 31), (65, 32), (68, 33), (72, 1), (79, 9), (82, 8), (107, 10), (130, 11), (133, 12), (136, 13), (139, 16), (206, 17), (242, 14), (254, 2), (260, 25), (263, 19), (419, 23), (422, 29)]
def mPI : List (Nat × Nat) := [(42, 22), (72, 1), (79, 9), (82, 8), (107, 10), (130, 11), (133, 12), (136, 13), (139, 16), (206, 17), (242, 14), (254, 2), (260, 25), (263, 19), (419, 23)]
theorem mFI_ok : ∀ q ∈ mFI, FL RX12 q.1 10 q.2 := List.forall_mem_cons.mpr ⟨fl_RX12_7, List.forall_mem_cons.mpr ⟨fl_RX12_13, List.forall_mem_cons.mpr ⟨fl_RX12_17, List.forall_mem_cons.mpr ⟨fl_RX12_20, List.forall_mem_cons.mpr ⟨fl_RX12_23, List.forall_mem_cons.mpr ⟨fl_RX12_26, List.forall_mem_cons.mpr ⟨fl_RX12_29, List.forall_mem_cons.mpr ⟨fl_RX12_32, List.forall_mem_cons.mpr ⟨fl_RX12_36, List.forall_mem_cons.mpr ⟨fl_RX12_39, List.forall_mem_cons.mpr ⟨fl_RX12_42, List.forall_mem_cons.mpr ⟨fl_RX12_46, List.forall_mem_cons.mpr ⟨fl_RX12_50, List.forall_mem_cons.mpr ⟨fl_RX12_53, List.forall_mem_cons.mpr ⟨fl_RX12_56, List.forall_mem_cons.mpr ⟨fl_RX12_59, List.forall_mem_cons.mpr ⟨fl_RX12_62, List.forall_mem_cons.mpr ⟨fl_RX12_65, List.forall_mem_cons.mpr ⟨fl_RX12_68, List.forall_mem_cons.mpr ⟨fl_RX12_72, List.forall_mem_cons.mpr ⟨fl_RX12_79, List.forall_mem_cons.mpr ⟨fl_RX12_82, List.forall_mem_cons.mpr ⟨fl_RX12_107, List.forall_mem_cons.mpr ⟨fl_RX12_130, List.forall_mem_cons.mpr ⟨fl_RX12_133, List.forall_mem_cons.mpr ⟨fl_RX12_136, List.forall_mem_cons.mpr ⟨fl_RX12_139, List.forall_mem_cons.mpr ⟨fl_RX12_206, List.forall_mem_cons.mpr ⟨fl_RX12_242, List.forall_mem_cons.mpr ⟨fl_RX12_254, List.forall_mem_cons.mpr ⟨fl_RX12_260, List.forall_mem_cons.mpr ⟨fl_RX12_263, List.forall_mem_cons.mpr ⟨fl_RX12_419, List.forall_mem_cons.mpr ⟨fl_RX12_422, fun _ h => absurd h List.not_mem_nil⟩⟩⟩⟩⟩⟩⟩⟩⟩⟩⟩⟩⟩⟩⟩⟩⟩⟩⟩⟩⟩⟩⟩⟩⟩⟩⟩⟩⟩⟩⟩⟩⟩⟩
theorem mPI_ok : ∀ q ∈ mPI, FP RX12 q.1 10 q.2 .int false := List.forall_mem_cons.mpr ⟨fp_RX12_42, List.forall_mem_cons.mpr ⟨fp_RX12_72, List.forall_mem_cons.mpr ⟨fp_RX12_79, List.forall_mem_cons.mpr ⟨fp_RX12_82, List.forall_mem_cons.mpr ⟨fp_RX12_107, List.forall_mem_cons.mpr ⟨fp_RX12_130, List.forall_mem_cons.mpr ⟨fp_RX12_133, List.forall_mem_cons.mpr ⟨fp_RX12_136, List.forall_mem_cons.mpr ⟨fp_RX12_139, List.forall_mem_cons.mpr ⟨fp_RX12_206, List.forall_mem_cons.mpr ⟨fp_RX12_242, List.forall_mem_cons.mpr ⟨fp_RX12_254, List.forall_mem_cons.mpr ⟨fp_RX12_260, List.forall_mem_cons.mpr ⟨fp_RX12_263, List.forall_mem_cons.mpr ⟨fp_RX12_419, fun _ h => absurd h List.not_mem_nil⟩⟩⟩⟩⟩⟩⟩⟩⟩⟩⟩⟩⟩⟩⟩
theorem mPI_set (T : mT) (v : Int32) : ∀ q ∈ mPI, (mObj T).set q.2 (.int v) = mObj (mz T q.2 v) := List.forall_mem_cons.mpr ⟨rfl, List.forall_mem_cons.mpr ⟨rfl, List.forall_mem_cons.mpr ⟨rfl, List.forall_mem_cons.mpr ⟨rfl, List.forall_mem_cons.mpr ⟨rfl, List.forall_mem_cons.mpr ⟨rfl, List.forall_mem_cons.mpr ⟨rfl, List.forall_mem_cons.mpr ⟨rfl, List.forall_mem_cons.mpr ⟨rfl, List.forall_mem_cons.mpr ⟨rfl, List.forall_mem_cons.mpr ⟨rfl, List.forall_mem_cons.mpr ⟨rfl, List.forall_mem_cons.mpr ⟨rfl, List.forall_mem_cons.mpr ⟨rfl, List.forall_mem_cons.mpr ⟨rfl, fun _ h => absurd h List.not_mem_nil⟩⟩⟩⟩⟩⟩⟩⟩⟩⟩⟩⟩⟩⟩⟩
theorem mPI_len (T : mT) : ∀ q ∈ mPI, q.2 < (mObj T).length := List.forall_mem_cons.mpr ⟨(by show _ < 34; decide), List.forall_mem_cons.mpr ⟨(by show _ < 34; decide), List.forall_mem_cons.mpr ⟨(by show _ < 34; decide), List.forall_mem_cons.mpr ⟨(by show _ < 34; decide), List.forall_mem_cons.mpr ⟨(by show _ < 34; decide), List.forall_mem_cons.mpr ⟨(by show _ < 34; decide), List.forall_mem_cons.mpr ⟨(by show _ < 34; decide), List.forall_mem_cons.mpr ⟨(by show _ < 34; decide), List.forall_mem_cons.mpr ⟨(by show _ < 34; decide), List.forall_mem_cons.mpr ⟨(by show _ < 34; decide), List.forall_mem_cons.mpr ⟨(by show _ < 34; decide), List.forall_mem_cons.mpr ⟨(by show _ < 34; decide), List.forall_mem_cons.mpr ⟨(by show _ < 34; decide), List.forall_mem_cons.mpr ⟨(by show _ < 34; decide), List.forall_mem_cons.mpr ⟨(by show _ < 34; decide), fun _ h => absurd h List.not_mem_nil⟩⟩⟩⟩⟩⟩⟩⟩⟩⟩⟩⟩⟩⟩⟩
