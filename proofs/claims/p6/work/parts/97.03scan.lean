/-! ===== the class scans its tape ===== -/
def CTB (B : Nat → Int) (n : Nat) (S : cT) : Prop := (S.1 1 4).toInt = (n : Int) ∧ ∀ k, k < n → (S.1 2 k).toInt = B k
theorem uc_byteAt {B : Nat → Int} {n a : Nat} {p0 : Int32} {S : cT} (hB : BY B n) (h : CTB B n S) (ha : p0.toInt = (a : Int)) : wl (fc_X10_byteAt 1 p0 S) (fun v => v.toInt = B a) := by
  unfold fc_X10_byteAt
  have l_0 : (0 : Int32).toInt = 0 := by decide
  have l_400 : (400 : Int32).toInt = 400 := by decide
  have hn := hB.1
  have hu := h.1
  refine wl_lt (fun z => by exfalso; omega) (fun _ => ?_)
  refine wl_le (fun z => wl_some ?_) (fun z => ?_)
  · rw [hB.2.2 a (by omega)]
    exact l_0
  refine wl_le (fun y => by exfalso; omega) (fun y => ?_)
  refine wl_bif (wl_letv (fun v e => wl_some ?_))
  rw [e, cl_idx ha]
  exact h.2 a (by omega)
theorem uc_isDigit {v : Int32} : wl (fc_X10_isDigit v) (fun b => (b = true → Dg v.toInt) ∧ (b = false → ¬ Dg v.toInt)) := by
  unfold fc_X10_isDigit
  have l_48 : (48 : Int32).toInt = 48 := by decide
  have l_57 : (57 : Int32).toInt = 57 := by decide
  refine wl_lt (fun z => wl_some ⟨fun y => (by cases y), fun _ y => by omega⟩) (fun z => ?_)
  exact wl_lt (fun w => wl_some ⟨fun y => (by cases y), fun _ y => by omega⟩) (fun w => wl_some ⟨fun _ => ⟨by omega, by omega⟩, fun y => by cases y⟩)
theorem uc_isLetter {v : Int32} : wl (fc_X10_isLetter v) (fun b => (b = true → Lt v.toInt) ∧ (b = false → ¬ Lt v.toInt)) := by
  unfold fc_X10_isLetter
  have l_97 : (97 : Int32).toInt = 97 := by decide
  have l_122 : (122 : Int32).toInt = 122 := by decide
  refine wl_lt (fun z => wl_some ⟨fun y => (by cases y), fun _ y => by omega⟩) (fun z => ?_)
  exact wl_lt (fun w => wl_some ⟨fun y => (by cases y), fun _ y => by omega⟩) (fun w => wl_some ⟨fun _ => ⟨by omega, by omega⟩, fun y => by cases y⟩)
theorem min5 (i : Nat) : (10 : Int) ^ (min i 5) ≤ 100000 := by
  have all : ∀ j : Fin 6, (10 : Int) ^ j.1 ≤ 100000 := by decide +kernel
  exact all ⟨min i 5, by omega⟩
theorem uc_scanNumber_L7 {B : Nat → Int} {n q : Nat} {S : cT} (hB : BY B n) (h : CTB B n S) : ∀ (N : Nat) (a2 a3 a4 : Int32) (i : Nat), a2.toInt = ((q + i : Nat) : Int) → a4.toInt = (i : Int) → a3.toInt = dv B q (min i 5) → (∀ j, q ≤ j → j < q + i → Dg (B j)) → q + i ≤ n → wl (fc_X10_scanNumber_L7 1 S N a2 a3 a4) (fun w => ∃ e, RUN Dg B q e ∧ e ≤ n ∧ w.1.toInt = (e : Int) ∧ w.2.1.toInt = dv B q (min (e - q) 5)) := by
  have l_1 : (1 : Int32).toInt = 1 := by decide
  have l_5 : (5 : Int32).toInt = 5 := by decide
  have l_48 : (48 : Int32).toInt = 48 := by decide
  have l_400 : (400 : Int32).toInt = 400 := by decide
  have hn := hB.1
  intro N
  induction N with
  | zero => intro a2 a3 a4 i _ _ _ _ _; exact wl_none
  | succ N ih =>
    intro a2 a3 a4 i e2 e4 e3 hd hi
    rw [fc_X10_scanNumber_L7]
    have fin : ¬ Dg (B (q + i)) → wl (some (a2, a3, a4)) (fun w => ∃ e, RUN Dg B q e ∧ e ≤ n ∧ w.1.toInt = (e : Int) ∧ w.2.1.toInt = dv B q (min (e - q) 5)) := fun z => wl_some ⟨q + i, ⟨by omega, hd, z⟩, hi, e2, by rw [show q + i - q = i by omega]; exact e3⟩
    refine wl_le (fun z => fin (by rw [hB.2.2 _ (by omega)]; decide)) (fun z => ?_)
    refine wl_bind (uc_byteAt hB h e2) (fun q2 h2 => ?_)
    refine wl_bind uc_isDigit (fun q3 h3 => ?_)
    refine wl_b (fun b => fin (by rw [← h2]; exact h3.2 b)) (fun b => ?_)
    have dg := h3.1 b
    rw [h2] at dg
    have lt : q + i < n := by
      by_cases y : n ≤ q + i
      · rw [hB.2.2 _ y] at dg
        exact absurd dg (by decide)
      · omega
    have u2 := tA (a := a2) (b := 1) (by omega) (by omega)
    have u4 := tA (a := a4) (b := 1) (by omega) (by omega)
    have hd' : ∀ j, q ≤ j → j < q + (i + 1) → Dg (B j) := fun j j1 j2 => by
      by_cases y : j = q + i
      · rw [y]; exact dg
      · exact hd j j1 (by omega)
    refine wl_le (fun y => ?_) (fun y => ?_)
    · exact ih (a2 + 1) a3 (a4 + 1) (i + 1) (by omega) (by omega) (by rw [e3, show min (i + 1) 5 = min i 5 by omega]) hd' (by omega)
    · refine wl_bind (uc_byteAt hB h e2) (fun q6 h6 => ?_)
      have bd := dv_bd (B := B) (q := q) i (fun j hj => hd (q + j) (by omega) (by omega))
      have m5 := min5 i
      rw [show min i 5 = i by omega] at m5 e3
      have m := tMR (a := a3) (b := 10) (n := 10) (by decide) (by omega) (by omega)
      have t1 := tA (a := a3 * 10) (b := q6) (by omega) (by omega)
      have t2 := tS (a := a3 * 10 + q6) (b := 48) (by omega) (by omega)
      refine ih (a2 + 1) _ (a4 + 1) (i + 1) (by omega) (by omega) ?_ hd' (by omega)
      rw [show min (i + 1) 5 = i + 1 by omega]
      show _ = dv B q i * 10 + B (q + i) - 48
      omega
theorem uc_scanWord_L4 {B : Nat → Int} {n q : Nat} {S : cT} (hB : BY B n) (h : CTB B n S) : ∀ (N : Nat) (a2 a3 : Int32) (i : Nat), a2.toInt = ((q + i : Nat) : Int) → a3.toInt = (i : Int) → (∀ j, q ≤ j → j < q + i → Lt (B j)) → q + i ≤ n → wl (fc_X10_scanWord_L4 1 S N a2 a3) (fun w => ∃ e, RUN Lt B q e ∧ e ≤ n ∧ w.1.toInt = (e : Int)) := by
  have l_1 : (1 : Int32).toInt = 1 := by decide
  have l_400 : (400 : Int32).toInt = 400 := by decide
  have hn := hB.1
  intro N
  induction N with
  | zero => intro a2 a3 i _ _ _ _; exact wl_none
  | succ N ih =>
    intro a2 a3 i e2 e4 hd hi
    rw [fc_X10_scanWord_L4]
    have fin : ¬ Lt (B (q + i)) → wl (some (a2, a3)) (fun w => ∃ e, RUN Lt B q e ∧ e ≤ n ∧ w.1.toInt = (e : Int)) := fun z => wl_some ⟨q + i, ⟨by omega, hd, z⟩, hi, e2⟩
    refine wl_le (fun z => fin (by rw [hB.2.2 _ (by omega)]; decide)) (fun z => ?_)
    refine wl_bind (uc_byteAt hB h e2) (fun q2 h2 => ?_)
    refine wl_bind uc_isLetter (fun q3 h3 => ?_)
    refine wl_b (fun b => fin (by rw [← h2]; exact h3.2 b)) (fun b => ?_)
    have dg := h3.1 b
    rw [h2] at dg
    have lt : q + i < n := by
      by_cases y : n ≤ q + i
      · rw [hB.2.2 _ y] at dg
        exact absurd dg (by decide)
      · omega
    have u2 := tA (a := a2) (b := 1) (by omega) (by omega)
    have u4 := tA (a := a3) (b := 1) (by omega) (by omega)
    refine ih (a2 + 1) (a3 + 1) (i + 1) (by omega) (by omega) (fun j j1 j2 => ?_) (by omega)
    by_cases y : j = q + i
    · rw [y]; exact dg
    · exact hd j j1 (by omega)
theorem uc_isWordAt_L3 {B : Nat → Int} {n s t q : Nat} {k1 k2 k3 : Int32} {S : cT} (hB : BY B n) (h : CTB B n S) (h1 : k1.toInt = (s : Int)) (h2 : k2.toInt = (t : Int)) (h3 : k3.toInt = (q : Int)) (ht : t ≤ 93) (hq : q ≤ 400) : ∀ (N : Nat) (a4 : Int32) (x : Nat), a4.toInt = (x : Int) → s ≤ x → x ≤ t → (∀ y, s ≤ y → y < x → (wby.getD y 0).toInt = B (q + y - s)) → wl (fc_X10_isWordAt_L3 1 k1 k2 k3 S N a4) (fun w => Sum.elim (fun _ => ∀ y, s ≤ y → y < t → (wby.getD y 0).toInt = B (q + y - s)) (fun b => b = false ∧ ¬ ∀ y, s ≤ y → y < t → (wby.getD y 0).toInt = B (q + y - s)) w) := by
  have l_1 : (1 : Int32).toInt = 1 := by decide
  have l_93 : (93 : Int32).toInt = 93 := by decide
  intro N
  induction N with
  | zero => intro a4 x _ _ _ _; exact wl_none
  | succ N ih =>
    intro a4 x e hs hx hy
    rw [fc_X10_isWordAt_L3]
    refine wl_le (fun z => wl_some (fun y y1 y2 => hy y y1 (by omega))) (fun z => ?_)
    refine wl_le (fun w => by exfalso; omega) (fun w => ?_)
    refine wl_bif ?_
    have t1 := tA (a := k3) (b := a4) (by omega) (by omega)
    have t2 := tS (a := k3 + a4) (b := k1) (by omega) (by omega)
    refine wl_bind (uc_byteAt (a := q + x - s) hB h (by omega)) (fun q4 h4 => ?_)
    rw [cl_idx e]
    have u := tA (a := a4) (b := 1) (by omega) (by omega)
    refine wl_eq (fun z4 => ?_) (fun z4 => ?_)
    · refine ih (a4 + 1) (x + 1) (by omega) (by omega) (by omega) (fun y y1 y2 => ?_)
      by_cases yx : y = x
      · rw [yx, z4]; exact h4
      · exact hy y y1 (by omega)
    · refine wl_some ⟨rfl, fun all => z4 ?_⟩
      rw [h4]
      exact all x hs (by omega)
theorem uc_isWordAt {B : Nat → Int} {n s t q : Nat} {k1 k2 k3 : Int32} {S : cT} (hB : BY B n) (h : CTB B n S) (h1 : k1.toInt = (s : Int)) (h2 : k2.toInt = (t : Int)) (h3 : k3.toInt = (q : Int)) (ht : t ≤ 93) (hq : q ≤ 400) (hs : s ≤ t) : wl (fc_X10_isWordAt 1 k1 k2 k3 S) (fun b => (b = true → ∀ y, s ≤ y → y < t → (wby.getD y 0).toInt = B (q + y - s)) ∧ (b = false → ¬ ∀ y, s ≤ y → y < t → (wby.getD y 0).toInt = B (q + y - s))) := by
  unfold fc_X10_isWordAt
  refine wl_bind (uc_isWordAt_L3 hB h h1 h2 h3 ht hq FU k1 s h1 (Nat.le_refl _) hs (fun y y1 y2 => by omega)) (fun w hw => ?_)
  cases w with
  | inl a => exact wl_some ⟨fun _ => hw, fun z => by cases z⟩
  | inr b =>
    obtain ⟨rfl, hw⟩ := hw
    exact wl_some ⟨fun z => (by cases z), fun _ => hw⟩
theorem uc_wordOf_L10 {B : Nat → Int} {n q e : Nat} {k1 k2 : Int32} {S : cT} (hB : BY B n) (h : CTB B n S) (h1 : k1.toInt = (q : Int)) (h2 : k2.toInt = (e : Int)) (hq : q ≤ e) (he : e ≤ 400) : ∀ (N : Nat) (a3 a4 a5 : Int32) (w i : Nat), a3.toInt = 300 + (w : Int) → a4.toInt = (ws w : Int) → a5.toInt = (i : Int) → ((w < 18 ∧ ws w ≤ i ∧ i ≤ ws w + wn w) ∨ (w = 18 ∧ i = 93)) → (∀ v, v < w → ¬ MT B q e v) → wl (fc_X10_wordOf_L10 1 k1 k2 S N a3 a4 a5) (fun y => Sum.elim (fun _ => ∀ v : Nat, v < 18 → ¬ MT B q e v) (fun k => ∃ v : Nat, v < 18 ∧ k.toInt = 300 + (v : Int) ∧ MT B q e v) y) := by
  have l_1 : (1 : Int32).toInt = 1 := by decide
  have l_93 : (93 : Int32).toInt = 93 := by decide
  intro N
  induction N with
  | zero => intro a3 a4 a5 w i _ _ _ _ _; exact wl_none
  | succ N ih =>
    intro a3 a4 a5 w i e3 e4 e5 hw no
    rw [fc_X10_wordOf_L10]
    rcases hw with ⟨hw, i1, i2⟩ | ⟨rfl, rfl⟩
    · obtain ⟨hend, h93⟩ := w_end w i hw i1 i2
      have nx := w_next w hw
      have wl6 := w_len w hw
      refine wl_le (fun z => by exfalso; omega) (fun z => ?_)
      refine wl_bif ?_
      rw [cl_idx e5]
      have u5 := tA (a := a5) (b := 1) (by omega) (by omega)
      have u3 := tA (a := a3) (b := 1) (by omega) (by omega)
      have go : ¬ MT B q e w → i = ws w + wn w → wl (fc_X10_wordOf_L10 1 k1 k2 S N (a3 + 1) (a5 + 1) (a5 + 1)) (fun y => Sum.elim (fun _ => ∀ v : Nat, v < 18 → ¬ MT B q e v) (fun k => ∃ v : Nat, v < 18 ∧ k.toInt = 300 + (v : Int) ∧ MT B q e v) y) := by
        intro nm ei
        refine ih (a3 + 1) (a5 + 1) (a5 + 1) (w + 1) (i + 1) (by omega) (by rw [nx]; omega) (by omega) ?_ (fun v hv => ?_)
        · by_cases y : w + 1 < 18
          · exact Or.inl ⟨y, by omega, by omega⟩
          · refine Or.inr ⟨by omega, ?_⟩
            have : w = 17 := by omega
            subst this
            have : ws 17 + wn 17 = 92 := by decide
            omega
        · by_cases y : v = w
          · rw [y]; exact nm
          · exact no v (by omega)
      refine wl_if (fun z32 => ?_) (fun z32 => ?_)
      · have ei := hend.mp z32
        have t1 := tS (a := a5) (b := a4) (by omega) (by omega)
        have t2 := tS (a := k2) (b := k1) (by omega) (by omega)
        refine wl_eq (fun y => ?_) (fun y => go (fun mt => y (by have := mt.1; omega)) ei)
        have el : e = q + wn w := by omega
        refine wl_bind (uc_isWordAt (s := ws w) (t := i) (q := q) hB h e4 e5 h1 (by omega) (by omega) (by omega)) (fun q5 h5 => ?_)
        refine wl_b (fun b => go (fun mt => h5.2 b (fun y y1 y2 => ?_)) ei) (fun b => wl_some ⟨w, hw, e3, el, fun j hj => ?_⟩)
        · have z := mt.2 (y - ws w) (by omega)
          unfold wch at z
          rw [show ws w + (y - ws w) = y by omega, show q + (y - ws w) = q + y - ws w by omega] at z
          exact z.symm
        · have z := h5.1 b (ws w + j) (by omega) (by omega)
          rw [show q + (ws w + j) - ws w = q + j by omega] at z
          exact z.symm
      · have : i ≠ ws w + wn w := fun y => z32 (hend.mpr y)
        exact ih a3 a4 (a5 + 1) w (i + 1) e3 e4 (by omega) (Or.inl ⟨hw, by omega, by omega⟩) no
    · exact wl_le (fun _ => wl_some no) (fun z => by exfalso; omega)
theorem uc_wordOf {B : Nat → Int} {n q e : Nat} {k1 k2 : Int32} {S : cT} (hB : BY B n) (h : CTB B n S) (h1 : k1.toInt = (q : Int)) (h2 : k2.toInt = (e : Int)) (hq : q ≤ e) (he : e ≤ 400) : wl (fc_X10_wordOf 1 k1 k2 S) (fun k => WD B q e k.toInt) := by
  unfold fc_X10_wordOf
  refine wl_bind (uc_wordOf_L10 hB h h1 h2 hq he FU 300 1 1 0 1 (by decide) (by decide) (by decide) (Or.inl (by decide)) (fun v hv => absurd hv (Nat.not_lt_zero _))) (fun w hw => ?_)
  cases w with
  | inl a => exact wl_some (Or.inr ⟨by decide, hw⟩)
  | inr k =>
    obtain ⟨v, hv, e1, m⟩ := hw
    exact wl_some (Or.inl ⟨v, hv, e1, m⟩)
/-- one sign more -/
def Add (S S' : cT) (t : Nat) (k : Int) (a : Nat) (v : Int) : Prop := (S'.1 3 t).toInt = k ∧ (S'.1 4 t).toInt = (a : Int) ∧ (S'.1 5 t).toInt = v ∧ (S'.1 1 5).toInt = (t : Int) + 1 ∧ ∀ q j, (q ≠ 3 ∨ j ≠ t) → (q ≠ 4 ∨ j ≠ t) → (q ≠ 5 ∨ j ≠ t) → (q ≠ 1 ∨ j ≠ 5) → S'.1 q j = S.1 q j
theorem uc_addToken {t a : Nat} {k v : Int} {p0 p1 p2 : Int32} {S : cT} (ht : (S.1 1 5).toInt = (t : Int)) (h400 : t ≤ 400) (h0 : p0.toInt = k) (h1 : p1.toInt = (a : Int)) (h2 : p2.toInt = v) : wl (fc_X10_addToken 1 p0 p1 p2 S) (fun S' => Add S S' t k a v) := by
  unfold fc_X10_addToken
  have l_0 : (0 : Int32).toInt = 0 := by decide
  have l_1 : (1 : Int32).toInt = 1 := by decide
  have l_400 : (400 : Int32).toInt = 400 := by decide
  refine wl_lt (fun z => by exfalso; omega) (fun _ => ?_)
  refine wl_lt (fun z => by exfalso; omega) (fun _ => ?_)
  refine wl_bif (wl_letv (fun S4 e4 => ?_))
  rw [cl_idx ht] at e4
  have x4 : S4.1 1 5 = S.1 1 5 := by rw [e4]; exact ca_ne (Or.inl (by decide))
  refine wl_bif (wl_letv (fun S6 e6 => ?_))
  rw [x4, cl_idx ht] at e6
  have x6 : S6.1 1 5 = S.1 1 5 := by rw [e6, ca_ne (Or.inl (by decide))]; exact x4
  refine wl_bif (wl_letv (fun S8 e8 => ?_))
  rw [x6, cl_idx ht] at e8
  have x8 : S8.1 1 5 = S.1 1 5 := by rw [e8, ca_ne (Or.inl (by decide))]; exact x6
  refine wl_letv (fun S9 e9 => wl_some ?_)
  have u := tA (a := S8.1 1 5) (b := 1) (by rw [x8]; omega) (by rw [x8]; omega)
  refine ⟨?_, ?_, ?_, ?_, fun q j a3 a4 a5 a1 => ?_⟩
  · rw [e9, ca_ne (Or.inl (by decide)), e8, ca_ne (Or.inl (by decide)), e6, ca_ne (Or.inl (by decide)), e4, ca_at]; exact h0
  · rw [e9, ca_ne (Or.inl (by decide)), e8, ca_ne (Or.inl (by decide)), e6, ca_at]; exact h1
  · rw [e9, ca_ne (Or.inl (by decide)), e8, ca_at]; exact h2
  · rw [e9, ca_at, u, x8]; omega
  · rw [e9, ca_ne a1, e8, ca_ne a5, e6, ca_ne a4, e4, ca_ne a3]
theorem Add.tape {B : Nat → Int} {n t a : Nat} {k v : Int} {S S' : cT} (h : CTB B n S) (d : Add S S' t k a v) : CTB B n S' := by
  refine ⟨?_, fun j hj => ?_⟩
  · rw [d.2.2.2.2 1 4 (Or.inl (by decide)) (Or.inl (by decide)) (Or.inl (by decide)) (Or.inr (by decide))]; exact h.1
  · rw [d.2.2.2.2 2 j (Or.inl (by decide)) (Or.inl (by decide)) (Or.inl (by decide)) (Or.inl (by decide))]; exact h.2 j hj
theorem uc_scanOne {B : Nat → Int} {n t a : Nat} {p0 : Int32} {S : cT} (hB : BY B n) (h : CTB B n S) (ht : (S.1 1 5).toInt = (t : Int)) (h400 : t ≤ 400) (ha : p0.toInt = (a : Int)) (han : a < n) : wl (fc_X10_scanOne 1 p0 S) (fun w => (w.2 = S ∧ B a = 32 ∧ w.1.toInt = (a : Int) + 1) ∨ (∃ k v e, TKN B n a k v e ∧ w.1.toInt = (e : Int) ∧ Add S w.2 t k a v)) := by
  unfold fc_X10_scanOne
  have l_0 : (0 : Int32).toInt = 0 := by decide
  have l_1 : (1 : Int32).toInt = 1 := by decide
  have l_2 : (2 : Int32).toInt = 2 := by decide
  have l_5 : (5 : Int32).toInt = 5 := by decide
  have l_32 : (32 : Int32).toInt = 32 := by decide
  have l_60 : (60 : Int32).toInt = 60 := by decide
  have l_61 : (61 : Int32).toInt = 61 := by decide
  have l_62 : (62 : Int32).toInt = 62 := by decide
  have l_256 : (256 : Int32).toInt = 256 := by decide
  have l_257 : (257 : Int32).toInt = 257 := by decide
  have hn := hB.1
  have u1 := tA (a := p0) (b := 1) (by omega) (by omega)
  have u2 := tA (a := p0) (b := 2) (by omega) (by omega)
  refine wl_bind (uc_byteAt hB h ha) (fun q1 h1 => ?_)
  refine wl_eq (fun z => wl_some (Or.inl ⟨rfl, by omega, by dsimp only; omega⟩)) (fun z => ?_)
  have nb : B a ≠ 32 := by omega
  refine wl_bind uc_isDigit (fun q3 h3 => ?_)
  refine wl_b (fun b3 => ?_) (fun b3 => ?_)
  · have nd := h3.2 b3
    rw [h1] at nd
    refine wl_bind uc_isLetter (fun q5 h5 => ?_)
    refine wl_b (fun b5 => ?_) (fun b5 => ?_)
    · have nl := h5.2 b5
      rw [h1] at nl
      have one : ¬ ((B a = 60 ∨ B a = 62) ∧ B (a + 1) = 61) → wl ((fc_X10_addToken 1 q1 p0 0 S).bind fun q15 => some (p0 + 1, q15)) (fun w => (w.2 = S ∧ B a = 32 ∧ w.1.toInt = (a : Int) + 1) ∨ (∃ k v e, TKN B n a k v e ∧ w.1.toInt = (e : Int) ∧ Add S w.2 t k a v)) := fun y =>
        wl_bind (uc_addToken (a := a) ht h400 h1 ha l_0) (fun q hq => wl_some (Or.inr ⟨_, _, a + 1, ⟨han, nb, Or.inr (Or.inr ⟨nd, nl, rfl, Or.inr ⟨y, rfl, rfl⟩⟩)⟩, by dsimp only; omega, hq⟩))
      have two : ∀ w11 : Int32, (B a = 60 ∨ B a = 62) → B (a + 1) = 61 → w11.toInt = (if B a = 60 then 256 else 257) → wl ((fc_X10_addToken 1 w11 p0 0 S).bind fun q13 => some (p0 + 2, q13)) (fun w => (w.2 = S ∧ B a = 32 ∧ w.1.toInt = (a : Int) + 1) ∨ (∃ k v e, TKN B n a k v e ∧ w.1.toInt = (e : Int) ∧ Add S w.2 t k a v)) := fun w11 y1 y2 y3 =>
        wl_bind (uc_addToken (a := a) ht h400 y3 ha l_0) (fun q hq => wl_some (Or.inr ⟨_, _, a + 2, ⟨han, nb, Or.inr (Or.inr ⟨nd, nl, rfl, Or.inl ⟨y1, y2, rfl, rfl⟩⟩)⟩, by dsimp only; omega, hq⟩))
      refine wl_eq (fun y => ?_) (fun y => ?_)
      · refine wl_bind (uc_byteAt (a := a + 1) hB h (by omega)) (fun q8 h8 => ?_)
        refine wl_eq (fun x => ?_) (fun x => one (fun w => by omega))
        refine wl_bind (R := fun w : Int32 => w.toInt = 256) ?_ (fun w11 h11 => two w11 (Or.inl (by omega)) (by omega) (by rw [if_pos (by omega)]; exact h11))
        exact wl_eq (fun _ => wl_some l_256) (fun w => absurd y w)
      · refine wl_eq (fun y' => ?_) (fun y' => one (fun w => by omega))
        refine wl_bind (uc_byteAt (a := a + 1) hB h (by omega)) (fun q8 h8 => ?_)
        refine wl_eq (fun x => ?_) (fun x => one (fun w => by omega))
        refine wl_bind (R := fun w : Int32 => w.toInt = 257) ?_ (fun w11 h11 => two w11 (Or.inr (by omega)) (by omega) (by rw [if_neg (by omega)]; exact h11))
        exact wl_eq (fun w => absurd w y) (fun _ => wl_some l_257)
    · have L := h5.1 b5
      rw [h1] at L
      refine wl_bind (R := fun w => ∃ k v e, TKN B n a k v e ∧ w.1.toInt = (e : Int) ∧ Add S w.2 t k a v) ?_ (fun q hq => wl_some (Or.inr hq))
      unfold fc_X10_scanWord
      refine wl_bind (uc_scanWord_L4 (q := a) hB h FU p0 0 0 (by omega) l_0 (fun j j1 j2 => by omega) (by omega)) (fun w5 h5' => ?_)
      obtain ⟨e, r, en, ee⟩ := h5'
      refine wl_bind (uc_wordOf hB h ha ee r.1 (by omega)) (fun q6 h6 => ?_)
      refine wl_bind (uc_addToken (a := a) (k := q6.toInt) ht h400 rfl ha l_0) (fun q7 h7 => wl_some ⟨_, _, e, ⟨han, nb, Or.inr (Or.inl ⟨L, r, h6, rfl⟩)⟩, ee, h7⟩)
  · have D := h3.1 b3
    rw [h1] at D
    refine wl_bind (R := fun w => ∃ k v e, TKN B n a k v e ∧ w.1.toInt = (e : Int) ∧ Add S w.2 t k a v) ?_ (fun q hq => wl_some (Or.inr hq))
    unfold fc_X10_scanNumber
    refine wl_bind (uc_scanNumber_L7 (q := a) hB h FU p0 0 0 0 (by omega) l_0 l_0 (fun j j1 j2 => by omega) (by omega)) (fun w7 h7 => ?_)
    obtain ⟨e, r, en, ee, ev⟩ := h7
    have rr := r.1
    have tt := tS (a := w7.1) (b := p0) (by omega) (by omega)
    refine wl_le (fun z5 => ?_) (fun z5 => ?_)
    · refine wl_bind (uc_addToken (a := a) (k := 258) (v := dv B a (e - a)) ht h400 (by decide) ha (by rw [ev, show min (e - a) 5 = e - a by omega])) (fun q9 h9 => wl_some ⟨_, _, e, ⟨han, nb, Or.inl ⟨D, r, rfl, ?_⟩⟩, ee, h9⟩)
      rw [if_neg (by omega)]
    · refine wl_bind (uc_addToken (a := a) (k := 258) (v := -1) ht h400 (by decide) ha (by decide)) (fun q9 h9 => wl_some ⟨_, _, e, ⟨han, nb, Or.inl ⟨D, r, rfl, ?_⟩⟩, ee, h9⟩)
      rw [if_pos (by omega)]
/-- what is scanned so far: t signs, the next is sought from E t on -/
def Scn (B : Nat → Int) (n t a : Nat) (E : Nat → Nat) (S : cT) : Prop := (S.1 1 5).toInt = (t : Int) ∧ t ≤ a ∧ a ≤ n ∧ E 0 = 0 ∧ E t ≤ a ∧ (∀ i, E t ≤ i → i < a → B i = 32) ∧ ∀ c, c < t → 0 ≤ (S.1 4 c).toInt ∧ RUN Bl B (E c) (S.1 4 c).toInt.toNat ∧ TKN B n (S.1 4 c).toInt.toNat (S.1 3 c).toInt (S.1 5 c).toInt (E (c + 1))
theorem uc_scan_L19 {B : Nat → Int} {n : Nat} (hB : BY B n) {S0' : cT} : ∀ (N : Nat) (a1 a2 : Int32) (S : cT) (t a i : Nat) (E : Nat → Nat), CTB B n S → Scn B n t a E S → a1.toInt = (a : Int) → a2.toInt = (i : Int) → i ≤ a → (∀ q j, q ≠ 3 → q ≠ 4 → q ≠ 5 → (q ≠ 1 ∨ j ≠ 5) → S.1 q j = S0'.1 q j) → wl (fc_X10_scan_L19 1 N a1 a2 S) (fun w => CTB B n w.2.2 ∧ (∃ t E, Scn B n t n E w.2.2) ∧ ∀ q j, q ≠ 3 → q ≠ 4 → q ≠ 5 → (q ≠ 1 ∨ j ≠ 5) → w.2.2.1 q j = S0'.1 q j) := by
  have l_1 : (1 : Int32).toInt = 1 := by decide
  have l_400 : (400 : Int32).toInt = 400 := by decide
  have hn := hB.1
  intro N
  induction N with
  | zero => intro a1 a2 S t a i E _ _ _ _ _ _; exact wl_none
  | succ N ih =>
    intro a1 a2 S t a i E hC hS e1 e2 hi hf
    rw [fc_X10_scan_L19]
    have hu := hC.1
    have hS' := hS
    obtain ⟨s1, s2, s3, s4, s5, s6, s7⟩ := hS
    have stop : n ≤ a → wl (some (a1, a2, S)) (fun w => CTB B n w.2.2 ∧ (∃ t E, Scn B n t n E w.2.2) ∧ ∀ q j, q ≠ 3 → q ≠ 4 → q ≠ 5 → (q ≠ 1 ∨ j ≠ 5) → w.2.2.1 q j = S0'.1 q j) := by
      intro z
      have ea : a = n := by omega
      rw [ea] at hS'
      exact wl_some ⟨hC, ⟨t, E, hS'⟩, hf⟩
    refine wl_le (fun z => stop (by omega)) (fun z => ?_)
    refine wl_le (fun y => stop (by omega)) (fun y => ?_)
    refine wl_bind (uc_scanOne hB hC s1 (by omega) e1 (by omega)) (fun q6 h6 => ?_)
    have u2 := tA (a := a2) (b := 1) (by omega) (by omega)
    rcases h6 with ⟨eS, eb, ea⟩ | ⟨k, v, e, tk, ee, ad⟩
    · rw [eS]
      refine ih q6.1 (a2 + 1) S t (a + 1) (i + 1) E hC ⟨s1, by omega, by omega, s4, by omega, fun x x1 x2 => ?_, s7⟩ (by omega) (by omega) (by omega) hf
      by_cases w : x = a
      · rw [w]; exact eb
      · exact s6 x x1 (by omega)
    · have g := tk.gt hB
      have adf := ad.2.2.2.2
      have rl : RUN Bl B (E t) a := ⟨s5, fun x x1 x2 => s6 x x1 x2, tk.2.1⟩
      refine ih q6.1 (a2 + 1) q6.2 (t + 1) e (i + 1) (fun c => if c = t + 1 then e else E c) (Add.tape hC ad) ⟨by rw [ad.2.2.2.1]; rfl, by omega, by omega, ?_, ?_, ?_, ?_⟩ ee (by omega) (by omega) (fun q j a3 a4 a5 a1' => by rw [adf q j (Or.inl a3) (Or.inl a4) (Or.inl a5) a1']; exact hf q j a3 a4 a5 a1')
      · dsimp only
        rw [if_neg (by omega)]
        exact s4
      · dsimp only
        rw [if_pos rfl]
        exact Nat.le_refl _
      · dsimp only
        rw [if_pos rfl]
        intro x x1 x2
        omega
      · intro c hc
        dsimp only
        by_cases w : c = t
        · subst w
          rw [ad.1, ad.2.1, ad.2.2.1, if_neg (by omega), if_pos rfl]
          exact ⟨by omega, by rw [show ((a : Int)).toNat = a by omega]; exact rl, by rw [show ((a : Int)).toNat = a by omega]; exact tk⟩
        · rw [adf 3 c (Or.inr w) (Or.inl (by decide)) (Or.inl (by decide)) (Or.inl (by decide)), adf 4 c (Or.inl (by decide)) (Or.inr w) (Or.inl (by decide)) (Or.inl (by decide)), adf 5 c (Or.inl (by decide)) (Or.inl (by decide)) (Or.inr w) (Or.inl (by decide)), if_neg (by omega), if_neg (by omega)]
          exact s7 c (by omega)
/-- the row of signs that stands in the class's cells -/
def KC (S : cT) : KS := (fun c => (S.1 3 c).toInt, fun c => (S.1 5 c).toInt, fun c => (S.1 4 c).toInt)
theorem uc_scan {B : Nat → Int} {n : Nat} {S : cT} (hB : BY B n) (h : CTB B n S) : wl (fc_X10_scan 1 S) (fun S' => (∃ m E po, STR B n (KC S') m E po ∧ (S'.1 1 5).toInt = (m : Int) + 1) ∧ (S'.1 1 6).toInt = 0 ∧ (S'.1 1 7).toInt = 0 ∧ S'.1 1 8 = S'.1 3 0 ∧ S'.1 1 9 = S'.1 5 0 ∧ ∀ q j, q ≠ 1 → q ≠ 3 → q ≠ 4 → q ≠ 5 → S'.1 q j = S.1 q j) := by
  unfold fc_X10_scan
  have l_0 : (0 : Int32).toInt = 0 := by decide
  have hn := hB.1
  refine wl_letv (fun S1 e1 => ?_)
  refine wl_letv (fun S2 e2 => ?_)
  refine wl_letv (fun S3 e3 => ?_)
  have z3 : ∀ q j, (q ≠ 1 ∨ (j ≠ 5 ∧ j ≠ 6 ∧ j ≠ 7)) → S3.1 q j = S.1 q j := fun q j hq => by
    rw [e3, ca_ne (by omega), e2, ca_ne (by omega), e1, ca_ne (by omega)]
  have C3 : CTB B n S3 := ⟨by rw [z3 1 4 (Or.inr (by decide))]; exact h.1, fun k hk => by rw [z3 2 k (Or.inl (by decide))]; exact h.2 k hk⟩
  have v5 : (S3.1 1 5).toInt = ((0 : Nat) : Int) := by rw [e3, ca_ne (by decide), e2, ca_ne (by decide), e1, ca_at]; exact l_0
  have v6 : (S3.1 1 6).toInt = 0 := by rw [e3, ca_ne (by decide), e2, ca_at]; exact l_0
  have v7 : (S3.1 1 7).toInt = 0 := by rw [e3, ca_at]; exact l_0
  refine wl_bind (uc_scan_L19 hB (S0' := S3) FU 0 0 S3 0 0 0 (fun _ => 0) C3 ⟨v5, Nat.le_refl _, Nat.zero_le _, rfl, Nat.le_refl _, fun i i1 i2 => by omega, fun c hc => absurd hc (Nat.not_lt_zero _)⟩ l_0 l_0 (Nat.le_refl _) (fun _ _ _ _ _ _ => rfl)) (fun w7 h7 => ?_)
  obtain ⟨C7, ⟨m, E, s1, s2, s3, s4, s5, s6, s7⟩, f7⟩ := h7
  refine wl_bind (uc_addToken (a := n) (k := 260) (v := 0) s1 (by omega) (by decide) C7.1 l_0) (fun q8 ad => ?_)
  have adf := ad.2.2.2.2
  refine wl_bif (wl_letv (fun v9 e9 => ?_))
  refine wl_letv (fun S10 e10 => ?_)
  refine wl_bif (wl_letv (fun v11 e11 => ?_))
  refine wl_letv (fun S12 e12 => wl_some ?_)
  have z12 : ∀ q j, (q ≠ 1 ∨ (j ≠ 8 ∧ j ≠ 9)) → S12.1 q j = q8.1 q j := fun q j hq => by
    rw [e12, ca_ne (by omega), e10, ca_ne (by omega)]
  have c12 : ∀ c, c < m → S12.1 3 c = w7.2.2.1 3 c ∧ S12.1 4 c = w7.2.2.1 4 c ∧ S12.1 5 c = w7.2.2.1 5 c := fun c hc => by
    rw [z12 3 c (Or.inl (by decide)), z12 4 c (Or.inl (by decide)), z12 5 c (Or.inl (by decide))]
    exact ⟨adf 3 c (Or.inr (by omega)) (Or.inl (by decide)) (Or.inl (by decide)) (Or.inl (by decide)), adf 4 c (Or.inl (by decide)) (Or.inr (by omega)) (Or.inl (by decide)) (Or.inl (by decide)), adf 5 c (Or.inl (by decide)) (Or.inl (by decide)) (Or.inr (by omega)) (Or.inl (by decide))⟩
  refine ⟨⟨m, E, fun c => if c = m then n else (S12.1 4 c).toInt.toNat, ⟨by omega, s4, fun c hc => ?_, ?_, ?_, ?_, fun c hc => ?_⟩, ?_⟩, ?_, ?_, ?_, ?_, fun q j q1 q3 q4 q5 => ?_⟩
  · obtain ⟨x3, x4, x5⟩ := c12 c hc
    obtain ⟨y0, y1, y2⟩ := s7 c hc
    dsimp only [KC]
    rw [if_neg (by omega), x3, x4, x5]
    exact ⟨y1, y2⟩
  · refine ⟨s5, fun i i1 i2 => s6 i i1 i2, ?_⟩
    rw [hB.2.2 n (Nat.le_refl _)]
    decide
  · dsimp only
    rw [if_pos rfl]
  · show (S12.1 3 m).toInt = 260
    rw [z12 3 m (Or.inl (by decide))]
    exact ad.1
  · show (S12.1 4 c).toInt = _
    dsimp only
    by_cases w : c = m
    · subst w
      rw [if_pos rfl, z12 4 c (Or.inl (by decide))]
      exact ad.2.1
    · rw [if_neg w]
      have y0 := (s7 c (by omega)).1
      rw [(c12 c (by omega)).2.1]
      omega
  · rw [z12 1 5 (Or.inr (by decide))]
    exact ad.2.2.2.1
  · rw [z12 1 6 (Or.inr (by decide)), adf 1 6 (Or.inl (by decide)) (Or.inl (by decide)) (Or.inl (by decide)) (Or.inr (by decide)), f7 1 6 (by decide) (by decide) (by decide) (by decide)]
    exact v6
  · rw [z12 1 7 (Or.inr (by decide)), adf 1 7 (Or.inl (by decide)) (Or.inl (by decide)) (Or.inl (by decide)) (Or.inr (by decide)), f7 1 7 (by decide) (by decide) (by decide) (by decide)]
    exact v7
  · rw [e12, ca_ne (by decide), e10, ca_at, ca_ne (by decide)]
    rw [e9]
    rfl
  · rw [e12, ca_at, ca_ne (by decide), e11]
    rfl
  · rw [z12 q j (Or.inl q1), adf q j (Or.inl q3) (Or.inl q4) (Or.inl q5) (Or.inl q1), f7 q j q3 q4 q5 (Or.inl q1), z3 q j (Or.inl q1)]
