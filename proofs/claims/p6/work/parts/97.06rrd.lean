/-! ===== the reference's reader over the same row of signs: values, sums ===== -/
section RRD
variable {B : Nat → Int} {n : Nat} {K : KS} {m : Nat} {E po : Nat → Nat}
theorem STR.lt (hS : STR B n K m E po) {c : Nat} (h : c ≤ m) (k : K.1 c ≠ 260) : c < m := by
  by_cases z : c = m
  · rw [z] at k; exact absurd hS.2.2.2.2.2.1 k
  · omega
theorem STR.run (hS : STR B n K m E po) {c : Nat} (h : c ≤ m) : RUN Bl B (E c) (po c) := by
  by_cases z : c = m
  · rw [z, hS.2.2.2.2.1]; exact hS.2.2.2.1
  · exact (hS.2.2.1 c (by omega)).1
theorem STR.tk (hS : STR B n K m E po) {c : Nat} (h : c < m) : TKN B n (po c) (K.1 c) (K.2.1 c) (E (c + 1)) := (hS.2.2.1 c h).2
theorem STR.le (hS : STR B n K m E po) (hB : BY B n) {c : Nat} (h : c ≤ m) : po c ≤ n := by
  by_cases z : c = m
  · rw [z, hS.2.2.2.2.1]; exact Nat.le_refl _
  · exact Nat.le_of_lt (hS.tk (by omega)).1
theorem STR.nb (hS : STR B n K m E po) {c : Nat} (h : c ≤ m) : RUN Bl B (po c) (po c) := ⟨Nat.le_refl _, fun i i1 i2 => by omega, (hS.run h).2.2⟩
theorem STR.dig (hS : STR B n K m E po) (hB : BY B n) {c : Nat} (h : c ≤ m) : Dg (B (po c)) ↔ K.1 c = 258 := by
  by_cases z : c = m
  · rw [z, hS.2.2.2.2.1, hS.2.2.2.2.2.1, hB.2.2 n (Nat.le_refl _)]
    decide
  · have t := (hS.tk (c := c) (by omega)).2.2
    have b := hB.2.1 (po c)
    rcases t with ⟨d, _, k, _⟩ | ⟨d, _, k, _⟩ | ⟨d, _, _, ⟨_, _, k, _⟩ | ⟨_, k, _⟩⟩
    · exact ⟨fun _ => k, fun _ => d⟩
    · rcases k with ⟨i, i1, k, _⟩ | ⟨k, _⟩
      · constructor
        · intro y; omega
        · intro y; omega
      · constructor
        · intro y; omega
        · intro y; omega
    · refine ⟨fun y => absurd y d, fun y => ?_⟩
      by_cases w : B (po c) = 60
      · rw [if_pos w] at k; omega
      · rw [if_neg w] at k; omega
    · refine ⟨fun y => absurd y d, fun y => by omega⟩
theorem STR.word (hS : STR B n K m E po) (hB : BY B n) {c i e : Nat} (h : c ≤ m) (hi : i < 18) (r : RUN Lt B (po c) e) : MT B (po c) e i ↔ K.1 c = 300 + (i : Int) := by
  have wl6 := w_len i hi
  have no : ¬ Lt (B (po c)) → ¬ MT B (po c) e i := fun z y => by
    have := y.1
    exact z (r.2.1 (po c) (Nat.le_refl _) (by omega))
  by_cases z : c = m
  · have b0 : B (po c) = 0 := by rw [z, hS.2.2.2.2.1]; exact hB.2.2 n (Nat.le_refl _)
    have k0 := hS.2.2.2.2.2.1
    rw [← z] at k0
    exact ⟨fun y => absurd y (no (by rw [b0]; decide)), fun y => by omega⟩
  · have t := (hS.tk (c := c) (by omega)).2.2
    have b := hB.2.1 (po c)
    rcases t with ⟨d, _, k, _⟩ | ⟨d, r', k, _⟩ | ⟨_, d, _, ⟨_, _, k, _⟩ | ⟨_, k, _⟩⟩
    · exact ⟨fun y => absurd y (no (by omega)), fun y => by omega⟩
    · have ee := RUN_uniq r r'
      rw [ee]
      exact (WD_iff k hi).symm
    · refine ⟨fun y => absurd y (no d), fun y => ?_⟩
      by_cases w : B (po c) = 60
      · rw [if_pos w] at k; omega
      · rw [if_neg w] at k; omega
    · exact ⟨fun y => absurd y (no d), fun y => by omega⟩
theorem STR.wend (hS : STR B n K m E po) (hB : BY B n) {c i : Nat} (h : c < m) (hi : i < 18) (k : K.1 c = 300 + (i : Int)) : RUN Lt B (po c) (E (c + 1)) := by
  have t := (hS.tk h).2.2
  have b := hB.2.1 (po c)
  rcases t with ⟨d, _, k', _⟩ | ⟨d, r', _, _⟩ | ⟨_, d, _, ⟨_, _, k', _⟩ | ⟨_, k', _⟩⟩
  · omega
  · exact r'
  · exfalso
    by_cases w : B (po c) = 60
    · rw [if_pos w] at k'; omega
    · rw [if_neg w] at k'; omega
  · exfalso
    omega
/-- a sign of one byte -/
abbrev Sg (s : Int) : Prop := 0 < s ∧ s < 256 ∧ ¬ Dg s ∧ ¬ Lt s ∧ s ≠ 60 ∧ s ≠ 62 ∧ s ≠ 32
theorem STR.sign (hS : STR B n K m E po) (hB : BY B n) {c : Nat} {s : Int} (h : c ≤ m) (hs : Sg s) : B (po c) = s ↔ K.1 c = s := by
  by_cases z : c = m
  · have b0 : B (po c) = 0 := by rw [z, hS.2.2.2.2.1]; exact hB.2.2 n (Nat.le_refl _)
    have k0 := hS.2.2.2.2.2.1
    rw [← z] at k0
    omega
  · have t := (hS.tk (c := c) (by omega)).2.2
    rcases t with ⟨d, _, k, _⟩ | ⟨d, r', k, _⟩ | ⟨_, d, _, ⟨w, _, k, _⟩ | ⟨_, k, _⟩⟩
    · omega
    · rcases k with ⟨i, i1, k, _⟩ | ⟨k, _⟩
      · omega
      · omega
    · by_cases w : B (po c) = 60
      · rw [if_pos w] at k; omega
      · rw [if_neg w] at k; omega
    · rw [k]
theorem STR.send (hS : STR B n K m E po) {c : Nat} {s : Int} (h : c < m) (hs : s < 256) (k : K.1 c = s) : E (c + 1) = po c + 1 := by
  have t := (hS.tk h).2.2
  rcases t with ⟨d, _, k', _⟩ | ⟨d, r', k', _⟩ | ⟨_, d, _, ⟨w, _, k', _⟩ | ⟨_, k', e⟩⟩
  · omega
  · rcases k' with ⟨i, i1, k', _⟩ | ⟨k', _⟩
    · omega
    · omega
  · by_cases w : B (po c) = 60
    · rw [if_pos w] at k'; omega
    · rw [if_neg w] at k'; omega
  · exact e
/-- comparing signs -/
theorem STR.cm (hS : STR B n K m E po) (hB : BY B n) {c : Nat} (h : c ≤ m) : isCm (K.1 c) ↔ (B (po c) = 60 ∨ B (po c) = 61 ∨ B (po c) = 62) := by
  by_cases z : c = m
  · have b0 : B (po c) = 0 := by rw [z, hS.2.2.2.2.1]; exact hB.2.2 n (Nat.le_refl _)
    have k0 := hS.2.2.2.2.2.1
    rw [← z] at k0
    omega
  · have t := (hS.tk (c := c) (by omega)).2.2
    rcases t with ⟨d, _, k, _⟩ | ⟨d, r', k, _⟩ | ⟨_, d, _, ⟨w, _, k, _⟩ | ⟨_, k, _⟩⟩
    · omega
    · rcases k with ⟨i, i1, k, _⟩ | ⟨k, _⟩
      · omega
      · omega
    · by_cases w : B (po c) = 60
      · rw [if_pos w] at k; omega
      · rw [if_neg w] at k; omega
    · have b := hB.2.1 (po c)
      rw [k]
      omega
theorem STR.cend (hS : STR B n K m E po) {c : Nat} (h : c < m) (k : B (po c) = 60 ∨ B (po c) = 61 ∨ B (po c) = 62) : (B (po c) ≠ 61 ∧ B (po c + 1) = 61 ∧ E (c + 1) = po c + 2) ∨ (¬ (B (po c) ≠ 61 ∧ B (po c + 1) = 61) ∧ E (c + 1) = po c + 1) := by
  have t := (hS.tk h).2.2
  rcases t with ⟨d, _, k', _⟩ | ⟨d, r', k', _⟩ | ⟨_, d, _, ⟨w, w2, k', e⟩ | ⟨w, k', e⟩⟩
  · omega
  · omega
  · exact Or.inl ⟨by omega, w2, e⟩
  · exact Or.inr ⟨by omega, e⟩
def RSt (B : Nat → Int) (n : Nat) (po : Nat → Nat) (c p : Nat) (T : mT) : Prop := RT B n T ∧ (∃ a : Nat, (T.1 0 8).toInt = (a : Int) ∧ a ≤ n ∧ RUN Bl B a (po c)) ∧ (T.1 0 9).toInt = 0 ∧ (T.1 0 12).toInt = (p : Int) ∧ p ≤ 60
def RQt (B : Nat → Int) (n : Nat) (po : Nat → Nat) (c p : Nat) (T : mT) : Prop := RT B n T ∧ (T.1 0 8).toInt = (po c : Int) ∧ (T.1 0 9).toInt = 0 ∧ (T.1 0 12).toInt = (p : Int) ∧ p ≤ 60
/-- all but what reading a sum writes -/
def Fm (T T' : mT) : Prop := ∀ r j, r ≠ 2 → r ≠ 3 → (r ≠ 0 ∨ (j ≠ 8 ∧ j ≠ 9 ∧ j ≠ 10 ∧ j ≠ 12)) → T'.1 r j = T.1 r j
theorem Fm.rfl' {T : mT} : Fm T T := fun _ _ _ _ _ => rfl
theorem Fm.trans {A B C : mT} (h : Fm A B) (g : Fm B C) : Fm A C := fun r j a b c => (g r j a b c).trans (h r j a b c)
theorem Fm.nx {A B : mT} {q : Nat} (h : Nx A B q) : Fm A B := fun r j _ _ c => h.2 r j (by omega)
theorem RQt.s (hS : STR B n K m E po) (hB : BY B n) {c p : Nat} {T : mT} (hc : c ≤ m) (h : RQt B n po c p T) : RSt B n po c p T := ⟨h.1, ⟨po c, h.2.1, hS.le hB hc, hS.nb hc⟩, h.2.2⟩
theorem RSt.nx {c p : Nat} {T T' : mT} (h : RSt B n po c p T) (x : Nx T T' (po c)) : RQt B n po c p T' := ⟨x.rt h.1, x.1, by rw [x.2 0 9 (by decide)]; exact h.2.2.1, by rw [x.2 0 12 (by decide)]; exact h.2.2.2.1, h.2.2.2.2⟩
/-- behind sign c -/
theorem RQt.go (hS : STR B n K m E po) (hB : BY B n) {c p : Nat} {T T' : mT} (hc : c < m) (h : RQt B n po c p T) (x : Nx T T' (E (c + 1))) : RSt B n po (c + 1) p T' := ⟨x.rt h.1, ⟨E (c + 1), x.1, ((hS.tk hc).gt hB).2, hS.run (by omega)⟩, by rw [x.2 0 9 (by decide)]; exact h.2.2.1, by rw [x.2 0 12 (by decide)]; exact h.2.2.2.1, h.2.2.2.2⟩
theorem RSt.fr {c p : Nat} {T T' : mT} (h : RSt B n po c p T) (x : ∀ r j, (r = 1 ∨ (r = 0 ∧ (j = 1 ∨ j = 8 ∨ j = 9 ∨ j = 12))) → T'.1 r j = T.1 r j) : RSt B n po c p T' := by
  obtain ⟨h1, ⟨a, h2, h3⟩, h4, h5, h6⟩ := h
  exact ⟨⟨by rw [x 0 1 (by decide)]; exact h1.1, fun k hk => by rw [x 1 k (Or.inl rfl)]; exact h1.2 k hk⟩, ⟨a, by rw [x 0 8 (by decide)]; exact h2, h3⟩, by rw [x 0 9 (by decide)]; exact h4, by rw [x 0 12 (by decide)]; exact h5, h6⟩
theorem um_seeK {c p : Nat} {T : mT} (hS : STR B n K m E po) (hB : BY B n) (hc : c ≤ m) (h : RSt B n po c p T) : wl (fm_see T) (fun w => RQt B n po c p w.2 ∧ Nx T w.2 (po c) ∧ (∀ s, Sg s → (w.1.toInt = s ↔ K.1 c = s)) ∧ (isCm (K.1 c) ↔ (w.1.toInt = 60 ∨ w.1.toInt = 61 ∨ w.1.toInt = 62)) ∧ (isCm (K.1 c) → w.1.toInt = B (po c)) ∧ (w.1.toInt = -1 ↔ K.1 c = 260)) := by
  have h' := h
  obtain ⟨h1, ⟨a, h2, h3, h4⟩, _⟩ := h'
  refine wl_mono (um_see hB h1 h2 h3 h4) (fun w hw => ⟨h.nx hw.1, hw.1, fun s hs => ?_, ?_, fun cm => ?_, ?_⟩)
  · rw [← hS.sign hB hc hs]
    by_cases z : po c < n
    · rw [hw.2.1 z]
    · rw [hw.2.2 (by omega), hB.2.2 (po c) (by omega)]
      omega
  · rw [hS.cm hB hc]
    by_cases z : po c < n
    · rw [hw.2.1 z]
    · rw [hw.2.2 (by omega), hB.2.2 (po c) (by omega)]
      omega
  · by_cases z : po c < n
    · exact hw.2.1 z
    · have y := (hS.cm hB hc).mp cm
      rw [hB.2.2 (po c) (by omega)] at y
      omega
  · by_cases z : c = m
    · rw [z, hS.2.2.2.2.2.1, hw.2.2 (by rw [z, hS.2.2.2.2.1]; exact Nat.le_refl _)]
      decide
    · have t := hS.tk (c := c) (by omega)
      rw [hw.2.1 t.1]
      have b := hB.2.1 (po c)
      refine ⟨fun y => by omega, fun y => ?_⟩
      exfalso
      rcases t.2.2 with ⟨d, _, k, _⟩ | ⟨d, r', k, _⟩ | ⟨_, d, _, ⟨w, _, k, _⟩ | ⟨_, k, _⟩⟩
      · omega
      · rcases k with ⟨i, i1, k, _⟩ | ⟨k, _⟩
        · omega
        · omega
      · by_cases w : B (po c) = 60
        · rw [if_pos w] at k; omega
        · rw [if_neg w] at k; omega
      · omega
theorem um_wordK {c p i : Nat} {W : Int64} {T : mT} (hS : STR B n K m E po) (hB : BY B n) (hc : c ≤ m) (hi : i < 18) (hW : W.toInt = pk (wch i) (wn i)) (h : RSt B n po c p T) : wl (fm_isWord W T) (fun w => RQt B n po c p w.2 ∧ Nx T w.2 (po c) ∧ (w.1 = true → K.1 c = 300 + (i : Int)) ∧ (w.1 = false → K.1 c ≠ 300 + (i : Int))) := by
  have h' := h
  obtain ⟨h1, ⟨a, h2, h3, h4⟩, _⟩ := h'
  refine wl_mono (um_isWordB hB h1 h2 h3 h4 hi hW) (fun w hw => ?_)
  obtain ⟨x, e, r, y1, y2⟩ := hw
  exact ⟨h.nx x, x, fun z => (hS.word hB hc hi r).mp (y1 z), fun z k => y2 z ((hS.word hB hc hi r).mpr k)⟩
theorem um_passK {c p i : Nat} {T : mT} (hS : STR B n K m E po) (hB : BY B n) (hc : c ≤ m) (hi : i < 18) (k : K.1 c = 300 + (i : Int)) (h : RQt B n po c p T) : wl (fm_passWord T) (fun w => RSt B n po (c + 1) p w ∧ Nx T w (E (c + 1))) := by
  have cm := hS.lt hc (by omega)
  exact wl_mono (um_passWord hB h.1 h.2.1 (hS.wend hB cm hi k) (hS.le hB hc)) (fun w x => ⟨h.go hS hB cm x, x⟩)
theorem um_onK {c p : Nat} {s : Int} {T : mT} (hS : STR B n K m E po) (hB : BY B n) (hc : c ≤ m) (hs : s < 256) (k : K.1 c = s) (h : RQt B n po c p T) : RSt B n po (c + 1) p (mz T 8 ((T.1 0 8) + 1)) ∧ Nx T (mz T 8 ((T.1 0 8) + 1)) (E (c + 1)) := by
  have l_1 : (1 : Int32).toInt = 1 := by decide
  have cm := hS.lt hc (by omega)
  have e := hS.send cm hs k
  have hn := hB.1
  have le := hS.le hB hc
  have h8 := h.2.1
  have u := tA (a := T.1 0 8) (b := 1) (by omega) (by omega)
  have x : Nx T (mz T 8 ((T.1 0 8) + 1)) (E (c + 1)) := Nx.z (by omega)
  exact ⟨h.go hS hB cm x, x⟩
theorem um_fails {k a : Int32} {q : Nat} {why : Int} {T : mT} (h9 : (T.1 0 9).toInt = 0) (ha : a.toInt = (q : Int)) (hq : q ≤ 400) (hk : k.toInt = why) (h0 : 0 ≤ why) (h7 : why ≤ 7) : wl (fm_fails k a T) (fun w => w.1 = false ∧ (w.2.1 0 9).toInt = 1 + 8 * (q : Int) + why) := by
  unfold fm_fails
  have l_0 : (0 : Int32).toInt = 0 := by decide
  have l_1 : (1 : Int32).toInt = 1 := by decide
  have m8 := tML (a := 8) (b := a) (n := 8) (by decide) (by omega) (by omega)
  have t1 := tA (a := 1) (b := 8 * a) (by omega) (by omega)
  have t2 := tA (a := 1 + 8 * a) (b := k) (by omega) (by omega)
  refine wl_eq (fun _ => wl_letv (fun T2 e2 => wl_some ⟨rfl, ?_⟩)) (fun z => by exfalso; omega)
  dsimp only
  rw [e2, mz_at]
  omega
/-- a fault at sign c -/
theorem um_failK {c : Nat} {k a : Int32} {why : Int} {T : mT} (hS : STR B n K m E po) (hB : BY B n) (hc : c ≤ m) (h9 : (T.1 0 9).toInt = 0) (ha : a.toInt = (po c : Int)) (hk : k.toInt = why) (h0 : 0 ≤ why) (h7 : why ≤ 7) : wl (fm_fails k a T) (fun w => w.1 = false ∧ (w.2.1 0 9).toInt = (bdc K c why).1 ∧ (bdc K c why).1 ≠ 0) := by
  have hn := hB.1
  have le := hS.le hB hc
  refine wl_mono (um_fails h9 ha (by omega) hk h0 h7) (fun w hw => ?_)
  have e : (bdc K c why).1 = 1 + 8 * (po c : Int) + why := by show 1 + 8 * K.2.2 c + why = _; rw [hS.2.2.2.2.2.2 c hc]
  rw [e]
  exact ⟨hw.1, hw.2, by omega⟩
theorem um_puts {a v : Int32} {T : mT} : wl (fm_puts a v T) (fun T' => ∀ r j, r ≠ 2 → r ≠ 3 → T'.1 r j = T.1 r j) := by
  unfold fm_puts
  refine wl_bif (wl_letv (fun v1 _ => ?_))
  refine wl_bif (wl_letv (fun T2 e2 => ?_))
  refine wl_bif (wl_letv (fun v3 _ => ?_))
  refine wl_bif (wl_letv (fun T4 e4 => wl_some (fun r j h2 h3 => ?_)))
  rw [e4, ma_ne (Or.inl h3), e2, ma_ne (Or.inl h2)]
theorem um_makes {c p : Nat} {a : Int32} {T : mT} (hS : STR B n K m E po) (hB : BY B n) (hc : c ≤ m) (h9 : (T.1 0 9).toInt = 0) (h12 : (T.1 0 12).toInt = (p : Int)) (hp : p ≤ 60) (ha : a.toInt = (po c : Int)) : wl (fm_makes a T) (fun w => (60 ≤ p ∧ w.1 = false ∧ (w.2.1 0 9).toInt = (bdc K c 3).1 ∧ (bdc K c 3).1 ≠ 0) ∨ (p < 60 ∧ w.1 = true ∧ (w.2.1 0 12).toInt = (p : Int) + 1 ∧ ∀ r j, (r ≠ 0 ∨ j ≠ 12) → w.2.1 r j = T.1 r j)) := by
  unfold fm_makes
  have l_1 : (1 : Int32).toInt = 1 := by decide
  have l_60 : (60 : Int32).toInt = 60 := by decide
  refine wl_eq (fun z => ?_) (fun z => ?_)
  · exact wl_bind (um_failK hS hB hc h9 ha (by decide) (by decide) (by decide)) (fun q hq => wl_some (Or.inl ⟨by omega, hq⟩))
  · have u := tA (a := T.1 0 12) (b := 1) (by omega) (by omega)
    refine wl_letv (fun T2 e2 => wl_some (Or.inr ⟨by omega, rfl, ?_, fun r j hj => ?_⟩))
    · dsimp only
      rw [e2, mz_at]; omega
    · dsimp only
      rw [e2, mz_ne hj]
/-- one part more -/
theorem RSt.part {c p : Nat} {T T' : mT} (h : RSt B n po c p T) (hp : p < 60) (e12 : (T'.1 0 12).toInt = (p : Int) + 1) (x : ∀ r j, (r ≠ 0 ∨ j ≠ 12) → T'.1 r j = T.1 r j) : RSt B n po c (p + 1) T' := by
  obtain ⟨h1, ⟨a, h2, h3⟩, h4, h5, h6⟩ := h
  exact ⟨⟨by rw [x 0 1 (by decide)]; exact h1.1, fun k hk => by rw [x 1 k (Or.inl (by decide))]; exact h1.2 k hk⟩, ⟨a, by rw [x 0 8 (by decide)]; exact h2, h3⟩, by rw [x 0 9 (by decide)]; exact h4, by rw [e12]; rfl, by omega⟩
theorem um_num {c p : Nat} {lo hi : Int32} {T : mT} (hS : STR B n K m E po) (hB : BY B n) (hc : c ≤ m) (h : RSt B n po c p T) (h0 : 0 ≤ lo.toInt) : wl (fm_numberHere lo hi T) (fun w => (K.1 c ≠ 258 ∧ w.1 = false ∧ (w.2.1 0 9).toInt = (bdc K c 0).1 ∧ (bdc K c 0).1 ≠ 0) ∨ (K.1 c = 258 ∧ (K.2.1 c < lo.toInt ∨ hi.toInt < K.2.1 c) ∧ w.1 = false ∧ (w.2.1 0 9).toInt = (bdc K c 1).1 ∧ (bdc K c 1).1 ≠ 0) ∨ (K.1 c = 258 ∧ lo.toInt ≤ K.2.1 c ∧ K.2.1 c ≤ hi.toInt ∧ w.1 = true ∧ RSt B n po (c + 1) p w.2 ∧ (w.2.1 0 10).toInt = K.2.1 c ∧ ∀ r j, (r ≠ 0 ∨ (j ≠ 8 ∧ j ≠ 10)) → w.2.1 r j = T.1 r j)) := by
  unfold fm_numberHere
  have l_0 : (0 : Int32).toInt = 0 := by decide
  have l_5 : (5 : Int32).toInt = 5 := by decide
  have hn := hB.1
  have le := hS.le hB hc
  refine wl_bind (um_seeK hS hB hc h) (fun q1 h1 => ?_)
  obtain ⟨R1, x1, _⟩ := h1
  refine wl_bind (um_isDigit (k := po c) hB R1.1 R1.2.1) (fun q2 h2 => ?_)
  refine wl_b (fun b => ?_) (fun b => ?_)
  · have nd := h2.2 b
    exact wl_bind (um_failK hS hB hc R1.2.2.1 R1.2.1 l_0 (by decide) (by decide)) (fun q hq => wl_some (Or.inl ⟨fun z => nd ((hS.dig hB hc).mpr z), hq⟩))
  · have k := (hS.dig hB hc).mp (h2.1 b)
    have cm := hS.lt hc (by omega)
    have t := hS.tk cm
    obtain ⟨e, he⟩ : ∃ e, e = E (c + 1) := ⟨_, rfl⟩
    have tt : RUN Dg B (po c) (E (c + 1)) ∧ K.2.1 c = (if 5 < E (c + 1) - po c then -1 else dv B (po c) (E (c + 1) - po c)) := by
      have bb := hB.2.1 (po c)
      rcases t.2.2 with ⟨d, r, _, v⟩ | ⟨d, r', k', _⟩ | ⟨d, _, _, _⟩
      · exact ⟨r, v⟩
      · have := h2.1 b
        exfalso; omega
      · exact absurd (h2.1 b) d
    have en := (t.gt hB).2
    have rr := tt.1.1
    refine wl_bind (um_numL (k3 := q1.2.1 0 8) hB R1.2.1 tt.1 le FU 0 q1.2 0 R1.1 (by rw [R1.2.1]; rfl) (by omega) l_0) (fun w10 h10 => ?_)
    obtain ⟨x10, v10⟩ := h10
    refine wl_letv (fun T11 e11 => ?_)
    have z11 : ∀ r j, (r ≠ 0 ∨ j ≠ 10) → T11.1 r j = w10.2.1 r j := fun r j hj => by rw [e11]; exact mz_ne hj
    have h118 : (T11.1 0 8).toInt = (E (c + 1) : Int) := by rw [z11 0 8 (by decide)]; exact x10.1
    have h119 : (T11.1 0 9).toInt = 0 := by rw [z11 0 9 (by decide), x10.2 0 9 (by decide)]; exact R1.2.2.1
    have R11 : RSt B n po (c + 1) p T11 := (R1.go hS hB cm x10).fr (fun r j hj => z11 r j (by omega))
    have v11 : T11.1 0 10 = w10.1 := by rw [e11]; exact mz_at _ _ _
    have fr : ∀ r j, (r ≠ 0 ∨ (j ≠ 8 ∧ j ≠ 10)) → T11.1 r j = T.1 r j := fun r j hj => by rw [z11 r j (by omega), x10.2 r j (by omega), x1.2 r j (by omega)]
    have R18 := R1.2.1
    have tS1 := tS (a := T11.1 0 8) (b := q1.2.1 0 8) (by omega) (by omega)
    have bad : (K.2.1 c < lo.toInt ∨ hi.toInt < K.2.1 c) → wl ((fm_fails 1 (q1.2.1 0 8) T11).bind fun q13 => if (b2i q13.1) = 0 then (some (false, q13.2)) else (some (true, q13.2))) (fun w => (K.1 c ≠ 258 ∧ w.1 = false ∧ (w.2.1 0 9).toInt = (bdc K c 0).1 ∧ (bdc K c 0).1 ≠ 0) ∨ (K.1 c = 258 ∧ (K.2.1 c < lo.toInt ∨ hi.toInt < K.2.1 c) ∧ w.1 = false ∧ (w.2.1 0 9).toInt = (bdc K c 1).1 ∧ (bdc K c 1).1 ≠ 0) ∨ (K.1 c = 258 ∧ lo.toInt ≤ K.2.1 c ∧ K.2.1 c ≤ hi.toInt ∧ w.1 = true ∧ RSt B n po (c + 1) p w.2 ∧ (w.2.1 0 10).toInt = K.2.1 c ∧ ∀ r j, (r ≠ 0 ∨ (j ≠ 8 ∧ j ≠ 10)) → w.2.1 r j = T.1 r j)) := fun y =>
      wl_bind (um_failK hS hB hc h119 R18 (by decide) (by decide) (by decide)) (fun q13 h13 => wl_b (fun _ => wl_some (Or.inr (Or.inl ⟨k, y, rfl, h13.2⟩))) (fun b' => by rw [h13.1] at b'; cases b'))
    refine wl_lt (fun z => bad (Or.inl ?_)) (fun z => ?_)
    · rw [tt.2, if_pos (by omega)]
      omega
    · have kv : K.2.1 c = w10.1.toInt := by
        rw [tt.2, if_neg (by omega), v10, show min (E (c + 1) - po c) 5 = E (c + 1) - po c by omega]
      rw [fm_in_eq]
      refine wl_bind (wl_some (Q := fun q => q = decide (lo.toInt64 ≤ w10.1.toInt64 ∧ w10.1.toInt64 ≤ hi.toInt64)) rfl) (fun q15 h15 => ?_)
      have io : (lo.toInt64 ≤ w10.1.toInt64 ∧ w10.1.toInt64 ≤ hi.toInt64) ↔ (lo.toInt ≤ K.2.1 c ∧ K.2.1 c ≤ hi.toInt) := by
        rw [Int64.le_iff_toInt_le, Int64.le_iff_toInt_le, Int32.toInt_toInt64, Int32.toInt_toInt64, Int32.toInt_toInt64, kv]
      refine wl_b (fun b' => bad ?_) (fun b' => ?_)
      · rw [h15] at b'
        have := of_decide_eq_false b'
        rw [io] at this
        omega
      · rw [h15] at b'
        have := io.mp (of_decide_eq_true b')
        exact wl_some (Or.inr (Or.inr ⟨k, this.1, this.2, rfl, R11, by dsimp only; rw [v11, kv], fr⟩))
def RO (B : Nat → Int) (n : Nat) (po : Nat → Nat) (m : Nat) (r : RS3) (T : mT) (w : Bool × mT) : Prop := (r.1 ≠ 0 ∧ w.1 = false ∧ (w.2.1 0 9).toInt = r.1) ∨ (r.1 = 0 ∧ w.1 = true ∧ r.2.1 ≤ m ∧ RSt B n po r.2.1 r.2.2 w.2 ∧ Fm T w.2)
theorem um_wordHere {c p : Nat} {T : mT} (hS : STR B n K m E po) (hB : BY B n) (hc : c ≤ m) (h : RSt B n po c p T) : wl (fm_wordHere T) (fun w => RQt B n po c p w.2 ∧ Nx T w.2 (po c) ∧ ((0 ≤ w.1.toInt ∧ w.1.toInt < 8 ∧ K.1 c = 300 + w.1.toInt) ∨ (w.1.toInt < 0 ∧ ¬ (300 ≤ K.1 c ∧ K.1 c < 308)))) := by
  unfold fm_wordHere
  have yes : ∀ (v : Int32) (i : Nat) (q : mT), v.toInt = (i : Int) → i < 8 → K.1 c = 300 + (i : Int) → RQt B n po c p q → Nx T q (po c) → wl (some (v, q)) (fun w => RQt B n po c p w.2 ∧ Nx T w.2 (po c) ∧ ((0 ≤ w.1.toInt ∧ w.1.toInt < 8 ∧ K.1 c = 300 + w.1.toInt) ∨ (w.1.toInt < 0 ∧ ¬ (300 ≤ K.1 c ∧ K.1 c < 308)))) := fun v i q e i8 k R x => wl_some ⟨R, x, Or.inl ⟨by dsimp only; omega, by dsimp only; omega, by dsimp only; omega⟩⟩
  refine wl_bind (um_wordK (i := 0) hS hB hc (by decide) (by decide +kernel) h) (fun q1 h1 => ?_)
  refine wl_b (fun b1 => ?_) (fun b => yes 0 0 _ (by decide) (by decide) (h1.2.2.1 b) h1.1 h1.2.1)
  refine wl_bind (um_wordK (i := 1) hS hB hc (by decide) (by decide +kernel) (h1.1.s hS hB hc)) (fun q3 h3 => ?_)
  have x3 := h1.2.1.trans h3.2.1
  refine wl_b (fun b3 => ?_) (fun b => yes 1 1 _ (by decide) (by decide) (h3.2.2.1 b) h3.1 x3)
  refine wl_bind (um_wordK (i := 2) hS hB hc (by decide) (by decide +kernel) (h3.1.s hS hB hc)) (fun q5 h5 => ?_)
  have x5 := x3.trans h5.2.1
  refine wl_b (fun b5 => ?_) (fun b => yes 2 2 _ (by decide) (by decide) (h5.2.2.1 b) h5.1 x5)
  refine wl_bind (um_wordK (i := 3) hS hB hc (by decide) (by decide +kernel) (h5.1.s hS hB hc)) (fun q7 h7 => ?_)
  have x7 := x5.trans h7.2.1
  refine wl_b (fun b7 => ?_) (fun b => yes 3 3 _ (by decide) (by decide) (h7.2.2.1 b) h7.1 x7)
  refine wl_bind (um_wordK (i := 4) hS hB hc (by decide) (by decide +kernel) (h7.1.s hS hB hc)) (fun q9 h9 => ?_)
  have x9 := x7.trans h9.2.1
  refine wl_b (fun b9 => ?_) (fun b => yes 4 4 _ (by decide) (by decide) (h9.2.2.1 b) h9.1 x9)
  refine wl_bind (um_wordK (i := 5) hS hB hc (by decide) (by decide +kernel) (h9.1.s hS hB hc)) (fun q11 h11 => ?_)
  have x11 := x9.trans h11.2.1
  refine wl_b (fun b11 => ?_) (fun b => yes 5 5 _ (by decide) (by decide) (h11.2.2.1 b) h11.1 x11)
  refine wl_bind (um_wordK (i := 6) hS hB hc (by decide) (by decide +kernel) (h11.1.s hS hB hc)) (fun q13 h13 => ?_)
  have x13 := x11.trans h13.2.1
  refine wl_b (fun b13 => ?_) (fun b => yes 6 6 _ (by decide) (by decide) (h13.2.2.1 b) h13.1 x13)
  refine wl_bind (um_wordK (i := 7) hS hB hc (by decide) (by decide +kernel) (h13.1.s hS hB hc)) (fun q15 h15 => ?_)
  have x15 := x13.trans h15.2.1
  refine wl_b (fun b15 => ?_) (fun b => yes 7 7 _ (by decide) (by decide) (h15.2.2.1 b) h15.1 x15)
  have n0 := h1.2.2.2 b1
  have n1 := h3.2.2.2 b3
  have n2 := h5.2.2.2 b5
  have n3 := h7.2.2.2 b7
  have n4 := h9.2.2.2 b9
  have n5 := h11.2.2.2 b11
  have n6 := h13.2.2.2 b13
  have n7 := h15.2.2.2 b15
  exact wl_some ⟨h15.1, x15, Or.inr ⟨by dsimp only; decide, by omega⟩⟩
theorem um_value {c p : Nat} {T : mT} (hS : STR B n K m E po) (hB : BY B n) (hc : c ≤ m) (h : RSt B n po c p T) : wl (fm_value T) (fun w => RO B n po m (VALf K c p) T w) := by
  unfold fm_value
  have l_0 : (0 : Int32).toInt = 0 := by decide
  have l_m1 : ((-1) : Int32).toInt = -1 := by decide
  have l_9 : (99999 : Int32).toInt = 99999 := by decide
  have hp := h.2.2.2.2
  refine wl_bind (um_seeK hS hB hc h) (fun q1 h1 => ?_)
  obtain ⟨R1, x1, _⟩ := h1
  have R18 := R1.2.1
  refine wl_bind (um_isDigit (k := po c) hB R1.1 R18) (fun q2 h2 => ?_)
  refine wl_b (fun b => ?_) (fun b => ?_)
  · have kd : K.1 c ≠ 258 := fun z => h2.2 b ((hS.dig hB hc).mpr z)
    refine wl_bind (um_wordHere hS hB hc (R1.s hS hB hc)) (fun q4 h4 => ?_)
    obtain ⟨R4, x4, w4⟩ := h4
    rcases w4 with ⟨a1, a2, kw⟩ | ⟨a1, nw⟩
    · refine wl_le (fun _ => ?_) (fun z => by exfalso; omega)
      have cm := hS.lt hc (by omega)
      obtain ⟨i, hi⟩ : ∃ i : Nat, q4.1.toInt = (i : Int) := ⟨q4.1.toInt.toNat, by omega⟩
      refine wl_bind (um_makes hS hB hc R4.2.2.1 R4.2.2.2.1 hp R18) (fun q6 h6 => ?_)
      rcases h6 with ⟨p6, f6, w6, nz⟩ | ⟨p6, t6, e12, x6⟩
      · refine wl_b (fun _ => wl_some (Or.inl ?_)) (fun b' => by rw [f6] at b'; cases b')
        have v : VALf K c p = bdc K c 3 := by unfold VALf; rw [if_neg kd, if_pos (by omega), if_pos p6]
        rw [v]
        exact ⟨nz, rfl, w6⟩
      · refine wl_b (fun b' => by rw [t6] at b'; cases b') (fun _ => ?_)
        have v : VALf K c p = (0, c + 1, p + 1) := by unfold VALf; rw [if_neg kd, if_pos (by omega), if_neg (by omega)]
        have S6 := (R4.s hS hB hc).part p6 e12 x6
        have R6 : RQt B n po c (p + 1) q6.2 := ⟨S6.1, by rw [x6 0 8 (by decide)]; exact R4.2.1, S6.2.2⟩
        refine wl_bind (um_passK (i := i) hS hB hc (by omega) (by omega) R6) (fun q8 h8 => ?_)
        refine wl_bind um_puts (fun q9 h9 => wl_some (Or.inr ?_))
        rw [v]
        refine ⟨rfl, rfl, by show c + 1 ≤ m; omega, h8.1.fr (fun r j hj => h9 r j (by omega) (by omega)), ?_⟩
        intro r j a2' a3' a0
        dsimp only
        rw [h9 r j a2' a3', h8.2.2 r j (by omega), x6 r j (by omega), x4.2 r j (by omega), x1.2 r j (by omega)]
    · refine wl_le (fun z => by exfalso; omega) (fun _ => ?_)
      refine wl_bind (um_failK hS hB hc R4.2.2.1 R18 l_0 (by decide) (by decide)) (fun q10 h10 => wl_some (Or.inl ?_))
      have v : VALf K c p = bdc K c 0 := by unfold VALf; rw [if_neg kd, if_neg nw]
      rw [v]
      exact ⟨h10.2.2, h10.1, h10.2.1⟩
  · have kd := (hS.dig hB hc).mp (h2.1 b)
    have cm := hS.lt hc (by omega)
    have vb : -1 ≤ K.2.1 c ∧ K.2.1 c ≤ 99999 := by
      have t := hS.tk cm
      rcases t.2.2 with ⟨d, r, _, v⟩ | ⟨d, r', k', _⟩ | ⟨d, _, _, _⟩
      · by_cases y : 5 < E (c + 1) - po c
        · rw [if_pos y] at v; omega
        · rw [if_neg y] at v
          have rr := r.1
          have bd := dv_bd (B := B) (q := po c) (E (c + 1) - po c) (fun j hj => r.2.1 (po c + j) (by omega) (by omega))
          have m5 := min5 (E (c + 1) - po c)
          rw [show min (E (c + 1) - po c) 5 = E (c + 1) - po c by omega] at m5
          omega
      · have := h2.1 b
        exfalso; omega
      · exact absurd (h2.1 b) d
    refine wl_bind (um_num (lo := 0) (hi := 99999) hS hB hc (R1.s hS hB hc) (by decide)) (fun q11 h11 => ?_)
    rcases h11 with ⟨y, _⟩ | ⟨_, y, f, w, nz⟩ | ⟨_, y1, y2, t, R11, v10, x11⟩
    · exact absurd kd y
    · refine wl_b (fun _ => wl_some (Or.inl ?_)) (fun b' => by rw [f] at b'; cases b')
      have v : VALf K c p = bdc K c 1 := by unfold VALf; rw [if_pos kd, if_pos (by omega)]
      rw [v]
      exact ⟨nz, rfl, w⟩
    · refine wl_b (fun b' => by rw [t] at b'; cases b') (fun _ => ?_)
      refine wl_bind (um_makes (p := p) hS hB hc R11.2.2.1 R11.2.2.2.1 hp R18) (fun q13 h13 => ?_)
      rcases h13 with ⟨p6, f6, w6, nz⟩ | ⟨p6, t6, e12, x6⟩
      · refine wl_b (fun _ => wl_some (Or.inl ?_)) (fun b' => by rw [f6] at b'; cases b')
        have v : VALf K c p = bdc K c 3 := by unfold VALf; rw [if_pos kd, if_neg (by omega), if_pos p6]
        rw [v]
        exact ⟨nz, rfl, w6⟩
      · refine wl_b (fun b' => by rw [t6] at b'; cases b') (fun _ => ?_)
        have v : VALf K c p = (0, c + 1, p + 1) := by unfold VALf; rw [if_pos kd, if_neg (by omega), if_neg (by omega)]
        refine wl_bind um_puts (fun q9 h9 => wl_some (Or.inr ?_))
        rw [v]
        refine ⟨rfl, rfl, by show c + 1 ≤ m; omega, (R11.part p6 e12 x6).fr (fun r j hj => h9 r j (by omega) (by omega)), ?_⟩
        intro r j a2' a3' a0
        dsimp only
        rw [h9 r j a2' a3', x6 r j (by omega), x11 r j (by omega), x1.2 r j (by omega)]
theorem OPS_sum {c p : Nat} {r : RS3} (h : isOp (K.1 c)) (s : SUM K (c + 1) p r) : OPS K c p r := by
  rcases s with ⟨a, rfl⟩ | ⟨a, o⟩
  · exact OPS_bad h a
  · exact OPS_go h a o
theorem um_term_L9 (hS : STR B n K m E po) (hB : BY B n) : ∀ (N : Nat) (T : mT) (c p : Nat), c ≤ m → RSt B n po c p T → wl (fm_term_L9 N T) (fun w => Sum.elim (fun a => ∃ c' p', c' ≤ m ∧ RSt B n po c' p' a ∧ Fm T a ∧ K.1 c' ≠ 42 ∧ K.1 c' ≠ 47 ∧ K.1 c' ≠ 37 ∧ ∀ r, OPS K c' p' r → OPS K c p r) (fun x => x.1 = false ∧ ∃ r, r.1 ≠ 0 ∧ (x.2.1 0 9).toInt = r.1 ∧ OPS K c p r) w) := by
  have l_42 : (42 : Int32).toInt = 42 := by decide
  have l_47 : (47 : Int32).toInt = 47 := by decide
  have l_37 : (37 : Int32).toInt = 37 := by decide
  intro N
  induction N with
  | zero => intro T c p _ _; exact wl_none
  | succ N ih =>
    intro T c p hc h
    rw [fm_term_L9]
    have go : ∀ (q : mT) (s : Int), (s = 42 ∨ s = 47 ∨ s = 37) → K.1 c = s → RQt B n po c p q → Fm T q → wl (bif inb (q.1 0 8) 400 then (letv (q.1 1 ((q.1 0 8) : Int32).toNatClampNeg) fun v5 => Option.bind (if v5 = 42 then (some (4)) else (bif inb (q.1 0 8) 400 then (letv (q.1 1 ((q.1 0 8) : Int32).toNatClampNeg) fun v8 => if v8 = 47 then (some (5)) else (some (14))) else none) : Option (Int32)) fun w6 => letv (mz q 8 ((q.1 0 8) + 1)) fun T10 => (fm_value T10).bind fun q11 => if (b2i q11.1) = 0 then (some (.inr (false, q11.2))) else ((fm_puts w6 0 q11.2).bind fun q13 => fm_term_L9  N  q13)) else none) (fun w => Sum.elim (fun a => ∃ c' p', c' ≤ m ∧ RSt B n po c' p' a ∧ Fm T a ∧ K.1 c' ≠ 42 ∧ K.1 c' ≠ 47 ∧ K.1 c' ≠ 37 ∧ ∀ r, OPS K c' p' r → OPS K c p r) (fun x => x.1 = false ∧ ∃ r, r.1 ≠ 0 ∧ (x.2.1 0 9).toInt = r.1 ∧ OPS K c p r) w) := by
      intro q s hs k R f
      have op : isOp (K.1 c) := by omega
      have cm := hS.lt hc (by omega)
      refine wl_bif (wl_letv (fun v5 _ => ?_))
      refine wl_bind wl_any (fun w6 _ => ?_)
      refine wl_letv (fun T10 e10 => ?_)
      have z := um_onK hS hB hc (s := s) (by omega) k R
      rw [← e10] at z
      refine wl_bind (um_value hS hB (by omega) z.1) (fun q11 h11 => ?_)
      rcases h11 with ⟨a, fl, w⟩ | ⟨a, tr, cm', R11, f11⟩
      · exact wl_b (fun _ => wl_some ⟨rfl, _, a, w, OPS_bad op a⟩) (fun b' => by rw [fl] at b'; cases b')
      · refine wl_b (fun b' => by rw [tr] at b'; cases b') (fun _ => ?_)
        refine wl_bind um_puts (fun q13 h13 => ?_)
        have f13 : Fm T q13 := fun r j a2 a3 a0 => by rw [h13 r j a2 a3, f11 r j a2 a3 a0, z.2.2 r j (by omega)]; exact f r j a2 a3 a0
        refine wl_mono (ih q13 _ _ cm' (R11.fr (fun r j hj => h13 r j (by omega) (by omega)))) (fun w hw => ?_)
        cases w with
        | inl x =>
          obtain ⟨c', p', y1, y2, y3, y4, y5, y6, y7⟩ := hw
          exact ⟨c', p', y1, y2, f13.trans y3, y4, y5, y6, fun r o => OPS_go op a (y7 r o)⟩
        | inr x =>
          obtain ⟨y1, r, y2, y3, y4⟩ := hw
          exact ⟨y1, r, y2, y3, OPS_go op a y4⟩
    refine wl_bind (um_seeK hS hB hc h) (fun q3 h3 => ?_)
    obtain ⟨R3, x3, s3, _⟩ := h3
    refine wl_eq (fun y => go q3.2 42 (by decide) ((s3 42 (by decide)).mp (by omega)) R3 (Fm.nx x3)) (fun y1 => ?_)
    refine wl_bind (um_seeK hS hB hc (R3.s hS hB hc)) (fun q14 h14 => ?_)
    obtain ⟨R14, x14, s14, _⟩ := h14
    refine wl_eq (fun y => go q14.2 47 (by decide) ((s14 47 (by decide)).mp (by omega)) R14 (Fm.nx (x3.trans x14))) (fun y2 => ?_)
    refine wl_bind (um_seeK hS hB hc (R14.s hS hB hc)) (fun q25 h25 => ?_)
    obtain ⟨R25, x25, s25, _⟩ := h25
    refine wl_eq (fun y => go q25.2 37 (by decide) ((s25 37 (by decide)).mp (by omega)) R25 (Fm.nx ((x3.trans x14).trans x25))) (fun y3 => ?_)
    refine wl_some ⟨c, p, hc, R25.s hS hB hc, Fm.nx ((x3.trans x14).trans x25), fun k => ?_, fun k => ?_, fun k => ?_, fun r o => o⟩
    · exact y1 (by rw [(s3 42 (by decide)).mpr k]; exact l_42.symm)
    · exact y2 (by rw [(s14 47 (by decide)).mpr k]; exact l_47.symm)
    · exact y3 (by rw [(s25 37 (by decide)).mpr k]; exact l_37.symm)
theorem um_term {c p : Nat} {T : mT} (hS : STR B n K m E po) (hB : BY B n) (hc : c ≤ m) (h : RSt B n po c p T) : wl (fm_term T) (fun w => (w.1 = false ∧ ∃ r, r.1 ≠ 0 ∧ (w.2.1 0 9).toInt = r.1 ∧ SUM K c p r) ∨ (w.1 = true ∧ ∃ c' p', c' ≤ m ∧ RSt B n po c' p' w.2 ∧ Fm T w.2 ∧ K.1 c' ≠ 42 ∧ K.1 c' ≠ 47 ∧ K.1 c' ≠ 37 ∧ ∀ r, OPS K c' p' r → SUM K c p r)) := by
  unfold fm_term
  refine wl_bind (um_value hS hB hc h) (fun q1 h1 => ?_)
  rcases h1 with ⟨a, fl, w⟩ | ⟨a, tr, cm', R1, f1⟩
  · exact wl_b (fun _ => wl_some (Or.inl ⟨rfl, _, a, w, Or.inl ⟨a, rfl⟩⟩)) (fun b' => by rw [fl] at b'; cases b')
  · refine wl_b (fun b' => by rw [tr] at b'; cases b') (fun _ => ?_)
    refine wl_bind (um_term_L9 hS hB FU q1.2 _ _ cm' R1) (fun w hw => ?_)
    cases w with
    | inl x =>
      obtain ⟨c', p', y1, y2, y3, y4, y5, y6, y7⟩ := hw
      exact wl_some (Or.inr ⟨rfl, c', p', y1, y2, f1.trans y3, y4, y5, y6, fun r o => Or.inr ⟨a, y7 r o⟩⟩)
    | inr x =>
      obtain ⟨y1, r, y2, y3, y4⟩ := hw
      exact wl_some (Or.inl ⟨y1, r, y2, y3, Or.inr ⟨a, y4⟩⟩)
theorem um_summed_L9 (hS : STR B n K m E po) (hB : BY B n) : ∀ (N : Nat) (T : mT) (c p : Nat), c ≤ m → RSt B n po c p T → K.1 c ≠ 42 → K.1 c ≠ 47 → K.1 c ≠ 37 → wl (fm_summed_L9 N T) (fun w => Sum.elim (fun a => ∃ c' p', c' ≤ m ∧ RSt B n po c' p' a ∧ Fm T a ∧ OPS K c p (0, c', p')) (fun x => x.1 = false ∧ ∃ r, r.1 ≠ 0 ∧ (x.2.1 0 9).toInt = r.1 ∧ OPS K c p r) w) := by
  have l_43 : (43 : Int32).toInt = 43 := by decide
  have l_45 : (45 : Int32).toInt = 45 := by decide
  intro N
  induction N with
  | zero => intro T c p _ _ _ _ _; exact wl_none
  | succ N ih =>
    intro T c p hc h k1 k2 k3
    rw [fm_summed_L9]
    have go : ∀ (q : mT) (s : Int), (s = 43 ∨ s = 45) → K.1 c = s → RQt B n po c p q → Fm T q → wl (bif inb (q.1 0 8) 400 then (letv (q.1 1 ((q.1 0 8) : Int32).toNatClampNeg) fun v5 => Option.bind (if v5 = 43 then (some (2)) else (some (3)) : Option (Int32)) fun w6 => letv (mz q 8 ((q.1 0 8) + 1)) fun T8 => (fm_term T8).bind fun q9 => if (b2i q9.1) = 0 then (some (.inr (false, q9.2))) else ((fm_puts w6 0 q9.2).bind fun q11 => fm_summed_L9  N  q11)) else none) (fun w => Sum.elim (fun a => ∃ c' p', c' ≤ m ∧ RSt B n po c' p' a ∧ Fm T a ∧ OPS K c p (0, c', p')) (fun x => x.1 = false ∧ ∃ r, r.1 ≠ 0 ∧ (x.2.1 0 9).toInt = r.1 ∧ OPS K c p r) w) := by
      intro q s hs k R f
      have op : isOp (K.1 c) := by omega
      have cm := hS.lt hc (by omega)
      refine wl_bif (wl_letv (fun v5 _ => ?_))
      refine wl_bind wl_any (fun w6 _ => ?_)
      refine wl_letv (fun T10 e10 => ?_)
      have z := um_onK hS hB hc (s := s) (by omega) k R
      rw [← e10] at z
      refine wl_bind (um_term hS hB (by omega) z.1) (fun q11 h11 => ?_)
      rcases h11 with ⟨fl, r, a, w, sm⟩ | ⟨tr, c', p', cm', R11, f11, y1, y2, y3, y4⟩
      · exact wl_b (fun _ => wl_some ⟨rfl, r, a, w, OPS_sum op sm⟩) (fun b' => by rw [fl] at b'; cases b')
      · refine wl_b (fun b' => by rw [tr] at b'; cases b') (fun _ => ?_)
        refine wl_bind um_puts (fun q13 h13 => ?_)
        have f13 : Fm T q13 := fun r j a2 a3 a0 => by rw [h13 r j a2 a3, f11 r j a2 a3 a0, z.2.2 r j (by omega)]; exact f r j a2 a3 a0
        refine wl_mono (ih q13 c' p' cm' (R11.fr (fun r j hj => h13 r j (by omega) (by omega))) y1 y2 y3) (fun w hw => ?_)
        cases w with
        | inl x =>
          obtain ⟨c2, p2, z1, z2, z3, z4⟩ := hw
          exact ⟨c2, p2, z1, z2, f13.trans z3, OPS_sum op (y4 _ z4)⟩
        | inr x =>
          obtain ⟨z1, r, z2, z3, z4⟩ := hw
          exact ⟨z1, r, z2, z3, OPS_sum op (y4 _ z4)⟩
    refine wl_bind (um_seeK hS hB hc h) (fun q3 h3 => ?_)
    obtain ⟨R3, x3, s3, _⟩ := h3
    refine wl_eq (fun y => go q3.2 43 (by decide) ((s3 43 (by decide)).mp (by omega)) R3 (Fm.nx x3)) (fun y1 => ?_)
    refine wl_bind (um_seeK hS hB hc (R3.s hS hB hc)) (fun q14 h14 => ?_)
    obtain ⟨R14, x14, s14, _⟩ := h14
    refine wl_eq (fun y => go q14.2 45 (by decide) ((s14 45 (by decide)).mp (by omega)) R14 (Fm.nx (x3.trans x14))) (fun y2 => ?_)
    refine wl_some ⟨c, p, hc, R14.s hS hB hc, Fm.nx (x3.trans x14), OPS_stop (fun op => ?_)⟩
    have n1 : K.1 c ≠ 43 := fun k => y1 (by rw [(s3 43 (by decide)).mpr k]; exact l_43.symm)
    have n2 : K.1 c ≠ 45 := fun k => y2 (by rw [(s14 45 (by decide)).mpr k]; exact l_45.symm)
    omega
theorem um_summed {c p : Nat} {T : mT} (hS : STR B n K m E po) (hB : BY B n) (hc : c ≤ m) (h : RSt B n po c p T) : wl (fm_summed T) (fun w => ∃ r, SUM K c p r ∧ RO B n po m r T w) := by
  unfold fm_summed
  refine wl_bind (um_term hS hB hc h) (fun q1 h1 => ?_)
  rcases h1 with ⟨fl, r, a, w, sm⟩ | ⟨tr, c', p', cm', R1, f1, y1, y2, y3, y4⟩
  · exact wl_b (fun _ => wl_some ⟨r, sm, Or.inl ⟨a, rfl, w⟩⟩) (fun b' => by rw [fl] at b'; cases b')
  · refine wl_b (fun b' => by rw [tr] at b'; cases b') (fun _ => ?_)
    refine wl_bind (um_summed_L9 hS hB FU q1.2 c' p' cm' R1 y1 y2 y3) (fun w hw => ?_)
    cases w with
    | inl x =>
      obtain ⟨c2, p2, z1, z2, z3, z4⟩ := hw
      exact wl_some ⟨(0, c2, p2), y4 _ z4, Or.inr ⟨rfl, rfl, z1, z2, f1.trans z3⟩⟩
    | inr x =>
      obtain ⟨z1, r, z2, z3, z4⟩ := hw
      exact wl_some ⟨r, y4 _ z4, Or.inl ⟨z2, z1, z3⟩⟩
theorem um_compare {c p : Nat} {T : mT} (hS : STR B n K m E po) (hB : BY B n) (hc : c ≤ m) (h : RSt B n po c p T) : wl (fm_compare T) (fun w => ∃ r, CMP K c p r ∧ RO B n po m r T w) := by
  unfold fm_compare
  have l_0 : (0 : Int32).toInt = 0 := by decide
  have l_1 : (1 : Int32).toInt = 1 := by decide
  have l_60 : (60 : Int32).toInt = 60 := by decide
  have l_61 : (61 : Int32).toInt = 61 := by decide
  have l_62 : (62 : Int32).toInt = 62 := by decide
  have hn := hB.1
  refine wl_bind (um_summed hS hB hc h) (fun q1 h1 => ?_)
  obtain ⟨s, sm, ro⟩ := h1
  rcases ro with ⟨a, fl, w⟩ | ⟨a, tr, cm1, R1, f1⟩
  · exact wl_b (fun _ => wl_some ⟨s, ⟨s, sm, Or.inl ⟨a, rfl⟩⟩, Or.inl ⟨a, rfl, w⟩⟩) (fun b' => by rw [fl] at b'; cases b')
  refine wl_b (fun b' => by rw [tr] at b'; cases b') (fun _ => ?_)
  refine wl_bind (um_seeK hS hB cm1 R1) (fun q3 h3 => ?_)
  obtain ⟨R3, x3, s3, cmi, cmv, _⟩ := h3
  have R38 := R3.2.1
  have le := hS.le hB cm1
  have f3 : Fm T q3.2 := f1.trans (Fm.nx x3)
  have go : isCm (K.1 s.2.1) → wl (letv (mz q3.2 8 ((q3.2.1 0 8) + 1)) fun T5 => Option.bind (if q3.1 = 61 then (some (0)) else (if (T5.1 0 1) ≤ (T5.1 0 8) then (some (0)) else (bif inb (T5.1 0 8) 400 then (letv (T5.1 1 ((T5.1 0 8) : Int32).toNatClampNeg) fun v9 => if v9 = 61 then (some (1)) else (some (0))) else none)) : Option (Int32)) fun w6 => Option.bind (if w6 = 0 then (some (T5)) else (letv (mz T5 8 ((T5.1 0 8) + 1)) fun T13 => some (T13)) : Option (mT)) fun w11 => (fm_makes (q3.2.1 0 8) w11).bind fun q14 => if (b2i q14.1) = 0 then (some (false, q14.2)) else (Option.bind (if q3.1 = 60 then (if w6 = 0 then (some (0)) else (some (1))) else (if q3.1 = 61 then (some (2)) else (if w6 = 0 then (some (4)) else (some (3)))) : Option (Int32)) fun w16 => (fm_summed q14.2).bind fun q21 => if (b2i q21.1) = 0 then (some (false, q21.2)) else ((fm_puts (6 + w16) 0 q21.2).bind fun q23 => some (true, q23)))) (fun w => ∃ r, CMP K c p r ∧ RO B n po m r T w) := by
    intro cmk
    have cm := hS.lt cm1 (by omega)
    have vb := cmv cmk
    have bq := (hS.cm hB cm1).mp cmk
    have ce := hS.cend cm bq
    have u := tA (a := q3.2.1 0 8) (b := 1) (by omega) (by omega)
    refine wl_letv (fun T5 e5 => ?_)
    have x5 : Nx q3.2 T5 (po s.2.1 + 1) := by rw [e5]; exact Nx.z (by omega)
    have rt5 := x5.rt R3.1
    have x58 := x5.1
    refine wl_bind (R := fun w6 : Int32 => (w6 = 1 ∧ B (po s.2.1) ≠ 61 ∧ B (po s.2.1 + 1) = 61) ∨ (w6 = 0 ∧ ¬ (B (po s.2.1) ≠ 61 ∧ B (po s.2.1 + 1) = 61))) ?_ (fun w6 h6 => ?_)
    · refine wl_eq (fun z => wl_some (Or.inr ⟨rfl, fun y => y.1 (by omega)⟩)) (fun z => ?_)
      have n5 := rt5.1
      refine wl_le (fun y => wl_some (Or.inr ⟨rfl, fun x => ?_⟩)) (fun y => ?_)
      · have := x.2
        rw [hB.2.2 _ (by omega)] at this
        omega
      · have kb := rt5.2 (po s.2.1 + 1) (by omega)
        refine wl_bif (wl_letv (fun v9 e9 => ?_))
        rw [cl_idx x58] at e9
        rw [← e9] at kb
        exact wl_eq (fun x => wl_some (Or.inl ⟨rfl, by omega, by omega⟩)) (fun x => wl_some (Or.inr ⟨rfl, by omega⟩))
    refine wl_bind (R := fun w11 => Nx q3.2 w11 (E (s.2.1 + 1))) ?_ (fun w11 x11 => ?_)
    · have u5 := tA (a := T5.1 0 8) (b := 1) (by omega) (by omega)
      rcases h6 with ⟨rfl, y1, y2⟩ | ⟨rfl, y⟩
      · refine wl_if (fun z => absurd z (by decide)) (fun _ => wl_letv (fun T13 e13 => wl_some ?_))
        have ee : E (s.2.1 + 1) = po s.2.1 + 2 := by
          rcases ce with ⟨_, _, z⟩ | ⟨z, _⟩
          · exact z
          · exact absurd ⟨y1, y2⟩ z
        rw [e13, ee]
        exact x5.trans (Nx.z (by omega))
      · refine wl_if (fun _ => wl_some ?_) (fun z => absurd rfl z)
        have ee : E (s.2.1 + 1) = po s.2.1 + 1 := by
          rcases ce with ⟨z1, z2, _⟩ | ⟨_, z⟩
          · exact absurd ⟨z1, z2⟩ y
          · exact z
        rw [ee]
        exact x5
    have R11 := R3.go hS hB cm x11
    refine wl_bind (um_makes hS hB cm1 R11.2.2.1 R11.2.2.2.1 R11.2.2.2.2 R38) (fun q14 h14 => ?_)
    rcases h14 with ⟨p6, f6, w6', nz⟩ | ⟨p6, t6, e12, x6⟩
    · exact wl_b (fun _ => wl_some ⟨bdc K s.2.1 3, ⟨s, sm, Or.inr ⟨a, Or.inr ⟨cmk, Or.inl ⟨p6, rfl⟩⟩⟩⟩, Or.inl ⟨nz, rfl, w6'⟩⟩) (fun b' => by rw [f6] at b'; cases b')
    · refine wl_b (fun b' => by rw [t6] at b'; cases b') (fun _ => ?_)
      refine wl_bind wl_any (fun w16 _ => ?_)
      have f14 : Fm T q14.2 := fun r j a2 a3 a0 => by rw [x6 r j (by omega), x11.2 r j (by omega)]; exact f3 r j a2 a3 a0
      refine wl_bind (um_summed hS hB (by omega) (R11.part p6 e12 x6)) (fun q21 h21 => ?_)
      obtain ⟨r, sm2, ro⟩ := h21
      have cp : CMP K c p r := ⟨s, sm, Or.inr ⟨a, Or.inr ⟨cmk, Or.inr ⟨p6, sm2⟩⟩⟩⟩
      rcases ro with ⟨a2, fl, w⟩ | ⟨a2, tr2, cm2, R21, f21⟩
      · exact wl_b (fun _ => wl_some ⟨r, cp, Or.inl ⟨a2, rfl, w⟩⟩) (fun b' => by rw [fl] at b'; cases b')
      · refine wl_b (fun b' => by rw [tr2] at b'; cases b') (fun _ => ?_)
        refine wl_bind um_puts (fun q23 h23 => wl_some ⟨r, cp, Or.inr ⟨a2, rfl, cm2, R21.fr (fun r j hj => h23 r j (by omega) (by omega)), fun r j b2 b3 b0 => ?_⟩⟩)
        dsimp only
        rw [h23 r j b2 b3, f21 r j b2 b3 b0]
        exact f14 r j b2 b3 b0
  refine wl_eq (fun y => go (cmi.mpr (by omega))) (fun y1 => ?_)
  refine wl_eq (fun y => go (cmi.mpr (by omega))) (fun y2 => ?_)
  refine wl_eq (fun y => go (cmi.mpr (by omega))) (fun y3 => ?_)
  have nc : ¬ isCm (K.1 s.2.1) := fun z => by have := cmi.mp z; omega
  exact wl_bind (um_failK hS hB cm1 R3.2.2.1 R38 l_0 (by decide) (by decide)) (fun q hq => wl_some ⟨bdc K s.2.1 0, ⟨s, sm, Or.inr ⟨a, Or.inl ⟨nc, rfl⟩⟩⟩, Or.inl ⟨hq.2.2, hq.1, hq.2.1⟩⟩)
end RRD
